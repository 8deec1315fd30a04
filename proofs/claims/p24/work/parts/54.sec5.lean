/-! memory filled from end to end -/
def dl5z : List (Nat × Nat × Nat) := (1, 3, 1) :: dl5
def dl6 : List (Nat × Nat × Nat) := [(1, 4, 1), (76, 15, 1), (17, 1, 41), (18, 0, 729), (18, 1, 417), (18, 2, 393), (18, 3, 385), (18, 4, 745)]
/-- bytes: none known; one alone -/
def pe_mz (c : Nat) : Bool := (List.range 96).all (fun j => Nat.beq (pe_cl c 4 j) 0)
noncomputable def pe_m1 (k v c : Nat) : Bool := (List.range 96).all (fun j => Nat.beq (pe_cl c 4 j) (pe_if (Nat.beq j k) v 0))
theorem pe_mz_of {c j : Nat} {S : rn_T} (h : pe_mz c = true) (hj : j < 96) : rA (pe_TT c S) 4 j = rA S 4 j := by
  rw [pe_rA_TT, if_neg (fun g => g (pe_beq (List.all_eq_true.mp h j (List.mem_range.mpr hj))))]
theorem pe_m1_of {c k r j : Nat} {S : rn_T} (h : pe_m1 k (8 * r + 1) c = true) (hj : j < 96) : rA (pe_TT c S) 4 j = if j = k then nI r else rA S 4 j := by
  have h1 := pe_beq (List.all_eq_true.mp h j (List.mem_range.mpr hj))
  rw [pe_if_eq] at h1
  rw [pe_rA_TT]
  by_cases e : j = k
  · rw [if_pos (show Nat.beq j k = true by rw [e]; exact Nat.beq_refl k)] at h1
    rw [if_pos e, if_pos (by omega), h1, pe_dI_eq, show (8 * r + 1) / 8 = r by omega]; rfl
  · rw [if_neg (fun g => e (pe_beq g))] at h1
    rw [if_neg e, if_neg (fun g => g h1)]
/-- what is known besides -/
def s5_F (X : rn_X) (k : Nat) (S : rn_T) : Prop := ∀ j, j < k → rA S 4 j = nI (clN X (j + 10) 3)
noncomputable def s5_w : pe_W := pe_me 320 19 [3, 41, 34359738361] (pe_pt dl5)
noncomputable def s5_k (d : Nat) (b : Bool) (c : Nat) : Bool := pe_cd d c && pe_cnb true c && pe_lsb b c

theorem s5_x : pe_tm 320 pe_w0 [1410] 1 0 719 (pe_lp (ll5 96)) [] (pe_pt dl5) 769 (ll5 0) [] (fun c => s5_k (pe_pt dl5) true c && pe_mz c) = true := by decide +kernel
theorem s5_c_0 : ∀ k, k < 96 → pe_tm 320 pe_w0 [1330] 1 0 719 (pe_lp (ll5 (0 + k))) [] (pe_pt dl5) 727 (ll5 (0 + k)) [25, 8 * ((0 + k) + 10) + 1, 8000003] (fun c => s5_k (pe_pt dl5) true c && pe_mz c) = true := by decide +kernel
theorem s5_c : ∀ k, k < 96 → pe_tm 320 pe_w0 [1330] 1 0 719 (pe_lp (ll5 k)) [] (pe_pt dl5) 727 (ll5 k) [25, 8 * (k + 10) + 1, 8000003] (fun c => s5_k (pe_pt dl5) true c && pe_mz c) = true := by
  intro k hk
  have := s5_c_0 (k - 0) (by omega)
  rw [show 0 + (k - 0) = k by omega] at this
  exact this
theorem s5_d_0 : ∀ k, k < 32 → (List.range 3).all (fun r => (List.range 3).all (fun v => pe_tm 320 pe_w0 [1340] 2 0 728 (pe_lp (ll5 (0 + k))) [8 * r + 1] (pe_cs (pe_pt dl5) (pe_bs 1 + 3) (8 * v + 1)) 732 ((11, 8 * r + 1) :: ll5 (0 + k)) [] (fun c => s5_k (pe_pt dl5z) true c && pe_mz c))) = true := by decide +kernel
theorem s5_d_32 : ∀ k, k < 32 → (List.range 3).all (fun r => (List.range 3).all (fun v => pe_tm 320 pe_w0 [1340] 2 0 728 (pe_lp (ll5 (32 + k))) [8 * r + 1] (pe_cs (pe_pt dl5) (pe_bs 1 + 3) (8 * v + 1)) 732 ((11, 8 * r + 1) :: ll5 (32 + k)) [] (fun c => s5_k (pe_pt dl5z) true c && pe_mz c))) = true := by decide +kernel
theorem s5_d_64 : ∀ k, k < 32 → (List.range 3).all (fun r => (List.range 3).all (fun v => pe_tm 320 pe_w0 [1340] 2 0 728 (pe_lp (ll5 (64 + k))) [8 * r + 1] (pe_cs (pe_pt dl5) (pe_bs 1 + 3) (8 * v + 1)) 732 ((11, 8 * r + 1) :: ll5 (64 + k)) [] (fun c => s5_k (pe_pt dl5z) true c && pe_mz c))) = true := by decide +kernel
theorem s5_d : ∀ k, k < 96 → (List.range 3).all (fun r => (List.range 3).all (fun v => pe_tm 320 pe_w0 [1340] 2 0 728 (pe_lp (ll5 k)) [8 * r + 1] (pe_cs (pe_pt dl5) (pe_bs 1 + 3) (8 * v + 1)) 732 ((11, 8 * r + 1) :: ll5 k) [] (fun c => s5_k (pe_pt dl5z) true c && pe_mz c))) = true := by
  intro k hk
  by_cases g0 : k < 32
  · have := s5_d_0 (k - 0) (by omega)
    rw [show 0 + (k - 0) = k by omega] at this
    exact this
  by_cases g32 : k < 64
  · have := s5_d_32 (k - 32) (by omega)
    rw [show 32 + (k - 32) = k by omega] at this
    exact this
  have := s5_d_64 (k - 64) (by omega)
  rw [show 64 + (k - 64) = k by omega] at this
  exact this
theorem s5_r_0 : ∀ k, k < 16 → (List.range 3).all (fun r => pe_tm 320 s5_w [1316] 6 0 732 (pe_lp ((11, 8 * r + 1) :: ll5 (0 + k))) [] (pe_pt dl5z) 719 (ll5 ((0 + k) + 1)) [] (fun c => s5_k (pe_pt dl5) false c && pe_m1 (0 + k) (8 * r + 1) c)) = true := by decide +kernel
theorem s5_r_16 : ∀ k, k < 16 → (List.range 3).all (fun r => pe_tm 320 s5_w [1316] 6 0 732 (pe_lp ((11, 8 * r + 1) :: ll5 (16 + k))) [] (pe_pt dl5z) 719 (ll5 ((16 + k) + 1)) [] (fun c => s5_k (pe_pt dl5) false c && pe_m1 (16 + k) (8 * r + 1) c)) = true := by decide +kernel
theorem s5_r_32 : ∀ k, k < 16 → (List.range 3).all (fun r => pe_tm 320 s5_w [1316] 6 0 732 (pe_lp ((11, 8 * r + 1) :: ll5 (32 + k))) [] (pe_pt dl5z) 719 (ll5 ((32 + k) + 1)) [] (fun c => s5_k (pe_pt dl5) false c && pe_m1 (32 + k) (8 * r + 1) c)) = true := by decide +kernel
theorem s5_r_48 : ∀ k, k < 16 → (List.range 3).all (fun r => pe_tm 320 s5_w [1316] 6 0 732 (pe_lp ((11, 8 * r + 1) :: ll5 (48 + k))) [] (pe_pt dl5z) 719 (ll5 ((48 + k) + 1)) [] (fun c => s5_k (pe_pt dl5) false c && pe_m1 (48 + k) (8 * r + 1) c)) = true := by decide +kernel
theorem s5_r_64 : ∀ k, k < 16 → (List.range 3).all (fun r => pe_tm 320 s5_w [1316] 6 0 732 (pe_lp ((11, 8 * r + 1) :: ll5 (64 + k))) [] (pe_pt dl5z) 719 (ll5 ((64 + k) + 1)) [] (fun c => s5_k (pe_pt dl5) false c && pe_m1 (64 + k) (8 * r + 1) c)) = true := by decide +kernel
theorem s5_r_80 : ∀ k, k < 16 → (List.range 3).all (fun r => pe_tm 320 s5_w [1316] 6 0 732 (pe_lp ((11, 8 * r + 1) :: ll5 (80 + k))) [] (pe_pt dl5z) 719 (ll5 ((80 + k) + 1)) [] (fun c => s5_k (pe_pt dl5) false c && pe_m1 (80 + k) (8 * r + 1) c)) = true := by decide +kernel
theorem s5_r : ∀ k, k < 96 → (List.range 3).all (fun r => pe_tm 320 s5_w [1316] 6 0 732 (pe_lp ((11, 8 * r + 1) :: ll5 k)) [] (pe_pt dl5z) 719 (ll5 (k + 1)) [] (fun c => s5_k (pe_pt dl5) false c && pe_m1 k (8 * r + 1) c)) = true := by
  intro k hk
  by_cases g0 : k < 16
  · have := s5_r_0 (k - 0) (by omega)
    rw [show 0 + (k - 0) = k by omega] at this
    exact this
  by_cases g16 : k < 32
  · have := s5_r_16 (k - 16) (by omega)
    rw [show 16 + (k - 16) = k by omega] at this
    exact this
  by_cases g32 : k < 48
  · have := s5_r_32 (k - 32) (by omega)
    rw [show 32 + (k - 32) = k by omega] at this
    exact this
  by_cases g48 : k < 64
  · have := s5_r_48 (k - 48) (by omega)
    rw [show 48 + (k - 48) = k by omega] at this
    exact this
  by_cases g64 : k < 80
  · have := s5_r_64 (k - 64) (by omega)
    rw [show 64 + (k - 64) = k by omega] at this
    exact this
  have := s5_r_80 (k - 80) (by omega)
  rw [show 80 + (k - 80) = k by omega] at this
  exact this
theorem s5_e_0 : ∀ k, k < 96 → pe_tm 320 pe_w0 [1424] 1 0 769 (pe_lp (ll5 (0 + k))) [] (pe_pt dl5) 777 (ll5 (0 + k)) [25, 8 * ((0 + k) + 10) + 1, 8000003] (fun c => s5_k (pe_pt dl5) true c && pe_mz c) = true := by decide +kernel
theorem s5_e : ∀ k, k < 96 → pe_tm 320 pe_w0 [1424] 1 0 769 (pe_lp (ll5 k)) [] (pe_pt dl5) 777 (ll5 k) [25, 8 * (k + 10) + 1, 8000003] (fun c => s5_k (pe_pt dl5) true c && pe_mz c) = true := by
  intro k hk
  have := s5_e_0 (k - 0) (by omega)
  rw [show 0 + (k - 0) = k by omega] at this
  exact this
theorem s5_g_0 : ∀ k, k < 16 → (List.range 3).all (fun r => pe_tm 320 s5_w [1410] 6 0 778 (pe_lp (ll5 (0 + k))) [8 * r + 1] (pe_cs (pe_pt dl5) (pe_bs 4 + (0 + k)) (8 * r + 1)) 769 (ll5 ((0 + k) + 1)) [] (fun c => s5_k (pe_pt dl5) false c && pe_m1 (0 + k) (8 * r + 1) c)) = true := by decide +kernel
theorem s5_g_16 : ∀ k, k < 16 → (List.range 3).all (fun r => pe_tm 320 s5_w [1410] 6 0 778 (pe_lp (ll5 (16 + k))) [8 * r + 1] (pe_cs (pe_pt dl5) (pe_bs 4 + (16 + k)) (8 * r + 1)) 769 (ll5 ((16 + k) + 1)) [] (fun c => s5_k (pe_pt dl5) false c && pe_m1 (16 + k) (8 * r + 1) c)) = true := by decide +kernel
theorem s5_g_32 : ∀ k, k < 16 → (List.range 3).all (fun r => pe_tm 320 s5_w [1410] 6 0 778 (pe_lp (ll5 (32 + k))) [8 * r + 1] (pe_cs (pe_pt dl5) (pe_bs 4 + (32 + k)) (8 * r + 1)) 769 (ll5 ((32 + k) + 1)) [] (fun c => s5_k (pe_pt dl5) false c && pe_m1 (32 + k) (8 * r + 1) c)) = true := by decide +kernel
theorem s5_g_48 : ∀ k, k < 16 → (List.range 3).all (fun r => pe_tm 320 s5_w [1410] 6 0 778 (pe_lp (ll5 (48 + k))) [8 * r + 1] (pe_cs (pe_pt dl5) (pe_bs 4 + (48 + k)) (8 * r + 1)) 769 (ll5 ((48 + k) + 1)) [] (fun c => s5_k (pe_pt dl5) false c && pe_m1 (48 + k) (8 * r + 1) c)) = true := by decide +kernel
theorem s5_g_64 : ∀ k, k < 16 → (List.range 3).all (fun r => pe_tm 320 s5_w [1410] 6 0 778 (pe_lp (ll5 (64 + k))) [8 * r + 1] (pe_cs (pe_pt dl5) (pe_bs 4 + (64 + k)) (8 * r + 1)) 769 (ll5 ((64 + k) + 1)) [] (fun c => s5_k (pe_pt dl5) false c && pe_m1 (64 + k) (8 * r + 1) c)) = true := by decide +kernel
theorem s5_g_80 : ∀ k, k < 16 → (List.range 3).all (fun r => pe_tm 320 s5_w [1410] 6 0 778 (pe_lp (ll5 (80 + k))) [8 * r + 1] (pe_cs (pe_pt dl5) (pe_bs 4 + (80 + k)) (8 * r + 1)) 769 (ll5 ((80 + k) + 1)) [] (fun c => s5_k (pe_pt dl5) false c && pe_m1 (80 + k) (8 * r + 1) c)) = true := by decide +kernel
theorem s5_g : ∀ k, k < 96 → (List.range 3).all (fun r => pe_tm 320 s5_w [1410] 6 0 778 (pe_lp (ll5 k)) [8 * r + 1] (pe_cs (pe_pt dl5) (pe_bs 4 + k) (8 * r + 1)) 769 (ll5 (k + 1)) [] (fun c => s5_k (pe_pt dl5) false c && pe_m1 k (8 * r + 1) c)) = true := by
  intro k hk
  by_cases g0 : k < 16
  · have := s5_g_0 (k - 0) (by omega)
    rw [show 0 + (k - 0) = k by omega] at this
    exact this
  by_cases g16 : k < 32
  · have := s5_g_16 (k - 16) (by omega)
    rw [show 16 + (k - 16) = k by omega] at this
    exact this
  by_cases g32 : k < 48
  · have := s5_g_32 (k - 32) (by omega)
    rw [show 32 + (k - 32) = k by omega] at this
    exact this
  by_cases g48 : k < 64
  · have := s5_g_48 (k - 48) (by omega)
    rw [show 48 + (k - 48) = k by omega] at this
    exact this
  by_cases g64 : k < 80
  · have := s5_g_64 (k - 64) (by omega)
    rw [show 64 + (k - 64) = k by omega] at this
    exact this
  have := s5_g_80 (k - 80) (by omega)
  rw [show 80 + (k - 80) = k by omega] at this
  exact this
theorem s6_0 : ∀ v, v < 9 → pe_tm 320 s5_w [1611] 8 0 769 (pe_lp (ll5 96)) [] (pe_cs (pe_pt dl5) (pe_bs (5 + 2 * 6) + 1) (8 * v + 1)) 876 (ll5 0) [] (fun c => s5_k (pe_pt dl6) true c && pe_mz c) = true := by decide +kernel
theorem s5_w_ok {X : rn_X} : ∀ (B : rn_T) (h0 : rn_H), pe_Wok σ0 320 B h0 X 320 7476 s5_w := fun _ _ => pe_me_ok pe_n2 _ _ _
theorem s5_kk {d c : Nat} {b : Bool} {S : rn_T} (h : s5_k d b c = true) (hc : pe_cn S) (hl : b = true → pe_ls2 S) : pe_ag d (pe_TT c S) ∧ pe_cn (pe_TT c S) ∧ pe_ls2 (pe_TT c S) := by
  unfold s5_k at h
  rw [Bool.and_eq_true, Bool.and_eq_true] at h
  exact ⟨pe_cd_ag h.1.1, pe_cn_of h.1.2 (fun _ => hc), pe_ls_of h.2 hl⟩
theorem s5_L {X : rn_X} (hX : X.1 ≤ 260) (hE : ∀ S, pe_ag (pe_pt dl5) S → pe_cn S → pe_ls2 S → s5_F X 96 S → pe_En X 320 320 7476 769 (pe_lp (ll5 0)) [] S) : ∀ (m k : Nat), k + m = 96 → ∀ S, pe_ag (pe_pt dl5) S → pe_cn S → pe_ls2 S → s5_F X k S → pe_En X 320 320 7476 719 (pe_lp (ll5 k)) [] S
  | 0, k, hk, S, h, hc, hl, hF => by
    obtain rfl : k = 96 := by omega
    obtain ⟨c, h1, h2⟩ := pe_segm pe_n2 pe_w0k s5_x (by decide) h
    rw [Bool.and_eq_true] at h1
    obtain ⟨a1, a2, a3⟩ := s5_kk h1.1 hc (fun _ => hl)
    exact h2 (hE _ a1 a2 a3 (fun j hj => (pe_mz_of h1.2 hj).trans (hF j hj)))
  | m + 1, k, hk, S, h, hc, hl, hF => by
    have hk2 : k < 96 := by omega
    obtain ⟨c, h1, h2⟩ := pe_segm (X := X) (N := 320) (sl := 7476) pe_n2 pe_w0k (s5_c k hk2) (by decide) h
    rw [Bool.and_eq_true] at h1
    obtain ⟨a1, a2, a3⟩ := s5_kk h1.1 hc (fun _ => hl)
    refine h2 (pe_cell hX (by decide) (k := k + 10) (m := 3) (by omega) (by decide) (by decide) (by decide) ?_)
    have hr : clN X (k + 10) 3 < 3 := clN_lt (by decide)
    have hF1 : s5_F X k (pe_TT c S) := fun j hj => (pe_mz_of h1.2 (by omega)).trans (hF j hj)
    generalize pe_TT c S = S1 at a1 a2 a3 hF1
    obtain ⟨v, hv, b1⟩ := pe_ls_ag a1 a3
    have hd := List.all_eq_true.mp (List.all_eq_true.mp (s5_d k hk2) (clN X (k + 10) 3) (List.mem_range.mpr hr)) v (List.mem_range.mpr hv)
    obtain ⟨c2, e1, e2⟩ := pe_segm (X := X) (N := 320) (sl := 7476) pe_n2 pe_w0k hd (by decide) b1
    rw [Bool.and_eq_true] at e1
    obtain ⟨f1, f2, f3⟩ := s5_kk e1.1 a2 (fun _ => a3)
    refine e2 ?_
    have hF2 : s5_F X k (pe_TT c2 S1) := fun j hj => (pe_mz_of e1.2 (by omega)).trans (hF1 j hj)
    generalize pe_TT c2 S1 = S2 at f1 f2 f3 hF2
    have hr2 := List.all_eq_true.mp (s5_r k hk2) (clN X (k + 10) 3) (List.mem_range.mpr hr)
    obtain ⟨c3, g1, g2⟩ := pe_segm (X := X) (N := 320) (sl := 7476) pe_n2 s5_w_ok hr2 (by decide) f1
    rw [Bool.and_eq_true] at g1
    obtain ⟨i1, i2, i3⟩ := s5_kk g1.1 f2 (fun q => by cases q)
    refine g2 (s5_L hX hE m (k + 1) (by omega) _ i1 i2 i3 (fun j hj => ?_))
    rw [pe_m1_of g1.2 (by omega)]
    by_cases e : j = k
    · rw [if_pos e, e]
    · rw [if_neg e]; exact hF2 j (by omega)
theorem s5_M {X : rn_X} (hX : X.1 ≤ 260) (hE : ∀ S, pe_ag (pe_pt dl6) S → pe_cn S → pe_ls2 S → pe_mm S → pe_En X 320 320 7476 876 (pe_lp (ll5 0)) [] S) : ∀ (m k : Nat), k + m = 96 → ∀ S, pe_ag (pe_pt dl5) S → pe_cn S → pe_ls2 S → s5_F X 96 S → pe_En X 320 320 7476 769 (pe_lp (ll5 k)) [] S
  | 0, k, hk, S, h, hc, hl, hF => by
    obtain rfl : k = 96 := by omega
    obtain ⟨v, hv, b1⟩ := pe_cn_ag (s := 6) (by decide) h hc
    obtain ⟨c, h1, h2⟩ := pe_segm (X := X) (N := 320) (sl := 7476) pe_n2 s5_w_ok (s6_0 v hv) (by decide) b1
    rw [Bool.and_eq_true] at h1
    obtain ⟨a1, a2, a3⟩ := s5_kk h1.1 hc (fun _ => hl)
    refine h2 (hE _ a1 a2 a3 (fun j hj => ⟨clN X (j + 10) 3, ?_, (pe_mz_of h1.2 hj).trans (hF j hj)⟩))
    have : clN X (j + 10) 3 < 3 := clN_lt (by decide)
    omega
  | m + 1, k, hk, S, h, hc, hl, hF => by
    have hk2 : k < 96 := by omega
    obtain ⟨c, h1, h2⟩ := pe_segm (X := X) (N := 320) (sl := 7476) pe_n2 pe_w0k (s5_e k hk2) (by decide) h
    rw [Bool.and_eq_true] at h1
    obtain ⟨a1, a2, a3⟩ := s5_kk h1.1 hc (fun _ => hl)
    refine h2 (pe_cell hX (by decide) (k := k + 10) (m := 3) (by omega) (by decide) (by decide) (by decide) ?_)
    have hr : clN X (k + 10) 3 < 3 := clN_lt (by decide)
    have hF1 : s5_F X 96 (pe_TT c S) := fun j hj => (pe_mz_of h1.2 (by omega)).trans (hF j hj)
    generalize pe_TT c S = S1 at a1 a2 a3 hF1
    have b1 := pe_mA_ag (v := clN X (k + 10) 3) hk2 (by omega) a1 (hF1 k hk2)
    have hr2 := List.all_eq_true.mp (s5_g k hk2) (clN X (k + 10) 3) (List.mem_range.mpr hr)
    obtain ⟨c3, g1, g2⟩ := pe_segm (X := X) (N := 320) (sl := 7476) pe_n2 s5_w_ok hr2 (by decide) b1
    rw [Bool.and_eq_true] at g1
    obtain ⟨i1, i2, i3⟩ := s5_kk g1.1 a2 (fun q => by cases q)
    refine g2 (s5_M hX hE m (k + 1) (by omega) _ i1 i2 i3 (fun j hj => ?_))
    rw [pe_m1_of g1.2 (by omega)]
    by_cases e : j = k
    · rw [if_pos e, e]
    · rw [if_neg e]; exact hF1 j (by omega)
theorem s5_ok {X : rn_X} (hX : X.1 ≤ 260) (hE : ∀ S, pe_ag (pe_pt dl6) S → pe_cn S → pe_ls2 S → pe_mm S → pe_En X 320 320 7476 876 (pe_lp (ll5 0)) [] S) : ∀ S, pe_ag (pe_pt dl5) S → pe_cn S → pe_ls2 S → pe_En X 320 320 7476 719 (pe_lp (ll5 0)) [] S := fun S h hc hl => s5_L hX (s5_M hX hE 96 0 rfl) 96 0 rfl S h hc hl (fun j hj => by omega)
