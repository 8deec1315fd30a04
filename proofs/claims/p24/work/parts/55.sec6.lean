/-! nothing left of a stale value -/
def dl6z : List (Nat × Nat × Nat) := (1, 3, 1) :: dl6
noncomputable def s6_w : pe_W := pe_me 320 19 [3, 49, 34359738361] (pe_pt dl6)
noncomputable def s6_k (d : Nat) (b : Bool) (c : Nat) : Bool := s5_k d b c && pe_mmb c
theorem s6_kk {d c : Nat} {b : Bool} {S : rn_T} (h : s6_k d b c = true) (hc : pe_cn S) (hl : b = true → pe_ls2 S) (hm : pe_mm S) : pe_ag d (pe_TT c S) ∧ pe_cn (pe_TT c S) ∧ pe_ls2 (pe_TT c S) ∧ pe_mm (pe_TT c S) := by
  unfold s6_k at h
  rw [Bool.and_eq_true] at h
  obtain ⟨a, b, d⟩ := s5_kk h.1 hc hl
  exact ⟨a, b, d, pe_mm_of h.2 hm⟩
/-- a segment with all that is known -/
theorem pe_segE {b : Bool} {X : rn_X} {K L d d2 K2 D m : Nat} {w : pe_W} {stops st st2 : List Nat} {L2 : List (Nat × Nat)} {S : rn_T} (hw : ∀ (B : rn_T) (h0 : rn_H), pe_Wok σ0 320 B h0 X 320 7476 w) (h : pe_tm 320 w stops D m K L st d K2 L2 st2 (s6_k d2 b) = true) (hK : K2 < 1251) (hag : pe_ag d S) (hc : pe_cn S) (hl : b = true → pe_ls2 S) (hm : pe_mm S) (hE : ∀ S2, pe_ag d2 S2 → pe_cn S2 → pe_ls2 S2 → pe_mm S2 → pe_En X 320 320 7476 K2 (pe_lp L2) st2 S2) : pe_En X 320 320 7476 K L st S := by
  obtain ⟨c, h1, h2⟩ := pe_segm pe_n2 hw h hK hag
  obtain ⟨a1, a2, a3, a4⟩ := s6_kk h1 hc hl hm
  exact h2 (hE _ a1 a2 a3 a4)
theorem s6_a : ∀ j, j < 6 → pe_tm 320 pe_w0 [1625] 1 0 876 (pe_lp (ll5 j)) [] (pe_pt dl6) 884 (ll5 j) [25, 8 * (j + 120) + 1, 8000003] (s6_k (pe_pt dl6) true) = true := by decide +kernel
theorem s6_b : ∀ j, j < 6 → ∀ r, r < 3 → pe_tm 320 pe_w0 [1640] 1 0 885 (pe_lp (ll5 j)) [8 * r + 1] (pe_pt dl6) 892 ((11, 8 * r + 1) :: ll5 j) [177, 8 * (j + 130) + 1, 8000003, 33] (s6_k (pe_pt dl6) true) = true := by decide +kernel
theorem s6_d0 : ∀ r, r < 3 → ∀ q, q < 22 → ∀ v, v < 3 → pe_tm 320 pe_w0 [1651] 1 0 893 (pe_lp ((11, 8 * r + 1) :: ll5 0)) [8 * q + 1, 33] (pe_cs (pe_pt dl6) (pe_bs 1 + 3) (8 * v + 1)) 898 ((12, 32 * q + 1) :: (11, 8 * r + 1) :: ll5 0) [] (s6_k (pe_pt dl6z) true) = true := by decide +kernel
theorem s6_r0_0 : ∀ q, q < 22 → pe_tm 320 s6_w [1611] 7 0 898 (pe_lp ((12, 32 * q + 1) :: (11, 1) :: ll5 0)) [] (pe_pt dl6z) 876 (ll5 1) [] (s6_k (pe_pt dl6) false) = true := by decide +kernel
theorem s6_r0_1 : ∀ q, q < 22 → pe_tm 320 s6_w [1611] 7 0 898 (pe_lp ((12, 32 * q + 1) :: (11, 9) :: ll5 0)) [] (pe_pt dl6z) 876 (ll5 1) [] (s6_k (pe_pt dl6) false) = true := by decide +kernel
theorem s6_r0_2 : ∀ q, q < 22 → pe_tm 320 s6_w [1611] 7 0 898 (pe_lp ((12, 32 * q + 1) :: (11, 17) :: ll5 0)) [] (pe_pt dl6z) 876 (ll5 1) [] (s6_k (pe_pt dl6) false) = true := by decide +kernel
theorem s6_d1 : ∀ r, r < 3 → ∀ q, q < 22 → ∀ v, v < 3 → pe_tm 320 pe_w0 [1651] 1 0 893 (pe_lp ((11, 8 * r + 1) :: ll5 1)) [8 * q + 1, 33] (pe_cs (pe_pt dl6) (pe_bs 1 + 3) (8 * v + 1)) 898 ((12, 32 * q + 1) :: (11, 8 * r + 1) :: ll5 1) [] (s6_k (pe_pt dl6z) true) = true := by decide +kernel
theorem s6_r1_0 : ∀ q, q < 22 → pe_tm 320 s6_w [1611] 7 0 898 (pe_lp ((12, 32 * q + 1) :: (11, 1) :: ll5 1)) [] (pe_pt dl6z) 876 (ll5 2) [] (s6_k (pe_pt dl6) false) = true := by decide +kernel
theorem s6_r1_1 : ∀ q, q < 22 → pe_tm 320 s6_w [1611] 7 0 898 (pe_lp ((12, 32 * q + 1) :: (11, 9) :: ll5 1)) [] (pe_pt dl6z) 876 (ll5 2) [] (s6_k (pe_pt dl6) false) = true := by decide +kernel
theorem s6_r1_2 : ∀ q, q < 22 → pe_tm 320 s6_w [1611] 7 0 898 (pe_lp ((12, 32 * q + 1) :: (11, 17) :: ll5 1)) [] (pe_pt dl6z) 876 (ll5 2) [] (s6_k (pe_pt dl6) false) = true := by decide +kernel
theorem s6_d2 : ∀ r, r < 3 → ∀ q, q < 22 → ∀ v, v < 3 → pe_tm 320 pe_w0 [1651] 1 0 893 (pe_lp ((11, 8 * r + 1) :: ll5 2)) [8 * q + 1, 33] (pe_cs (pe_pt dl6) (pe_bs 1 + 3) (8 * v + 1)) 898 ((12, 32 * q + 1) :: (11, 8 * r + 1) :: ll5 2) [] (s6_k (pe_pt dl6z) true) = true := by decide +kernel
theorem s6_r2_0 : ∀ q, q < 22 → pe_tm 320 s6_w [1611] 7 0 898 (pe_lp ((12, 32 * q + 1) :: (11, 1) :: ll5 2)) [] (pe_pt dl6z) 876 (ll5 3) [] (s6_k (pe_pt dl6) false) = true := by decide +kernel
theorem s6_r2_1 : ∀ q, q < 22 → pe_tm 320 s6_w [1611] 7 0 898 (pe_lp ((12, 32 * q + 1) :: (11, 9) :: ll5 2)) [] (pe_pt dl6z) 876 (ll5 3) [] (s6_k (pe_pt dl6) false) = true := by decide +kernel
theorem s6_r2_2 : ∀ q, q < 22 → pe_tm 320 s6_w [1611] 7 0 898 (pe_lp ((12, 32 * q + 1) :: (11, 17) :: ll5 2)) [] (pe_pt dl6z) 876 (ll5 3) [] (s6_k (pe_pt dl6) false) = true := by decide +kernel
theorem s6_d3 : ∀ r, r < 3 → ∀ q, q < 22 → ∀ v, v < 3 → pe_tm 320 pe_w0 [1651] 1 0 893 (pe_lp ((11, 8 * r + 1) :: ll5 3)) [8 * q + 1, 33] (pe_cs (pe_pt dl6) (pe_bs 1 + 3) (8 * v + 1)) 898 ((12, 32 * q + 1) :: (11, 8 * r + 1) :: ll5 3) [] (s6_k (pe_pt dl6z) true) = true := by decide +kernel
theorem s6_r3_0 : ∀ q, q < 22 → pe_tm 320 s6_w [1611] 7 0 898 (pe_lp ((12, 32 * q + 1) :: (11, 1) :: ll5 3)) [] (pe_pt dl6z) 876 (ll5 4) [] (s6_k (pe_pt dl6) false) = true := by decide +kernel
theorem s6_r3_1 : ∀ q, q < 22 → pe_tm 320 s6_w [1611] 7 0 898 (pe_lp ((12, 32 * q + 1) :: (11, 9) :: ll5 3)) [] (pe_pt dl6z) 876 (ll5 4) [] (s6_k (pe_pt dl6) false) = true := by decide +kernel
theorem s6_r3_2 : ∀ q, q < 22 → pe_tm 320 s6_w [1611] 7 0 898 (pe_lp ((12, 32 * q + 1) :: (11, 17) :: ll5 3)) [] (pe_pt dl6z) 876 (ll5 4) [] (s6_k (pe_pt dl6) false) = true := by decide +kernel
theorem s6_d4 : ∀ r, r < 3 → ∀ q, q < 22 → ∀ v, v < 3 → pe_tm 320 pe_w0 [1651] 1 0 893 (pe_lp ((11, 8 * r + 1) :: ll5 4)) [8 * q + 1, 33] (pe_cs (pe_pt dl6) (pe_bs 1 + 3) (8 * v + 1)) 898 ((12, 32 * q + 1) :: (11, 8 * r + 1) :: ll5 4) [] (s6_k (pe_pt dl6z) true) = true := by decide +kernel
theorem s6_r4_0 : ∀ q, q < 22 → pe_tm 320 s6_w [1611] 7 0 898 (pe_lp ((12, 32 * q + 1) :: (11, 1) :: ll5 4)) [] (pe_pt dl6z) 876 (ll5 5) [] (s6_k (pe_pt dl6) false) = true := by decide +kernel
theorem s6_r4_1 : ∀ q, q < 22 → pe_tm 320 s6_w [1611] 7 0 898 (pe_lp ((12, 32 * q + 1) :: (11, 9) :: ll5 4)) [] (pe_pt dl6z) 876 (ll5 5) [] (s6_k (pe_pt dl6) false) = true := by decide +kernel
theorem s6_r4_2 : ∀ q, q < 22 → pe_tm 320 s6_w [1611] 7 0 898 (pe_lp ((12, 32 * q + 1) :: (11, 17) :: ll5 4)) [] (pe_pt dl6z) 876 (ll5 5) [] (s6_k (pe_pt dl6) false) = true := by decide +kernel
theorem s6_d5 : ∀ r, r < 3 → ∀ q, q < 22 → ∀ v, v < 3 → pe_tm 320 pe_w0 [1651] 1 0 893 (pe_lp ((11, 8 * r + 1) :: ll5 5)) [8 * q + 1, 33] (pe_cs (pe_pt dl6) (pe_bs 1 + 3) (8 * v + 1)) 898 ((12, 32 * q + 1) :: (11, 8 * r + 1) :: ll5 5) [] (s6_k (pe_pt dl6z) true) = true := by decide +kernel
theorem s6_r5_0 : ∀ q, q < 22 → pe_tm 320 s6_w [1611] 7 0 898 (pe_lp ((12, 32 * q + 1) :: (11, 1) :: ll5 5)) [] (pe_pt dl6z) 876 (ll5 6) [] (s6_k (pe_pt dl6) false) = true := by decide +kernel
theorem s6_r5_1 : ∀ q, q < 22 → pe_tm 320 s6_w [1611] 7 0 898 (pe_lp ((12, 32 * q + 1) :: (11, 9) :: ll5 5)) [] (pe_pt dl6z) 876 (ll5 6) [] (s6_k (pe_pt dl6) false) = true := by decide +kernel
theorem s6_r5_2 : ∀ q, q < 22 → pe_tm 320 s6_w [1611] 7 0 898 (pe_lp ((12, 32 * q + 1) :: (11, 17) :: ll5 5)) [] (pe_pt dl6z) 876 (ll5 6) [] (s6_k (pe_pt dl6) false) = true := by decide +kernel
theorem s6_w_ok {X : rn_X} : ∀ (B : rn_T) (h0 : rn_H), pe_Wok σ0 320 B h0 X 320 7476 s6_w := fun _ _ => pe_me_ok pe_n2 _ _ _
theorem s6_d : ∀ j, j < 6 → ∀ r, r < 3 → ∀ q, q < 22 → ∀ v, v < 3 → pe_tm 320 pe_w0 [1651] 1 0 893 (pe_lp ((11, 8 * r + 1) :: ll5 j)) [8 * q + 1, 33] (pe_cs (pe_pt dl6) (pe_bs 1 + 3) (8 * v + 1)) 898 ((12, 32 * q + 1) :: (11, 8 * r + 1) :: ll5 j) [] (s6_k (pe_pt dl6z) true) = true := by
  intro j hj
  match j, hj with
  | 0, _ => exact s6_d0
  | 1, _ => exact s6_d1
  | 2, _ => exact s6_d2
  | 3, _ => exact s6_d3
  | 4, _ => exact s6_d4
  | 5, _ => exact s6_d5
  | j + 6, hj => omega
theorem s6_r : ∀ j, j < 6 → ∀ r, r < 3 → ∀ q, q < 22 → pe_tm 320 s6_w [1611] 7 0 898 (pe_lp ((12, 32 * q + 1) :: (11, 8 * r + 1) :: ll5 j)) [] (pe_pt dl6z) 876 (ll5 (j + 1)) [] (s6_k (pe_pt dl6) false) = true := by
  intro j hj r hr
  match j, hj, r, hr with
  | 0, _, 0, _ => exact s6_r0_0
  | 0, _, 1, _ => exact s6_r0_1
  | 0, _, 2, _ => exact s6_r0_2
  | 1, _, 0, _ => exact s6_r1_0
  | 1, _, 1, _ => exact s6_r1_1
  | 1, _, 2, _ => exact s6_r1_2
  | 2, _, 0, _ => exact s6_r2_0
  | 2, _, 1, _ => exact s6_r2_1
  | 2, _, 2, _ => exact s6_r2_2
  | 3, _, 0, _ => exact s6_r3_0
  | 3, _, 1, _ => exact s6_r3_1
  | 3, _, 2, _ => exact s6_r3_2
  | 4, _, 0, _ => exact s6_r4_0
  | 4, _, 1, _ => exact s6_r4_1
  | 4, _, 2, _ => exact s6_r4_2
  | 5, _, 0, _ => exact s6_r5_0
  | 5, _, 1, _ => exact s6_r5_1
  | 5, _, 2, _ => exact s6_r5_2
  | j + 6, hj, _, _ => omega
  | _, _, r + 3, hr => omega
theorem s6_L {X : rn_X} (hX : X.1 ≤ 260) (hE : ∀ S, pe_ag (pe_pt dl6) S → pe_cn S → pe_ls2 S → pe_mm S → pe_En X 320 320 7476 876 (pe_lp (ll5 6)) [] S) : ∀ (m j : Nat), j + m = 6 → ∀ S, pe_ag (pe_pt dl6) S → pe_cn S → pe_ls2 S → pe_mm S → pe_En X 320 320 7476 876 (pe_lp (ll5 j)) [] S
  | 0, j, hj, S, h, hc, hl, hm => by
    obtain rfl : j = 6 := by omega
    exact hE S h hc hl hm
  | m + 1, j, hj, S, h, hc, hl, hm => by
    have hj2 : j < 6 := by omega
    refine pe_segE (X := X) pe_w0k (s6_a j hj2) (by decide) h hc (fun _ => hl) hm (fun S h hc hl hm => ?_)
    refine pe_cell hX (by decide) (k := j + 120) (m := 3) (by omega) (by decide) (by decide) (by decide) ?_
    have hr : clN X (j + 120) 3 < 3 := clN_lt (by decide)
    generalize clN X (j + 120) 3 = r at hr
    refine pe_segE (X := X) pe_w0k (s6_b j hj2 r hr) (by decide) h hc (fun _ => hl) hm (fun S h hc hl hm => ?_)
    refine pe_cell hX (by decide) (k := j + 130) (m := 22) (by omega) (by decide) (by decide) (by decide) ?_
    have hq : clN X (j + 130) 22 < 22 := clN_lt (by decide)
    generalize clN X (j + 130) 22 = q at hq
    obtain ⟨v, hv, h⟩ := pe_ls_ag h hl
    refine pe_segE (X := X) pe_w0k (s6_d j hj2 r hr q hq v hv) (by decide) h hc (fun _ => hl) hm (fun S h hc hl hm => ?_)
    exact pe_segE (X := X) s6_w_ok (s6_r j hj2 r hr q hq) (by decide) h hc (fun q => by cases q) hm (s6_L hX hE m (j + 1) (by omega))
