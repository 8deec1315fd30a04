/-! from stop to stop -/
noncomputable def pe_rm (n : Nat) (w : pe_W) (stops : List Nat) (D m : Nat) : pe_C → pe_T := @Nat.rec (fun _ => pe_C → pe_T) (pe_ru n w stops D) (fun _ ih s => @Option.rec pe_R (fun _ => pe_T) none (fun r => @Sum.rec pe_C (pe_C ⊕ (List Nat × Nat)) (fun _ => pe_T) (fun _ => none) (fun u => @Sum.rec pe_C (List Nat × Nat) (fun _ => pe_T) ih (fun _ => none) u) r) (pe_ru n w stops D s)) m
theorem pe_rm_ok {σ : Nat → Value} {n : Nat} {B : rn_T} {h0 : rn_H} {X : rn_X} {N sl : Nat} (hn : pe_nn n) {w : pe_W} (hw : pe_Wok σ n B h0 X N sl w) {stops : List Nat} {D : Nat} : ∀ (m y : Nat) (L : Nat) (st : List Nat) (c : Nat) (fs : List pe_G) (res : pe_R) (k : Nat) (lv : rn_L) (h : rn_H) (as : List pe_AF), pe_RL σ L lv → pe_HR n c B h0 h → pe_FM σ fs as → pe_rm n w stops D m (y, (pe_tb y).drop k, L, st, c, fs) = some res → pe_fin σ n B h0 X N sl (pe_Q X N sl as y k lv (st.map (pe_dv σ)) h) res
  | 0, y, L, st, c, fs, res, k, lv, h, as, hL, hH, hF, hr => pe_ru_ok hn hw D y L st c fs res k lv h as hL hH hF hr
  | m + 1, y, L, st, c, fs, res, k, lv, h, as, hL, hH, hF, hr => by
    obtain ⟨r, h1, hr⟩ := pe_Oi (show @Option.rec pe_R (fun _ => pe_T) none (fun r => @Sum.rec pe_C (pe_C ⊕ (List Nat × Nat)) (fun _ => pe_T) (fun _ => none) (fun u => @Sum.rec pe_C (List Nat × Nat) (fun _ => pe_T) (pe_rm n w stops D m) (fun _ => none) u) r) (pe_ru n w stops D (y, (pe_tb y).drop k, L, st, c, fs)) = some res from hr)
    have ih := pe_ru_ok hn hw (stops := stops) D y L st c fs r k lv h as hL hH hF h1
    rcases r with s | s | x
    · have hr : (none : pe_T) = some res := hr
      cases hr
    · obtain ⟨y2, suf2, L2, st2, c2, fs2⟩ := s
      obtain ⟨k2, lv2, h2, as2, rfl, a, b, d2, e⟩ := ih
      exact pe_fin_m e (pe_rm_ok hn hw m y2 L2 st2 c2 fs2 res k2 lv2 h2 as2 a b d2 hr)
    · have hr : (none : pe_T) = some res := hr
      cases hr
noncomputable def pe_tm (n : Nat) (w : pe_W) (stops : List Nat) (D m K L : Nat) (st : List Nat) (d K2 : Nat) (L2 : List (Nat × Nat)) (st2 : List Nat) (chk : Nat → Bool) : Bool := match pe_rm n w stops D m (81, (pe_tb 81).drop K, L, st, d, []) with
  | some (.inr (.inl (y, suf, L3, st3, c3, fs))) => Nat.beq y 81 && (Nat.beq suf.length (1251 - K2) && (pe_lc L3 L2 && (pe_le st3 st2 && (fs.isEmpty && chk c3))))
  | _ => false
theorem pe_segm {X : rn_X} {n N sl K L d K2 D m : Nat} {w : pe_W} {stops st st2 : List Nat} {L2 : List (Nat × Nat)} {chk : Nat → Bool} {S : rn_T} (hn : pe_nn n) (hw : ∀ (B : rn_T) (h0 : rn_H), pe_Wok σ0 n B h0 X N sl w) (h : pe_tm n w stops D m K L st d K2 L2 st2 chk = true) (hK : K2 < 1251) (hag : pe_ag d S) : ∃ c, chk c = true ∧ (pe_En X n N sl K2 (pe_lp L2) st2 (pe_TT c S) → pe_En X n N sl K L st S) := by
  unfold pe_tm at h
  split at h
  · next y suf L3 st3 c3 fs hr =>
    simp only [Bool.and_eq_true] at h
    obtain ⟨h1, h2, h3, h4, h5, h6⟩ := h
    refine ⟨c3, h6, fun hE lv hh hL hH => ?_⟩
    have hH2 : pe_HR n d S hh hh := ⟨fun q hq => by rw [show pe_TT d S = S from hag]; exact hH q hq, fun _ _ => rfl⟩
    obtain ⟨k2, lv2, h2', as2, e1, e2, e3, e4, e5⟩ := pe_rm_ok (X := X) (N := N) (sl := sl) (as := []) hn (hw S hh) m 81 L st d [] _ K lv hh hL hH2 trivial hr
    have hy : y = 81 := pe_beq h1
    subst hy
    have hfs : fs = [] := by
      cases fs with
      | nil => rfl
      | cons a b => cases h5
    subst hfs
    cases as2 with
    | cons a b => exact absurd e4 (fun q => q)
    | nil =>
      have hlen := pe_beq h2
      rw [e1, List.length_drop, pe_len] at hlen
      have hk : k2 = K2 := by omega
      subst hk
      have hst := pe_le_of h4
      subst hst
      have hRL : pe_RL σ0 (pe_lp L2) lv2 := fun j hj => by
        have := pe_lc_ok h3 j hj
        rw [this]
        exact e2 j (by rw [← this]; exact hj)
      obtain ⟨hf, hrun⟩ := hE lv2 h2' hRL e3.1
      exact ⟨hf, e5 _ hrun⟩
  · cases h
/-- d lies in c -/
noncomputable def pe_cd (d c : Nat) : Bool := Nat.beq (Nat.land c (pe_mk 12 d 0)) d
theorem pe_cd_ag {d c : Nat} {S : rn_T} (h : pe_cd d c = true) : pe_ag d (pe_TT c S) := pe_ag_sb (pe_sb_mk h)
/-- a segment where nothing more is to be known of what was there -/
theorem pe_seg0 {X : rn_X} {n N sl K L d d2 K2 D m : Nat} {w : pe_W} {stops st st2 : List Nat} {L2 : List (Nat × Nat)} {S : rn_T} (hn : pe_nn n) (hw : ∀ (B : rn_T) (h0 : rn_H), pe_Wok σ0 n B h0 X N sl w) (h : pe_tm n w stops D m K L st d K2 L2 st2 (pe_cd d2) = true) (hK : K2 < 1251) (hag : pe_ag d S) (hE : ∀ S2, pe_ag d2 S2 → pe_En X n N sl K2 (pe_lp L2) st2 S2) : pe_En X n N sl K L st S := by
  obtain ⟨c, h1, h2⟩ := pe_segm hn hw h hK hag
  exact h2 (hE _ (pe_cd_ag h1))
theorem pe_n1 : pe_nn 318 := Or.inl rfl
theorem pe_n2 : pe_nn 320 := Or.inr rfl
theorem pe_w0k {n N sl : Nat} {X : rn_X} : ∀ (B : rn_T) (h0 : rn_H), pe_Wok σ0 n B h0 X N sl pe_w0 := fun _ _ => pe_w0_ok
