/-! 74: the greatest gap, a record -/
def fG (f : Nat) : Prop := f = 8 ∨ f = 9 ∨ f = 10 ∨ f = 11
def GQ (S M : rn_T) (Y : rn_LY) (k : Nat) : Prop := ∀ f, fG f → rI S (76 + 2 * k) f = nI (Y k f) ∧ rA M (329 + f) k = nI (Y k f)
def GV (Y : rn_LY) (k e : Nat) : Prop := (Y k 11 = 0 → Y k 8 = 0) ∧ Y k 9 ≤ 4 ∧ (Y k 11 = 0 ∨ Y k 8 + Y k 9 ≤ e) ∧ Y k 10 + Y k 11 ≤ 256
/-- only the gap of k is told -/
def eG (k : Nat) (S S2 : rn_T) : Prop := (∀ q f, ¬ (q = 76 + 2 * k ∧ 8 ≤ f ∧ f ≤ 11) → rI S2 q f = rI S q f) ∧ rA S2 = rA S ∧ rL S2 = rL S ∧ rR S2 = rR S ∧ rP S2 = rP S
theorem eG_r {k : Nat} {S : rn_T} : eG k S S := ⟨fun _ _ _ => rfl, rfl, rfl, rfl, rfl⟩
theorem eG_t {k : Nat} {S S2 S3 : rn_T} (h : eG k S S2) (g : eG k S2 S3) : eG k S S3 := ⟨fun q f h1 => (g.1 q f h1).trans (h.1 q f h1), g.2.1.trans h.2.1, g.2.2.1.trans h.2.2.1, g.2.2.2.1.trans h.2.2.2.1, g.2.2.2.2.trans h.2.2.2.2⟩
theorem eG_K {T : rn_TR} {k : Nat} {S S2 : rn_T} (h : eG k S S2) : eK T k S S2 := ⟨fun q f h1 _ => h.1 q f (by omega), h.2⟩
theorem eG_g {k : Nat} {S : rn_T} {a b c d : Nat} : eG k S (gp S (76 + 2 * k) a b c d) := by
  unfold gp
  refine ⟨fun q f h => ?_, rfl, rfl, rfl, rfl⟩
  simp (disch := omega) only [ra_I, ra_In, ra_A, ra_An, ra_IA, ra_IL, ra_IR, ra_IP, ra_AI, ra_AL, ra_AR, ra_AP, ra_L, ra_Ln, ra_LI, ra_LA, ra_LR, ra_LP, ra_R, ra_Rn, ra_RI, ra_RA, ra_RL, ra_RP, ra_P, ra_Pn, ra_PI, ra_PA, ra_PL, ra_PR]
def eGM (k : Nat) (M M2 : rn_T) : Prop := (∀ q i, ¬ (i = k ∧ 337 ≤ q ∧ q ≤ 340) → rA M2 q i = rA M q i) ∧ rI M2 = rI M ∧ rL M2 = rL M
theorem eGM_r {k : Nat} {M : rn_T} : eGM k M M := ⟨fun _ _ _ => rfl, rfl, rfl⟩
theorem eGM_t {k : Nat} {M M2 M3 : rn_T} (h : eGM k M M2) (g : eGM k M2 M3) : eGM k M M3 := ⟨fun q f h1 => (g.1 q f h1).trans (h.1 q f h1), g.2.1.trans h.2.1, g.2.2.trans h.2.2⟩
theorem eGM_K {T : rn_TR} {k : Nat} {M M2 : rn_T} (h : eGM k M M2) : eKM T k M M2 := ⟨fun q i h1 _ => h.1 q i (by omega), h.2⟩
def gpM (M : rn_T) (k a b c d : Nat) : rn_T := wA (wA (wA (wA M 337 k (nI a)) 338 k (nI b)) 339 k (nI c)) 340 k (nI d)
theorem rf_gap {M : rn_T} {k a b c d : Nat} (hk : k < 101) : f58 M (nI k) (nI a) (nI b) (nI c) (nI d) = some (gpM M k a b c d) := by
  unfold f58 gpM
  rw [if_neg (ob_F (by omega) (by omega)), nI_clamp (by omega)]
theorem eGM_g {k : Nat} {M : rn_T} {a b c d : Nat} : eGM k M (gpM M k a b c d) := by
  unfold gpM
  refine ⟨fun q i h => ?_, rfl, rfl⟩
  simp (disch := omega) only [ra_I, ra_In, ra_A, ra_An, ra_IA, ra_IL, ra_IR, ra_IP, ra_AI, ra_AL, ra_AR, ra_AP, ra_L, ra_Ln, ra_LI, ra_LA, ra_LR, ra_LP, ra_R, ra_Rn, ra_RI, ra_RA, ra_RL, ra_RP, ra_P, ra_Pn, ra_PI, ra_PA, ra_PL, ra_PR]
def yG (Y : rn_LY) (k a b c d : Nat) : rn_LY := yU (yU (yU (yU Y k 8 a) k 9 b) k 10 c) k 11 d
theorem yG_n {Y : rn_LY} {k a b c d i f : Nat} (h : i ≠ k ∨ ¬ fG f) : yG Y k a b c d i f = Y i f := by
  unfold fG at h
  unfold yG
  rw [yU_n (by omega), yU_n (by omega), yU_n (by omega), yU_n (by omega)]
theorem yG_8 {Y : rn_LY} {k a b c d : Nat} : yG Y k a b c d k 8 = a := by
  unfold yG
  rw [yU_n (by omega), yU_n (by omega), yU_n (by omega), yU_s]
theorem yG_9 {Y : rn_LY} {k a b c d : Nat} : yG Y k a b c d k 9 = b := by
  unfold yG
  rw [yU_n (by omega), yU_n (by omega), yU_s]
theorem yG_10 {Y : rn_LY} {k a b c d : Nat} : yG Y k a b c d k 10 = c := by
  unfold yG
  rw [yU_n (by omega), yU_s]
theorem yG_11 {Y : rn_LY} {k a b c d : Nat} : yG Y k a b c d k 11 = d := by
  unfold yG
  rw [yU_s]
theorem gq_g {S M : rn_T} {Y : rn_LY} {k a b c d : Nat} : GQ (gp S (76 + 2 * k) a b c d) (gpM M k a b c d) (yG Y k a b c d) k := by
  unfold gp gpM
  intro f hf
  rcases hf with rfl | rfl | rfl | rfl
  · rw [yG_8]; exact ⟨by simp (disch := omega) only [ra_I, ra_In, ra_A, ra_An, ra_IA, ra_IL, ra_IR, ra_IP, ra_AI, ra_AL, ra_AR, ra_AP, ra_L, ra_Ln, ra_LI, ra_LA, ra_LR, ra_LP, ra_R, ra_Rn, ra_RI, ra_RA, ra_RL, ra_RP, ra_P, ra_Pn, ra_PI, ra_PA, ra_PL, ra_PR], by simp (disch := omega) only [ra_I, ra_In, ra_A, ra_An, ra_IA, ra_IL, ra_IR, ra_IP, ra_AI, ra_AL, ra_AR, ra_AP, ra_L, ra_Ln, ra_LI, ra_LA, ra_LR, ra_LP, ra_R, ra_Rn, ra_RI, ra_RA, ra_RL, ra_RP, ra_P, ra_Pn, ra_PI, ra_PA, ra_PL, ra_PR]⟩
  · rw [yG_9]; exact ⟨by simp (disch := omega) only [ra_I, ra_In, ra_A, ra_An, ra_IA, ra_IL, ra_IR, ra_IP, ra_AI, ra_AL, ra_AR, ra_AP, ra_L, ra_Ln, ra_LI, ra_LA, ra_LR, ra_LP, ra_R, ra_Rn, ra_RI, ra_RA, ra_RL, ra_RP, ra_P, ra_Pn, ra_PI, ra_PA, ra_PL, ra_PR], by simp (disch := omega) only [ra_I, ra_In, ra_A, ra_An, ra_IA, ra_IL, ra_IR, ra_IP, ra_AI, ra_AL, ra_AR, ra_AP, ra_L, ra_Ln, ra_LI, ra_LA, ra_LR, ra_LP, ra_R, ra_Rn, ra_RI, ra_RA, ra_RL, ra_RP, ra_P, ra_Pn, ra_PI, ra_PA, ra_PL, ra_PR]⟩
  · rw [yG_10]; exact ⟨by simp (disch := omega) only [ra_I, ra_In, ra_A, ra_An, ra_IA, ra_IL, ra_IR, ra_IP, ra_AI, ra_AL, ra_AR, ra_AP, ra_L, ra_Ln, ra_LI, ra_LA, ra_LR, ra_LP, ra_R, ra_Rn, ra_RI, ra_RA, ra_RL, ra_RP, ra_P, ra_Pn, ra_PI, ra_PA, ra_PL, ra_PR], by simp (disch := omega) only [ra_I, ra_In, ra_A, ra_An, ra_IA, ra_IL, ra_IR, ra_IP, ra_AI, ra_AL, ra_AR, ra_AP, ra_L, ra_Ln, ra_LI, ra_LA, ra_LR, ra_LP, ra_R, ra_Rn, ra_RI, ra_RA, ra_RL, ra_RP, ra_P, ra_Pn, ra_PI, ra_PA, ra_PL, ra_PR]⟩
  · rw [yG_11]; exact ⟨by simp (disch := omega) only [ra_I, ra_In, ra_A, ra_An, ra_IA, ra_IL, ra_IR, ra_IP, ra_AI, ra_AL, ra_AR, ra_AP, ra_L, ra_Ln, ra_LI, ra_LA, ra_LR, ra_LP, ra_R, ra_Rn, ra_RI, ra_RA, ra_RL, ra_RP, ra_P, ra_Pn, ra_PI, ra_PA, ra_PL, ra_PR], by simp (disch := omega) only [ra_I, ra_In, ra_A, ra_An, ra_IA, ra_IL, ra_IR, ra_IP, ra_AI, ra_AL, ra_AR, ra_AP, ra_L, ra_Ln, ra_LI, ra_LA, ra_LR, ra_LP, ra_R, ra_Rn, ra_RI, ra_RA, ra_RL, ra_RP, ra_P, ra_Pn, ra_PI, ra_PA, ra_PL, ra_PR]⟩
theorem st_eq {S S2 M M2 : rn_T} {T : rn_TR} {Y Y2 : rn_LY} {k e : Nat} {P : Nat → Prop} (hw : TW T) (hk : k < tN T) (h : ST S M T Y k P e) (he : ∀ j, j < tC T k → rI S2 (76 + 2 * tE T k j) 7 = rI S (76 + 2 * tE T k j) 7) (hm : ∀ j, j < tC T k → rA M2 336 (tE T k j) = rA M 336 (tE T k j)) (hy : ∀ i f, i ≠ k → Y2 i f = Y i f) : ST S2 M2 T Y2 k P e := by
  intro j hj hP
  have := hw.2.2 k j hk hj
  rw [he j hj, hm j hj, hy _ _ (by omega), hy _ _ (by omega), hy _ _ (by omega)]
  exact h j hj hP
theorem ma_gapL {T : rn_TR} {k e : Nat} (hw : TW T) (hk : k < tN T) (hN : tN T ≤ 100) (he : e ≤ 1900) : ∀ d i fu fu2 (S M : rn_T) (Y : rn_LY), i + d = tC T k → d < fu → d < fu2 → KR S M T Y k → ST S M T Y k (fun _ => True) e → GQ S M Y k → GV Y k e → ∃ (S2 M2 : rn_T) (Y2 : rn_LY), (∀ f, f118_L42 (76 + 2 * k) fu S (nI i) f = f S2) ∧ (∀ f, f62_L49 (nI k) fu2 M (nI i) f = f M2) ∧ eG k S S2 ∧ eGM k M M2 ∧ (∀ i f, i ≠ k ∨ ¬ fG f → Y2 i f = Y i f) ∧ GQ S2 M2 Y2 k ∧ GV Y2 k e := by
  have hC := (hw.1 k hk).2.2.2.2
  have hk3 := ma_kd3 (show k < 100 by omega)
  intro d
  induction d with
  | zero =>
    intro i fu fu2 S M Y hi hf hf2 h hs hg hv
    obtain ⟨h1, h2, h3⟩ := h
    have e1 := (h1.2.1 k hk).1
    have e2 := (h2.2 k hk).2.2.2.2
    obtain ⟨G, rfl⟩ : ∃ G, fu = G + 1 := ⟨fu - 1, by omega⟩
    obtain ⟨G2, rfl⟩ : ∃ G, fu2 = G + 1 := ⟨fu2 - 1, by omega⟩
    refine ⟨S, M, Y, fun f => ?_, fun f => ?_, eG_r, eGM_r, fun _ _ _ => rfl, hg, hv⟩
    · rw [f118_L42, e1, if_pos (le_T (by omega) (by omega))]
    · rw [f62_L49, if_neg (ob_F (by omega) (by omega)), nI_clamp (by omega), e2, if_pos (le_T (by omega) (by omega))]
  | succ d ih =>
    intro i fu fu2 S M Y hi hf hf2 h hs hg hv
    have h0 := h
    obtain ⟨h1, h2, h3⟩ := h
    have e1 := (h1.2.1 k hk).1
    have e2 := (h2.2 k hk).2.2.2.2
    obtain ⟨G, rfl⟩ : ∃ G, fu = G + 1 := ⟨fu - 1, by omega⟩
    obtain ⟨G2, rfl⟩ : ∃ G, fu2 = G + 1 := ⟨fu2 - 1, by omega⟩
    have hj : i < tC T k := by omega
    obtain ⟨g1, g2, g3, g4⟩ := hw.2.2 k i hk hj
    obtain ⟨c1, c2⟩ := h3 i hj
    obtain ⟨d8, m8⟩ := c2 8 (by unfold fK; omega)
    obtain ⟨d9, m9⟩ := c2 9 (by unfold fK; omega)
    obtain ⟨d10, m10⟩ := c2 10 (by unfold fK; omega)
    obtain ⟨d11, m11⟩ := c2 11 (by unfold fK; omega)
    have m8 : rA M 337 (tE T k i) = nI (Y (tE T k i) 8) := m8
    have m9 : rA M 338 (tE T k i) = nI (Y (tE T k i) 9) := m9
    have m10 : rA M 339 (tE T k i) = nI (Y (tE T k i) 10) := m10
    have m11 : rA M 340 (tE T k i) = nI (Y (tE T k i) 11) := m11
    obtain ⟨k8, n8⟩ := hg 8 (by unfold fG; omega)
    obtain ⟨k11, n11⟩ := hg 11 (by unfold fG; omega)
    have n8 : rA M 337 k = nI (Y k 8) := n8
    have n11 : rA M 340 k = nI (Y k 11) := n11
    obtain ⟨s1, s2, s3, s4⟩ := hs i hj trivial
    obtain ⟨cA, cm, c64, c8, c9, cg, cF⟩ := c1
    obtain ⟨v1, v2, v3, v4⟩ := hv
    have hk4 := ma_kd3 (show tE T k i < 100 by omega)
    have hsum : rI S (76 + 2 * tE T k i) 7 + rI S (76 + 2 * tE T k i) 8 = nI (Y (tE T k i) 7 + Y (tE T k i) 8) := by rw [s1, d8, nI_add]
    have hsumM : rA M 336 (tE T k i) + rA M 337 (tE T k i) = nI (Y (tE T k i) 7 + Y (tE T k i) 8) := by rw [s2, m8, nI_add]
    -- taken or not
    have hcS : ∀ z, (if Y k 11 < Y (tE T k i) 11 ∨ (Y (tE T k i) 11 = Y k 11 ∧ Y (tE T k i) 7 + Y (tE T k i) 8 < Y k 8) then f122 S (76 + 2 * k) (76 + 2 * tE T k i) = some (gp S (76 + 2 * k) (Y (tE T k i) 7 + Y (tE T k i) 8) (Y (tE T k i) 9) (Y (tE T k i) 10) (Y (tE T k i) 11)) else f122 S (76 + 2 * k) (76 + 2 * tE T k i) = some S) ∨ z := by
      intro z
      refine .inl ?_
      have hJ26 : f122_J26 S (76 + 2 * k) (76 + 2 * tE T k i) (nI (Y (tE T k i) 7 + Y (tE T k i) 8)) = some (gp S (76 + 2 * k) (Y (tE T k i) 7 + Y (tE T k i) 8) (Y (tE T k i) 9) (Y (tE T k i) 10) (Y (tE T k i) 11)) := by
        unfold f122_J26
        rw [d9, d10, d11, cl_gap hk3]; rfl
      have hJ18 : ∀ t0, f122_J18 S (76 + 2 * k) (76 + 2 * tE T k i) (nI (Y (tE T k i) 7 + Y (tE T k i) 8)) t0 = if Y k 11 < Y (tE T k i) 11 ∨ ¬ t0 = 0 then some (gp S (76 + 2 * k) (Y (tE T k i) 7 + Y (tE T k i) 8) (Y (tE T k i) 9) (Y (tE T k i) 10) (Y (tE T k i) 11)) else some S := by
        intro t0
        unfold f122_J18
        rw [k11, d11, hJ26]
        by_cases c : Y k 11 < Y (tE T k i) 11
        · rw [if_pos (nI_lt c (by omega)), if_pos (.inl c)]
        · rw [if_neg (nI_nlt (by omega) (by omega))]
          by_cases c2 : t0 = 0
          · rw [if_pos c2, if_neg (by rintro (h | h); exact c h; exact h c2)]
          · rw [if_neg c2, if_pos (.inr c2)]
      have hf : f122 S (76 + 2 * k) (76 + 2 * tE T k i) = if Y (tE T k i) 11 = Y k 11 ∧ ¬ Y k 8 ≤ Y (tE T k i) 7 + Y (tE T k i) 8 then f122_J18 S (76 + 2 * k) (76 + 2 * tE T k i) (nI (Y (tE T k i) 7 + Y (tE T k i) 8)) (1 : Int32) else f122_J18 S (76 + 2 * k) (76 + 2 * tE T k i) (nI (Y (tE T k i) 7 + Y (tE T k i) 8)) (0 : Int32) := by
        unfold f122 f122_J17
        rw [if_pos hk4, if_pos hk3, hsum, k11, d11, k8]
        by_cases c : Y (tE T k i) 11 = Y k 11
        · rw [if_pos (by rw [c])]
          by_cases c2 : Y k 8 ≤ Y (tE T k i) 7 + Y (tE T k i) 8
          · rw [if_pos (le_T c2 (by omega)), if_neg (fun hh => hh.2 c2)]
          · rw [if_neg (le_F (by omega) (by omega)), if_pos ⟨c, c2⟩]
        · rw [if_neg (by rw [ma_eqF c (by omega) (by omega)]; exact not_false), if_neg (fun hh => c hh.1)]
      rw [hf, hJ18, hJ18]
      by_cases c : Y k 11 < Y (tE T k i) 11
      · rw [if_neg (show ¬ (Y (tE T k i) 11 = Y k 11 ∧ ¬ Y k 8 ≤ Y (tE T k i) 7 + Y (tE T k i) 8) by omega), if_pos (Or.inl c), if_pos (Or.inl c)]
      · by_cases c2 : Y (tE T k i) 11 = Y k 11 ∧ Y (tE T k i) 7 + Y (tE T k i) 8 < Y k 8
        · rw [if_pos (.inr c2), if_pos ⟨c2.1, by omega⟩, if_pos (.inr (by decide))]
        · rw [if_neg (by omega), if_neg (by omega), if_neg (by rintro (h | h); exact c h; exact h rfl)]
    have hcS := (hcS False).resolve_right id
    have hgoS : ∀ S5 f, f122 S (76 + 2 * k) (76 + 2 * tE T k i) = some S5 → f118_L42 (76 + 2 * k) (G + 1) S (nI i) f = f118_L42 (76 + 2 * k) G S5 (nI (i + 1)) f := by
      intro S5 f h5
      rw [f118_L42, e1, if_neg (le_F (by omega) (by omega)), if_neg (ob_F (by omega) (by omega)), nI_clamp (by omega), rn_om_s (sk_child h1 hw hk hj), h5, Option.bind_some, nI_p1]
    have hgoM : ∀ f, f62_L49 (nI k) (G2 + 1) M (nI i) f = if Y k 11 < Y (tE T k i) 11 ∨ (Y (tE T k i) 11 = Y k 11 ∧ Y (tE T k i) 7 + Y (tE T k i) 8 < Y k 8) then f62_L49 (nI k) G2 (gpM M k (Y (tE T k i) 7 + Y (tE T k i) 8) (Y (tE T k i) 9) (Y (tE T k i) 10) (Y (tE T k i) 11)) (nI (i + 1)) f else f62_L49 (nI k) G2 M (nI (i + 1)) f := by
      intro f
      have hJ1 : f62_J99_49 M (nI k) (nI i) (nI (tE T k i)) (nI (Y (tE T k i) 7 + Y (tE T k i) 8)) (fun M v3 => f62_L49 (nI k) G2 M v3 f) f = f62_L49 (nI k) G2 (gpM M k (Y (tE T k i) 7 + Y (tE T k i) 8) (Y (tE T k i) 9) (Y (tE T k i) 10) (Y (tE T k i) 11)) (nI (i + 1)) f := by
        unfold f62_J99_49 f62_J102_49
        rw [if_neg (by decide), if_neg (ob_F (by omega) (by omega)), nI_clamp (by omega), m9, m10, m11, rf_gap (by omega), Option.bind_some, nI_p1]
      have hJ0 : f62_J101_49 M (nI k) (nI i) (nI (tE T k i)) (nI (Y (tE T k i) 7 + Y (tE T k i) 8)) (fun M v3 => f62_L49 (nI k) G2 M v3 f) f = f62_L49 (nI k) G2 M (nI (i + 1)) f := by
        unfold f62_J101_49 f62_J102_49
        rw [if_pos rfl, nI_p1]
      rw [f62_L49, if_neg (ob_F (by omega) (by omega)), nI_clamp (show k < 2 ^ 31 by omega), e2, if_neg (le_F (by omega) (by omega)), ma_child h2 hw hk hj hN, Option.bind_some, if_neg (ob_F (by omega) (by omega)), nI_clamp (show tE T k i < 2 ^ 31 by omega), hsumM, hJ1, hJ0, n11, m11, n8]
      by_cases c : Y k 11 < Y (tE T k i) 11
      · rw [if_pos (nI_lt c (by omega)), if_pos (.inl c)]
      · rw [if_neg (nI_nlt (by omega) (by omega))]
        by_cases c2 : Y (tE T k i) 11 = Y k 11
        · rw [if_pos (by rw [c2])]
          by_cases c3 : Y (tE T k i) 11 = 0
          · rw [if_pos (by rw [c3]; decide), if_neg (by omega)]
          · rw [if_neg (show ¬ nI (Y (tE T k i) 11) ≤ 0 by simp (disch := omega) only [nI_lit, nI_add, pk_sub, pk_mul, ma_neg, nI_clamp, ma_ltT, ma_ltF, ma_leT, ma_leF, ma_eqT, ma_eqF, nI_ltI, nI_leI, nI_eq, ma_obT, ma_obF, ma_enF, ma_neF, ma_nlT, ma_lnF, ma_nLT, ma_Ln, ↓reduceIte, Option.bind_some, Option.bind_none, true_and, and_true, false_and, and_false, ne_eq, not_true_eq_false, not_false_eq_true, Bool.false_eq_true, reduceCtorEq, Nat.reduceAdd, Nat.reduceMul, Nat.reduceSub])]
            by_cases c4 : Y k 8 ≤ Y (tE T k i) 7 + Y (tE T k i) 8
            · rw [if_pos (le_T c4 (by omega)), if_neg (by omega)]
            · rw [if_neg (le_F (by omega) (by omega)), if_pos (.inr ⟨c2, by omega⟩)]
        · rw [if_neg (by rw [ma_eqF c2 (by omega) (by omega)]; exact not_false), if_neg (by omega)]
    by_cases c : Y k 11 < Y (tE T k i) 11 ∨ (Y (tE T k i) 11 = Y k 11 ∧ Y (tE T k i) 7 + Y (tE T k i) 8 < Y k 8)
    · rw [if_pos c] at hcS
      have hyn : ∀ x f, x ≠ k → yG Y k (Y (tE T k i) 7 + Y (tE T k i) 8) (Y (tE T k i) 9) (Y (tE T k i) 10) (Y (tE T k i) 11) x f = Y x f := fun x f hx => yG_n (.inl hx)
      have hk2 := kr_eq (Y2 := yG Y k (Y (tE T k i) 7 + Y (tE T k i) 8) (Y (tE T k i) 9) (Y (tE T k i) 10) (Y (tE T k i) 11)) hw hk h0 (eG_K (eG_g (a := Y (tE T k i) 7 + Y (tE T k i) 8) (b := Y (tE T k i) 9) (c := Y (tE T k i) 10) (d := Y (tE T k i) 11))) (eGM_K (eGM_g (a := Y (tE T k i) 7 + Y (tE T k i) 8) (b := Y (tE T k i) 9) (c := Y (tE T k i) 10) (d := Y (tE T k i) 11))) (fun x f hx _ => hyn x f hx)
      obtain ⟨S2, M2, Y2, i1, i2, i3, i4, i5, i6, i7⟩ := ih (i + 1) G G2 _ _ _ (by omega) (by omega) (by omega) hk2 (st_eq hw hk hs (fun j hj => eG_g.1 _ _ (by omega)) (fun j hj => eGM_g.1 _ _ (by omega)) hyn) gq_g (by
        unfold GV
        rw [yG_8, yG_9, yG_10, yG_11]
        refine ⟨fun hh => by omega, c9, ?_, cF⟩
        rcases cg with cg | cg
        · exact .inl cg
        · exact .inr (by omega))
      refine ⟨S2, M2, Y2, fun f => (hgoS _ f hcS).trans (i1 f), fun f => ?_, eG_t eG_g i3, eGM_t eGM_g i4, fun x f hx => (i5 x f hx).trans (yG_n hx), i6, i7⟩
      rw [hgoM, if_pos c]; exact i2 f
    · rw [if_neg c] at hcS
      obtain ⟨S2, M2, Y2, i1, i2, i3⟩ := ih (i + 1) G G2 S M Y (by omega) (by omega) (by omega) h0 hs hg ⟨v1, v2, v3, v4⟩
      refine ⟨S2, M2, Y2, fun f => (hgoS _ f hcS).trans (i1 f), fun f => ?_, i3⟩
      rw [hgoM, if_neg c]; exact i2 f
