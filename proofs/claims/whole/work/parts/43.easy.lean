/-! 43: the calls that go through no text -/
/-- both sides answer the same, and stay as one -/
def Go (S M : rn_T) (x y : Option (Int32 × rn_T)) : Prop := ∃ r S2 M2, x = some (r, S2) ∧ y = some (r, M2) ∧ Inv S2 M2
theorem go_same {S M : rn_T} {x y : Option (Int32 × rn_T)} {r : Int32} (h : Inv S M) (e1 : x = some (r, S)) (e2 : y = some (r, M)) : Go S M x y := ⟨r, S, M, e1, e2, h⟩
theorem ma_kd5 {s : Nat} (h : s < 8) : rn_kd (5 + 2 * s) = 5 := (by decide +kernel : ∀ s, s < 8 → rn_kd (5 + 2 * s) = 5) s h
theorem ma_i0 : (0 : Int64).toInt = 0 := rfl
theorem ma_inT {n : Nat} {lo hi : Int64} (hn : n < 2 ^ 31) (h : lo.toInt ≤ n ∧ (n : Int) ≤ hi.toInt) : f29 (nI n).toInt64 lo hi = true := by
  rw [ma_in32, nI_toInt hn, decide_eq_true_iff]; exact h
theorem ma_inF {x : Int32} {lo hi : Int64} {a b : Int} (ha : lo.toInt = a) (hb : hi.toInt = b) (h : ¬ (a ≤ x.toInt ∧ x.toInt ≤ b)) : f29 x.toInt64 lo hi = false := by
  rw [ma_in32, decide_eq_false_iff_not, ha, hb]; exact h
theorem go_say {S M : rn_T} (h : Inv S M) (a b : Int32) : Go S M (f1 S a b) (f34 M a b) := by
  rcases ma_shape a with ha | ⟨s, hs, rfl⟩
  · refine go_same (r := -1) h ?_ ?_
    · unfold f1; rw [ma_f22n ha]; rfl
    · unfold f34; rw [ma_f30n ha]; rfl
  · rcases ma_rng b 33 126 (by omega) (by omega) with ⟨hb, hb2⟩ | ⟨c, hc1, hc2, rfl⟩
    · refine go_same (r := -2) h ?_ ?_
      · unfold f1
        rw [ma_f22 hs, if_pos rfl]
        rcases hb with hb | hb
        · rw [if_pos (show b < (33 : Int32) from hb)]
        · have : ¬ b ≤ (126 : Int32) := Int32.not_le.mpr hb
          rw [if_neg this]
          split <;> rfl
      · unfold f34
        rw [ma_f30 hs, if_pos rfl, ma_inF (a := 33) (b := 126) rfl rfl hb2]; rfl
    · obtain ⟨A, h1, h2, h3, h4⟩ := h
      have hn := h3.1 s hs
      by_cases hf : aN A s = 40
      · refine go_same (r := -4) ⟨A, h1, h2, h3, h4⟩ ?_ ?_
        · unfold f1
          rw [ma_f22 hs]
          simp (disch := omega) only [h1.1 s hs, nI_lit, nI_add, pk_sub, pk_mul, ma_neg, nI_clamp, ma_ltT, ma_ltF, ma_leT, ma_leF, ma_eqT, ma_eqF, nI_ltI, nI_leI, nI_eq, ma_obT, ma_obF, ma_enF, ma_neF, ma_nlT, ma_lnF, ma_nLT, ma_Ln, ↓reduceIte, Option.bind_some, Option.bind_none, true_and, and_true, false_and, and_false, ne_eq, not_true_eq_false, not_false_eq_true, Bool.false_eq_true, reduceCtorEq, Nat.reduceAdd, Nat.reduceMul, Nat.reduceSub]
        · unfold f34
          rw [ma_f30 hs, ma_inT (n := c) (lo := 33) (hi := 126) (by omega) ⟨show (33 : Int) ≤ c by omega, show (c : Int) ≤ 126 by omega⟩]
          simp (disch := omega) only [h2.1 s hs, nI_lit, nI_add, pk_sub, pk_mul, ma_neg, nI_clamp, ma_ltT, ma_ltF, ma_leT, ma_leF, ma_eqT, ma_eqF, nI_ltI, nI_leI, nI_eq, ma_obT, ma_obF, ma_enF, ma_neF, ma_nlT, ma_lnF, ma_nLT, ma_Ln, ↓reduceIte, Option.bind_some, Option.bind_none, true_and, and_true, false_and, and_false, ne_eq, not_true_eq_false, not_false_eq_true, Bool.false_eq_true, reduceCtorEq, Nat.reduceAdd, Nat.reduceMul, Nat.reduceSub]
      · refine ⟨nI (aN A s + 1), wI (wA S (6 + 2 * s) (aN A s) (nI c)) (5 + 2 * s) 1 (nI (aN A s + 1)), wA (wA M 319 (40 * s + aN A s) (nI c)) 320 s (nI (aN A s + 1)), ?_, ?_, ?_⟩
        · unfold f1 f140
          rw [ma_f22 hs]
          simp (disch := omega) only [h1.1 s hs, ma_kd5 hs, show 5 + 2 * s + 1 = 6 + 2 * s from by omega, nI_lit, nI_add, pk_sub, pk_mul, ma_neg, nI_clamp, ma_ltT, ma_ltF, ma_leT, ma_leF, ma_eqT, ma_eqF, nI_ltI, nI_leI, nI_eq, ma_obT, ma_obF, ma_enF, ma_neF, ma_nlT, ma_lnF, ma_nLT, ma_Ln, ↓reduceIte, Option.bind_some, Option.bind_none, true_and, and_true, false_and, and_false, ne_eq, not_true_eq_false, not_false_eq_true, Bool.false_eq_true, reduceCtorEq, Nat.reduceAdd, Nat.reduceMul, Nat.reduceSub, ra_I, ra_In, ra_A, ra_An, ra_IA, ra_IL, ra_IR, ra_IP, ra_AI, ra_AL, ra_AR, ra_AP, ra_L, ra_Ln, ra_LI, ra_LA, ra_LR, ra_LP, ra_R, ra_Rn, ra_RI, ra_RA, ra_RL, ra_RP, ra_P, ra_Pn, ra_PI, ra_PA, ra_PL, ra_PR]
        · unfold f34
          rw [ma_f30 hs, ma_inT (n := c) (lo := 33) (hi := 126) (by omega) ⟨show (33 : Int) ≤ c by omega, show (c : Int) ≤ 126 by omega⟩]
          simp (disch := omega) only [h2.1 s hs, nI_lit, nI_add, pk_sub, pk_mul, ma_neg, nI_clamp, ma_ltT, ma_ltF, ma_leT, ma_leF, ma_eqT, ma_eqF, nI_ltI, nI_leI, nI_eq, ma_obT, ma_obF, ma_enF, ma_neF, ma_nlT, ma_lnF, ma_nLT, ma_Ln, ↓reduceIte, Option.bind_some, Option.bind_none, true_and, and_true, false_and, and_false, ne_eq, not_true_eq_false, not_false_eq_true, Bool.false_eq_true, reduceCtorEq, Nat.reduceAdd, Nat.reduceMul, Nat.reduceSub, ra_I, ra_In, ra_A, ra_An, ra_IA, ra_IL, ra_IR, ra_IP, ra_AI, ra_AL, ra_AR, ra_AP, ra_L, ra_Ln, ra_LI, ra_LA, ra_LR, ra_LP, ra_R, ra_Rn, ra_RI, ra_RA, ra_RL, ra_RP, ra_P, ra_Pn, ra_PI, ra_PA, ra_PL, ra_PR]
        · refine ⟨sN (sC A s (aN A s) c) s (aN A s + 1), ps_N (ps_C h1 hs) hs, pm_N (pm_C h2 (by omega)), ok_N (ok_C h3 hc1 hc2) (by omega) (fun _ i hi => ?_), im_eq h4 (eq_t (eq_A (by omega)) (eq_I (by omega))) (eq_t (eq_A (by omega)) (eq_A (by omega)))⟩
          simp only [sC, aC, true_and]
          by_cases e : i = aN A s
          · rw [if_pos e]; exact hc1
          · rw [if_neg e]; exact h3.2.2.1 s hs i (by omega)
theorem go_wipe {S M : rn_T} (h : Inv S M) (a : Int32) : Go S M (f2 S a) (f35 M a) := by
  rcases ma_shape a with ha | ⟨s, hs, rfl⟩
  · refine go_same (r := -1) h ?_ ?_
    · unfold f2; rw [ma_f22n ha]; rfl
    · unfold f35; rw [ma_f30n ha]; rfl
  · obtain ⟨A, h1, h2, h3, h4⟩ := h
    refine ⟨nI (aN A s), wI S (5 + 2 * s) 1 (nI 0), wA M 320 s (nI 0), ?_, ?_, ?_⟩
    · unfold f2
      rw [ma_f22 hs]
      simp (disch := omega) only [h1.1 s hs, nI_lit, nI_add, pk_sub, pk_mul, ma_neg, nI_clamp, ma_ltT, ma_ltF, ma_leT, ma_leF, ma_eqT, ma_eqF, nI_ltI, nI_leI, nI_eq, ma_obT, ma_obF, ma_enF, ma_neF, ma_nlT, ma_lnF, ma_nLT, ma_Ln, ↓reduceIte, Option.bind_some, Option.bind_none, true_and, and_true, false_and, and_false, ne_eq, not_true_eq_false, not_false_eq_true, Bool.false_eq_true, reduceCtorEq, Nat.reduceAdd, Nat.reduceMul, Nat.reduceSub]
    · unfold f35
      rw [ma_f30 hs]
      simp (disch := omega) only [h2.1 s hs, nI_lit, nI_add, pk_sub, pk_mul, ma_neg, nI_clamp, ma_ltT, ma_ltF, ma_leT, ma_leF, ma_eqT, ma_eqF, nI_ltI, nI_leI, nI_eq, ma_obT, ma_obF, ma_enF, ma_neF, ma_nlT, ma_lnF, ma_nLT, ma_Ln, ↓reduceIte, Option.bind_some, Option.bind_none, true_and, and_true, false_and, and_false, ne_eq, not_true_eq_false, not_false_eq_true, Bool.false_eq_true, reduceCtorEq, Nat.reduceAdd, Nat.reduceMul, Nat.reduceSub]
    · exact ⟨sN A s 0, ps_N h1 hs, pm_N h2, ok_N h3 (by omega) (fun _ i hi => by omega), im_eq h4 (eq_I (by omega)) (eq_A (by omega))⟩
theorem go_way {S M : rn_T} (h : Inv S M) (a : Int32) : Go S M (f4 S a) (f45 M a) := by
  rcases ma_rng a 0 1 (by omega) (by omega) with ⟨hb, hb2⟩ | ⟨c, hc1, hc2, rfl⟩
  · refine go_same (r := -2) h ?_ ?_
    · unfold f4
      rcases hb with hb | hb
      · rw [if_pos (show a < (0 : Int32) from hb)]
      · have : ¬ a ≤ (1 : Int32) := Int32.not_le.mpr hb
        rw [if_neg this]
        split <;> rfl
    · unfold f45
      rw [ma_inF (a := 0) (b := 1) rfl rfl hb2]; rfl
  · obtain ⟨A, h1, h2, h3, h4⟩ := h
    refine ⟨nI (aW A), wI S 1 4 (nI c), wI M 318 2 (nI c), ?_, ?_, ?_⟩
    · unfold f4
      simp (disch := omega) only [h1.2.2.2.2.2, nI_lit, nI_add, pk_sub, pk_mul, ma_neg, nI_clamp, ma_ltT, ma_ltF, ma_leT, ma_leF, ma_eqT, ma_eqF, nI_ltI, nI_leI, nI_eq, ma_obT, ma_obF, ma_enF, ma_neF, ma_nlT, ma_lnF, ma_nLT, ma_Ln, ↓reduceIte, Option.bind_some, Option.bind_none, true_and, and_true, false_and, and_false, ne_eq, not_true_eq_false, not_false_eq_true, Bool.false_eq_true, reduceCtorEq, Nat.reduceAdd, Nat.reduceMul, Nat.reduceSub]
    · unfold f45
      rw [ma_inT (n := c) (lo := 0) (hi := 1) (by omega) ⟨show (0 : Int) ≤ c by omega, show (c : Int) ≤ 1 by omega⟩]
      simp (disch := omega) only [h2.2.2.2.2.2, nI_lit, nI_add, pk_sub, pk_mul, ma_neg, nI_clamp, ma_ltT, ma_ltF, ma_leT, ma_leF, ma_eqT, ma_eqF, nI_ltI, nI_leI, nI_eq, ma_obT, ma_obF, ma_enF, ma_neF, ma_nlT, ma_lnF, ma_nLT, ma_Ln, ↓reduceIte, Option.bind_some, Option.bind_none, true_and, and_true, false_and, and_false, ne_eq, not_true_eq_false, not_false_eq_true, Bool.false_eq_true, reduceCtorEq, Nat.reduceAdd, Nat.reduceMul, Nat.reduceSub]
    · exact ⟨sW A c, ps_W h1, pm_W h2, ok_W h3 (by omega), im_eq h4 (eq_I (by omega)) (eq_I (by omega))⟩
theorem go_drop {S M : rn_T} (h : Inv S M) : Go S M (f12 S) (f85 M) := by
  obtain ⟨A, h1, h2, h3, h4⟩ := h
  refine ⟨nI (aK A), wI S 1 3 (nI 0), wI M 318 33 (nI 0), ?_, ?_, ?_⟩
  · unfold f12
    simp (disch := omega) only [h1.2.2.2.1, nI_lit, nI_add, pk_sub, pk_mul, ma_neg, nI_clamp, ma_ltT, ma_ltF, ma_leT, ma_leF, ma_eqT, ma_eqF, nI_ltI, nI_leI, nI_eq, ma_obT, ma_obF, ma_enF, ma_neF, ma_nlT, ma_lnF, ma_nLT, ma_Ln, ↓reduceIte, Option.bind_some, Option.bind_none, true_and, and_true, false_and, and_false, ne_eq, not_true_eq_false, not_false_eq_true, Bool.false_eq_true, reduceCtorEq, Nat.reduceAdd, Nat.reduceMul, Nat.reduceSub]
  · unfold f85
    simp (disch := omega) only [h2.2.2.2.1, nI_lit, nI_add, pk_sub, pk_mul, ma_neg, nI_clamp, ma_ltT, ma_ltF, ma_leT, ma_leF, ma_eqT, ma_eqF, nI_ltI, nI_leI, nI_eq, ma_obT, ma_obF, ma_enF, ma_neF, ma_nlT, ma_lnF, ma_nLT, ma_Ln, ↓reduceIte, Option.bind_some, Option.bind_none, true_and, and_true, false_and, and_false, ne_eq, not_true_eq_false, not_false_eq_true, Bool.false_eq_true, reduceCtorEq, Nat.reduceAdd, Nat.reduceMul, Nat.reduceSub]
  · exact ⟨sK A 0, ps_K h1, pm_K h2, ok_K h3 (by omega), im_eq h4 (eq_I (by omega)) (eq_I (by omega))⟩
theorem go_poke {S M : rn_T} (h : Inv S M) (a b : Int32) : Go S M (f17 S a b) (f101 M a b) := by
  rcases ma_rng a 0 95 (by omega) (by omega) with ⟨ha, ha2⟩ | ⟨p, hp1, hp2, rfl⟩
  · refine go_same (r := -2) h ?_ ?_
    · unfold f17
      rcases ha with ha | ha
      · rw [if_pos (show a < (0 : Int32) from ha)]
      · have : (96 : Int32) ≤ a := by
          have e : (nI 95).toInt = 95 := rfl
          have e2 : (96 : Int32).toInt = 96 := rfl
          rw [Int32.lt_iff_toInt_lt] at ha
          rw [Int32.le_iff_toInt_le]; omega
        rw [if_pos this]
        split <;> rfl
    · unfold f101
      rw [ma_inF (a := 0) (b := 95) rfl rfl ha2]; rfl
  · rcases ma_rng b 0 255 (by omega) (by omega) with ⟨hb, hb2⟩ | ⟨v, hv1, hv2, rfl⟩
    · refine go_same (r := -2) h ?_ ?_
      · unfold f17
        rcases hb with hb | hb
        · rw [if_pos (show b < (0 : Int32) from hb)]
          simp (disch := omega) only [nI_lit, nI_add, pk_sub, pk_mul, ma_neg, nI_clamp, ma_ltT, ma_ltF, ma_leT, ma_leF, ma_eqT, ma_eqF, nI_ltI, nI_leI, nI_eq, ma_obT, ma_obF, ma_enF, ma_neF, ma_nlT, ma_lnF, ma_nLT, ma_Ln, ↓reduceIte, Option.bind_some, Option.bind_none, true_and, and_true, false_and, and_false, ne_eq, not_true_eq_false, not_false_eq_true, Bool.false_eq_true, reduceCtorEq, Nat.reduceAdd, Nat.reduceMul, Nat.reduceSub]
        · have : ¬ b ≤ (255 : Int32) := Int32.not_le.mpr hb
          rw [if_neg this]
          simp (disch := omega) only [nI_lit, nI_add, pk_sub, pk_mul, ma_neg, nI_clamp, ma_ltT, ma_ltF, ma_leT, ma_leF, ma_eqT, ma_eqF, nI_ltI, nI_leI, nI_eq, ma_obT, ma_obF, ma_enF, ma_neF, ma_nlT, ma_lnF, ma_nLT, ma_Ln, ↓reduceIte, Option.bind_some, Option.bind_none, true_and, and_true, false_and, and_false, ne_eq, not_true_eq_false, not_false_eq_true, Bool.false_eq_true, reduceCtorEq, Nat.reduceAdd, Nat.reduceMul, Nat.reduceSub]
          exact ite_self _
      · unfold f101
        rw [ma_inT (n := p) (lo := 0) (hi := 95) (by omega) ⟨show (0 : Int) ≤ p by omega, show (p : Int) ≤ 95 by omega⟩, ma_inF (a := 0) (b := 255) rfl rfl hb2]; rfl
    · obtain ⟨A, h1, h2, h3, h4⟩ := h
      refine ⟨nI (aM A p), wA S 4 p (nI v), wA M 346 p (nI v), ?_, ?_, ?_⟩
      · unfold f17
        simp (disch := omega) only [h1.2.2.2.2.1 p (by omega), nI_lit, nI_add, pk_sub, pk_mul, ma_neg, nI_clamp, ma_ltT, ma_ltF, ma_leT, ma_leF, ma_eqT, ma_eqF, nI_ltI, nI_leI, nI_eq, ma_obT, ma_obF, ma_enF, ma_neF, ma_nlT, ma_lnF, ma_nLT, ma_Ln, ↓reduceIte, Option.bind_some, Option.bind_none, true_and, and_true, false_and, and_false, ne_eq, not_true_eq_false, not_false_eq_true, Bool.false_eq_true, reduceCtorEq, Nat.reduceAdd, Nat.reduceMul, Nat.reduceSub]
      · unfold f101
        rw [ma_inT (n := p) (lo := 0) (hi := 95) (by omega) ⟨show (0 : Int) ≤ p by omega, show (p : Int) ≤ 95 by omega⟩, ma_inT (n := v) (lo := 0) (hi := 255) (by omega) ⟨show (0 : Int) ≤ v by omega, show (v : Int) ≤ 255 by omega⟩]
        simp (disch := omega) only [h2.2.2.2.2.1 p (by omega), nI_lit, nI_add, pk_sub, pk_mul, ma_neg, nI_clamp, ma_ltT, ma_ltF, ma_leT, ma_leF, ma_eqT, ma_eqF, nI_ltI, nI_leI, nI_eq, ma_obT, ma_obF, ma_enF, ma_neF, ma_nlT, ma_lnF, ma_nLT, ma_Ln, ↓reduceIte, Option.bind_some, Option.bind_none, true_and, and_true, false_and, and_false, ne_eq, not_true_eq_false, not_false_eq_true, Bool.false_eq_true, reduceCtorEq, Nat.reduceAdd, Nat.reduceMul, Nat.reduceSub]
      · exact ⟨sM A p v, ps_M h1, pm_M h2, ok_M h3 (by omega), im_eq h4 (eq_A (by omega)) (eq_A (by omega))⟩
theorem go_peek {S M : rn_T} (h : Inv S M) (a : Int32) : ∃ r, f18 S a = some r ∧ f102 M a = some r := by
  rcases ma_rng a 0 95 (by omega) (by omega) with ⟨ha, ha2⟩ | ⟨p, hp1, hp2, rfl⟩
  · refine ⟨-2, ?_, ?_⟩
    · unfold f18
      rcases ha with ha | ha
      · rw [if_pos (show a < (0 : Int32) from ha)]
      · have : ¬ a < (96 : Int32) := by
          have e : (nI 95).toInt = 95 := rfl
          have e2 : (96 : Int32).toInt = 96 := rfl
          rw [Int32.lt_iff_toInt_lt] at ha ⊢
          omega
        rw [if_neg this]
        split <;> rfl
    · unfold f102
      rw [ma_inF (a := 0) (b := 95) rfl rfl ha2]; rfl
  · obtain ⟨A, h1, h2, h3, h4⟩ := h
    refine ⟨nI (aM A p), ?_, ?_⟩
    · unfold f18
      simp (disch := omega) only [h1.2.2.2.2.1 p (by omega), nI_lit, nI_add, pk_sub, pk_mul, ma_neg, nI_clamp, ma_ltT, ma_ltF, ma_leT, ma_leF, ma_eqT, ma_eqF, nI_ltI, nI_leI, nI_eq, ma_obT, ma_obF, ma_enF, ma_neF, ma_nlT, ma_lnF, ma_nLT, ma_Ln, ↓reduceIte, Option.bind_some, Option.bind_none, true_and, and_true, false_and, and_false, ne_eq, not_true_eq_false, not_false_eq_true, Bool.false_eq_true, reduceCtorEq, Nat.reduceAdd, Nat.reduceMul, Nat.reduceSub]
    · unfold f102
      rw [ma_inT (n := p) (lo := 0) (hi := 95) (by omega) ⟨show (0 : Int) ≤ p by omega, show (p : Int) ≤ 95 by omega⟩]
      simp (disch := omega) only [h2.2.2.2.2.1 p (by omega), nI_lit, nI_add, pk_sub, pk_mul, ma_neg, nI_clamp, ma_ltT, ma_ltF, ma_leT, ma_leF, ma_eqT, ma_eqF, nI_ltI, nI_leI, nI_eq, ma_obT, ma_obF, ma_enF, ma_neF, ma_nlT, ma_lnF, ma_nLT, ma_Ln, ↓reduceIte, Option.bind_some, Option.bind_none, true_and, and_true, false_and, and_false, ne_eq, not_true_eq_false, not_false_eq_true, Bool.false_eq_true, reduceCtorEq, Nat.reduceAdd, Nat.reduceMul, Nat.reduceSub]
theorem ma_lT {n : Nat} (h : n < 2 ^ 63) : (lN n).toInt = (n : Int) := Int64.toInt_ofNat_of_lt h
theorem ma_long {x : Int64} : (x.toInt < 0 ∨ 4294967295 < x.toInt) ∨ ∃ n, n ≤ 4294967295 ∧ x = lN n := by
  by_cases h : x.toInt < 0 ∨ 4294967295 < x.toInt
  · exact .inl h
  · refine .inr ⟨x.toInt.toNat, by omega, ?_⟩
    apply Int64.toInt_inj.mp
    rw [ma_lT (by omega)]
    omega
theorem go_give {S M : rn_T} (h : Inv S M) (x : Int64) : Go S M (f11 S x) (f84 M x) := by
  have e0 : (0 : Int64).toInt = 0 := rfl
  have e1 : (4294967295 : Int64).toInt = 4294967295 := rfl
  rcases ma_long (x := x) with hx | ⟨n, hn, rfl⟩
  · refine go_same (r := -2) h ?_ ?_
    · unfold f11
      by_cases h0 : x.toInt < 0
      · rw [if_pos (ma_cmp0.mpr (by rw [e0]; exact h0))]
      · rw [if_neg (fun e => h0 (by rw [← e0]; exact ma_cmp0.mp e)), if_neg]
        have : 0 < lg_cmp x 4294967295 := ma_cmp1.mpr (by rw [e1]; omega)
        exact Int32.not_le.mpr this
    · unfold f84
      rw [ma_in, if_neg]
      rw [decide_eq_true_iff, e0, e1]; omega
  · obtain ⟨A, h1, h2, h3, h4⟩ := h
    have hx : (lN n).toInt = n := ma_lT (by omega)
    have hc0 : ¬ lg_cmp (lN n) 0 < 0 := fun e => by have := ma_cmp0.mp e; rw [e0, hx] at this; omega
    have hc1 : lg_cmp (lN n) 4294967295 ≤ 0 := by
      apply Int32.not_lt.mp
      intro e
      have := ma_cmp1.mp e
      rw [e1, hx] at this; omega
    have hi : f29 (lN n) 0 4294967295 = true := by
      rw [ma_in, decide_eq_true_iff, e0, e1, hx]; omega
    have hk := h3.2.2.2.1
    by_cases hf : aK A = 60
    · refine go_same (r := -4) ⟨A, h1, h2, h3, h4⟩ ?_ ?_
      · unfold f11
        rw [if_neg hc0, if_pos hc1]
        simp (disch := omega) only [h1.2.2.2.1, nI_lit, nI_add, pk_sub, pk_mul, ma_neg, nI_clamp, ma_ltT, ma_ltF, ma_leT, ma_leF, ma_eqT, ma_eqF, nI_ltI, nI_leI, nI_eq, ma_obT, ma_obF, ma_enF, ma_neF, ma_nlT, ma_lnF, ma_nLT, ma_Ln, ↓reduceIte, Option.bind_some, Option.bind_none, true_and, and_true, false_and, and_false, ne_eq, not_true_eq_false, not_false_eq_true, Bool.false_eq_true, reduceCtorEq, Nat.reduceAdd, Nat.reduceMul, Nat.reduceSub]
      · unfold f84
        rw [if_pos hi]
        simp (disch := omega) only [h2.2.2.2.1, nI_lit, nI_add, pk_sub, pk_mul, ma_neg, nI_clamp, ma_ltT, ma_ltF, ma_leT, ma_leF, ma_eqT, ma_eqF, nI_ltI, nI_leI, nI_eq, ma_obT, ma_obF, ma_enF, ma_neF, ma_nlT, ma_lnF, ma_nLT, ma_Ln, ↓reduceIte, Option.bind_some, Option.bind_none, true_and, and_true, false_and, and_false, ne_eq, not_true_eq_false, not_false_eq_true, Bool.false_eq_true, reduceCtorEq, Nat.reduceAdd, Nat.reduceMul, Nat.reduceSub]
    · refine ⟨nI (aK A + 1), wI (wL S 3 (aK A) (lN n)) 1 3 (nI (aK A + 1)), wI (wL M 345 (aK A) (lN n)) 318 33 (nI (aK A + 1)), ?_, ?_, ?_⟩
      · unfold f11
        rw [if_neg hc0, if_pos hc1]
        simp (disch := omega) only [h1.2.2.2.1, nI_lit, nI_add, pk_sub, pk_mul, ma_neg, nI_clamp, ma_ltT, ma_ltF, ma_leT, ma_leF, ma_eqT, ma_eqF, nI_ltI, nI_leI, nI_eq, ma_obT, ma_obF, ma_enF, ma_neF, ma_nlT, ma_lnF, ma_nLT, ma_Ln, ↓reduceIte, Option.bind_some, Option.bind_none, true_and, and_true, false_and, and_false, ne_eq, not_true_eq_false, not_false_eq_true, Bool.false_eq_true, reduceCtorEq, Nat.reduceAdd, Nat.reduceMul, Nat.reduceSub, ra_I, ra_In, ra_A, ra_An, ra_IA, ra_IL, ra_IR, ra_IP, ra_AI, ra_AL, ra_AR, ra_AP, ra_L, ra_Ln, ra_LI, ra_LA, ra_LR, ra_LP, ra_R, ra_Rn, ra_RI, ra_RA, ra_RL, ra_RP, ra_P, ra_Pn, ra_PI, ra_PA, ra_PL, ra_PR]
      · unfold f84
        rw [if_pos hi]
        simp (disch := omega) only [h2.2.2.2.1, nI_lit, nI_add, pk_sub, pk_mul, ma_neg, nI_clamp, ma_ltT, ma_ltF, ma_leT, ma_leF, ma_eqT, ma_eqF, nI_ltI, nI_leI, nI_eq, ma_obT, ma_obF, ma_enF, ma_neF, ma_nlT, ma_lnF, ma_nLT, ma_Ln, ↓reduceIte, Option.bind_some, Option.bind_none, true_and, and_true, false_and, and_false, ne_eq, not_true_eq_false, not_false_eq_true, Bool.false_eq_true, reduceCtorEq, Nat.reduceAdd, Nat.reduceMul, Nat.reduceSub, ra_I, ra_In, ra_A, ra_An, ra_IA, ra_IL, ra_IR, ra_IP, ra_AI, ra_AL, ra_AR, ra_AP, ra_L, ra_Ln, ra_LI, ra_LA, ra_LR, ra_LP, ra_R, ra_Rn, ra_RI, ra_RA, ra_RL, ra_RP, ra_P, ra_Pn, ra_PI, ra_PA, ra_PL, ra_PR]
      · exact ⟨sK (sL A (aK A) n) (aK A + 1), ps_K (ps_L h1), pm_K (pm_L h2), ok_K (ok_L h3 hn) (by omega), im_eq h4 (eq_t (eq_L (by omega)) (eq_I (by omega))) (eq_t (eq_L (by omega)) (eq_I (by omega)))⟩
theorem go_given {S M : rn_T} (h : Inv S M) (a : Int32) : ∃ r, f13 S a = some r ∧ f86 M a = some r := by
  obtain ⟨A, h1, h2, h3, h4⟩ := h
  have hk := h3.2.2.2.1
  by_cases hm : a = -1
  · subst hm
    refine ⟨lN (aK A), ?_, ?_⟩
    · unfold f13
      rw [if_pos rfl, h1.2.2.2.1, nI_l (by omega)]
    · unfold f86
      rw [if_pos rfl, h2.2.2.2.1, nI_l (by omega)]
  · by_cases h0 : a < 0
    · refine ⟨-6, ?_, ?_⟩
      · unfold f13
        rw [if_neg hm, if_pos h0]
      · unfold f86
        rw [if_neg hm, if_neg]
        rw [ma_in32, decide_eq_true_iff]
        rw [Int32.lt_iff_toInt_lt] at h0
        have e0 : (0 : Int64).toInt = 0 := rfl
        have e1 : (0 : Int32).toInt = 0 := rfl
        omega
    · obtain ⟨j, hj, rfl⟩ := nI_of h0
      by_cases hl : j < aK A
      · refine ⟨lN (aL A j), ?_, ?_⟩
        · unfold f13
          rw [if_neg hm]
          simp (disch := omega) only [h1.2.2.2.1, h1.2.2.1 j (by omega), nI_lit, nI_add, pk_sub, pk_mul, ma_neg, nI_clamp, ma_ltT, ma_ltF, ma_leT, ma_leF, ma_eqT, ma_eqF, nI_ltI, nI_leI, nI_eq, ma_obT, ma_obF, ma_enF, ma_neF, ma_nlT, ma_lnF, ma_nLT, ma_Ln, ↓reduceIte, Option.bind_some, Option.bind_none, true_and, and_true, false_and, and_false, ne_eq, not_true_eq_false, not_false_eq_true, Bool.false_eq_true, reduceCtorEq, Nat.reduceAdd, Nat.reduceMul, Nat.reduceSub]
        · unfold f86
          rw [if_neg hm, h2.2.2.2.1]
          have : f29 (nI j).toInt64 0 (Int32.toInt64 (nI (aK A) - 1)) = true := by
            rw [ma_in32, decide_eq_true_iff, Int32.toInt_toInt64, nI_toInt hj, show nI (aK A) - 1 = nI (aK A - 1) from pk_sub (b := 1) (by omega), nI_toInt (by omega)]
            have e0 : (0 : Int64).toInt = 0 := rfl
            omega
          rw [if_pos this]
          simp (disch := omega) only [h2.2.2.1 j (by omega), nI_lit, nI_add, pk_sub, pk_mul, ma_neg, nI_clamp, ma_ltT, ma_ltF, ma_leT, ma_leF, ma_eqT, ma_eqF, nI_ltI, nI_leI, nI_eq, ma_obT, ma_obF, ma_enF, ma_neF, ma_nlT, ma_lnF, ma_nLT, ma_Ln, ↓reduceIte, Option.bind_some, Option.bind_none, true_and, and_true, false_and, and_false, ne_eq, not_true_eq_false, not_false_eq_true, Bool.false_eq_true, reduceCtorEq, Nat.reduceAdd, Nat.reduceMul, Nat.reduceSub]
      · refine ⟨-6, ?_, ?_⟩
        · unfold f13
          rw [if_neg hm]
          simp (disch := omega) only [h1.2.2.2.1, nI_lit, nI_add, pk_sub, pk_mul, ma_neg, nI_clamp, ma_ltT, ma_ltF, ma_leT, ma_leF, ma_eqT, ma_eqF, nI_ltI, nI_leI, nI_eq, ma_obT, ma_obF, ma_enF, ma_neF, ma_nlT, ma_lnF, ma_nLT, ma_Ln, ↓reduceIte, Option.bind_some, Option.bind_none, true_and, and_true, false_and, and_false, ne_eq, not_true_eq_false, not_false_eq_true, Bool.false_eq_true, reduceCtorEq, Nat.reduceAdd, Nat.reduceMul, Nat.reduceSub]
        · unfold f86
          rw [if_neg hm, h2.2.2.2.1]
          have : ¬ f29 (nI j).toInt64 0 (Int32.toInt64 (nI (aK A) - 1)) = true := by
            rw [ma_in32, decide_eq_true_iff, Int32.toInt_toInt64, nI_toInt hj]
            have e0 : (0 : Int64).toInt = 0 := rfl
            have e1 : (nI (aK A) - 1).toInt = (aK A : Int) - 1 := pk_sub_toInt (b := 1) (by omega) (by omega)
            rw [e0, e1]
            omega
          rw [if_neg this]
