/-! 85: term, variant, pattern -/
theorem ma_noL {M : rn_T} {T : rn_TR} {k : Nat} {x : Int32} {f : rn_T → Option Int32} (h : MB M T) (hw : TW T) (hk : k < tN T) (hN : tN T ≤ 100) (hx : ∀ j, j < tC T k → nI j ≠ x) : ∀ d fu e, e + d = tN T → k < e → d < fu → f57_L4 (nI k) x fu M (nI e) f = f M := by
  have hm := h.1
  intro d
  induction d with
  | zero =>
    intro fu e he hke hf
    obtain ⟨G, rfl⟩ : ∃ G, fu = G + 1 := ⟨fu - 1, by omega⟩
    rw [f57_L4, hm, if_pos (le_T (by omega) (by omega))]
  | succ d ih =>
    intro fu e he hke hf
    obtain ⟨G, rfl⟩ : ∃ G, fu = G + 1 := ⟨fu - 1, by omega⟩
    obtain ⟨b1, b2, b3, b4, b5⟩ := h.2 e (by omega)
    rw [if_neg (by omega)] at b3
    have u := hw.2.1 e (by omega) (by omega)
    rw [f57_L4, hm, if_neg (le_F (by omega) (by omega)), if_neg (ob_F (by omega) (by omega)), nI_clamp (by omega), b3, b4, nI_p1, ih G (e + 1) (by omega) (by omega) (by omega)]
    by_cases c1 : tP T e = k
    · have h2 := hx (tI T e) (by rw [← c1]; exact u.2.1)
      rw [if_neg h2, ite_self]
    · rw [if_neg (show ¬ nI (tP T e) = nI k by simp (disch := omega) only [nI_lit, nI_add, pk_sub, pk_mul, ma_neg, nI_clamp, ma_ltT, ma_ltF, ma_leT, ma_leF, ma_eqT, ma_eqF, nI_ltI, nI_leI, nI_eq, ma_obT, ma_obF, ma_enF, ma_neF, ma_nlT, ma_lnF, ma_nLT, ma_Ln, ↓reduceIte, Option.bind_some, Option.bind_none, true_and, and_true, false_and, and_false, ne_eq, not_true_eq_false, not_false_eq_true, Bool.false_eq_true, reduceCtorEq, Nat.reduceAdd, Nat.reduceMul, Nat.reduceSub])]
theorem ma_no {M : rn_T} {T : rn_TR} {k : Nat} {x : Int32} (h : MB M T) (hw : TW T) (hk : k < tN T) (hN : tN T ≤ 100) (hx : ∀ j, j < tC T k → nI j ≠ x) : f57 M (nI k) x = some (-6 : Int32) := by
  unfold f57
  rw [nI_p1]
  exact ma_noL h hw hk hN hx (tN T - (k + 1)) rn_FU (k + 1) (by omega) (by omega) (by unfold rn_FU; omega)
/-- a place among so many, or none -/
theorem ma_among (x : Int32) (n : Nat) (hn : n < 100) : (∃ j, j < n ∧ x = nI j) ∨ ((x < 0 ∨ ¬ x < nI n) ∧ ∀ j, j < n → nI j ≠ x) := by
  by_cases c : x < 0
  · refine .inr ⟨.inl c, fun j hj e => ?_⟩
    rw [← e] at c
    exact nI_pos (by omega) c
  · obtain ⟨j, hj, rfl⟩ := nI_of c
    by_cases c2 : j < n
    · exact .inl ⟨j, c2, rfl⟩
    · exact .inr ⟨.inr (nI_nlt (by omega) (by omega)), fun i hi e => by have := (nI_eq (show i < 2 ^ 31 by omega) hj).mp e; omega⟩
theorem go_term {S M : rn_T} (h : Inv S M) (x u i w : Int32) : Go S M (f6 S x u i w) (f75 M x u i w) := by
  rcases ma_what w 3 (by omega) with ⟨h1, h2⟩ | ⟨n, hn, rfl, h1⟩
  · have e1 : f6 S x u i w = Option.bind (f23 S x u) fun p1 => if p1 = true then some ((-2 : Int32), S) else some ((-1 : Int32), S) := by
      unfold f6
      by_cases c : w < 0
      · simp only [if_pos c]
      · have c2 : ¬ w ≤ (3 : Int32) := h2.resolve_left c
        simp only [if_neg c, if_neg c2]
    have e2 : f75 M x u i w = Option.bind (f46 M x u) fun p1 => if p1 = true then some ((-2 : Int32), M) else some ((-1 : Int32), M) := by
      have h1 : f29 w.toInt64 (0 : Int64) (3 : Int64) = false := h1
      unfold f75
      simp only [h1, Bool.false_eq_true, if_false]
    rw [e1, e2]
    exact go_out h x u
  · have h1 : f29 (nI n).toInt64 (0 : Int64) (3 : Int64) = true := h1
    have hg := go_tree h x u (f := fun S => if i < 0 then some ((-6 : Int32), S) else if rn_kd (f154 S) = 3 then if i < (rI S (f154 S) 1) then if rn_ob i 6 then none else rn_om (rP S ((f154 S) + 1) (Int32.toNatClampNeg i)) (none) fun r12 => if nI n = 0 then if rn_kd r12 = 3 then some ((rI S r12 7), S) else none else if nI n = (1 : Int32) then if rn_kd r12 = 3 then some ((rI S r12 5), S) else none else if nI n = (2 : Int32) then if rn_kd r12 = 3 then some ((rI S r12 6), S) else none else if rn_kd r12 = 3 then some ((rI S r12 4), S) else none else some ((-6 : Int32), S) else none) (g := fun M => if (rA M 322 (Int32.toNatClampNeg (0 : Int32))) < (5 : Int32) then f75_J37 M (nI n) (-6 : Int32) else Option.bind (f57 M (0 : Int32) i) fun p10 => f75_J37 M (nI n) p10) (by
      intro A S2 M2 T Y p1 p2 ho p3 hf hl
      obtain ⟨hw, hN1, hN, hc⟩ := id hf
      have h0 : 0 < tN T := by omega
      obtain ⟨-, r1, r2, r3, r4, -, -⟩ := lt_root hf hl
      have hinv : Inv S2 M2 := ⟨A, p1, p2, ho, p3⟩
      have h76 : f154 S2 = 76 := rfl
      have hkd : rn_kd 76 = 3 := ma_kd3 (i := 0) (by omega)
      have h00 : Int32.toNatClampNeg (0 : Int32) = 0 := rfl
      have hno : f75_J37 M2 (nI n) (-6 : Int32) = some ((-6 : Int32), M2) := by
        unfold f75_J37
        rw [if_neg (by decide)]
      have w1 := hw.1 0 h0
      simp only [h76, hkd, if_true, h00, r2, r3]
      rcases ma_among i (tC T 0) (by omega) with ⟨j, hj, rfl⟩ | ⟨c1, c2⟩
      · have hk5 : 5 ≤ tK T 0 := by
          have := w1.2.1
          omega
        obtain ⟨g1, g2, g3, g4⟩ := hw.2.2 0 j h0 hj
        have hk4 := ma_kd3 (show tE T 0 j < 100 by omega)
        have hch : rP S2 (76 + 1) j = some (76 + 2 * tE T 0 j) := sk_child hl.1.1.1 hw h0 hj
        have hM57 : f57 M2 (0 : Int32) (nI j) = some (nI (tE T 0 j)) := ma_child hl.1.2.1.1 hw h0 hj hN
        have s5 := hl.1.1.2.1 _ g2 (.inl (Nat.zero_le _)) 5 (by unfold fK; omega)
        have s6 := hl.1.1.2.1 _ g2 (.inl (Nat.zero_le _)) 6 (by unfold fK; omega)
        have s7 := hl.1.1.2.2.1 _ (by omega) g2 (Nat.zero_le _)
        have s4 := (hl.1.1.1.2.1 _ g2).2.1
        have m5 : rA M2 334 (tE T 0 j) = _ := hl.1.2.1.2.1 _ g2 (Nat.zero_le _) 5 (by unfold fK; omega)
        have m6 : rA M2 335 (tE T 0 j) = _ := hl.1.2.1.2.1 _ g2 (Nat.zero_le _) 6 (by unfold fK; omega)
        have m7 := hl.1.2.1.2.2.1 _ (by omega) g2 (Nat.zero_le _)
        have m4 := (hl.1.2.1.1.2 _ g2).1
        have hJ : ∀ p : Int32, p = nI (tE T 0 j) → f75_J37 M2 (nI n) p = Option.bind (f74 M2 (nI (tE T 0 j)) (nI n)) fun p9 => some (p9, M2) := by
          intro p hp
          unfold f75_J37
          rw [hp, if_pos (by simp (disch := omega) only [nI_lit, nI_add, pk_sub, pk_mul, ma_neg, nI_clamp, ma_ltT, ma_ltF, ma_leT, ma_leF, ma_eqT, ma_eqF, nI_ltI, nI_leI, nI_eq, ma_obT, ma_obF, ma_enF, ma_neF, ma_nlT, ma_lnF, ma_nLT, ma_Ln, ↓reduceIte, Option.bind_some, Option.bind_none, true_and, and_true, false_and, and_false, ne_eq, not_true_eq_false, not_false_eq_true, Bool.false_eq_true, reduceCtorEq, Nat.reduceAdd, Nat.reduceMul, Nat.reduceSub])]
        rw [if_neg (nI_pos (by omega)), if_pos (nI_lt hj (by omega)), if_neg (ob_F (by omega) (by omega)), nI_clamp (by omega), rn_om_s hch, if_neg (show ¬ nI (tK T 0) < (5 : Int32) from nI_nlt (show 5 ≤ tK T 0 from hk5) (by omega)), hM57, Option.bind_some, hJ _ rfl]
        simp only [hk4, if_true]
        unfold f74
        rw [if_neg (ob_F (by omega) (by omega)), if_neg (ob_F (by omega) (by omega)), if_neg (ob_F (by omega) (by omega)), if_neg (ob_F (by omega) (by omega)), nI_clamp (by omega), s4, s5, s6, s7, m4, m5, m6, m7]
        have hc : n = 0 ∨ n = 1 ∨ n = 2 ∨ n = 3 := by omega
        rcases hc with rfl | rfl | rfl | rfl
        · exact ⟨_, S2, M2, rfl, rfl, hinv⟩
        · exact ⟨_, S2, M2, rfl, rfl, hinv⟩
        · exact ⟨_, S2, M2, rfl, rfl, hinv⟩
        · exact ⟨_, S2, M2, rfl, rfl, hinv⟩
      · have hM57 : f57 M2 (0 : Int32) i = some (-6 : Int32) := ma_no hl.1.2.1.1 hw h0 hN c2
        refine ⟨-6, S2, M2, ?_, ?_, hinv⟩
        · by_cases c : i < 0
          · rw [if_pos c]
          · rw [if_neg c, if_neg (c1.resolve_left c)]
        · rw [hM57, Option.bind_some, hno, ite_self])
    have e1 : f6 S x u i (nI n) = cS S x u (fun S => if i < 0 then some ((-6 : Int32), S) else if rn_kd (f154 S) = 3 then if i < (rI S (f154 S) 1) then if rn_ob i 6 then none else rn_om (rP S ((f154 S) + 1) (Int32.toNatClampNeg i)) (none) fun r12 => if nI n = 0 then if rn_kd r12 = 3 then some ((rI S r12 7), S) else none else if nI n = (1 : Int32) then if rn_kd r12 = 3 then some ((rI S r12 5), S) else none else if nI n = (2 : Int32) then if rn_kd r12 = 3 then some ((rI S r12 6), S) else none else if rn_kd r12 = 3 then some ((rI S r12 4), S) else none else some ((-6 : Int32), S) else none) := by
      have c : ¬ nI n < 0 := nI_pos (by omega)
      have c2 : nI n ≤ (3 : Int32) := nI_le (show n ≤ 3 from hn) (show 3 < 2 ^ 31 by omega)
      unfold f6 cS
      simp only [if_neg c, if_pos c2]
    have e2 : f75 M x u i (nI n) = cM M x u (fun M => if (rA M 322 (Int32.toNatClampNeg (0 : Int32))) < (5 : Int32) then f75_J37 M (nI n) (-6 : Int32) else Option.bind (f57 M (0 : Int32) i) fun p10 => f75_J37 M (nI n) p10) := by
      unfold f75 cM
      simp only [h1, if_true]
    rw [e1, e2]
    exact hg
theorem lt_var {S M : rn_T} {T : rn_TR} {Y : rn_LY} (hf : FT T) (h : LT S M T Y) (hk : tK T 0 = 6) : LV S M T Y 0 := h.1.2.2.1 0 (by have := hf.2.1; omega) (Nat.zero_le _) hk
theorem go_variant {S M : rn_T} (h : Inv S M) (x u w : Int32) : Go S M (f7 S x u w) (f76 M x u w) := by
  rcases ma_what w 1 (by omega) with ⟨h1, h2⟩ | ⟨n, hn, rfl, h1⟩
  · have e1 : f7 S x u w = Option.bind (f23 S x u) fun p1 => if p1 = true then some ((-2 : Int32), S) else some ((-1 : Int32), S) := by
      unfold f7
      by_cases c : w < 0
      · simp only [if_pos c]
      · have c2 : ¬ w ≤ (1 : Int32) := h2.resolve_left c
        simp only [if_neg c, if_neg c2]
    have e2 : f76 M x u w = Option.bind (f46 M x u) fun p1 => if p1 = true then some ((-2 : Int32), M) else some ((-1 : Int32), M) := by
      have h1 : f29 w.toInt64 (0 : Int64) (1 : Int64) = false := h1
      unfold f76
      simp only [h1, Bool.false_eq_true, if_false]
    rw [e1, e2]
    exact go_out h x u
  · have h1 : f29 (nI n).toInt64 (0 : Int64) (1 : Int64) = true := h1
    have hg := go_tree h x u (f := fun S => if rn_kd (f154 S) = 3 then if (rI S (f154 S) 4) = (6 : Int32) then if nI n = 0 then some ((rI S (f154 S) 12), S) else if (rI S (f154 S) 12) = (1 : Int32) then some ((rI S (f154 S) 13), S) else some ((-6 : Int32), S) else some ((-6 : Int32), S) else none) (g := fun M => if (rA M 322 (Int32.toNatClampNeg (0 : Int32))) = (6 : Int32) then if nI n = 0 then some ((rA M 341 (Int32.toNatClampNeg (0 : Int32))), M) else if (rA M 341 (Int32.toNatClampNeg (0 : Int32))) = (1 : Int32) then some ((rA M 342 (Int32.toNatClampNeg (0 : Int32))), M) else some ((-6 : Int32), M) else some ((-6 : Int32), M)) (by
      intro A S2 M2 T Y p1 p2 ho p3 hf hl
      obtain ⟨-, r1, r2, r3, r4, -, -⟩ := lt_root hf hl
      have hinv : Inv S2 M2 := ⟨A, p1, p2, ho, p3⟩
      have h76 : f154 S2 = 76 := rfl
      have hkd : rn_kd 76 = 3 := ma_kd3 (i := 0) (by omega)
      have h00 : Int32.toNatClampNeg (0 : Int32) = 0 := rfl
      have hK6 : tK T 0 ≤ 6 := (hf.1.1 0 (by have := hf.2.1; omega)).1
      simp only [h76, hkd, if_true, h00, r1, r2]
      by_cases c6 : tK T 0 = 6
      · have c7 : nI (tK T 0) = (6 : Int32) := by rw [c6]; rfl
        obtain ⟨v1, v2, v3, v4, -, v6, -⟩ := lt_var hf hl c6
        have v1 : rI S2 76 12 = nI (Y 0 12) := v1
        have v4 : Y 0 12 = 1 → rI S2 76 13 = nI (Y 0 13) := v4
        rw [if_pos c7, if_pos c7, v1, v2, v3]
        by_cases cn : nI n = 0
        · rw [if_pos cn, if_pos cn]; exact ⟨_, S2, M2, rfl, rfl, hinv⟩
        · rw [if_neg cn, if_neg cn]
          by_cases c1 : Y 0 12 = 1
          · have c8 : nI (Y 0 12) = (1 : Int32) := by rw [c1]; rfl
            rw [if_pos c8, if_pos c8, v4 c1]; exact ⟨_, S2, M2, rfl, rfl, hinv⟩
          · have c8 : ¬ nI (Y 0 12) = (1 : Int32) := by simp (disch := omega) only [nI_lit, nI_add, pk_sub, pk_mul, ma_neg, nI_clamp, ma_ltT, ma_ltF, ma_leT, ma_leF, ma_eqT, ma_eqF, nI_ltI, nI_leI, nI_eq, ma_obT, ma_obF, ma_enF, ma_neF, ma_nlT, ma_lnF, ma_nLT, ma_Ln, ↓reduceIte, Option.bind_some, Option.bind_none, true_and, and_true, false_and, and_false, ne_eq, not_true_eq_false, not_false_eq_true, Bool.false_eq_true, reduceCtorEq, Nat.reduceAdd, Nat.reduceMul, Nat.reduceSub]
            rw [if_neg c8, if_neg c8]; exact ⟨_, S2, M2, rfl, rfl, hinv⟩
      · have c7 : ¬ nI (tK T 0) = (6 : Int32) := by simp (disch := omega) only [nI_lit, nI_add, pk_sub, pk_mul, ma_neg, nI_clamp, ma_ltT, ma_ltF, ma_leT, ma_leF, ma_eqT, ma_eqF, nI_ltI, nI_leI, nI_eq, ma_obT, ma_obF, ma_enF, ma_neF, ma_nlT, ma_lnF, ma_nLT, ma_Ln, ↓reduceIte, Option.bind_some, Option.bind_none, true_and, and_true, false_and, and_false, ne_eq, not_true_eq_false, not_false_eq_true, Bool.false_eq_true, reduceCtorEq, Nat.reduceAdd, Nat.reduceMul, Nat.reduceSub]
        rw [if_neg c7, if_neg c7]; exact ⟨_, S2, M2, rfl, rfl, hinv⟩)
    have e1 : f7 S x u (nI n) = cS S x u (fun S => if rn_kd (f154 S) = 3 then if (rI S (f154 S) 4) = (6 : Int32) then if nI n = 0 then some ((rI S (f154 S) 12), S) else if (rI S (f154 S) 12) = (1 : Int32) then some ((rI S (f154 S) 13), S) else some ((-6 : Int32), S) else some ((-6 : Int32), S) else none) := by
      have c : ¬ nI n < 0 := nI_pos (by omega)
      have c2 : nI n ≤ (1 : Int32) := nI_le (show n ≤ 1 from hn) (show 1 < 2 ^ 31 by omega)
      unfold f7 cS
      simp only [if_neg c, if_pos c2]
    have e2 : f76 M x u (nI n) = cM M x u (fun M => if (rA M 322 (Int32.toNatClampNeg (0 : Int32))) = (6 : Int32) then if nI n = 0 then some ((rA M 341 (Int32.toNatClampNeg (0 : Int32))), M) else if (rA M 341 (Int32.toNatClampNeg (0 : Int32))) = (1 : Int32) then some ((rA M 342 (Int32.toNatClampNeg (0 : Int32))), M) else some ((-6 : Int32), M) else some ((-6 : Int32), M)) := by
      unfold f76 cM
      simp only [h1, if_true]
    rw [e1, e2]
    exact hg
/-- the mark of the j-th one of a hidden variant, on the reference's side -/
theorem rf_pat {M : rn_T} {T : rn_TR} {Y : rn_LY} {k j : Nat} (hw : TW T) (hk : k < tN T) (hN : tN T ≤ 100) (h : ML M T Y 0) (hY : YL T Y 0) (h13 : Y k 13 < tC T k) (h342 : rA M 342 k = nI (Y k 13)) (hj : j < tC T k) : f77 M (nI k) (nI j) = some (nI (mkh (Y (tE T k (Y k 13)) 10) (Y k 13) j)) := by
  have hC := (hw.1 k hk).2.2.2.2
  obtain ⟨g1, g2, g3, g4⟩ := hw.2.2 k (Y k 13) hk h13
  have m10 : rA M 339 (tE T k (Y k 13)) = _ := h.2.1 _ g2 (Nat.zero_le _) 10 (by unfold fK; omega)
  have hF := (hY.1 _ g2 (.inl (Nat.zero_le _))).2.2.2.2.2.2
  unfold f77
  rw [if_neg (ob_F (by omega) (by omega)), nI_clamp (show k < 2 ^ 31 by omega), h342, ma_child h.1 hw hk h13 hN, Option.bind_some, if_neg (ob_F (by omega) (by omega)), nI_clamp (show tE T k (Y k 13) < 2 ^ 31 by omega), m10, nI_add]
  unfold mkh
  by_cases c : j ≤ Y k 13
  · rw [if_pos (le_T c (by omega)), if_neg (by omega)]
    rw [show (0 : Int32) = nI 0 from rfl, pk_sub (Nat.zero_le _)]
  · rw [if_neg (le_F (by omega) (by omega)), if_pos (by omega)]
    rw [show (1 : Int32) = nI 1 from rfl, pk_sub (by omega)]
theorem go_pattern {S M : rn_T} (h : Inv S M) (x u i : Int32) : Go S M (f8 S x u i) (f78 M x u i) := by
  refine go_tree h x u (f := fun S => if rn_kd (f154 S) = 3 then if (rI S (f154 S) 4) = (6 : Int32) then if i < 0 then some ((-6 : Int32), S) else if i < (rI S (f154 S) 1) then if rn_ob i 6 then none else rn_om (rP S ((f154 S) + 1) (Int32.toNatClampNeg i)) (none) fun r11 => if rn_kd r11 = 3 then some ((rI S r11 14), S) else none else some ((-6 : Int32), S) else some ((-6 : Int32), S) else none) (g := fun M => if (rA M 322 (Int32.toNatClampNeg (0 : Int32))) = (6 : Int32) then if (rA M 341 (Int32.toNatClampNeg (0 : Int32))) = 0 then some ((-6 : Int32), M) else if (f29 (Int32.toInt64 i) (0 : Int64) (Int32.toInt64 ((rA M 326 (Int32.toNatClampNeg (0 : Int32))) - (1 : Int32)))) = true then if (rA M 341 (Int32.toNatClampNeg (0 : Int32))) = (2 : Int32) then some (i, M) else if i = (rA M 342 (Int32.toNatClampNeg (0 : Int32))) then some ((-6 : Int32), M) else Option.bind (f77 M (0 : Int32) i) fun p11 => some (p11, M) else some ((-6 : Int32), M) else some ((-6 : Int32), M)) ?_
  intro A S2 M2 T Y p1 p2 ho p3 hf hl
  obtain ⟨hw, hN1, hN, hc⟩ := id hf
  have h0 : 0 < tN T := by omega
  obtain ⟨-, r1, r2, r3, r4, -, -⟩ := lt_root hf hl
  have hinv : Inv S2 M2 := ⟨A, p1, p2, ho, p3⟩
  have h76 : f154 S2 = 76 := rfl
  have hkd : rn_kd 76 = 3 := ma_kd3 (i := 0) (by omega)
  have h00 : Int32.toNatClampNeg (0 : Int32) = 0 := rfl
  have w1 := hw.1 0 h0
  simp only [h76, hkd, if_true, h00, r1, r2, r3, r4]
  by_cases c6 : tK T 0 = 6
  · have c7 : nI (tK T 0) = (6 : Int32) := by rw [c6]; rfl
    have hc1 := hc 0 h0 (by omega)
    obtain ⟨v1, v2, v3, v4, v5, v6, v7, v8, v9, v10⟩ := lt_var hf hl c6
    rw [if_pos c7, if_pos c7, v2, v3, show nI (tC T 0) - (1 : Int32) = nI (tC T 0 - 1) from pk_sub (show 1 ≤ tC T 0 by omega)]
    have hin : f29 i.toInt64 (0 : Int64) (nI (tC T 0 - 1)).toInt64 = decide (0 ≤ i.toInt ∧ i.toInt ≤ (tC T 0 - 1 : Nat)) := by
      rw [ma_in32, Int32.toInt_toInt64, nI_toInt (by omega)]
      rfl
    rw [hin]
    rcases ma_among i (tC T 0) (by omega) with ⟨j, hj, rfl⟩ | ⟨c1, c2⟩
    · obtain ⟨g1, g2, g3, g4⟩ := hw.2.2 0 j h0 hj
      have hk4 := ma_kd3 (show tE T 0 j < 100 by omega)
      have hch : rP S2 (76 + 1) j = some (76 + 2 * tE T 0 j) := sk_child hl.1.1.1 hw h0 hj
      rw [if_neg (nI_pos (by omega)), if_pos (nI_lt hj (by omega)), if_neg (ob_F (by omega) (by omega)), nI_clamp (by omega), rn_om_s hch, if_pos hk4, v10 j hj, if_pos (show decide (0 ≤ (nI j).toInt ∧ (nI j).toInt ≤ (tC T 0 - 1 : Nat)) = true by rw [decide_eq_true_iff, nI_toInt (by omega)]; omega)]
      unfold mkI
      by_cases d0 : Y 0 12 = 0
      · rw [if_pos d0, if_pos (by rw [d0]; rfl)]
        exact ⟨_, S2, M2, rfl, rfl, hinv⟩
      · rw [if_neg d0, if_neg (show ¬ nI (Y 0 12) = 0 by simp (disch := omega) only [nI_lit, nI_add, pk_sub, pk_mul, ma_neg, nI_clamp, ma_ltT, ma_ltF, ma_leT, ma_leF, ma_eqT, ma_eqF, nI_ltI, nI_leI, nI_eq, ma_obT, ma_obF, ma_enF, ma_neF, ma_nlT, ma_lnF, ma_nLT, ma_Ln, ↓reduceIte, Option.bind_some, Option.bind_none, true_and, and_true, false_and, and_false, ne_eq, not_true_eq_false, not_false_eq_true, Bool.false_eq_true, reduceCtorEq, Nat.reduceAdd, Nat.reduceMul, Nat.reduceSub])]
        by_cases d2 : Y 0 12 = 2
        · rw [if_pos d2, if_pos (by rw [d2]; rfl)]
          exact ⟨_, S2, M2, rfl, rfl, hinv⟩
        · rw [if_neg d2, if_neg (show ¬ nI (Y 0 12) = 2 by simp (disch := omega) only [nI_lit, nI_add, pk_sub, pk_mul, ma_neg, nI_clamp, ma_ltT, ma_ltF, ma_leT, ma_leF, ma_eqT, ma_eqF, nI_ltI, nI_leI, nI_eq, ma_obT, ma_obF, ma_enF, ma_neF, ma_nlT, ma_lnF, ma_nLT, ma_Ln, ↓reduceIte, Option.bind_some, Option.bind_none, true_and, and_true, false_and, and_false, ne_eq, not_true_eq_false, not_false_eq_true, Bool.false_eq_true, reduceCtorEq, Nat.reduceAdd, Nat.reduceMul, Nat.reduceSub])]
          by_cases dj : j = Y 0 13
          · rw [if_pos dj, if_pos (by rw [dj])]
            exact ⟨_, S2, M2, rfl, rfl, hinv⟩
          · rw [if_neg dj, if_neg (show ¬ nI j = nI (Y 0 13) by simp (disch := omega) only [nI_lit, nI_add, pk_sub, pk_mul, ma_neg, nI_clamp, ma_ltT, ma_ltF, ma_leT, ma_leF, ma_eqT, ma_eqF, nI_ltI, nI_leI, nI_eq, ma_obT, ma_obF, ma_enF, ma_neF, ma_nlT, ma_lnF, ma_nLT, ma_Ln, ↓reduceIte, Option.bind_some, Option.bind_none, true_and, and_true, false_and, and_false, ne_eq, not_true_eq_false, not_false_eq_true, Bool.false_eq_true, reduceCtorEq, Nat.reduceAdd, Nat.reduceMul, Nat.reduceSub])]
            have := rf_pat hw h0 hN hl.1.2.1 hl.1.2.2.2 v5 v3 hj
            have this : f77 M2 (0 : Int32) (nI j) = _ := this
            rw [this]
            exact ⟨_, S2, M2, rfl, rfl, hinv⟩
    · have hdec : decide (0 ≤ i.toInt ∧ i.toInt ≤ (tC T 0 - 1 : Nat)) = false := by
        rw [decide_eq_false_iff_not]
        rcases c1 with c1 | c1
        · rw [Int32.lt_iff_toInt_lt] at c1
          have h0 : (0 : Int32).toInt = 0 := rfl
          omega
        · rw [Int32.lt_iff_toInt_lt, nI_toInt (by omega)] at c1
          omega
      refine ⟨-6, S2, M2, ?_, ?_, hinv⟩
      · by_cases c : i < 0
        · rw [if_pos c]
        · rw [if_neg c, if_neg (c1.resolve_left c)]
      · rw [hdec]
        simp only [Bool.false_eq_true, if_false, ite_self]
  · have c7 : ¬ nI (tK T 0) = (6 : Int32) := by simp (disch := omega) only [nI_lit, nI_add, pk_sub, pk_mul, ma_neg, nI_clamp, ma_ltT, ma_ltF, ma_leT, ma_leF, ma_eqT, ma_eqF, nI_ltI, nI_leI, nI_eq, ma_obT, ma_obF, ma_enF, ma_neF, ma_nlT, ma_lnF, ma_nLT, ma_Ln, ↓reduceIte, Option.bind_some, Option.bind_none, true_and, and_true, false_and, and_false, ne_eq, not_true_eq_false, not_false_eq_true, Bool.false_eq_true, reduceCtorEq, Nat.reduceAdd, Nat.reduceMul, Nat.reduceSub]
    rw [if_neg c7, if_neg c7]; exact ⟨_, S2, M2, rfl, rfl, hinv⟩
