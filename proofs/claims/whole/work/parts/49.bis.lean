/-! 49: one sign of the reference's; both stacks tell the same -/
theorem po_DS {M : rn_T} {x : Nat} {l : List Nat} (h : DS M (x :: l)) : DS (wI M 318 4 (nI l.length)) l := ⟨ra_I, dk_eq (M := M) (fun _ _ => rfl) h.2.2.2⟩
theorem in_DS {M : rn_T} {x : Nat} {l : List Nat} (h : DS M (x :: l)) (hx : x < 30) : DS (wA M 321 l.length (nI (x + 1))) ((x + 1) :: l) := ⟨h.1, ra_A, by omega, dk_eq (fun i hi => by simp (disch := omega) only [ra_I, ra_In, ra_A, ra_An, ra_IA, ra_IL, ra_IR, ra_IP, ra_AI, ra_AL, ra_AR, ra_AP, ra_L, ra_Ln, ra_LI, ra_LA, ra_LR, ra_LP, ra_R, ra_Rn, ra_RI, ra_RA, ra_RL, ra_RP, ra_P, ra_Pn, ra_PI, ra_PA, ra_PL, ra_PR]) h.2.2.2⟩
theorem ma_c29 {c : Nat} (h : c ≤ 126) : f29 (nI c).toInt64 50 57 = decide (50 ≤ c ∧ c ≤ 57) := by
  rw [ma_in32, nI_toInt (by omega), show (50 : Int64).toInt = 50 from rfl, show (57 : Int64).toInt = 57 from rfl]
  by_cases h1 : 50 ≤ c ∧ c ≤ 57
  · rw [decide_eq_true h1, decide_eq_true]; omega
  · rw [decide_eq_false h1, decide_eq_false]; omega
theorem ma_J23 {M : rn_T} {A : rn_AT} {s c x : Nat} {l : List Nat} (h : PM M A) (ho : OKA A) (hS : DS M (x :: l)) (hl : l.length + 1 < 60) (hc : c ≤ 126) (hs : s < 8) (hx : x < 30) : ∃ M2, f41_J23 M (nI s) (nI c) (nI x) = some (((if x % 10 = 6 then (false, x :: l) else rbeg A s c ((x + 1) :: l)) : Bool × List Nat).1, M2) ∧ eqD M M2 ∧ DS M2 ((if x % 10 = 6 then (false, x :: l) else rbeg A s c ((x + 1) :: l)) : Bool × List Nat).2 := by
  have h4 : rI M 318 4 = nI (l.length + 1) := hS.1
  unfold f41_J23
  by_cases h6 : x % 10 = 6
  · rw [if_pos h6]
    refine ⟨M, ?_, eqD_r, hS⟩
    simp (disch := omega) only [pk_rem, nI_lit, nI_add, pk_sub, pk_mul, ma_neg, nI_clamp, ma_ltT, ma_ltF, ma_leT, ma_leF, ma_eqT, ma_eqF, nI_ltI, nI_leI, nI_eq, ma_obT, ma_obF, ma_enF, ma_neF, ma_nlT, ma_lnF, ma_nLT, ma_Ln, ↓reduceIte, Option.bind_some, Option.bind_none, true_and, and_true, false_and, and_false, ne_eq, not_true_eq_false, not_false_eq_true, Bool.false_eq_true, reduceCtorEq, Nat.reduceAdd, Nat.reduceMul, Nat.reduceSub]
  · rw [if_neg h6]
    obtain ⟨M2, e1, e2, e3⟩ := ma_f40 (pm_D h eqD_A) ho (in_DS hS hx) (by show l.length + 1 < 60; omega) hc hs
    refine ⟨M2, ?_, eqD_t eqD_A e2, e3⟩
    simp (disch := omega) only [pk_rem, h4, e1, Nat.add_sub_cancel, nI_lit, nI_add, pk_sub, pk_mul, ma_neg, nI_clamp, ma_ltT, ma_ltF, ma_leT, ma_leF, ma_eqT, ma_eqF, nI_ltI, nI_leI, nI_eq, ma_obT, ma_obF, ma_enF, ma_neF, ma_nlT, ma_lnF, ma_nLT, ma_Ln, ↓reduceIte, Option.bind_some, Option.bind_none, true_and, and_true, false_and, and_false, ne_eq, not_true_eq_false, not_false_eq_true, Bool.false_eq_true, reduceCtorEq, Nat.reduceAdd, Nat.reduceMul, Nat.reduceSub]
theorem ma_f41 {M : rn_T} {A : rn_AT} {s c x : Nat} {l : List Nat} (h : PM M A) (ho : OKA A) (hS : DS M (x :: l)) (hl : l.length + 1 < 60) (hc : c ≤ 126) (hs : s < 8) (hx : x < 30) (hx0 : 0 < x) : ∃ M2, f41 M (nI s) (nI c) (nI x) = some ((rst A s c (x :: l)).1, M2) ∧ eqD M M2 ∧ DS M2 (rst A s c (x :: l)).2 := by
  have h4 : rI M 318 4 = nI (l.length + 1) := hS.1
  have hr0 : rst A s c (x :: l) = if 10 < x ∧ x < 20 ∧ c = 41 ∨ 20 < x ∧ c = 93 then (true, l) else if x % 10 = 6 then (false, x :: l) else rbeg A s c ((x + 1) :: l) := by
    show (if _ then _ else _) = _
    rw [if_pos ⟨hx0, hx⟩]
  have hJ := ma_J23 h ho hS hl hc hs hx
  have pop : ∃ M2, some (true, wI M 318 4 (rI M 318 4 - (1 : Int32))) = some (true, M2) ∧ eqD M M2 ∧ DS M2 l := by
    refine ⟨wI M 318 4 (nI l.length), ?_, eqD_I, po_DS hS⟩
    simp (disch := omega) only [h4, Nat.add_sub_cancel, nI_lit, nI_add, pk_sub, pk_mul, ma_neg, nI_clamp, ma_ltT, ma_ltF, ma_leT, ma_leF, ma_eqT, ma_eqF, nI_ltI, nI_leI, nI_eq, ma_obT, ma_obF, ma_enF, ma_neF, ma_nlT, ma_lnF, ma_nLT, ma_Ln, ↓reduceIte, Option.bind_some, Option.bind_none, true_and, and_true, false_and, and_false, ne_eq, not_true_eq_false, not_false_eq_true, Bool.false_eq_true, reduceCtorEq, Nat.reduceAdd, Nat.reduceMul, Nat.reduceSub]
  unfold f41
  by_cases h1 : 10 < x ∧ x < 20 ∧ c = 41
  · rw [if_pos (.inl h1)] at hr0
    rw [hr0]
    obtain ⟨a1, a2, a3⟩ := h1
    obtain ⟨M2, e1, e2, e3⟩ := pop
    refine ⟨M2, ?_, e2, e3⟩
    rw [← e1, a3]
    simp (disch := omega) only [nI_lit, nI_add, pk_sub, pk_mul, ma_neg, nI_clamp, ma_ltT, ma_ltF, ma_leT, ma_leF, ma_eqT, ma_eqF, nI_ltI, nI_leI, nI_eq, ma_obT, ma_obF, ma_enF, ma_neF, ma_nlT, ma_lnF, ma_nLT, ma_Ln, ↓reduceIte, Option.bind_some, Option.bind_none, true_and, and_true, false_and, and_false, ne_eq, not_true_eq_false, not_false_eq_true, Bool.false_eq_true, reduceCtorEq, Nat.reduceAdd, Nat.reduceMul, Nat.reduceSub]
  · have hJ9 : ∃ M2, f41_J9 M (nI s) (nI c) (nI x) = some ((rst A s c (x :: l)).1, M2) ∧ eqD M M2 ∧ DS M2 (rst A s c (x :: l)).2 := by
      unfold f41_J9
      by_cases h2 : 20 < x ∧ c = 93
      · rw [if_pos (.inr h2)] at hr0
        rw [hr0]
        obtain ⟨M2, e1, e2, e3⟩ := pop
        refine ⟨M2, ?_, e2, e3⟩
        obtain ⟨a2, a3⟩ := h2
        rw [← e1, a3]
        simp (disch := omega) only [nI_lit, nI_add, pk_sub, pk_mul, ma_neg, nI_clamp, ma_ltT, ma_ltF, ma_leT, ma_leF, ma_eqT, ma_eqF, nI_ltI, nI_leI, nI_eq, ma_obT, ma_obF, ma_enF, ma_neF, ma_nlT, ma_lnF, ma_nLT, ma_Ln, ↓reduceIte, Option.bind_some, Option.bind_none, true_and, and_true, false_and, and_false, ne_eq, not_true_eq_false, not_false_eq_true, Bool.false_eq_true, reduceCtorEq, Nat.reduceAdd, Nat.reduceMul, Nat.reduceSub]
      · rw [if_neg (by omega)] at hr0
        rw [hr0]
        obtain ⟨M2, e1, e2, e3⟩ := hJ
        refine ⟨M2, ?_, e2, e3⟩
        rw [← e1]
        by_cases h3 : x ≤ 20
        · simp (disch := omega) only [nI_lit, nI_add, pk_sub, pk_mul, ma_neg, nI_clamp, ma_ltT, ma_ltF, ma_leT, ma_leF, ma_eqT, ma_eqF, nI_ltI, nI_leI, nI_eq, ma_obT, ma_obF, ma_enF, ma_neF, ma_nlT, ma_lnF, ma_nLT, ma_Ln, ↓reduceIte, Option.bind_some, Option.bind_none, true_and, and_true, false_and, and_false, ne_eq, not_true_eq_false, not_false_eq_true, Bool.false_eq_true, reduceCtorEq, Nat.reduceAdd, Nat.reduceMul, Nat.reduceSub]
        · have : c ≠ 93 := fun e => h2 ⟨by omega, e⟩
          simp (disch := omega) only [nI_lit, nI_add, pk_sub, pk_mul, ma_neg, nI_clamp, ma_ltT, ma_ltF, ma_leT, ma_leF, ma_eqT, ma_eqF, nI_ltI, nI_leI, nI_eq, ma_obT, ma_obF, ma_enF, ma_neF, ma_nlT, ma_lnF, ma_nLT, ma_Ln, ↓reduceIte, Option.bind_some, Option.bind_none, true_and, and_true, false_and, and_false, ne_eq, not_true_eq_false, not_false_eq_true, Bool.false_eq_true, reduceCtorEq, Nat.reduceAdd, Nat.reduceMul, Nat.reduceSub]
    obtain ⟨M2, e1, e2, e3⟩ := hJ9
    refine ⟨M2, ?_, e2, e3⟩
    rw [← e1]
    by_cases h3 : x ≤ 10
    · simp (disch := omega) only [nI_lit, nI_add, pk_sub, pk_mul, ma_neg, nI_clamp, ma_ltT, ma_ltF, ma_leT, ma_leF, ma_eqT, ma_eqF, nI_ltI, nI_leI, nI_eq, ma_obT, ma_obF, ma_enF, ma_neF, ma_nlT, ma_lnF, ma_nLT, ma_Ln, ↓reduceIte, Option.bind_some, Option.bind_none, true_and, and_true, false_and, and_false, ne_eq, not_true_eq_false, not_false_eq_true, Bool.false_eq_true, reduceCtorEq, Nat.reduceAdd, Nat.reduceMul, Nat.reduceSub]
    · by_cases h4 : 20 ≤ x
      · simp (disch := omega) only [nI_lit, nI_add, pk_sub, pk_mul, ma_neg, nI_clamp, ma_ltT, ma_ltF, ma_leT, ma_leF, ma_eqT, ma_eqF, nI_ltI, nI_leI, nI_eq, ma_obT, ma_obF, ma_enF, ma_neF, ma_nlT, ma_lnF, ma_nLT, ma_Ln, ↓reduceIte, Option.bind_some, Option.bind_none, true_and, and_true, false_and, and_false, ne_eq, not_true_eq_false, not_false_eq_true, Bool.false_eq_true, reduceCtorEq, Nat.reduceAdd, Nat.reduceMul, Nat.reduceSub]
      · have : c ≠ 41 := fun e => h1 ⟨by omega, by omega, e⟩
        simp (disch := omega) only [nI_lit, nI_add, pk_sub, pk_mul, ma_neg, nI_clamp, ma_ltT, ma_ltF, ma_leT, ma_leF, ma_eqT, ma_eqF, nI_ltI, nI_leI, nI_eq, ma_obT, ma_obF, ma_enF, ma_neF, ma_nlT, ma_lnF, ma_nLT, ma_Ln, ↓reduceIte, Option.bind_some, Option.bind_none, true_and, and_true, false_and, and_false, ne_eq, not_true_eq_false, not_false_eq_true, Bool.false_eq_true, reduceCtorEq, Nat.reduceAdd, Nat.reduceMul, Nat.reduceSub]
theorem ma_f42 {M : rn_T} {A : rn_AT} {s c : Nat} {l : List Nat} (h : PM M A) (ho : OKA A) (hS : DS M l) (hl : l.length < 60) (hc : c ≤ 126) (hs : s < 8) : ∃ M2, f42 M (nI s) (nI c) = some ((rst A s c l).1, M2) ∧ eqD M M2 ∧ DS M2 (rst A s c l).2 := by
  unfold f42
  cases l with
  | nil =>
    have h4 : rI M 318 4 = nI 0 := hS.1
    refine ⟨M, ?_, eqD_r, hS⟩
    simp (disch := omega) only [h4, nI_lit, nI_add, pk_sub, pk_mul, ma_neg, nI_clamp, ma_ltT, ma_ltF, ma_leT, ma_leF, ma_eqT, ma_eqF, nI_ltI, nI_leI, nI_eq, ma_obT, ma_obF, ma_enF, ma_neF, ma_nlT, ma_lnF, ma_nLT, ma_Ln, ↓reduceIte, Option.bind_some, Option.bind_none, true_and, and_true, false_and, and_false, ne_eq, not_true_eq_false, not_false_eq_true, Bool.false_eq_true, reduceCtorEq, Nat.reduceAdd, Nat.reduceMul, Nat.reduceSub]
    rfl
  | cons x l =>
    have h4 : rI M 318 4 = nI (l.length + 1) := hS.1
    have hl2 : l.length + 1 < 60 := hl
    have hx := hS.2.1
    have hx2 := hS.2.2.1
    by_cases h1 : 0 < x ∧ x < 30
    · obtain ⟨M2, e1, e2, e3⟩ := ma_f41 h ho hS hl2 hc hs h1.2 h1.1
      refine ⟨M2, ?_, e2, e3⟩
      obtain ⟨a1, a2⟩ := h1
      simp (disch := omega) only [h4, Nat.add_sub_cancel, hx, e1, nI_lit, nI_add, pk_sub, pk_mul, ma_neg, nI_clamp, ma_ltT, ma_ltF, ma_leT, ma_leF, ma_eqT, ma_eqF, nI_ltI, nI_leI, nI_eq, ma_obT, ma_obF, ma_enF, ma_neF, ma_nlT, ma_lnF, ma_nLT, ma_Ln, ↓reduceIte, Option.bind_some, Option.bind_none, true_and, and_true, false_and, and_false, ne_eq, not_true_eq_false, not_false_eq_true, Bool.false_eq_true, reduceCtorEq, Nat.reduceAdd, Nat.reduceMul, Nat.reduceSub]
    · by_cases h2 : x = 30
      · have hr0 : rst A s c (x :: l) = (decide (50 ≤ c ∧ c ≤ 57), l) := by
          show (if _ then _ else _) = _
          rw [if_neg h1, if_pos h2]
        rw [hr0]
        refine ⟨wI M 318 4 (nI l.length), ?_, eqD_I, po_DS hS⟩
        simp (disch := omega) only [h4, Nat.add_sub_cancel, hx, h2, f42_J24, nI_lit, nI_add, pk_sub, pk_mul, ma_neg, nI_clamp, ma_ltT, ma_ltF, ma_leT, ma_leF, ma_eqT, ma_eqF, nI_ltI, nI_leI, nI_eq, ma_obT, ma_obF, ma_enF, ma_neF, ma_nlT, ma_lnF, ma_nLT, ma_Ln, ↓reduceIte, Option.bind_some, Option.bind_none, true_and, and_true, false_and, and_false, ne_eq, not_true_eq_false, not_false_eq_true, Bool.false_eq_true, reduceCtorEq, Nat.reduceAdd, Nat.reduceMul, Nat.reduceSub]
        have := ma_c29 hc
        rw [show (50 : Int64) = 50 from rfl] at this
        rw [this]
      · have hr0 : rst A s c (x :: l) = rbeg A s c l := by
          show (if _ then _ else _) = _
          rw [if_neg h1, if_neg h2]
        rw [hr0]
        obtain ⟨M2, e1, e2, e3⟩ := ma_f40 (pm_D h eqD_I) ho (po_DS hS) (by omega) hc hs
        refine ⟨M2, ?_, eqD_t eqD_I e2, e3⟩
        have h0 : x = 0 := by omega
        subst h0
        simp (disch := omega) only [h4, Nat.add_sub_cancel, hx, f42_J24, e1, nI_lit, nI_add, pk_sub, pk_mul, ma_neg, nI_clamp, ma_ltT, ma_ltF, ma_leT, ma_leF, ma_eqT, ma_eqF, nI_ltI, nI_leI, nI_eq, ma_obT, ma_obF, ma_enF, ma_neF, ma_nlT, ma_lnF, ma_nLT, ma_Ln, ↓reduceIte, Option.bind_some, Option.bind_none, true_and, and_true, false_and, and_false, ne_eq, not_true_eq_false, not_false_eq_true, Bool.false_eq_true, reduceCtorEq, Nat.reduceAdd, Nat.reduceMul, Nat.reduceSub]
