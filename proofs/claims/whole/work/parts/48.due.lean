/-! 48: the reference's stack of what is due -/
def dk (M : rn_T) : List Nat → Prop
  | [] => True
  | x :: l => rA M 321 l.length = nI x ∧ x ≤ 30 ∧ dk M l
theorem dk_eq {M M2 : rn_T} : ∀ {l : List Nat}, (∀ i, i < l.length → rA M2 321 i = rA M 321 i) → dk M l → dk M2 l := by
  intro l
  induction l with
  | nil => intro _ _; exact trivial
  | cons f l ih =>
    rintro he ⟨h1, h2, h3⟩
    have hl : l.length < (f :: l).length := by simp
    exact ⟨(he l.length hl).trans h1, h2, ih (fun i hi => he i (by omega)) h3⟩
def DS (M : rn_T) (l : List Nat) : Prop := rI M 318 4 = nI l.length ∧ dk M l
/-- only what is due changed -/
def eqD (M M2 : rn_T) : Prop := EqT (fun q => q ≠ 321 ∧ q ≠ 318) M M2 ∧ ∀ k, k ≠ 4 → rI M2 318 k = rI M 318 k
theorem eqD_r {M : rn_T} : eqD M M := ⟨eq_r, fun _ _ => rfl⟩
theorem eqD_t {M M2 M3 : rn_T} (h : eqD M M2) (h2 : eqD M2 M3) : eqD M M3 := ⟨eq_t h.1 h2.1, fun k hk => (h2.2 k hk).trans (h.2 k hk)⟩
theorem eqD_A {M : rn_T} {k : Nat} {v : Int32} : eqD M (wA M 321 k v) := ⟨eq_A (by omega), fun _ _ => rfl⟩
theorem eqD_I {M : rn_T} {v : Int32} : eqD M (wI M 318 4 v) := ⟨eq_I (by omega), fun k hk => by simp (disch := omega) only [ra_I, ra_In, ra_A, ra_An, ra_IA, ra_IL, ra_IR, ra_IP, ra_AI, ra_AL, ra_AR, ra_AP, ra_L, ra_Ln, ra_LI, ra_LA, ra_LR, ra_LP, ra_R, ra_Rn, ra_RI, ra_RA, ra_RL, ra_RP, ra_P, ra_Pn, ra_PI, ra_PA, ra_PL, ra_PR]⟩
theorem eqD_M {M M2 : rn_T} (h : eqD M M2) : eqM M M2 := ⟨eq_m h.1 (fun q hq => by omega), h.2 2 (by omega), h.2 33 (by omega)⟩
theorem pm_D {M M2 : rn_T} {A : rn_AT} (h : PM M A) (he : eqD M M2) : PM M2 A := pm_eq h (eqD_M he)
theorem ma_f38 {M : rn_T} {l : List Nat} {x : Nat} (h : DS M l) (hl : l.length < 60) (hx : x ≤ 30) : ∃ M2, f38 M (nI x) = some M2 ∧ eqD M M2 ∧ DS M2 (x :: l) := by
  obtain ⟨h1, h2⟩ := h
  refine ⟨wI (wA M 321 l.length (nI x)) 318 4 (nI (l.length + 1)), ?_, eqD_t eqD_A eqD_I, ?_, ?_, hx, ?_⟩
  · unfold f38
    simp (disch := omega) only [h1, nI_lit, nI_add, pk_sub, pk_mul, ma_neg, nI_clamp, ma_ltT, ma_ltF, ma_leT, ma_leF, ma_eqT, ma_eqF, nI_ltI, nI_leI, nI_eq, ma_obT, ma_obF, ma_enF, ma_neF, ma_nlT, ma_lnF, ma_nLT, ma_Ln, ↓reduceIte, Option.bind_some, Option.bind_none, true_and, and_true, false_and, and_false, ne_eq, not_true_eq_false, not_false_eq_true, Bool.false_eq_true, reduceCtorEq, Nat.reduceAdd, Nat.reduceMul, Nat.reduceSub, ra_I, ra_In, ra_A, ra_An, ra_IA, ra_IL, ra_IR, ra_IP, ra_AI, ra_AL, ra_AR, ra_AP, ra_L, ra_Ln, ra_LI, ra_LA, ra_LR, ra_LP, ra_R, ra_Rn, ra_RI, ra_RA, ra_RL, ra_RP, ra_P, ra_Pn, ra_PI, ra_PA, ra_PL, ra_PR]
  · rw [ra_I, List.length_cons]
  · simp (disch := omega) only [ra_I, ra_In, ra_A, ra_An, ra_IA, ra_IL, ra_IR, ra_IP, ra_AI, ra_AL, ra_AR, ra_AP, ra_L, ra_Ln, ra_LI, ra_LA, ra_LR, ra_LP, ra_R, ra_Rn, ra_RI, ra_RA, ra_RL, ra_RP, ra_P, ra_Pn, ra_PI, ra_PA, ra_PL, ra_PR]
  · exact dk_eq (fun i hi => by simp (disch := omega) only [ra_I, ra_In, ra_A, ra_An, ra_IA, ra_IL, ra_IR, ra_IP, ra_AI, ra_AL, ra_AR, ra_AP, ra_L, ra_Ln, ra_LI, ra_LA, ra_LR, ra_LP, ra_R, ra_Rn, ra_RI, ra_RA, ra_RL, ra_RP, ra_P, ra_Pn, ra_PI, ra_PA, ra_PL, ra_PR]) h2
theorem ma_f37 {M : rn_T} {c : Nat} (h : c ≤ 126) : f37 M (nI c) = decide (65 ≤ c ∧ c < 73) := by
  unfold f37
  rw [ma_in32, nI_toInt (by omega), show (65 : Int64).toInt = 65 from rfl, show (72 : Int64).toInt = 72 from rfl]
  by_cases h1 : 65 ≤ c ∧ c < 73
  · rw [decide_eq_true h1, decide_eq_true]; omega
  · rw [decide_eq_false h1, decide_eq_false]; omega
def isPb (c : Nat) : Bool := if c = 48 ∨ c = 49 ∨ c = 50 ∨ c = 52 ∨ c = 98 ∨ c = 112 ∨ c = 120 then true else false
theorem ma_f39 {c : Nat} (h : c ≤ 126) : f39 (nI c) = isPb c := by
  unfold f39 isPb
  by_cases h2 : c = 48
  · subst h2; rfl
  by_cases h3 : c = 49
  · subst h3; rfl
  by_cases h4 : c = 50
  · subst h4; rfl
  by_cases h5 : c = 52
  · subst h5; rfl
  by_cases h7 : c = 98
  · subst h7; rfl
  by_cases h9 : c = 112
  · subst h9; rfl
  by_cases h10 : c = 120
  · subst h10; rfl
  rw [if_neg (show ¬ (c = 48 ∨ c = 49 ∨ c = 50 ∨ c = 52 ∨ c = 98 ∨ c = 112 ∨ c = 120) by omega)]
  simp (disch := omega) only [nI_lit, nI_add, pk_sub, pk_mul, ma_neg, nI_clamp, ma_ltT, ma_ltF, ma_leT, ma_leF, ma_eqT, ma_eqF, nI_ltI, nI_leI, nI_eq, ma_obT, ma_obF, ma_enF, ma_neF, ma_nlT, ma_lnF, ma_nLT, ma_Ln, ↓reduceIte, Option.bind_some, Option.bind_none, true_and, and_true, false_and, and_false, ne_eq, not_true_eq_false, not_false_eq_true, Bool.false_eq_true, reduceCtorEq, Nat.reduceAdd, Nat.reduceMul, Nat.reduceSub]
def rbeg (A : rn_AT) (s c : Nat) (l : List Nat) : Bool × List Nat := if c = 40 then (true, 10 :: l) else if c = 91 then (true, 20 :: l) else if c = 101 then (true, 30 :: l) else if 65 ≤ c ∧ c < 73 ∧ c - 65 < s then (if aO A (c - 65) = true then (true, 0 :: l) else (true, l)) else (isPb c, l)
theorem ma_f40 {M : rn_T} {A : rn_AT} {s c : Nat} {l : List Nat} (h : PM M A) (ho : OKA A) (hS : DS M l) (hl : l.length < 60) (hc : c ≤ 126) (hs : s < 8) : ∃ M2, f40 M (nI s) (nI c) = some ((rbeg A s c l).1, M2) ∧ eqD M M2 ∧ DS M2 (rbeg A s c l).2 := by
  unfold f40
  by_cases h1 : c = 40
  · obtain ⟨M2, e1, e2, e3⟩ := ma_f38 hS hl (x := 10) (by omega)
    have hr : rbeg A s c l = (true, 10 :: l) := by unfold rbeg; rw [if_pos h1]
    rw [hr]
    refine ⟨M2, ?_, e2, e3⟩
    simp (disch := omega) only [h1, f40_J9, e1, nI_lit, nI_add, pk_sub, pk_mul, ma_neg, nI_clamp, ma_ltT, ma_ltF, ma_leT, ma_leF, ma_eqT, ma_eqF, nI_ltI, nI_leI, nI_eq, ma_obT, ma_obF, ma_enF, ma_neF, ma_nlT, ma_lnF, ma_nLT, ma_Ln, ↓reduceIte, Option.bind_some, Option.bind_none, true_and, and_true, false_and, and_false, ne_eq, not_true_eq_false, not_false_eq_true, Bool.false_eq_true, reduceCtorEq, Nat.reduceAdd, Nat.reduceMul, Nat.reduceSub]
  by_cases h2 : c = 91
  · obtain ⟨M2, e1, e2, e3⟩ := ma_f38 hS hl (x := 20) (by omega)
    have hr : rbeg A s c l = (true, 20 :: l) := by unfold rbeg; rw [if_neg h1, if_pos h2]
    rw [hr]
    refine ⟨M2, ?_, e2, e3⟩
    simp (disch := omega) only [h2, f40_J9, e1, nI_lit, nI_add, pk_sub, pk_mul, ma_neg, nI_clamp, ma_ltT, ma_ltF, ma_leT, ma_leF, ma_eqT, ma_eqF, nI_ltI, nI_leI, nI_eq, ma_obT, ma_obF, ma_enF, ma_neF, ma_nlT, ma_lnF, ma_nLT, ma_Ln, ↓reduceIte, Option.bind_some, Option.bind_none, true_and, and_true, false_and, and_false, ne_eq, not_true_eq_false, not_false_eq_true, Bool.false_eq_true, reduceCtorEq, Nat.reduceAdd, Nat.reduceMul, Nat.reduceSub]
  by_cases h3 : c = 101
  · obtain ⟨M2, e1, e2, e3⟩ := ma_f38 hS hl (x := 30) (by omega)
    have hr : rbeg A s c l = (true, 30 :: l) := by unfold rbeg; rw [if_neg h1, if_neg h2, if_pos h3]
    rw [hr]
    refine ⟨M2, ?_, e2, e3⟩
    simp (disch := omega) only [h3, f40_J9, e1, nI_lit, nI_add, pk_sub, pk_mul, ma_neg, nI_clamp, ma_ltT, ma_ltF, ma_leT, ma_leF, ma_eqT, ma_eqF, nI_ltI, nI_leI, nI_eq, ma_obT, ma_obF, ma_enF, ma_neF, ma_nlT, ma_lnF, ma_nLT, ma_Ln, ↓reduceIte, Option.bind_some, Option.bind_none, true_and, and_true, false_and, and_false, ne_eq, not_true_eq_false, not_false_eq_true, Bool.false_eq_true, reduceCtorEq, Nat.reduceAdd, Nat.reduceMul, Nat.reduceSub]
  have hr0 : rbeg A s c l = if 65 ≤ c ∧ c < 73 ∧ c - 65 < s then (if aO A (c - 65) = true then (true, 0 :: l) else (true, l)) else (isPb c, l) := by
    unfold rbeg; rw [if_neg h1, if_neg h2, if_neg h3]
  by_cases h11 : 65 ≤ c ∧ c < 73
  · have e37 : f37 M (nI c) = true := by rw [ma_f37 hc, decide_eq_true_iff]; exact h11
    by_cases h12 : c - 65 < s
    · have h36 := ma_f36 h ho (show c - 65 < 8 by omega)
      rw [if_pos ⟨h11.1, h11.2, h12⟩] at hr0
      cases e : aO A (c - 65) with
      | true =>
        obtain ⟨M2, e1, e2, e3⟩ := ma_f38 hS hl (x := 0) (by omega)
        rw [e, if_pos rfl] at hr0
        rw [hr0]
        refine ⟨M2, ?_, e2, e3⟩
        rw [e] at h36
        simp (disch := omega) only [e37, h36, e1, nI_lit, nI_add, pk_sub, pk_mul, ma_neg, nI_clamp, ma_ltT, ma_ltF, ma_leT, ma_leF, ma_eqT, ma_eqF, nI_ltI, nI_leI, nI_eq, ma_obT, ma_obF, ma_enF, ma_neF, ma_nlT, ma_lnF, ma_nLT, ma_Ln, ↓reduceIte, Option.bind_some, Option.bind_none, true_and, and_true, false_and, and_false, ne_eq, not_true_eq_false, not_false_eq_true, Bool.false_eq_true, reduceCtorEq, Nat.reduceAdd, Nat.reduceMul, Nat.reduceSub]
      | false =>
        rw [e, if_neg (by decide)] at hr0
        rw [hr0]
        refine ⟨M, ?_, eqD_r, hS⟩
        rw [e] at h36
        simp (disch := omega) only [e37, h36, nI_lit, nI_add, pk_sub, pk_mul, ma_neg, nI_clamp, ma_ltT, ma_ltF, ma_leT, ma_leF, ma_eqT, ma_eqF, nI_ltI, nI_leI, nI_eq, ma_obT, ma_obF, ma_enF, ma_neF, ma_nlT, ma_lnF, ma_nLT, ma_Ln, ↓reduceIte, Option.bind_some, Option.bind_none, true_and, and_true, false_and, and_false, ne_eq, not_true_eq_false, not_false_eq_true, Bool.false_eq_true, reduceCtorEq, Nat.reduceAdd, Nat.reduceMul, Nat.reduceSub]
    · rw [if_neg (by omega)] at hr0
      rw [hr0]
      refine ⟨M, ?_, eqD_r, hS⟩
      simp (disch := omega) only [e37, ma_f39 hc, nI_lit, nI_add, pk_sub, pk_mul, ma_neg, nI_clamp, ma_ltT, ma_ltF, ma_leT, ma_leF, ma_eqT, ma_eqF, nI_ltI, nI_leI, nI_eq, ma_obT, ma_obF, ma_enF, ma_neF, ma_nlT, ma_lnF, ma_nLT, ma_Ln, ↓reduceIte, Option.bind_some, Option.bind_none, true_and, and_true, false_and, and_false, ne_eq, not_true_eq_false, not_false_eq_true, Bool.false_eq_true, reduceCtorEq, Nat.reduceAdd, Nat.reduceMul, Nat.reduceSub]
  · have e37 : f37 M (nI c) = false := by rw [ma_f37 hc, decide_eq_false_iff_not]; exact h11
    rw [if_neg (by omega)] at hr0
    rw [hr0]
    refine ⟨M, ?_, eqD_r, hS⟩
    simp (disch := omega) only [e37, ma_f39 hc, nI_lit, nI_add, pk_sub, pk_mul, ma_neg, nI_clamp, ma_ltT, ma_ltF, ma_leT, ma_leF, ma_eqT, ma_eqF, nI_ltI, nI_leI, nI_eq, ma_obT, ma_obF, ma_enF, ma_neF, ma_nlT, ma_lnF, ma_nLT, ma_Ln, ↓reduceIte, Option.bind_some, Option.bind_none, true_and, and_true, false_and, and_false, ne_eq, not_true_eq_false, not_false_eq_true, Bool.false_eq_true, reduceCtorEq, Nat.reduceAdd, Nat.reduceMul, Nat.reduceSub]
def rst (A : rn_AT) (s c : Nat) : List Nat → Bool × List Nat
  | [] => (false, [])
  | x :: l => if 0 < x ∧ x < 30 then (if 10 < x ∧ x < 20 ∧ c = 41 ∨ 20 < x ∧ c = 93 then (true, l) else if x % 10 = 6 then (false, x :: l) else rbeg A s c ((x + 1) :: l)) else if x = 30 then (decide (50 ≤ c ∧ c ≤ 57), l) else rbeg A s c l
