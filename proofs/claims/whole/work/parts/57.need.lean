/-! 57: the class's isWell -/
def NR (S : rn_T) (N : Nat → Nat) : Prop := ∀ j, j < 8 → rA S 25 j = nI (N j) ∧ N j < 2
theorem NR_w {S : rn_T} {N : Nat → Nat} {e v : Nat} (h : NR S N) (hv : v < 2) : NR (wA S 25 e (nI v)) (fun j => if j = e then v else N j) := by
  intro j hj
  by_cases he : j = e
  · subst he
    simp only [if_true]
    exact ⟨ra_A, hv⟩
  · simp only [if_neg he]
    rw [ra_An (by omega)]
    exact h j hj
theorem NR_eq {S S2 : rn_T} {N : Nat → Nat} (h : NR S N) (he : rA S2 25 = rA S 25) : NR S2 N := by
  unfold NR
  rw [he]
  exact h
abbrev e25 : Nat → Prop := fun q => q ≠ 25
theorem ma_110a {s : Nat} {u : Int32} {kk : Option Nat} {A : rn_AT} {k : rn_T → Option (Bool × rn_T)} (hs : s < 8) (hk : aU A s u kk) : ∀ (d e fu : Nat) (S : rn_T), e + d = 8 → d < fu → (∀ j, j < e → rA S 25 j = nI (if j = s ∨ kk = some j then 1 else 0)) → ∃ S2, EqT e25 S S2 ∧ NR S2 (fun j => if j = s ∨ kk = some j then 1 else 0) ∧ f110_L2 1 (nI s) u fu S (nI e) k = k S2 := by
  intro d
  induction d with
  | zero =>
    intro e fu S hi hf hN
    obtain ⟨g, rfl⟩ : ∃ g, fu = g + 1 := ⟨fu - 1, by omega⟩
    have : e = 8 := by omega
    subst this
    refine ⟨S, eq_r, fun j hj => ⟨hN j hj, by show (if j = s ∨ kk = some j then 1 else 0) < 2; split <;> omega⟩, ?_⟩
    rw [f110_L2]
    simp (disch := omega) only [nI_lit, nI_add, pk_sub, pk_mul, ma_neg, nI_clamp, ma_ltT, ma_ltF, ma_leT, ma_leF, ma_eqT, ma_eqF, nI_ltI, nI_leI, nI_eq, ma_obT, ma_obF, ma_enF, ma_neF, ma_nlT, ma_lnF, ma_nLT, ma_Ln, ↓reduceIte, Option.bind_some, Option.bind_none, true_and, and_true, false_and, and_false, ne_eq, not_true_eq_false, not_false_eq_true, Bool.false_eq_true, reduceCtorEq, Nat.reduceAdd, Nat.reduceMul, Nat.reduceSub]
  | succ d ih =>
    intro e fu S hi hf hN
    obtain ⟨g, rfl⟩ : ∃ g, fu = g + 1 := ⟨fu - 1, by omega⟩
    have hu : (nI e = u) ↔ kk = some e := by
      rcases hk with ⟨h1, h2, h3⟩ | ⟨t, h1, h2, h3, h4⟩
      · subst h1 h2
        constructor
        · intro hx
          have := (ma_enF (show e < 2 ^ 31 by omega) (show 0 < 1 by omega) (by omega))
          exact absurd hx (by rw [show (-1 : Int32) = -nI 1 from rfl, this]; exact id)
        · intro hx; cases hx
      · subst h1 h3
        rw [nI_eq (by omega) (by omega)]
        constructor
        · intro hx; rw [hx]
        · intro hx; cases hx; rfl
    have hstep : ∀ v : Nat, v = (if e = s ∨ kk = some e then 1 else 0) → ∃ S2, EqT e25 S S2 ∧ NR S2 (fun j => if j = s ∨ kk = some j then 1 else 0) ∧ f110_L2 1 (nI s) u g (wA S 25 e (nI v)) (nI (e + 1)) k = k S2 := by
      intro v hv
      obtain ⟨S2, a1, a2, a3⟩ := ih (e + 1) g (wA S 25 e (nI v)) (by omega) (by omega) (fun j hj => by
        by_cases hje : j = e
        · subst hje; rw [ra_A, hv]
        · rw [ra_An (by omega)]; exact hN j (by omega))
      exact ⟨S2, eq_t (eq_A (by show ¬ (25 ≠ 25); omega)) a1, a2, a3⟩
    rw [f110_L2]
    by_cases h1 : e = s
    · obtain ⟨S2, a1, a2, a3⟩ := hstep 1 (by rw [if_pos (.inl h1)])
      refine ⟨S2, a1, a2, ?_⟩
      rw [← a3]
      subst h1
      simp (disch := omega) only [nI_lit, nI_add, pk_sub, pk_mul, ma_neg, nI_clamp, ma_ltT, ma_ltF, ma_leT, ma_leF, ma_eqT, ma_eqF, nI_ltI, nI_leI, nI_eq, ma_obT, ma_obF, ma_enF, ma_neF, ma_nlT, ma_lnF, ma_nLT, ma_Ln, ↓reduceIte, Option.bind_some, Option.bind_none, true_and, and_true, false_and, and_false, ne_eq, not_true_eq_false, not_false_eq_true, Bool.false_eq_true, reduceCtorEq, Nat.reduceAdd, Nat.reduceMul, Nat.reduceSub]
    · by_cases h2 : kk = some e
      · obtain ⟨S2, a1, a2, a3⟩ := hstep 1 (by rw [if_pos (.inr h2)])
        refine ⟨S2, a1, a2, ?_⟩
        rw [← a3]
        have hu2 := hu.mpr h2
        simp (disch := omega) only [h1, eq_true hu2, nI_lit, nI_add, pk_sub, pk_mul, ma_neg, nI_clamp, ma_ltT, ma_ltF, ma_leT, ma_leF, ma_eqT, ma_eqF, nI_ltI, nI_leI, nI_eq, ma_obT, ma_obF, ma_enF, ma_neF, ma_nlT, ma_lnF, ma_nLT, ma_Ln, ↓reduceIte, Option.bind_some, Option.bind_none, true_and, and_true, false_and, and_false, ne_eq, not_true_eq_false, not_false_eq_true, Bool.false_eq_true, reduceCtorEq, Nat.reduceAdd, Nat.reduceMul, Nat.reduceSub]
      · obtain ⟨S2, a1, a2, a3⟩ := hstep 0 (by rw [if_neg (by rintro (hx | hx); exact h1 hx; exact h2 hx)])
        refine ⟨S2, a1, a2, ?_⟩
        rw [← a3]
        have hu2 : ¬ (nI e = u) := fun hx => h2 (hu.mp hx)
        simp (disch := omega) only [h1, eq_false hu2, nI_lit, nI_add, pk_sub, pk_mul, ma_neg, nI_clamp, ma_ltT, ma_ltF, ma_leT, ma_leF, ma_eqT, ma_eqF, nI_ltI, nI_leI, nI_eq, ma_obT, ma_obF, ma_enF, ma_neF, ma_nlT, ma_lnF, ma_nLT, ma_Ln, ↓reduceIte, Option.bind_some, Option.bind_none, true_and, and_true, false_and, and_false, ne_eq, not_true_eq_false, not_false_eq_true, Bool.false_eq_true, reduceCtorEq, Nat.reduceAdd, Nat.reduceMul, Nat.reduceSub]
theorem ma_110b {A : rn_AT} {e : Nat} {k : rn_T → Option (Bool × rn_T)} (ho : OKA A) (he : e < 8) : ∀ (d i fu : Nat) (S : rn_T) (N : Nat → Nat), i + d = e → d < fu → PS S A → NR S N → ∃ S2 N2, EqT e25 S S2 ∧ NR S2 N2 ∧ (∀ j, N2 j = if i ≤ j ∧ j < e ∧ ao (aC A e) (65 + j) (aN A e) = true then 1 else N j) ∧ f110_L48 1 (nI e) fu S (nI i) k = k S2 := by
  intro d
  induction d with
  | zero =>
    intro i fu S N hi hf hS hN
    obtain ⟨g, rfl⟩ : ∃ g, fu = g + 1 := ⟨fu - 1, by omega⟩
    have : i = e := by omega
    subst this
    refine ⟨S, N, eq_r, hN, fun j => by rw [if_neg (by omega)], ?_⟩
    rw [f110_L48]
    simp (disch := omega) only [nI_lit, nI_add, pk_sub, pk_mul, ma_neg, nI_clamp, ma_ltT, ma_ltF, ma_leT, ma_leF, ma_eqT, ma_eqF, nI_ltI, nI_leI, nI_eq, ma_obT, ma_obF, ma_enF, ma_neF, ma_nlT, ma_lnF, ma_nLT, ma_Ln, ↓reduceIte, Option.bind_some, Option.bind_none, true_and, and_true, false_and, and_false, ne_eq, not_true_eq_false, not_false_eq_true, Bool.false_eq_true, reduceCtorEq, Nat.reduceAdd, Nat.reduceMul, Nat.reduceSub]
  | succ d ih =>
    intro i fu S N hi hf hS hN
    obtain ⟨g, rfl⟩ : ∃ g, fu = g + 1 := ⟨fu - 1, by omega⟩
    have hh := ma_holds hS ho he (v := 65 + i) (by omega)
    rw [f110_L48]
    cases hb : ao (aC A e) (65 + i) (aN A e) with
    | true =>
      obtain ⟨S2, N2, a1, a2, a3, a4⟩ := ih (i + 1) g (wA S 25 i (nI 1)) _ (by omega) (by omega) (ps_eq hS (eq_A (by omega))) (NR_w hN (v := 1) (by omega))
      refine ⟨S2, N2, eq_t (eq_A (by show ¬ (25 ≠ 25); omega)) a1, a2, fun j => ?_, ?_⟩
      · rw [a3 j]
        by_cases hj : j = i
        · subst hj
          rw [if_neg (by omega), if_pos rfl, if_pos ⟨by omega, by omega, hb⟩]
        · rw [if_neg hj]
          by_cases hc : i + 1 ≤ j ∧ j < e ∧ ao (aC A e) (65 + j) (aN A e) = true
          · rw [if_pos hc, if_pos ⟨by omega, hc.2⟩]
          · rw [if_neg hc, if_neg (fun hx => hc ⟨by omega, hx.2⟩)]
      · rw [← a4]
        rw [hb] at hh
        simp (disch := omega) only [show rn_kd 1 = 1 from rfl, hh, nI_lit, nI_add, pk_sub, pk_mul, ma_neg, nI_clamp, ma_ltT, ma_ltF, ma_leT, ma_leF, ma_eqT, ma_eqF, nI_ltI, nI_leI, nI_eq, ma_obT, ma_obF, ma_enF, ma_neF, ma_nlT, ma_lnF, ma_nLT, ma_Ln, ↓reduceIte, Option.bind_some, Option.bind_none, true_and, and_true, false_and, and_false, ne_eq, not_true_eq_false, not_false_eq_true, Bool.false_eq_true, reduceCtorEq, Nat.reduceAdd, Nat.reduceMul, Nat.reduceSub]
    | false =>
      obtain ⟨S2, N2, a1, a2, a3, a4⟩ := ih (i + 1) g S _ (by omega) (by omega) hS hN
      refine ⟨S2, N2, a1, a2, fun j => ?_, ?_⟩
      · rw [a3 j]
        by_cases hj : j = i
        · subst hj
          rw [if_neg (by omega), if_neg (fun hx => by rw [hb] at hx; exact absurd hx.2.2 (by decide))]
        · by_cases hc : i + 1 ≤ j ∧ j < e ∧ ao (aC A e) (65 + j) (aN A e) = true
          · rw [if_pos hc, if_pos ⟨by omega, hc.2⟩]
          · rw [if_neg hc, if_neg (fun hx => hc ⟨by omega, hx.2⟩)]
      · rw [← a4]
        rw [hb] at hh
        simp (disch := omega) only [show rn_kd 1 = 1 from rfl, hh, nI_lit, nI_add, pk_sub, pk_mul, ma_neg, nI_clamp, ma_ltT, ma_ltF, ma_leT, ma_leF, ma_eqT, ma_eqF, nI_ltI, nI_leI, nI_eq, ma_obT, ma_obF, ma_enF, ma_neF, ma_nlT, ma_lnF, ma_nLT, ma_Ln, ↓reduceIte, Option.bind_some, Option.bind_none, true_and, and_true, false_and, and_false, ne_eq, not_true_eq_false, not_false_eq_true, Bool.false_eq_true, reduceCtorEq, Nat.reduceAdd, Nat.reduceMul, Nat.reduceSub]
