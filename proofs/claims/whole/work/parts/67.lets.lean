/-! 67: all the letters in front of a part -/
theorem rf_step {M M2 : rn_T} {m pn g : Nat} {f : rn_T → Option (Bool × rn_T)} {fu : Nat} (h1 : rI M 318 15 = nI (m + 1)) (hm : m < 1000) (h2 : rI M 318 10 = nI pn) (hp : pn ≤ 100) (h3 : rI M 318 20 = nI g) (hg : g ≤ 500) (h : f55 M = some M2) : f56_L26 (fu + 1) M f = f56_L26 fu M2 f := by
  rw [f56_L26]
  simp (disch := omega) only [h1, h2, h3, h, nI_lit, nI_add, pk_sub, pk_mul, ma_neg, nI_clamp, ma_ltT, ma_ltF, ma_leT, ma_leF, ma_eqT, ma_eqF, nI_ltI, nI_leI, nI_eq, ma_obT, ma_obF, ma_enF, ma_neF, ma_nlT, ma_lnF, ma_nLT, ma_Ln, ↓reduceIte, Option.bind_some, Option.bind_none, true_and, and_true, false_and, and_false, ne_eq, not_true_eq_false, not_false_eq_true, Bool.false_eq_true, reduceCtorEq, Nat.reduceAdd, Nat.reduceMul, Nat.reduceSub]
/-- too many letters, or parts -/
theorem rf_stop {M : rn_T} {m pn g : Nat} {f : rn_T → Option (Bool × rn_T)} {fu : Nat} (h1 : rI M 318 15 = nI m) (hm : m < 1000) (h2 : rI M 318 10 = nI pn) (hp : pn ≤ 101) (h3 : rI M 318 20 = nI g) (hg : g ≤ 501) (h : m = 0 ∨ pn = 101 ∨ g = 501) : f56_L26 (fu + 1) M f = f M := by
  rw [f56_L26]
  by_cases c1 : m = 0
  · simp (disch := omega) only [h1, c1, nI_lit, nI_add, pk_sub, pk_mul, ma_neg, nI_clamp, ma_ltT, ma_ltF, ma_leT, ma_leF, ma_eqT, ma_eqF, nI_ltI, nI_leI, nI_eq, ma_obT, ma_obF, ma_enF, ma_neF, ma_nlT, ma_lnF, ma_nLT, ma_Ln, ↓reduceIte, Option.bind_some, Option.bind_none, true_and, and_true, false_and, and_false, ne_eq, not_true_eq_false, not_false_eq_true, Bool.false_eq_true, reduceCtorEq, Nat.reduceAdd, Nat.reduceMul, Nat.reduceSub]
  · by_cases c2 : pn = 101
    · simp (disch := omega) only [h1, h2, c1, c2, nI_lit, nI_add, pk_sub, pk_mul, ma_neg, nI_clamp, ma_ltT, ma_ltF, ma_leT, ma_leF, ma_eqT, ma_eqF, nI_ltI, nI_leI, nI_eq, ma_obT, ma_obF, ma_enF, ma_neF, ma_nlT, ma_lnF, ma_nLT, ma_Ln, ↓reduceIte, Option.bind_some, Option.bind_none, true_and, and_true, false_and, and_false, ne_eq, not_true_eq_false, not_false_eq_true, Bool.false_eq_true, reduceCtorEq, Nat.reduceAdd, Nat.reduceMul, Nat.reduceSub]
    · have : g = 501 := by omega
      simp (disch := omega) only [h1, h2, h3, this, nI_lit, nI_add, pk_sub, pk_mul, ma_neg, nI_clamp, ma_ltT, ma_ltF, ma_leT, ma_leF, ma_eqT, ma_eqF, nI_ltI, nI_leI, nI_eq, ma_obT, ma_obF, ma_enF, ma_neF, ma_nlT, ma_lnF, ma_nLT, ma_Ln, ↓reduceIte, Option.bind_some, Option.bind_none, true_and, and_true, false_and, and_false, ne_eq, not_true_eq_false, not_false_eq_true, Bool.false_eq_true, reduceCtorEq, Nat.reduceAdd, Nat.reduceMul, Nat.reduceSub]
theorem rf_end {M : rn_T} {m pn g : Nat} (h1 : rI M 318 15 = nI m) (hm : m < 1000) (h2 : rI M 318 10 = nI pn) (hp : pn ≤ 101) (h3 : rI M 318 20 = nI g) (hg : g ≤ 501) : f56_J40 M = some (decide (m = 0 ∧ pn ≤ 100 ∧ g ≤ 500), M) := by
  unfold f56_J40
  by_cases c1 : m = 0
  · subst c1
    by_cases c2 : pn = 101
    · subst c2
      simp (disch := omega) only [h1, h2, nI_lit, nI_add, pk_sub, pk_mul, ma_neg, nI_clamp, ma_ltT, ma_ltF, ma_leT, ma_leF, ma_eqT, ma_eqF, nI_ltI, nI_leI, nI_eq, ma_obT, ma_obF, ma_enF, ma_neF, ma_nlT, ma_lnF, ma_nLT, ma_Ln, ↓reduceIte, Option.bind_some, Option.bind_none, true_and, and_true, false_and, and_false, ne_eq, not_true_eq_false, not_false_eq_true, Bool.false_eq_true, reduceCtorEq, Nat.reduceAdd, Nat.reduceMul, Nat.reduceSub]
      rfl
    · by_cases c3 : g = 501
      · subst c3
        simp (disch := omega) only [h1, h2, h3, nI_lit, nI_add, pk_sub, pk_mul, ma_neg, nI_clamp, ma_ltT, ma_ltF, ma_leT, ma_leF, ma_eqT, ma_eqF, nI_ltI, nI_leI, nI_eq, ma_obT, ma_obF, ma_enF, ma_neF, ma_nlT, ma_lnF, ma_nLT, ma_Ln, ↓reduceIte, Option.bind_some, Option.bind_none, true_and, and_true, false_and, and_false, ne_eq, not_true_eq_false, not_false_eq_true, Bool.false_eq_true, reduceCtorEq, Nat.reduceAdd, Nat.reduceMul, Nat.reduceSub]
        simp
      · simp (disch := omega) only [h1, h2, h3, nI_lit, nI_add, pk_sub, pk_mul, ma_neg, nI_clamp, ma_ltT, ma_ltF, ma_leT, ma_leF, ma_eqT, ma_eqF, nI_ltI, nI_leI, nI_eq, ma_obT, ma_obF, ma_enF, ma_neF, ma_nlT, ma_lnF, ma_nLT, ma_Ln, ↓reduceIte, Option.bind_some, Option.bind_none, true_and, and_true, false_and, and_false, ne_eq, not_true_eq_false, not_false_eq_true, Bool.false_eq_true, reduceCtorEq, Nat.reduceAdd, Nat.reduceMul, Nat.reduceSub]
        have : decide (pn ≤ 100 ∧ g ≤ 500) = true := by rw [decide_eq_true_iff]; omega
        simp [this]
  · simp (disch := omega) only [h1, c1, nI_lit, nI_add, pk_sub, pk_mul, ma_neg, nI_clamp, ma_ltT, ma_ltF, ma_leT, ma_leF, ma_eqT, ma_eqF, nI_ltI, nI_leI, nI_eq, ma_obT, ma_obF, ma_enF, ma_neF, ma_nlT, ma_lnF, ma_nLT, ma_Ln, ↓reduceIte, Option.bind_some, Option.bind_none, true_and, and_true, false_and, and_false, ne_eq, not_true_eq_false, not_false_eq_true, Bool.false_eq_true, reduceCtorEq, Nat.reduceAdd, Nat.reduceMul, Nat.reduceSub]
    rfl
theorem ma_lets {A : rn_AT} {N : Nat → Prop} {EE : Nat → Nat → Nat} {p : Option Nat} {L : List (rn_IT × Option Nat)} {pn : Nat} {k : rn_T → Option (Bool × rn_T)} (ho : OKA A) (hw : WX A N EE) (hL : L.length ≤ 630) (hpn : pn ≤ 100) : ∀ (d g v n fu : Nat) (X : Nat → rn_IT) (t : rn_IT) (S M : rn_T), g + d = 500 → v ≤ g → d < fu → n ≤ g + 1 → CL S A X n g t → RQ M A X n g ((t, p) :: L) → GX A N EE X n → GI A N EE n t → rI M 318 10 = nI pn → ∃ (S2 : rn_T) (bb : Bool), f160_L2 1 fu S (nI v) k = some (bb, S2) ∧ eL S S2 ∧ (bb = false → ∃ (j : Nat) (M2 : rn_T), (∀ fuR kk, f56_L26 (fuR + j) M kk = kk M2) ∧ f56_J40 M2 = some (false, M2) ∧ eX M M2 ∧ j ≤ 502 - g) ∧ (bb = true → ∃ (M2 : rn_T) (t2 : rn_IT) (X2 : Nat → rn_IT) (n2 g2 : Nat), (∀ fuR kk, f56_L26 (fuR + (g2 - g)) M kk = f56_L26 fuR M2 kk) ∧ eX M M2 ∧ CL S2 A X2 n2 g2 t2 ∧ RQ M2 A X2 n2 g2 ((t2, p) :: L) ∧ GX A N EE X2 n2 ∧ GI A N EE n2 t2 ∧ n ≤ n2 ∧ n2 ≤ g2 + 1 ∧ g ≤ g2 ∧ g2 ≤ 500 ∧ ¬ (aC A t2.1 t2.2.1 = 120 ∨ isL (aC A t2.1 t2.2.1))) := by
  intro d
  induction d with
  | zero =>
    intro g v n fu X t S M hd hv hf hn hS hM hx ht hq
    obtain ⟨G, rfl⟩ : ∃ G, fu = G + 1 := ⟨fu - 1, by omega⟩
    obtain ⟨t1, t2, ⟨e, t3, t4⟩, t5, t6⟩ := ht
    have hlt := TM_lt t3
    have hN := ho.1 t.1 t1
    have hc1 := ho.2.1 t.1 t1 t.2.1 (by omega)
    have hsg := ma_f115 hS.1 ho t1 (show t.2.1 < 2 ^ 31 by omega)
    rw [if_pos (show t.2.1 < aN A t.1 by omega)] at hsg
    have h6 := hS.2.2.1
    by_cases c : aC A t.1 t.2.1 = 120 ∨ isL (aC A t.1 t.2.1)
    · refine ⟨S, false, ?_, eL_r, fun _ => ?_, fun hh => by cases hh⟩
      · have hJ : ∀ rc kk, f160_J20_2 S 1 (nI v) (nI (aC A t.1 t.2.1)) rc kk = some (false, S) := by
          intro rc kk
          unfold f160_J20_2
          rw [if_neg (by rw [h6]; simp (disch := omega) only [nI_lit, nI_add, pk_sub, pk_mul, ma_neg, nI_clamp, ma_ltT, ma_ltF, ma_leT, ma_leF, ma_eqT, ma_eqF, nI_ltI, nI_leI, nI_eq, ma_obT, ma_obF, ma_enF, ma_neF, ma_nlT, ma_lnF, ma_nLT, ma_Ln, ↓reduceIte, Option.bind_some, Option.bind_none, true_and, and_true, false_and, and_false, ne_eq, not_true_eq_false, not_false_eq_true, Bool.false_eq_true, reduceCtorEq, Nat.reduceAdd, Nat.reduceMul, Nat.reduceSub])]
        rw [f160_L2]
        rw [if_neg (by simp (disch := omega) only [nI_lit, nI_add, pk_sub, pk_mul, ma_neg, nI_clamp, ma_ltT, ma_ltF, ma_leT, ma_leF, ma_eqT, ma_eqF, nI_ltI, nI_leI, nI_eq, ma_obT, ma_obF, ma_enF, ma_neF, ma_nlT, ma_lnF, ma_nLT, ma_Ln, ↓reduceIte, Option.bind_some, Option.bind_none, true_and, and_true, false_and, and_false, ne_eq, not_true_eq_false, not_false_eq_true, Bool.false_eq_true, reduceCtorEq, Nat.reduceAdd, Nat.reduceMul, Nat.reduceSub]), if_pos (show rn_kd 1 = 1 from rfl), hS.2.2.2.1, hS.2.2.2.2.1, hsg, Option.bind_some]
        by_cases c1 : aC A t.1 t.2.1 = 120
        · rw [if_pos (by rw [c1]; rfl), hJ]
        · have c2 := c.resolve_left c1
          unfold isL at c2
          rw [if_neg (by simp (disch := omega) only [nI_lit, nI_add, pk_sub, pk_mul, ma_neg, nI_clamp, ma_ltT, ma_ltF, ma_leT, ma_leF, ma_eqT, ma_eqF, nI_ltI, nI_leI, nI_eq, ma_obT, ma_obF, ma_enF, ma_neF, ma_nlT, ma_lnF, ma_nLT, ma_Ln, ↓reduceIte, Option.bind_some, Option.bind_none, true_and, and_true, false_and, and_false, ne_eq, not_true_eq_false, not_false_eq_true, Bool.false_eq_true, reduceCtorEq, Nat.reduceAdd, Nat.reduceMul, Nat.reduceSub]), if_pos (by rw [ma_f27 hc1, decide_eq_true_iff]; exact c2), hJ]
      · obtain ⟨M2, t2', X2, n2, e1, e2, e3, -⟩ := ma_letter ho hw (by omega) hn hL hS hM hx ⟨t1, t2, ⟨e, t3, t4⟩, t5, t6⟩ c
        have q1 : rI M2 318 10 = nI pn := by rw [e2.2 10 (by omega) (by omega) (by omega)]; exact hq
        refine ⟨2, M2, fun fuR kk => ?_, ?_, e2, by omega⟩
        · rw [show fuR + 2 = (fuR + 1) + 1 by omega, rf_step hM.2.2.2.2 (by omega) hq hpn hM.2.2.1 (by omega) e1, rf_stop e3.2.2.2.2 (by simp; omega) q1 (by omega) e3.2.2.1 (by omega) (by omega)]
        · rw [rf_end e3.2.2.2.2 (by simp; omega) q1 (by omega) e3.2.2.1 (by omega)]
          have : decide ((((t2', p) :: L).length) = 0 ∧ pn ≤ 100 ∧ g + 1 ≤ 500) = false := by rw [decide_eq_false_iff_not]; omega
          rw [this]
    · refine ⟨S, true, ?_, eL_r, fun hh => (by cases hh), fun _ => ⟨M, t, X, n, g, fun fuR kk => by rw [Nat.sub_self]; rfl, eX_r, hS, hM, hx, ⟨t1, t2, ⟨e, t3, t4⟩, t5, t6⟩, Nat.le_refl _, hn, Nat.le_refl _, by omega, c⟩⟩
      rw [f160_L2]
      rw [if_neg (by simp (disch := omega) only [nI_lit, nI_add, pk_sub, pk_mul, ma_neg, nI_clamp, ma_ltT, ma_ltF, ma_leT, ma_leF, ma_eqT, ma_eqF, nI_ltI, nI_leI, nI_eq, ma_obT, ma_obF, ma_enF, ma_neF, ma_nlT, ma_lnF, ma_nLT, ma_Ln, ↓reduceIte, Option.bind_some, Option.bind_none, true_and, and_true, false_and, and_false, ne_eq, not_true_eq_false, not_false_eq_true, Bool.false_eq_true, reduceCtorEq, Nat.reduceAdd, Nat.reduceMul, Nat.reduceSub]), if_pos (show rn_kd 1 = 1 from rfl), hS.2.2.2.1, hS.2.2.2.2.1, hsg, Option.bind_some]
      have c1 : ¬ aC A t.1 t.2.1 = 120 := fun hh => c (.inl hh)
      rw [if_neg (by simp (disch := omega) only [nI_lit, nI_add, pk_sub, pk_mul, ma_neg, nI_clamp, ma_ltT, ma_ltF, ma_leT, ma_leF, ma_eqT, ma_eqF, nI_ltI, nI_leI, nI_eq, ma_obT, ma_obF, ma_enF, ma_neF, ma_nlT, ma_lnF, ma_nLT, ma_Ln, ↓reduceIte, Option.bind_some, Option.bind_none, true_and, and_true, false_and, and_false, ne_eq, not_true_eq_false, not_false_eq_true, Bool.false_eq_true, reduceCtorEq, Nat.reduceAdd, Nat.reduceMul, Nat.reduceSub]), if_neg (by rw [ma_f27 hc1, decide_eq_true_iff]; exact fun hh => c (.inr hh))]
  | succ d ih =>
    intro g v n fu X t S M hd hv hf hn hS hM hx ht hq
    obtain ⟨G, rfl⟩ : ∃ G, fu = G + 1 := ⟨fu - 1, by omega⟩
    have ht0 := ht
    obtain ⟨t1, t2, ⟨e, t3, t4⟩, t5, t6⟩ := ht
    have hlt := TM_lt t3
    have hN := ho.1 t.1 t1
    have hc1 := ho.2.1 t.1 t1 t.2.1 (by omega)
    have hsg := ma_f115 hS.1 ho t1 (show t.2.1 < 2 ^ 31 by omega)
    rw [if_pos (show t.2.1 < aN A t.1 by omega)] at hsg
    by_cases c : aC A t.1 t.2.1 = 120 ∨ isL (aC A t.1 t.2.1)
    · obtain ⟨M2, t2', X2, n2, e1, e2, e3, e4, e5, e6, e7, e8⟩ := ma_letter ho hw (by omega) hn hL hS hM hx ht0 c
      obtain ⟨S2, f1, f2, f3⟩ := e8 (by omega)
      have q1 : rI M2 318 10 = nI pn := by rw [e2.2 10 (by omega) (by omega) (by omega)]; exact hq
      obtain ⟨S3, bb, i1, i2, i3, i4⟩ := ih (g + 1) (v + 1) n2 G X2 t2' S2 M2 (by omega) (by omega) (by omega) (by omega) f3 e3 e4 e5 q1
      refine ⟨S3, bb, ?_, eL_t f2 i2, fun hb => ?_, fun hb => ?_⟩
      · rw [f160_L2]
        rw [if_neg (by simp (disch := omega) only [nI_lit, nI_add, pk_sub, pk_mul, ma_neg, nI_clamp, ma_ltT, ma_ltF, ma_leT, ma_leF, ma_eqT, ma_eqF, nI_ltI, nI_leI, nI_eq, ma_obT, ma_obF, ma_enF, ma_neF, ma_nlT, ma_lnF, ma_nLT, ma_Ln, ↓reduceIte, Option.bind_some, Option.bind_none, true_and, and_true, false_and, and_false, ne_eq, not_true_eq_false, not_false_eq_true, Bool.false_eq_true, reduceCtorEq, Nat.reduceAdd, Nat.reduceMul, Nat.reduceSub]), if_pos (show rn_kd 1 = 1 from rfl), hS.2.2.2.1, hS.2.2.2.2.1, hsg, Option.bind_some]
        have ev : nI v + (1 : Int32) = nI (v + 1) := by rw [nI_lit]; exact nI_add _ _
        by_cases c1 : aC A t.1 t.2.1 = 120
        · rw [if_pos (by rw [c1]; rfl), f1, ev]
          exact i1
        · have c2 := c.resolve_left c1
          unfold isL at c2
          rw [if_neg (by simp (disch := omega) only [nI_lit, nI_add, pk_sub, pk_mul, ma_neg, nI_clamp, ma_ltT, ma_ltF, ma_leT, ma_leF, ma_eqT, ma_eqF, nI_ltI, nI_leI, nI_eq, ma_obT, ma_obF, ma_enF, ma_neF, ma_nlT, ma_lnF, ma_nLT, ma_Ln, ↓reduceIte, Option.bind_some, Option.bind_none, true_and, and_true, false_and, and_false, ne_eq, not_true_eq_false, not_false_eq_true, Bool.false_eq_true, reduceCtorEq, Nat.reduceAdd, Nat.reduceMul, Nat.reduceSub]), if_pos (by rw [ma_f27 hc1, decide_eq_true_iff]; exact c2), f1, ev]
          exact i1
      · obtain ⟨j, M3, j1, j2, j3, j4⟩ := i3 hb
        refine ⟨j + 1, M3, fun fuR kk => ?_, j2, eX_t e2 j3, by omega⟩
        rw [show fuR + (j + 1) = (fuR + j) + 1 by omega, rf_step hM.2.2.2.2 (by omega) hq hpn hM.2.2.1 (by omega) e1]
        exact j1 fuR kk
      · obtain ⟨M3, t3', X3, n3, g3, j1, j2, j3, j4, j5, j6, j7, j8, j9, j10, j11⟩ := i4 hb
        refine ⟨M3, t3', X3, n3, g3, fun fuR kk => ?_, eX_t e2 j2, j3, j4, j5, j6, by omega, j8, by omega, j10, j11⟩
        rw [show fuR + (g3 - g) = (fuR + (g3 - (g + 1))) + 1 by omega, rf_step hM.2.2.2.2 (by omega) hq hpn hM.2.2.1 (by omega) e1]
        exact j1 fuR kk
    · refine ⟨S, true, ?_, eL_r, fun hh => (by cases hh), fun _ => ⟨M, t, X, n, g, fun fuR kk => by rw [Nat.sub_self]; rfl, eX_r, hS, hM, hx, ht0, Nat.le_refl _, hn, Nat.le_refl _, by omega, c⟩⟩
      rw [f160_L2]
      rw [if_neg (by simp (disch := omega) only [nI_lit, nI_add, pk_sub, pk_mul, ma_neg, nI_clamp, ma_ltT, ma_ltF, ma_leT, ma_leF, ma_eqT, ma_eqF, nI_ltI, nI_leI, nI_eq, ma_obT, ma_obF, ma_enF, ma_neF, ma_nlT, ma_lnF, ma_nLT, ma_Ln, ↓reduceIte, Option.bind_some, Option.bind_none, true_and, and_true, false_and, and_false, ne_eq, not_true_eq_false, not_false_eq_true, Bool.false_eq_true, reduceCtorEq, Nat.reduceAdd, Nat.reduceMul, Nat.reduceSub]), if_pos (show rn_kd 1 = 1 from rfl), hS.2.2.2.1, hS.2.2.2.2.1, hsg, Option.bind_some]
      have c1 : ¬ aC A t.1 t.2.1 = 120 := fun hh => c (.inl hh)
      rw [if_neg (by simp (disch := omega) only [nI_lit, nI_add, pk_sub, pk_mul, ma_neg, nI_clamp, ma_ltT, ma_ltF, ma_leT, ma_leF, ma_eqT, ma_eqF, nI_ltI, nI_leI, nI_eq, ma_obT, ma_obF, ma_enF, ma_neF, ma_nlT, ma_lnF, ma_nLT, ma_Ln, ↓reduceIte, Option.bind_some, Option.bind_none, true_and, and_true, false_and, and_false, ne_eq, not_true_eq_false, not_false_eq_true, Bool.false_eq_true, reduceCtorEq, Nat.reduceAdd, Nat.reduceMul, Nat.reduceSub]), if_neg (by rw [ma_f27 hc1, decide_eq_true_iff]; exact fun hh => c (.inr hh))]
