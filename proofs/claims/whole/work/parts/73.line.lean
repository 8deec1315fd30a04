/-! 73: the greatest align, fields in a line -/
theorem ob_F {n m : Nat} (h : n < m) (h2 : n < 2 ^ 31) : ¬ rn_ob (nI n) m := by rw [ma_obF h h2]; exact not_false
theorem nI_p1 {n : Nat} : nI n + (1 : Int32) = nI (n + 1) := by rw [nI_lit]; exact nI_add _ _
theorem le_F {a b : Nat} (h : b < a) (ha : a < 2 ^ 31) : ¬ nI a ≤ nI b := by rw [ma_leF h ha]; exact not_false
theorem le_T {a b : Nat} (h : a ≤ b) (hb : b < 2 ^ 31) : nI a ≤ nI b := nI_le h hb
theorem ma_galL {S M : rn_T} {T : rn_TR} {Y : rn_LY} {k : Nat} (hw : TW T) (hk : k < tN T) (hN : tN T ≤ 100) (h : KR S M T Y k) : ∀ d i a fu fu2, i + d = tC T k → d < fu → d < fu2 → isA a → ∃ a2, (∀ f, f120_L4 (76 + 2 * k) fu S (nI a) (nI i) f = f S (nI a2)) ∧ (∀ f, f60_L4 (nI k) fu2 M (nI a) (nI i) f = f M (nI a2)) ∧ isA a2 ∧ a ≤ a2 ∧ (∀ j, i ≤ j → j < tC T k → Y (tE T k j) 6 ≤ a2) ∧ (a2 = a ∨ ∃ j, j < tC T k ∧ a2 = Y (tE T k j) 6) := by
  obtain ⟨h1, h2, h3⟩ := h
  have hC := (hw.1 k hk).2.2.2.2
  have hk3 := ma_kd3 (show k < 100 by omega)
  have e1 := (h1.2.1 k hk).1
  have e2 := (h2.2 k hk).2.2.2.2
  intro d
  induction d with
  | zero =>
    intro i a fu fu2 hi hf hf2 ha
    obtain ⟨G, rfl⟩ : ∃ G, fu = G + 1 := ⟨fu - 1, by omega⟩
    obtain ⟨G2, rfl⟩ : ∃ G, fu2 = G + 1 := ⟨fu2 - 1, by omega⟩
    refine ⟨a, fun f => ?_, fun f => ?_, ha, Nat.le_refl _, fun j h4 h5 => by omega, .inl rfl⟩
    · rw [f120_L4, if_pos hk3, e1, if_pos (le_T (by omega) (by omega))]
    · rw [f60_L4, if_neg (ob_F (by omega) (by omega)), nI_clamp (by omega), e2, if_pos (le_T (by omega) (by omega))]
  | succ d ih =>
    intro i a fu fu2 hi hf hf2 ha
    obtain ⟨G, rfl⟩ : ∃ G, fu = G + 1 := ⟨fu - 1, by omega⟩
    obtain ⟨G2, rfl⟩ : ∃ G, fu2 = G + 1 := ⟨fu2 - 1, by omega⟩
    have hj : i < tC T k := by omega
    obtain ⟨g1, g2, g3, g4⟩ := hw.2.2 k i hk hj
    obtain ⟨c1, c2⟩ := h3 i hj
    obtain ⟨d1, d2⟩ := c2 6 (.inr (.inl rfl))
    have hA := c1.1
    have hA2 : isA (mx2 a (Y (tE T k i) 6)) := by
      rcases mx2_o (a := a) (b := Y (tE T k i) 6) with e | e <;> rw [e]
      · exact ha
      · exact hA
    have hk4 := ma_kd3 (show tE T k i < 100 by omega)
    have ha5 : a < 5 := by rcases ha with rfl | rfl | rfl <;> omega
    have hA5 : Y (tE T k i) 6 < 5 := by rcases hA with e | e | e <;> omega
    obtain ⟨a2, i1, i2, i3, i4, i5, i6⟩ := ih (i + 1) (mx2 a (Y (tE T k i) 6)) G G2 (by omega) (by omega) (by omega) hA2
    refine ⟨a2, fun f => ?_, fun f => ?_, i3, Nat.le_trans mx2_l i4, fun j h4 h5 => ?_, ?_⟩
    · rw [f120_L4, if_pos hk3, e1, if_neg (le_F (by omega) (by omega)), if_neg (ob_F (by omega) (by omega)), nI_clamp (by omega), rn_om_s (sk_child h1 hw hk hj), if_pos hk4, d1, ma_mxC (by omega) (by omega), nI_p1]
      exact i1 f
    · rw [f60_L4, if_neg (ob_F (by omega) (by omega)), nI_clamp (by omega), e2, if_neg (le_F (by omega) (by omega)), ma_child h2 hw hk hj hN, Option.bind_some, if_neg (ob_F (by omega) (by omega)), nI_clamp (by omega)]
      have d2 : rA M 335 (tE T k i) = nI (Y (tE T k i) 6) := d2
      rw [d2, ma_f31 (by omega) (by omega), nI_p1]
      exact i2 f
    · by_cases e : j = i
      · subst e
        exact Nat.le_trans mx2_r i4
      · exact i5 j (by omega) h5
    · rcases i6 with e | e
      · rcases mx2_o (a := a) (b := Y (tE T k i) 6) with e2 | e2
        · exact .inl (e.trans e2)
        · exact .inr ⟨i, hj, e.trans e2⟩
      · exact .inr e
theorem ma_gal {S M : rn_T} {T : rn_TR} {Y : rn_LY} {k : Nat} (hw : TW T) (hk : k < tN T) (hN : tN T ≤ 100) (h : KR S M T Y k) : ∃ a2, f120 S (76 + 2 * k) = some (nI a2) ∧ f60 M (nI k) = some (nI a2) ∧ isA a2 ∧ (∀ j, j < tC T k → Y (tE T k j) 6 ≤ a2) ∧ (a2 = 1 ∨ ∃ j, j < tC T k ∧ a2 = Y (tE T k j) 6) := by
  have hC := (hw.1 k hk).2.2.2.2
  obtain ⟨a2, h1, h2, h3, h4, h5, h6⟩ := ma_galL hw hk hN h (tC T k) 0 1 rn_FU rn_FU (by omega) (by unfold rn_FU; omega) (by unfold rn_FU; omega) (.inl rfl)
  exact ⟨a2, h1 _, h2 _, h3, fun j hj => h5 j (by omega) hj, h6⟩
/-- those of k that lie already -/
def ST (S M : rn_T) (T : rn_TR) (Y : rn_LY) (k : Nat) (P : Nat → Prop) (e : Nat) : Prop := ∀ j, j < tC T k → P j → rI S (76 + 2 * tE T k j) 7 = nI (Y (tE T k j) 7) ∧ rA M 336 (tE T k j) = nI (Y (tE T k j) 7) ∧ Y (tE T k j) 7 % Y (tE T k j) 6 = 0 ∧ Y (tE T k j) 7 + Y (tE T k j) 5 ≤ e
theorem ma_lineL {T : rn_TR} {k w : Nat} (hw : TW T) (hk : k < tN T) (hN : tN T ≤ 100) (hw4 : w ≤ 4) : ∀ d i e fu fu2 (S M : rn_T) (Y : rn_LY) (P : Nat → Prop), i + d = tC T k → d < fu → d < fu2 → KR S M T Y k → ST S M T Y k P e → e + 67 * d ≤ 1900 → ∃ (S2 M2 : rn_T) (Y2 : rn_LY) (e2 : Nat), (∀ f, f121_L4 (76 + 2 * k) (nI w) fu S (nI e) (nI i) f = f S2 (nI e2)) ∧ (∀ f, f61_L4 (nI k) (nI w) fu2 M (nI e) (nI i) f = f M2 (nI e2)) ∧ eK T k S S2 ∧ eKM T k M M2 ∧ (∀ i f, (f ≠ 7 ∨ ∀ j, j < tC T k → i ≠ tE T k j) → Y2 i f = Y i f) ∧ KR S2 M2 T Y2 k ∧ ST S2 M2 T Y2 k (fun j => P j ∨ (i ≤ j ∧ (w = 0 ∨ Y (tE T k j) 6 = w))) e2 ∧ e ≤ e2 ∧ e2 ≤ e + 67 * d ∧ (∀ f, rI S2 (76 + 2 * k) f = rI S (76 + 2 * k) f) ∧ (∀ q i, q ≠ 336 → rA M2 q i = rA M q i) := by
  have hC := (hw.1 k hk).2.2.2.2
  have hk3 := ma_kd3 (show k < 100 by omega)
  intro d
  induction d with
  | zero =>
    intro i e fu fu2 S M Y P hi hf hf2 h hs he
    obtain ⟨h1, h2, h3⟩ := h
    have e1 := (h1.2.1 k hk).1
    have e2 := (h2.2 k hk).2.2.2.2
    obtain ⟨G, rfl⟩ : ∃ G, fu = G + 1 := ⟨fu - 1, by omega⟩
    obtain ⟨G2, rfl⟩ : ∃ G, fu2 = G + 1 := ⟨fu2 - 1, by omega⟩
    refine ⟨S, M, Y, e, fun f => ?_, fun f => ?_, eK_r, eKM_r, fun _ _ _ => rfl, ⟨h1, h2, h3⟩, fun j hj hP => hs j hj (hP.resolve_right (by omega)), by omega, by omega, fun _ => rfl, fun _ _ _ => rfl⟩
    · rw [f121_L4, if_pos hk3, e1, if_pos (le_T (by omega) (by omega))]
    · rw [f61_L4, if_neg (ob_F (by omega) (by omega)), nI_clamp (by omega), e2, if_pos (le_T (by omega) (by omega))]
  | succ d ih =>
    intro i e fu fu2 S M Y P hi hf hf2 h hs he
    have h0 := h
    obtain ⟨h1, h2, h3⟩ := h
    have e1 := (h1.2.1 k hk).1
    have e2 := (h2.2 k hk).2.2.2.2
    obtain ⟨G, rfl⟩ : ∃ G, fu = G + 1 := ⟨fu - 1, by omega⟩
    obtain ⟨G2, rfl⟩ : ∃ G, fu2 = G + 1 := ⟨fu2 - 1, by omega⟩
    have hj : i < tC T k := by omega
    obtain ⟨g1, g2, g3, g4⟩ := hw.2.2 k i hk hj
    obtain ⟨c1, c2⟩ := h3 i hj
    obtain ⟨d1, d2⟩ := c2 6 (.inr (.inl rfl))
    obtain ⟨d3, d4⟩ := c2 5 (.inl rfl)
    have d2 : rA M 335 (tE T k i) = nI (Y (tE T k i) 6) := d2
    have d4 : rA M 334 (tE T k i) = nI (Y (tE T k i) 5) := d4
    obtain ⟨hA, hm, h64, -⟩ := c1
    have hk4 := ma_kd3 (show tE T k i < 100 by omega)
    have hA5 : Y (tE T k i) 6 < 5 := by rcases hA with e | e | e <;> omega
    have hA0 : 0 < Y (tE T k i) 6 := by rcases hA with e | e | e <;> omega
    obtain ⟨u1, u2, u3⟩ := up_ge (n := e) hA
    by_cases c : w = 0 ∨ Y (tE T k i) 6 = w
    · -- it is laid
      have heS := eK_c (S := S) (f := 7) (v := nI (up e (Y (tE T k i) 6))) hj (.inl rfl)
      have heM := eKM_c (M := M) (v := nI (up e (Y (tE T k i) 6))) hj
      have hY : ∀ x f, x ≠ k → f ≠ 7 → yU Y (tE T k i) 7 (up e (Y (tE T k i) 6)) x f = Y x f := fun x f _ hf => yU_n (.inr hf)
      have hS7 : ST (wI S (76 + 2 * tE T k i) 7 (nI (up e (Y (tE T k i) 6)))) (wA M 336 (tE T k i) (nI (up e (Y (tE T k i) 6)))) T (yU Y (tE T k i) 7 (up e (Y (tE T k i) 6))) k (fun j => P j ∨ j = i) (up e (Y (tE T k i) 6) + Y (tE T k i) 5) := by
        intro j hj2 hP
        by_cases ej : j = i
        · subst ej
          rw [yU_s, yU_n (.inr (by omega)), yU_n (.inr (by omega)), ra_I, ra_A]
          exact ⟨rfl, rfl, u3, Nat.le_refl _⟩
        · have hne : tE T k j ≠ tE T k i := fun hh => ej (tE_inj hw hk hj2 hj hh)
          obtain ⟨s1, s2, s3, s4⟩ := hs j hj2 (hP.resolve_right ej)
          rw [yU_n (.inl hne), yU_n (.inl hne), yU_n (.inl hne), ra_In (by omega), ra_An (by omega)]
          exact ⟨s1, s2, s3, by omega⟩
      obtain ⟨S2, M2, Y2, e3, i1, i2, i3, i4, i5, i6, i7, i8, i9, i10, i11⟩ := ih (i + 1) (up e (Y (tE T k i) 6) + Y (tE T k i) 5) G G2 _ _ _ _ (by omega) (by omega) (by omega) (kr_eq hw hk h0 heS heM hY) hS7 (by omega)
      refine ⟨S2, M2, Y2, e3, fun f => ?_, fun f => ?_, eK_t heS i3, eKM_t heM i4, fun x f hx => ?_, i6, fun j hj2 hP => i7 j hj2 ?_, by omega, by omega, fun f => by rw [i10, ra_In (by omega)], fun q x hq => by rw [i11 q x hq, ra_An (by omega)]⟩
      · have hJ : f121_J20_4 S (76 + 2 * k) (nI w) (nI e) (nI i) (76 + 2 * tE T k i) (fun S v3 v4 => f121_L4 (76 + 2 * k) (nI w) G S v3 v4 f) f = f S2 (nI e3) := by
          unfold f121_J20_4
          rw [if_pos hk4, d1, ma_f26 (by omega) hA, ra_I, ra_In (by omega), d3, nI_add, nI_p1]
          exact i1 f
        rw [f121_L4, if_pos hk3, e1, if_neg (le_F (by omega) (by omega)), if_neg (ob_F (by omega) (by omega)), nI_clamp (by omega), rn_om_s (sk_child h1 hw hk hj), hJ]
        by_cases w0 : w = 0
        · subst w0
          rw [if_pos (show nI 0 = 0 from rfl)]
        · rw [if_neg (show ¬ nI w = 0 by simp (disch := omega) only [nI_lit, nI_add, pk_sub, pk_mul, ma_neg, nI_clamp, ma_ltT, ma_ltF, ma_leT, ma_leF, ma_eqT, ma_eqF, nI_ltI, nI_leI, nI_eq, ma_obT, ma_obF, ma_enF, ma_neF, ma_nlT, ma_lnF, ma_nLT, ma_Ln, ↓reduceIte, Option.bind_some, Option.bind_none, true_and, and_true, false_and, and_false, ne_eq, not_true_eq_false, not_false_eq_true, Bool.false_eq_true, reduceCtorEq, Nat.reduceAdd, Nat.reduceMul, Nat.reduceSub]), if_pos hk4, d1, if_pos (by rw [c.resolve_left w0])]
      · have hJ : f61_J23_4 M (nI k) (nI w) (nI e) (nI i) (nI (tE T k i)) (fun M v4 v5 => f61_L4 (nI k) (nI w) G2 M v4 v5 f) f = f M2 (nI e3) := by
          unfold f61_J23_4
          rw [if_neg (ob_F (by omega) (by omega)), nI_clamp (by omega), d2, ma_f32 (by omega) hA, Option.bind_some, ra_A, ra_An (by omega), d4, nI_add, nI_p1]
          exact i2 f
        rw [f61_L4, if_neg (ob_F (by omega) (by omega)), nI_clamp (by omega), e2, if_neg (le_F (by omega) (by omega)), ma_child h2 hw hk hj hN, Option.bind_some, hJ]
        by_cases w0 : w = 0
        · subst w0
          rw [if_pos (show nI 0 = 0 from rfl)]
        · rw [if_neg (show ¬ nI w = 0 by simp (disch := omega) only [nI_lit, nI_add, pk_sub, pk_mul, ma_neg, nI_clamp, ma_ltT, ma_ltF, ma_leT, ma_leF, ma_eqT, ma_eqF, nI_ltI, nI_leI, nI_eq, ma_obT, ma_obF, ma_enF, ma_neF, ma_nlT, ma_lnF, ma_nLT, ma_Ln, ↓reduceIte, Option.bind_some, Option.bind_none, true_and, and_true, false_and, and_false, ne_eq, not_true_eq_false, not_false_eq_true, Bool.false_eq_true, reduceCtorEq, Nat.reduceAdd, Nat.reduceMul, Nat.reduceSub]), if_neg (ob_F (by omega) (by omega)), nI_clamp (by omega), d2, if_pos (by rw [c.resolve_left w0])]
      · rw [i5 x f hx]
        refine yU_n ?_
        rcases hx with hx | hx
        · exact .inr hx
        · exact .inl (hx i hj)
      · rcases hP with hP | ⟨h5, h6⟩
        · exact .inl (.inl hP)
        · by_cases ej : j = i
          · exact .inl (.inr ej)
          · exact .inr ⟨by omega, by rw [yU_n (.inr (by omega))]; exact h6⟩
    · have w0 : ¬ w = 0 := fun hh => c (.inl hh)
      have w1 : ¬ Y (tE T k i) 6 = w := fun hh => c (.inr hh)
      obtain ⟨S2, M2, Y2, e3, i1, i2, i3, i4, i5, i6, i7, i8, i9, i10, i11⟩ := ih (i + 1) e G G2 S M Y P (by omega) (by omega) (by omega) h0 hs (by omega)
      refine ⟨S2, M2, Y2, e3, fun f => ?_, fun f => ?_, i3, i4, i5, i6, fun j hj2 hP => i7 j hj2 ?_, by omega, by omega, i10, i11⟩
      · rw [f121_L4, if_pos hk3, e1, if_neg (le_F (by omega) (by omega)), if_neg (ob_F (by omega) (by omega)), nI_clamp (by omega), rn_om_s (sk_child h1 hw hk hj), if_neg (show ¬ nI w = 0 by simp (disch := omega) only [nI_lit, nI_add, pk_sub, pk_mul, ma_neg, nI_clamp, ma_ltT, ma_ltF, ma_leT, ma_leF, ma_eqT, ma_eqF, nI_ltI, nI_leI, nI_eq, ma_obT, ma_obF, ma_enF, ma_neF, ma_nlT, ma_lnF, ma_nLT, ma_Ln, ↓reduceIte, Option.bind_some, Option.bind_none, true_and, and_true, false_and, and_false, ne_eq, not_true_eq_false, not_false_eq_true, Bool.false_eq_true, reduceCtorEq, Nat.reduceAdd, Nat.reduceMul, Nat.reduceSub]), if_pos hk4, d1, if_neg (show ¬ nI (Y (tE T k i) 6) = nI w by simp (disch := omega) only [nI_lit, nI_add, pk_sub, pk_mul, ma_neg, nI_clamp, ma_ltT, ma_ltF, ma_leT, ma_leF, ma_eqT, ma_eqF, nI_ltI, nI_leI, nI_eq, ma_obT, ma_obF, ma_enF, ma_neF, ma_nlT, ma_lnF, ma_nLT, ma_Ln, ↓reduceIte, Option.bind_some, Option.bind_none, true_and, and_true, false_and, and_false, ne_eq, not_true_eq_false, not_false_eq_true, Bool.false_eq_true, reduceCtorEq, Nat.reduceAdd, Nat.reduceMul, Nat.reduceSub]), nI_p1]
        exact i1 f
      · rw [f61_L4, if_neg (ob_F (by omega) (by omega)), nI_clamp (by omega), e2, if_neg (le_F (by omega) (by omega)), ma_child h2 hw hk hj hN, Option.bind_some, if_neg (show ¬ nI w = 0 by simp (disch := omega) only [nI_lit, nI_add, pk_sub, pk_mul, ma_neg, nI_clamp, ma_ltT, ma_ltF, ma_leT, ma_leF, ma_eqT, ma_eqF, nI_ltI, nI_leI, nI_eq, ma_obT, ma_obF, ma_enF, ma_neF, ma_nlT, ma_lnF, ma_nLT, ma_Ln, ↓reduceIte, Option.bind_some, Option.bind_none, true_and, and_true, false_and, and_false, ne_eq, not_true_eq_false, not_false_eq_true, Bool.false_eq_true, reduceCtorEq, Nat.reduceAdd, Nat.reduceMul, Nat.reduceSub]), if_neg (ob_F (by omega) (by omega)), nI_clamp (by omega), d2, if_neg (show ¬ nI (Y (tE T k i) 6) = nI w by simp (disch := omega) only [nI_lit, nI_add, pk_sub, pk_mul, ma_neg, nI_clamp, ma_ltT, ma_ltF, ma_leT, ma_leF, ma_eqT, ma_eqF, nI_ltI, nI_leI, nI_eq, ma_obT, ma_obF, ma_enF, ma_neF, ma_nlT, ma_lnF, ma_nLT, ma_Ln, ↓reduceIte, Option.bind_some, Option.bind_none, true_and, and_true, false_and, and_false, ne_eq, not_true_eq_false, not_false_eq_true, Bool.false_eq_true, reduceCtorEq, Nat.reduceAdd, Nat.reduceMul, Nat.reduceSub]), nI_p1]
        exact i2 f
      · rcases hP with hP | ⟨h5, h6⟩
        · exact .inl hP
        · by_cases ej : j = i
          · subst ej; exact absurd h6 c
          · exact .inr ⟨by omega, h6⟩
theorem ma_line {S M : rn_T} {T : rn_TR} {Y : rn_LY} {k w e : Nat} {P : Nat → Prop} (hw : TW T) (hk : k < tN T) (hN : tN T ≤ 100) (hw4 : w ≤ 4) (h : KR S M T Y k) (hs : ST S M T Y k P e) (he : e + 67 * tC T k ≤ 1900) : ∃ (S2 M2 : rn_T) (Y2 : rn_LY) (e2 : Nat), f121 S (76 + 2 * k) (nI e) (nI w) = some (nI e2, S2) ∧ f61 M (nI k) (nI w) (nI e) = some (nI e2, M2) ∧ eK T k S S2 ∧ eKM T k M M2 ∧ (∀ i f, (f ≠ 7 ∨ ∀ j, j < tC T k → i ≠ tE T k j) → Y2 i f = Y i f) ∧ KR S2 M2 T Y2 k ∧ ST S2 M2 T Y2 k (fun j => P j ∨ (w = 0 ∨ Y (tE T k j) 6 = w)) e2 ∧ e ≤ e2 ∧ e2 ≤ e + 67 * tC T k ∧ (∀ f, rI S2 (76 + 2 * k) f = rI S (76 + 2 * k) f) ∧ (∀ q i, q ≠ 336 → rA M2 q i = rA M q i) := by
  have hC := (hw.1 k hk).2.2.2.2
  obtain ⟨S2, M2, Y2, e2, h1, h2, h3, h4, h5, h6, h7, h8⟩ := ma_lineL hw hk hN hw4 (tC T k) 0 e rn_FU rn_FU S M Y P (by omega) (by unfold rn_FU; omega) (by unfold rn_FU; omega) h hs he
  refine ⟨S2, M2, Y2, e2, h1 _, h2 _, h3, h4, h5, h6, fun j hj hP => h7 j hj ?_, h8⟩
  rcases hP with hP | hP
  · exact .inl hP
  · exact .inr ⟨Nat.zero_le _, hP⟩
