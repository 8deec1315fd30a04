/-! 77: hidden, or with a tag -/
def mkh (F h j : Nat) : Nat := F + j - (if h < j then 1 else 0)
theorem mkh_s {F h i : Nat} (h1 : i ≠ h) : mkh F h i + 1 = mkh F h (i + 1) := by
  unfold mkh
  by_cases c : h < i
  · rw [if_pos c, if_pos (by omega)]; omega
  · rw [if_neg c, if_neg (by omega)]; omega
theorem mkh_h {F h : Nat} : mkh F h h = mkh F h (h + 1) := by
  unfold mkh
  rw [if_neg (by omega), if_pos (by omega)]; omega
theorem mkh_le {F h i : Nat} : mkh F h i ≤ F + i := by unfold mkh; omega
theorem cl_hideL {T : rn_TR} {k hb F x : Nat} (hw : TW T) (hk : k < tN T) (hN : tN T ≤ 100) (hF : F ≤ 300) (hb6 : hb < 6) : ∀ d i fu (S : rn_T), i + d = tC T k → d < fu → SK S T → ∃ S2, eC T k S S2 ∧ (∀ f, f125_L23 (76 + 2 * k) (nI hb) x fu S (nI (mkh F hb i)) (nI i) f = f S2 (nI (mkh F hb (tC T k)))) ∧ (∀ j, j < tC T k → rI S2 (76 + 2 * tE T k j) 14 = if i ≤ j ∧ j ≠ hb then nI (mkh F hb j) else rI S (76 + 2 * tE T k j) 14) ∧ (∀ j, j < tC T k → rI S2 (76 + 2 * tE T k j) 7 = rI S (76 + 2 * tE T k j) 7) := by
  have hC := (hw.1 k hk).2.2.2.2
  intro d
  induction d with
  | zero =>
    intro i fu S hi hf h1
    have e1 := (h1.2.1 k hk).1
    obtain ⟨G, rfl⟩ : ∃ G, fu = G + 1 := ⟨fu - 1, by omega⟩
    refine ⟨S, eC_r, fun f => ?_, fun j hj => by rw [if_neg (by omega)], fun _ _ => rfl⟩
    rw [f125_L23, e1, if_pos (le_T (by omega) (by omega)), show i = tC T k by omega]
  | succ d ih =>
    intro i fu S hi hf h1
    have e1 := (h1.2.1 k hk).1
    obtain ⟨G, rfl⟩ : ∃ G, fu = G + 1 := ⟨fu - 1, by omega⟩
    have hj : i < tC T k := by omega
    obtain ⟨g1, g2, g3, g4⟩ := hw.2.2 k i hk hj
    have hk4 := ma_kd3 (show tE T k i < 100 by omega)
    by_cases c : i = hb
    · subst c
      obtain ⟨S2, i1, i2, i3, i4⟩ := ih (i + 1) G S (by omega) (by omega) h1
      refine ⟨S2, i1, fun f => ?_, fun j hj2 => ?_, i4⟩
      · rw [f125_L23, e1, if_neg (le_F (by omega) (by omega)), if_pos rfl, nI_p1, mkh_h]
        exact i2 f
      · rw [i3 j hj2]
        by_cases c2 : i + 1 ≤ j ∧ j ≠ i
        · rw [if_pos c2, if_pos (by omega)]
        · rw [if_neg c2, if_neg (by omega)]
    · have hsk : SK (wI S (76 + 2 * tE T k i) 14 (nI (mkh F hb i))) T := by
        refine ⟨by rw [ra_In (by omega)]; exact h1.1, fun y hy => ?_, by rw [ra_In (by omega)]; exact h1.2.2⟩
        have := h1.2.1 y hy
        unfold sk at this ⊢
        rw [ra_In (by omega), ra_In (by omega), ra_In (by omega)]
        exact this
      obtain ⟨S2, i1, i2, i3, i4⟩ := ih (i + 1) G _ (by omega) (by omega) hsk
      refine ⟨S2, eC_t (eC_c hj (.inr rfl)) i1, fun f => ?_, fun j hj2 => ?_, fun j hj2 => by rw [i4 j hj2, ra_In (by omega)]⟩
      · rw [f125_L23, e1, if_neg (le_F (by omega) (by omega)), if_neg (show ¬ nI i = nI hb by simp (disch := omega) only [nI_lit, nI_add, pk_sub, pk_mul, ma_neg, nI_clamp, ma_ltT, ma_ltF, ma_leT, ma_leF, ma_eqT, ma_eqF, nI_ltI, nI_leI, nI_eq, ma_obT, ma_obF, ma_enF, ma_neF, ma_nlT, ma_lnF, ma_nLT, ma_Ln, ↓reduceIte, Option.bind_some, Option.bind_none, true_and, and_true, false_and, and_false, ne_eq, not_true_eq_false, not_false_eq_true, Bool.false_eq_true, reduceCtorEq, Nat.reduceAdd, Nat.reduceMul, Nat.reduceSub]), if_neg (ob_F (by omega) (by omega)), nI_clamp (by omega), rn_om_s (sk_child h1 hw hk hj), if_pos hk4, nI_p1, nI_p1, mkh_s c]
        exact i2 f
      · rw [i3 j hj2]
        by_cases ej : j = i
        · subst ej
          rw [if_neg (by omega), if_pos (by omega), ra_I]
        · have hne : tE T k j ≠ tE T k i := fun hx => ej (tE_inj hw hk hj2 hj hx)
          rw [ra_In (by omega)]
          by_cases c2 : i + 1 ≤ j ∧ j ≠ hb
          · rw [if_pos c2, if_pos (by omega)]
          · rw [if_neg c2, if_neg (by omega)]
def eCM (T : rn_TR) (k : Nat) (M M2 : rn_T) : Prop := (∀ q i, (∀ j, j < tC T k → ¬ (i = tE T k j ∧ q = 336)) → rA M2 q i = rA M q i) ∧ rI M2 = rI M ∧ rL M2 = rL M
theorem eCM_r {T : rn_TR} {k : Nat} {M : rn_T} : eCM T k M M := ⟨fun _ _ _ => rfl, rfl, rfl⟩
theorem eCM_t {T : rn_TR} {k : Nat} {M M2 M3 : rn_T} (h : eCM T k M M2) (g : eCM T k M2 M3) : eCM T k M M3 := ⟨fun q f h1 => (g.1 q f h1).trans (h.1 q f h1), g.2.1.trans h.2.1, g.2.2.trans h.2.2⟩
theorem eCM_K {T : rn_TR} {k : Nat} {M M2 : rn_T} (h : eCM T k M M2) : eKM T k M M2 := ⟨fun q i _ h2 => h.1 q i h2, h.2⟩
theorem eCM_c {T : rn_TR} {k j : Nat} {M : rn_T} {v : Int32} (hj : j < tC T k) : eCM T k M (wA M 336 (tE T k j) v) := ⟨fun q g h2 => by have := h2 j hj; rw [ra_An (by omega)], rfl, rfl⟩
theorem ro_lt {Y : rn_LY} {h e : Nat} (h1 : Y h 8 ≤ 64) (h2 : Y h 9 ≤ 4) (h3 : isA (Y e 6)) : ro Y h e ≤ 71 := by
  have := up_ge (n := Y h 8 + Y h 9) h3
  unfold ro
  split
  · omega
  · split <;> omega
theorem rf_hideL {S : rn_T} {T : rn_TR} {Y : rn_LY} {k hb : Nat} (hw : TW T) (hk : k < tN T) (hN : tN T ≤ 100) (hh : hb < tC T k) (hft : ∀ j, j < tC T k → ft Y (tE T k hb) (tE T k j)) : ∀ d i fu (M : rn_T), i + d = tC T k → d < fu → KR S M T Y k → ∃ M2, eCM T k M M2 ∧ (∀ f, f66_L2 (nI k) (nI (tE T k hb)) fu M (nI i) f = f M2) ∧ (∀ j, j < tC T k → rA M2 336 (tE T k j) = if i ≤ j then nI (ro Y (tE T k hb) (tE T k j)) else rA M 336 (tE T k j)) := by
  have hC := (hw.1 k hk).2.2.2.2
  intro d
  induction d with
  | zero =>
    intro i fu M hi hf h
    have e2 := (h.2.1.2 k hk).2.2.2.2
    obtain ⟨G, rfl⟩ : ∃ G, fu = G + 1 := ⟨fu - 1, by omega⟩
    refine ⟨M, eCM_r, fun f => ?_, fun j hj => by rw [if_neg (by omega)]⟩
    rw [f66_L2, if_neg (ob_F (by omega) (by omega)), nI_clamp (by omega), e2, if_pos (le_T (by omega) (by omega))]
  | succ d ih =>
    intro i fu M hi hf h
    have e2 := (h.2.1.2 k hk).2.2.2.2
    obtain ⟨G, rfl⟩ : ∃ G, fu = G + 1 := ⟨fu - 1, by omega⟩
    have hj : i < tC T k := by omega
    obtain ⟨g1, g2, g3, g4⟩ := hw.2.2 k i hk hj
    obtain ⟨g5, g6, g7, g8⟩ := hw.2.2 k hb hk hh
    obtain ⟨M2, i1, i2, i3⟩ := ih (i + 1) G (wA M 336 (tE T k i) (nI (ro Y (tE T k hb) (tE T k i)))) (by omega) (by omega) (kr_eq hw hk h eK_r (eCM_K (eCM_c hj)) (fun _ _ _ _ => rfl))
    refine ⟨M2, eCM_t (eCM_c hj) i1, fun f => ?_, fun j hj2 => ?_⟩
    · rw [f66_L2, if_neg (ob_F (by omega) (by omega)), nI_clamp (by omega), e2, if_neg (le_F (by omega) (by omega)), ma_child h.2.1 hw hk hj hN, Option.bind_some, nI_p1]
      by_cases c : i = hb
      · subst c
        rw [if_pos rfl, if_neg (ob_F (by omega) (by omega)), nI_clamp (by omega)]
        have := i2 f
        unfold ro at this
        rw [if_pos rfl] at this
        exact this
      · have hne : tE T k i ≠ tE T k hb := fun hx => c (tE_inj hw hk hj hh hx)
        rw [if_neg (show ¬ nI (tE T k i) = nI (tE T k hb) by simp (disch := omega) only [nI_lit, nI_add, pk_sub, pk_mul, ma_neg, nI_clamp, ma_ltT, ma_ltF, ma_leT, ma_leF, ma_eqT, ma_eqF, nI_ltI, nI_leI, nI_eq, ma_obT, ma_obF, ma_enF, ma_neF, ma_nlT, ma_lnF, ma_nLT, ma_Ln, ↓reduceIte, Option.bind_some, Option.bind_none, true_and, and_true, false_and, and_false, ne_eq, not_true_eq_false, not_false_eq_true, Bool.false_eq_true, reduceCtorEq, Nat.reduceAdd, Nat.reduceMul, Nat.reduceSub]), (ma_room hw hk hN h hj hh hne).1 (hft i hj), Option.bind_some, if_neg (ob_F (by omega) (by omega)), nI_clamp (by omega)]
        exact i2 f
    · rw [i3 j hj2]
      by_cases ej : j = i
      · subst ej
        rw [if_neg (by omega), if_pos (by omega), ra_A]
      · have hne : tE T k j ≠ tE T k i := fun hx => ej (tE_inj hw hk hj2 hj hx)
        rw [ra_An (by omega)]
        by_cases c2 : i + 1 ≤ j
        · rw [if_pos c2, if_pos (by omega)]
        · rw [if_neg c2, if_neg (by omega)]
/-- the tag's way -/
theorem ma_tagL {T : rn_TR} {Y : rn_LY} {k : Nat} (hw : TW T) (hk : k < tN T) (hN : tN T ≤ 100) : ∀ d i e fu fu2 (S M : rn_T), i + d = tC T k → d < fu → d < fu2 → KR S M T Y k → e ≤ 100 → ∃ (S2 M2 : rn_T) (e2 : Nat), eC T k S S2 ∧ eCM T k M M2 ∧ (∀ f, f126_L7 (76 + 2 * k) fu S (nI e) (nI i) f = f S2 (nI e2)) ∧ (∀ f, f67_L4 (nI k) fu2 M (nI e) (nI i) f = f M2 (nI e2)) ∧ (∀ j, j < tC T k → rI S2 (76 + 2 * tE T k j) 7 = (if i ≤ j then nI (up 1 (Y (tE T k j) 6)) else rI S (76 + 2 * tE T k j) 7) ∧ rI S2 (76 + 2 * tE T k j) 14 = (if i ≤ j then nI j else rI S (76 + 2 * tE T k j) 14) ∧ rA M2 336 (tE T k j) = (if i ≤ j then nI (up 1 (Y (tE T k j) 6)) else rA M 336 (tE T k j)) ∧ (i ≤ j → up 1 (Y (tE T k j) 6) + Y (tE T k j) 5 ≤ e2)) ∧ e ≤ e2 ∧ e2 ≤ 100 := by
  have hC := (hw.1 k hk).2.2.2.2
  have hk3 := ma_kd3 (show k < 100 by omega)
  intro d
  induction d with
  | zero =>
    intro i e fu fu2 S M hi hf hf2 h he
    have e1 := (h.1.2.1 k hk).1
    have e2 := (h.2.1.2 k hk).2.2.2.2
    obtain ⟨G, rfl⟩ : ∃ G, fu = G + 1 := ⟨fu - 1, by omega⟩
    obtain ⟨G2, rfl⟩ : ∃ G, fu2 = G + 1 := ⟨fu2 - 1, by omega⟩
    refine ⟨S, M, e, eC_r, eCM_r, fun f => ?_, fun f => ?_, fun j hj => ?_, Nat.le_refl _, he⟩
    · rw [f126_L7, e1, if_pos (le_T (by omega) (by omega))]
    · rw [f67_L4, if_neg (ob_F (by omega) (by omega)), nI_clamp (by omega), e2, if_pos (le_T (by omega) (by omega))]
    · rw [if_neg (by omega), if_neg (by omega), if_neg (by omega)]
      exact ⟨rfl, rfl, rfl, fun hx => by omega⟩
  | succ d ih =>
    intro i e fu fu2 S M hi hf hf2 h he
    have e1 := (h.1.2.1 k hk).1
    have e2 := (h.2.1.2 k hk).2.2.2.2
    obtain ⟨G, rfl⟩ : ∃ G, fu = G + 1 := ⟨fu - 1, by omega⟩
    obtain ⟨G2, rfl⟩ : ∃ G, fu2 = G + 1 := ⟨fu2 - 1, by omega⟩
    have hj : i < tC T k := by omega
    obtain ⟨g1, g2, g3, g4⟩ := hw.2.2 k i hk hj
    obtain ⟨⟨cA, -, c5, -⟩, c2⟩ := h.2.2 i hj
    obtain ⟨s5, m5⟩ := c2 5 (by unfold fK; omega)
    obtain ⟨s6, m6⟩ := c2 6 (by unfold fK; omega)
    have m5 : rA M 334 (tE T k i) = nI (Y (tE T k i) 5) := m5
    have m6 : rA M 335 (tE T k i) = nI (Y (tE T k i) 6) := m6
    have hk4 := ma_kd3 (show tE T k i < 100 by omega)
    obtain ⟨u1, u2, u3⟩ := up_ge (n := 1) cA
    have hl := mx2_l (a := e) (b := up 1 (Y (tE T k i) 6) + Y (tE T k i) 5)
    have hr := mx2_r (a := e) (b := up 1 (Y (tE T k i) 6) + Y (tE T k i) 5)
    have ho := mx2_o (a := e) (b := up 1 (Y (tE T k i) 6) + Y (tE T k i) 5)
    have heC := eC_t (eC_c (T := T) (k := k) (S := S) (f := 14) (v := nI i) hj (.inr rfl)) (eC_c (f := 7) (v := nI (up 1 (Y (tE T k i) 6))) hj (.inl rfl))
    have heM := eCM_c (T := T) (k := k) (M := M) (v := nI (up 1 (Y (tE T k i) 6))) hj
    obtain ⟨S2, M2, e3, i1, i2, i3, i4, i5, i6, i7⟩ := ih (i + 1) (mx2 e (up 1 (Y (tE T k i) 6) + Y (tE T k i) 5)) G G2 _ _ (by omega) (by omega) (by omega) (kr_eq hw hk h (eC_K heC) (eCM_K heM) (fun _ _ _ _ => rfl)) (by omega)
    refine ⟨S2, M2, e3, eC_t heC i1, eCM_t heM i2, fun f => ?_, fun f => ?_, fun j hj2 => ?_, by omega, i7⟩
    · rw [f126_L7, e1, if_neg (le_F (by omega) (by omega)), if_neg (ob_F (by omega) (by omega)), nI_clamp (by omega), rn_om_s (sk_child h.1 hw hk hj), if_pos hk4, ra_In (by omega), s6, show (1 : Int32) = nI 1 from rfl, ma_f26 (by omega) cA, ra_I, ra_In (by omega), ra_In (by omega), s5, nI_add, ma_mxC (by omega) (by omega), nI_add]
      exact i3 f
    · rw [f67_L4, if_neg (ob_F (by omega) (by omega)), nI_clamp (show k < 2 ^ 31 by omega), e2, if_neg (le_F (by omega) (by omega)), ma_child h.2.1 hw hk hj hN, Option.bind_some, if_neg (ob_F (by omega) (by omega)), nI_clamp (show tE T k i < 2 ^ 31 by omega), m6, show (1 : Int32) = nI 1 from rfl, ma_f32 (by omega) cA, Option.bind_some, ra_A, ra_An (by omega), m5, nI_add, ma_f31 (by omega) (by omega), nI_add]
      exact i4 f
    · obtain ⟨p1, p2, p3, p4⟩ := i5 j hj2
      by_cases ej : j = i
      · subst ej
        refine ⟨?_, ?_, ?_, fun _ => Nat.le_trans hr i6⟩
        · rw [p1, if_neg (by omega), if_pos (Nat.le_refl _), ra_I]
        · rw [p2, if_neg (by omega), if_pos (Nat.le_refl _), ra_In (by omega), ra_I]
        · rw [p3, if_neg (by omega), if_pos (Nat.le_refl _), ra_A]
      · have hne : tE T k j ≠ tE T k i := fun hx => ej (tE_inj hw hk hj2 hj hx)
        rw [ra_In (by omega), ra_In (by omega)] at p1
        rw [ra_In (by omega), ra_In (by omega)] at p2
        rw [ra_An (by omega)] at p3
        by_cases c2 : i + 1 ≤ j
        · rw [if_pos c2] at p1 p2 p3
          have c3 : i ≤ j := by omega
          rw [if_pos c3, if_pos c3, if_pos c3]
          exact ⟨p1, p2, p3, fun _ => p4 c2⟩
        · rw [if_neg c2] at p1 p2 p3
          have c3 : ¬ i ≤ j := by omega
          rw [if_neg c3, if_neg c3, if_neg c3]
          exact ⟨p1, p2, p3, fun hx => absurd hx c3⟩
