/-! 76: the host, the room beside its gap -/
theorem ma_hostL {S M : rn_T} {T : rn_TR} {Y : rn_LY} {k : Nat} (hw : TW T) (hk : k < tN T) (hN : tN T ≤ 100) (h : KR S M T Y k) : ∀ d i b fu fu2, i + d = tC T k → d < fu → d < fu2 → b < tC T k → ∃ b2, b2 < tC T k ∧ (∀ f, f119_L19 (76 + 2 * k) fu S (nI b) (nI i) f = f S (nI b2)) ∧ (∀ f, f63_L4 (nI k) fu2 M (nI b) (nI i) f = f M (nI b2)) := by
  obtain ⟨h1, h2, h3⟩ := h
  have hC := (hw.1 k hk).2.2.2.2
  have e1 := (h1.2.1 k hk).1
  have e2 := (h2.2 k hk).2.2.2.2
  intro d
  induction d with
  | zero =>
    intro i b fu fu2 hi hf hf2 hb
    obtain ⟨G, rfl⟩ : ∃ G, fu = G + 1 := ⟨fu - 1, by omega⟩
    obtain ⟨G2, rfl⟩ : ∃ G, fu2 = G + 1 := ⟨fu2 - 1, by omega⟩
    refine ⟨b, hb, fun f => ?_, fun f => ?_⟩
    · rw [f119_L19, e1, if_pos (le_T (by omega) (by omega))]
    · rw [f63_L4, if_neg (ob_F (by omega) (by omega)), nI_clamp (by omega), e2, if_pos (le_T (by omega) (by omega))]
  | succ d ih =>
    intro i b fu fu2 hi hf hf2 hb
    obtain ⟨G, rfl⟩ : ∃ G, fu = G + 1 := ⟨fu - 1, by omega⟩
    obtain ⟨G2, rfl⟩ : ∃ G, fu2 = G + 1 := ⟨fu2 - 1, by omega⟩
    have hj : i < tC T k := by omega
    obtain ⟨g1, g2, g3, g4⟩ := hw.2.2 k i hk hj
    obtain ⟨q1, q2, q3, q4⟩ := hw.2.2 k b hk hb
    obtain ⟨c1, c2⟩ := h3 i hj
    obtain ⟨c3, c4⟩ := h3 b hb
    obtain ⟨d1, d2⟩ := c2 5 (.inl rfl)
    obtain ⟨d3, d4⟩ := c4 5 (.inl rfl)
    have d2 : rA M 334 (tE T k i) = nI (Y (tE T k i) 5) := d2
    have d4 : rA M 334 (tE T k b) = nI (Y (tE T k b) 5) := d4
    have z1 := c1.2.2.1
    have z2 := c3.2.2.1
    have hk4 := ma_kd3 (show tE T k i < 100 by omega)
    have hk5 := ma_kd3 (show tE T k b < 100 by omega)
    have hS : ∀ f, f119_L19 (76 + 2 * k) (G + 1) S (nI b) (nI i) f = if nI (Y (tE T k i) 5) ≤ nI (Y (tE T k b) 5) then f119_L19 (76 + 2 * k) G S (nI b) (nI (i + 1)) f else f119_L19 (76 + 2 * k) G S (nI i) (nI (i + 1)) f := by
      intro f
      rw [f119_L19, e1, if_neg (le_F (by omega) (by omega)), if_neg (ob_F (by omega) (by omega)), nI_clamp (show i < 2 ^ 31 by omega), rn_om_s (sk_child h1 hw hk hj), if_pos hk4, if_neg (ob_F (by omega) (by omega)), nI_clamp (show b < 2 ^ 31 by omega), rn_om_s (sk_child h1 hw hk hb), if_pos hk5, d1, d3, nI_p1]
    have hM : ∀ f, f63_L4 (nI k) (G2 + 1) M (nI b) (nI i) f = if nI (Y (tE T k i) 5) ≤ nI (Y (tE T k b) 5) then f63_L4 (nI k) G2 M (nI b) (nI (i + 1)) f else f63_L4 (nI k) G2 M (nI i) (nI (i + 1)) f := by
      intro f
      rw [f63_L4, if_neg (ob_F (by omega) (by omega)), nI_clamp (show k < 2 ^ 31 by omega), e2, if_neg (le_F (by omega) (by omega)), ma_child h2 hw hk hj hN, Option.bind_some, if_neg (ob_F (by omega) (by omega)), nI_clamp (show tE T k i < 2 ^ 31 by omega), ma_child h2 hw hk hb hN, Option.bind_some, if_neg (ob_F (by omega) (by omega)), nI_clamp (show tE T k b < 2 ^ 31 by omega), d2, d4, nI_p1]
    by_cases c : Y (tE T k i) 5 ≤ Y (tE T k b) 5
    · obtain ⟨b2, j1, j2, j3⟩ := ih (i + 1) b G G2 (by omega) (by omega) (by omega) hb
      refine ⟨b2, j1, fun f => ?_, fun f => ?_⟩
      · rw [hS, if_pos (le_T c (by omega))]; exact j2 f
      · rw [hM, if_pos (le_T c (by omega))]; exact j3 f
    · obtain ⟨b2, j1, j2, j3⟩ := ih (i + 1) i G G2 (by omega) (by omega) (by omega) hj
      refine ⟨b2, j1, fun f => ?_, fun f => ?_⟩
      · rw [hS, if_neg (le_F (by omega) (by omega))]; exact j2 f
      · rw [hM, if_neg (le_F (by omega) (by omega))]; exact j3 f
/-- the offset beside the gap of h, and whether there is room -/
def ro (Y : rn_LY) (h e : Nat) : Nat := if e = h then 0 else if Y e 5 ≤ Y h 8 then 0 else up (Y h 8 + Y h 9) (Y e 6)
def ft (Y : rn_LY) (h e : Nat) : Prop := e = h ∨ Y e 5 ≤ Y h 8 ∨ up (Y h 8 + Y h 9) (Y e 6) + Y e 5 ≤ Y h 5
theorem ma_room {S M : rn_T} {T : rn_TR} {Y : rn_LY} {k i j : Nat} (hw : TW T) (hk : k < tN T) (hN : tN T ≤ 100) (h : KR S M T Y k) (hi : i < tC T k) (hj : j < tC T k) (hne : tE T k i ≠ tE T k j) : (ft Y (tE T k j) (tE T k i) → f64 M (nI (tE T k i)) (nI (tE T k j)) = some (nI (ro Y (tE T k j) (tE T k i)))) ∧ (¬ ft Y (tE T k j) (tE T k i) → f64 M (nI (tE T k i)) (nI (tE T k j)) = some (-nI 6)) := by
  obtain ⟨h1, h2, h3⟩ := h
  obtain ⟨g1, g2, -, -⟩ := hw.2.2 k i hk hi
  obtain ⟨g3, g4, -, -⟩ := hw.2.2 k j hk hj
  obtain ⟨⟨cA, -, c5, -⟩, c2⟩ := h3 i hi
  obtain ⟨⟨-, -, d5, d8, d9, -⟩, c4⟩ := h3 j hj
  have m1 : rA M 334 (tE T k i) = nI (Y (tE T k i) 5) := (c2 5 (by unfold fK; omega)).2
  have m2 : rA M 335 (tE T k i) = nI (Y (tE T k i) 6) := (c2 6 (by unfold fK; omega)).2
  have m3 : rA M 337 (tE T k j) = nI (Y (tE T k j) 8) := (c4 8 (by unfold fK; omega)).2
  have m4 : rA M 338 (tE T k j) = nI (Y (tE T k j) 9) := (c4 9 (by unfold fK; omega)).2
  have m5 : rA M 334 (tE T k j) = nI (Y (tE T k j) 5) := (c4 5 (by unfold fK; omega)).2
  obtain ⟨u1, u2, u3⟩ := up_ge (n := Y (tE T k j) 8 + Y (tE T k j) 9) cA
  have hf : f64 M (nI (tE T k i)) (nI (tE T k j)) = if Y (tE T k j) 8 < Y (tE T k i) 5 then (if Y (tE T k j) 5 < up (Y (tE T k j) 8 + Y (tE T k j) 9) (Y (tE T k i) 6) + Y (tE T k i) 5 then some (-nI 6) else some (nI (up (Y (tE T k j) 8 + Y (tE T k j) 9) (Y (tE T k i) 6)))) else some (nI 0) := by
    unfold f64
    rw [if_neg (ob_F (by omega) (by omega)), if_neg (ob_F (by omega) (by omega)), nI_clamp (show tE T k i < 2 ^ 31 by omega), nI_clamp (show tE T k j < 2 ^ 31 by omega), m1, m2, m3, m4, m5]
    by_cases c : Y (tE T k j) 8 < Y (tE T k i) 5
    · rw [if_pos (nI_lt c (by omega)), if_pos c, nI_add, ma_f32 (by omega) cA, Option.bind_some, nI_add]
      by_cases c2 : Y (tE T k j) 5 < up (Y (tE T k j) 8 + Y (tE T k j) 9) (Y (tE T k i) 6) + Y (tE T k i) 5
      · rw [if_pos (nI_lt c2 (by omega)), if_pos c2]; rfl
      · rw [if_neg (nI_nlt (by omega) (by omega)), if_neg c2]
    · rw [if_neg (nI_nlt (by omega) (by omega)), if_neg c]; rfl
  rw [hf]
  unfold ft ro
  refine ⟨fun hh => ?_, fun hh => ?_⟩
  · rw [if_neg hne]
    by_cases c : Y (tE T k i) 5 ≤ Y (tE T k j) 8
    · rw [if_neg (by omega), if_pos c]
    · rw [if_pos (by omega), if_neg (by omega), if_neg c]
  · rw [if_pos (by omega), if_pos (by omega)]
/-- only offsets and marks of those in k change -/
def eC (T : rn_TR) (k : Nat) (S S2 : rn_T) : Prop := (∀ q f, (∀ j, j < tC T k → ¬ (q = 76 + 2 * tE T k j ∧ (f = 7 ∨ f = 14))) → rI S2 q f = rI S q f) ∧ rA S2 = rA S ∧ rL S2 = rL S ∧ rR S2 = rR S ∧ rP S2 = rP S
theorem eC_r {T : rn_TR} {k : Nat} {S : rn_T} : eC T k S S := ⟨fun _ _ _ => rfl, rfl, rfl, rfl, rfl⟩
theorem eC_t {T : rn_TR} {k : Nat} {S S2 S3 : rn_T} (h : eC T k S S2) (g : eC T k S2 S3) : eC T k S S3 := ⟨fun q f h1 => (g.1 q f h1).trans (h.1 q f h1), g.2.1.trans h.2.1, g.2.2.1.trans h.2.2.1, g.2.2.2.1.trans h.2.2.2.1, g.2.2.2.2.trans h.2.2.2.2⟩
theorem eC_K {T : rn_TR} {k : Nat} {S S2 : rn_T} (h : eC T k S S2) : eK T k S S2 := ⟨fun q f _ h2 => h.1 q f h2, h.2⟩
theorem eC_c {T : rn_TR} {k f j : Nat} {S : rn_T} {v : Int32} (hj : j < tC T k) (h : f = 7 ∨ f = 14) : eC T k S (wI S (76 + 2 * tE T k j) f v) := ⟨fun q g h2 => by have := h2 j hj; rw [ra_In (by omega)], rfl, rfl, rfl, rfl⟩
theorem eC_k {T : rn_TR} {k f : Nat} {S S2 : rn_T} (hw : TW T) (hk : k < tN T) (h : eC T k S S2) : rI S2 (76 + 2 * k) f = rI S (76 + 2 * k) f := h.1 _ _ (fun j hj => by have := hw.2.2 k j hk hj; omega)
theorem ma_hid0 {M : rn_T} {T : rn_TR} {k : Nat} {x : Int32} (hw : TW T) (hk : k < tN T) (hN : tN T ≤ 100) (h2 : MB M T) : ∀ d i fu2, i + d = tC T k → d < fu2 → ∀ f, f65_L17 (nI k) x fu2 M (nI 0) (nI i) f = f M (nI 0) := by
  have hC := (hw.1 k hk).2.2.2.2
  have e2 := (h2.2 k hk).2.2.2.2
  intro d
  induction d with
  | zero =>
    intro i fu2 hi hf2 f
    obtain ⟨G2, rfl⟩ : ∃ G, fu2 = G + 1 := ⟨fu2 - 1, by omega⟩
    rw [f65_L17, if_neg (ob_F (by omega) (by omega)), nI_clamp (by omega), e2, if_pos (le_T (by omega) (by omega))]
  | succ d ih =>
    intro i fu2 hi hf2 f
    obtain ⟨G2, rfl⟩ : ∃ G, fu2 = G + 1 := ⟨fu2 - 1, by omega⟩
    rw [f65_L17, if_neg (ob_F (by omega) (by omega)), nI_clamp (by omega), e2, if_neg (le_F (by omega) (by omega)), ma_child h2 hw hk (by omega) hN, Option.bind_some, if_pos (show nI 0 = 0 from rfl), nI_p1]
    exact ih (i + 1) G2 (by omega) (by omega) f
theorem ma_hidL {T : rn_TR} {Y : rn_LY} {k hb : Nat} {M : rn_T} (hw : TW T) (hk : k < tN T) (hN : tN T ≤ 100) (hh : hb < tC T k) : ∀ d i fu fu2 (S : rn_T), i + d = tC T k → d < fu → d < fu2 → KR S M T Y k → ∃ (S2 : rn_T) (bb : Bool), eC T k S S2 ∧ (∀ j, j < tC T k → rI S2 (76 + 2 * tE T k j) 14 = rI S (76 + 2 * tE T k j) 14) ∧ (bb = true → (∀ f, f124_L19 (76 + 2 * k) (nI hb) (76 + 2 * tE T k hb) fu S (nI i) f = f S2) ∧ (∀ j, i ≤ j → j < tC T k → ft Y (tE T k hb) (tE T k j) ∧ rI S2 (76 + 2 * tE T k j) 7 = nI (ro Y (tE T k hb) (tE T k j)))) ∧ (∀ j, j < i → j < tC T k → rI S2 (76 + 2 * tE T k j) 7 = rI S (76 + 2 * tE T k j) 7) ∧ (bb = false → ∀ f, f124_L19 (76 + 2 * k) (nI hb) (76 + 2 * tE T k hb) fu S (nI i) f = some (false, S2)) ∧ (∀ f, f65_L17 (nI k) (nI (tE T k hb)) fu2 M (nI 1) (nI i) f = f M (nI bb.toNat)) := by
  have hC := (hw.1 k hk).2.2.2.2
  intro d
  induction d with
  | zero =>
    intro i fu fu2 S hi hf hf2 h
    obtain ⟨h1, h2, h3⟩ := h
    have e1 := (h1.2.1 k hk).1
    have e2 := (h2.2 k hk).2.2.2.2
    obtain ⟨G, rfl⟩ : ∃ G, fu = G + 1 := ⟨fu - 1, by omega⟩
    obtain ⟨G2, rfl⟩ : ∃ G, fu2 = G + 1 := ⟨fu2 - 1, by omega⟩
    refine ⟨S, true, eC_r, fun _ _ => rfl, fun _ => ⟨fun f => ?_, fun j h4 h5 => by omega⟩, fun _ _ _ => rfl, fun hx => (by cases hx), fun f => ?_⟩
    · rw [f124_L19, e1, if_pos (le_T (by omega) (by omega))]
    · rw [f65_L17, if_neg (ob_F (by omega) (by omega)), nI_clamp (by omega), e2, if_pos (le_T (by omega) (by omega))]
      rfl
  | succ d ih =>
    intro i fu fu2 S hi hf hf2 h
    have h0 := h
    obtain ⟨h1, h2, h3⟩ := h
    have e1 := (h1.2.1 k hk).1
    have e2 := (h2.2 k hk).2.2.2.2
    obtain ⟨G, rfl⟩ : ∃ G, fu = G + 1 := ⟨fu - 1, by omega⟩
    obtain ⟨G2, rfl⟩ : ∃ G, fu2 = G + 1 := ⟨fu2 - 1, by omega⟩
    have hj : i < tC T k := by omega
    obtain ⟨g1, g2, g3, g4⟩ := hw.2.2 k i hk hj
    obtain ⟨g5, g6, g7, g8⟩ := hw.2.2 k hb hk hh
    obtain ⟨⟨cA, -, c5, -⟩, c2⟩ := h3 i hj
    obtain ⟨⟨-, -, d5, d8, d9, -⟩, c4⟩ := h3 hb hh
    have s5 := (c2 5 (by unfold fK; omega)).1
    have s6 := (c2 6 (by unfold fK; omega)).1
    have t8 := (c4 8 (by unfold fK; omega)).1
    have t9 := (c4 9 (by unfold fK; omega)).1
    have t5 := (c4 5 (by unfold fK; omega)).1
    have hk4 := ma_kd3 (show tE T k i < 100 by omega)
    have hk5 := ma_kd3 (show tE T k hb < 100 by omega)
    obtain ⟨u1, u2, u3⟩ := up_ge (n := Y (tE T k hb) 8 + Y (tE T k hb) 9) cA
    -- the step of the class, and of the reference, when there is room
    have hgo : ft Y (tE T k hb) (tE T k i) → (∀ f, f124_L19 (76 + 2 * k) (nI hb) (76 + 2 * tE T k hb) (G + 1) S (nI i) f = f124_L19 (76 + 2 * k) (nI hb) (76 + 2 * tE T k hb) G (wI S (76 + 2 * tE T k i) 7 (nI (ro Y (tE T k hb) (tE T k i)))) (nI (i + 1)) f) ∧ (∀ f, f65_L17 (nI k) (nI (tE T k hb)) (G2 + 1) M (nI 1) (nI i) f = f65_L17 (nI k) (nI (tE T k hb)) G2 M (nI 1) (nI (i + 1)) f) := by
      intro hft
      refine ⟨fun f => ?_, fun f => ?_⟩
      · rw [f124_L19, e1, if_neg (le_F (by omega) (by omega)), if_neg (ob_F (by omega) (by omega)), nI_clamp (show i < 2 ^ 31 by omega), rn_om_s (sk_child h1 hw hk hj)]
        by_cases c : i = hb
        · subst c
          rw [if_pos rfl, if_pos hk4, nI_p1]
          unfold ro
          rw [if_pos rfl]; rfl
        · have hne : tE T k i ≠ tE T k hb := fun hx => c (tE_inj hw hk hj hh hx)
          rw [if_neg (show ¬ nI i = nI hb by simp (disch := omega) only [nI_lit, nI_add, pk_sub, pk_mul, ma_neg, nI_clamp, ma_ltT, ma_ltF, ma_leT, ma_leF, ma_eqT, ma_eqF, nI_ltI, nI_leI, nI_eq, ma_obT, ma_obF, ma_enF, ma_neF, ma_nlT, ma_lnF, ma_nLT, ma_Ln, ↓reduceIte, Option.bind_some, Option.bind_none, true_and, and_true, false_and, and_false, ne_eq, not_true_eq_false, not_false_eq_true, Bool.false_eq_true, reduceCtorEq, Nat.reduceAdd, Nat.reduceMul, Nat.reduceSub]), if_pos hk4, t8, s5]
          unfold ro
          rw [if_neg hne]
          by_cases c8 : Y (tE T k i) 5 ≤ Y (tE T k hb) 8
          · rw [if_neg (nI_nlt (by omega) (by omega)), if_pos c8, nI_p1]; rfl
          · have c9 : up (Y (tE T k hb) 8 + Y (tE T k hb) 9) (Y (tE T k i) 6) + Y (tE T k i) 5 ≤ Y (tE T k hb) 5 := by
              unfold ft at hft; omega
            rw [if_pos (nI_lt (by omega) (by omega)), if_neg c8, t9, s6, nI_add, ma_f26 (by omega) cA, ra_I, ra_In (by omega), ra_In (by omega), s5, t5, nI_add, if_pos (le_T c9 (by omega)), nI_p1]
      · rw [f65_L17, if_neg (ob_F (by omega) (by omega)), nI_clamp (by omega), e2, if_neg (le_F (by omega) (by omega)), ma_child h2 hw hk (by omega) hN, Option.bind_some, if_neg (show ¬ nI 1 = 0 by decide), nI_p1]
        by_cases c : i = hb
        · subst c
          rw [if_pos rfl]; rfl
        · have hne : tE T k i ≠ tE T k hb := fun hx => c (tE_inj hw hk hj hh hx)
          rw [if_neg (show ¬ nI (tE T k i) = nI (tE T k hb) by simp (disch := omega) only [nI_lit, nI_add, pk_sub, pk_mul, ma_neg, nI_clamp, ma_ltT, ma_ltF, ma_leT, ma_leF, ma_eqT, ma_eqF, nI_ltI, nI_leI, nI_eq, ma_obT, ma_obF, ma_enF, ma_neF, ma_nlT, ma_lnF, ma_nLT, ma_Ln, ↓reduceIte, Option.bind_some, Option.bind_none, true_and, and_true, false_and, and_false, ne_eq, not_true_eq_false, not_false_eq_true, Bool.false_eq_true, reduceCtorEq, Nat.reduceAdd, Nat.reduceMul, Nat.reduceSub]), (ma_room hw hk hN h0 hj hh hne).1 hft, Option.bind_some]
          have hro : ro Y (tE T k hb) (tE T k i) < 1000 := by
            unfold ro
            split
            · omega
            · split <;> omega
          rw [if_neg (nI_pos (by omega))]; rfl
    by_cases hft : ft Y (tE T k hb) (tE T k i)
    · obtain ⟨p1, p2⟩ := hgo hft
      obtain ⟨S2, bb, i1, i2, i3, i4, i5, i6⟩ := ih (i + 1) G G2 (wI S (76 + 2 * tE T k i) 7 (nI (ro Y (tE T k hb) (tE T k i)))) (by omega) (by omega) (by omega) (kr_eq hw hk h0 (eK_c hj (.inl rfl)) eKM_r (fun _ _ _ _ => rfl))
      refine ⟨S2, bb, eC_t (eC_c hj (.inl rfl)) i1, fun j hj2 => ?_, fun hx => ⟨fun f => (p1 f).trans ((i3 hx).1 f), fun j h4 h5 => ?_⟩, fun j h4 h5 => ?_, fun hx f => (p1 f).trans (i5 hx f), fun f => (p2 f).trans (i6 f)⟩
      · rw [i2 j hj2, ra_In (by omega)]
      · by_cases ej : j = i
        · subst ej
          refine ⟨hft, ?_⟩
          rw [i4 j (by omega) hj, ra_I]
        · exact (i3 hx).2 j (by omega) h5
      · have hne : tE T k j ≠ tE T k i := fun hx => by
          have := tE_inj hw hk h5 hj hx; omega
        rw [i4 j (by omega) h5, ra_In (by omega)]
    · have hne : tE T k i ≠ tE T k hb := fun hx => hft (.inl hx)
      have hib : i ≠ hb := fun hx => hne (by rw [hx])
      have hft2 := hft
      unfold ft at hft2
      refine ⟨wI S (76 + 2 * tE T k i) 7 (nI (up (Y (tE T k hb) 8 + Y (tE T k hb) 9) (Y (tE T k i) 6))), false, eC_c hj (.inl rfl), fun j hj2 => by rw [ra_In (by omega)], fun hx => (by cases hx), fun j h4 h5 => ?_, fun _ f => ?_, fun f => ?_⟩
      · have hne : tE T k j ≠ tE T k i := fun hx => by
          have := tE_inj hw hk h5 hj hx; omega
        rw [ra_In (by omega)]
      · rw [f124_L19, e1, if_neg (le_F (by omega) (by omega)), if_neg (ob_F (by omega) (by omega)), nI_clamp (show i < 2 ^ 31 by omega), rn_om_s (sk_child h1 hw hk hj), if_neg (show ¬ nI i = nI hb by simp (disch := omega) only [nI_lit, nI_add, pk_sub, pk_mul, ma_neg, nI_clamp, ma_ltT, ma_ltF, ma_leT, ma_leF, ma_eqT, ma_eqF, nI_ltI, nI_leI, nI_eq, ma_obT, ma_obF, ma_enF, ma_neF, ma_nlT, ma_lnF, ma_nLT, ma_Ln, ↓reduceIte, Option.bind_some, Option.bind_none, true_and, and_true, false_and, and_false, ne_eq, not_true_eq_false, not_false_eq_true, Bool.false_eq_true, reduceCtorEq, Nat.reduceAdd, Nat.reduceMul, Nat.reduceSub]), if_pos hk4, t8, s5, if_pos (nI_lt (by omega) (by omega)), t9, s6, nI_add, ma_f26 (by omega) cA, ra_I, ra_In (by omega), ra_In (by omega), s5, t5, nI_add, if_neg (le_F (by omega) (by omega))]
      · rw [f65_L17, if_neg (ob_F (by omega) (by omega)), nI_clamp (by omega), e2, if_neg (le_F (by omega) (by omega)), ma_child h2 hw hk (by omega) hN, Option.bind_some, if_neg (show ¬ nI 1 = 0 by decide), if_neg (show ¬ nI (tE T k i) = nI (tE T k hb) by simp (disch := omega) only [nI_lit, nI_add, pk_sub, pk_mul, ma_neg, nI_clamp, ma_ltT, ma_ltF, ma_leT, ma_leF, ma_eqT, ma_eqF, nI_ltI, nI_leI, nI_eq, ma_obT, ma_obF, ma_enF, ma_neF, ma_nlT, ma_lnF, ma_nLT, ma_Ln, ↓reduceIte, Option.bind_some, Option.bind_none, true_and, and_true, false_and, and_false, ne_eq, not_true_eq_false, not_false_eq_true, Bool.false_eq_true, reduceCtorEq, Nat.reduceAdd, Nat.reduceMul, Nat.reduceSub]), (ma_room hw hk hN h0 hj hh hne).2 hft, Option.bind_some, if_pos (by decide), nI_p1]
        exact ma_hid0 hw hk hN h2 d (i + 1) G2 (by omega) (by omega) f
