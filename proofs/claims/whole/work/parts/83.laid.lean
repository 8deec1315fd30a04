/-! 83: the layout of both sides -/
theorem ma_setL {T : rn_TR} {w : Nat} {kS : rn_T → Option (Bool × rn_T)} (hw : TW T) (hN : tN T ≤ 100) (hc : ∀ i, i < tN T → 5 ≤ tK T i → 1 ≤ tC T i) (hw2 : w < 2) : ∀ (k fu fu2 : Nat) (S M : rn_T) (Y : rn_LY), k ≤ tN T → k < fu → k < fu2 → rI M 318 2 = nI w → LL S M T Y k → ∃ (S2 M2 : rn_T) (bb : Bool), f162_L5 (nI w) fu S (vk k) kS = (if bb = true then kS S2 else some (false, S2)) ∧ (∀ f, f70_L12 fu2 M (nI 1) (vk k) f = f M2 (nI bb.toNat)) ∧ EqT (fun q => q < 66 ∨ 276 ≤ q) S S2 ∧ rI S2 76 15 = nI 0 ∧ eqM M M2 ∧ (bb = true → ∃ Y2, LL S2 M2 T Y2 0) := by
  intro k
  induction k with
  | zero =>
    intro fu fu2 S M Y hk hf hf2 hM h
    obtain ⟨G, rfl⟩ : ∃ G, fu = G + 1 := ⟨fu - 1, by omega⟩
    obtain ⟨G2, rfl⟩ : ∃ G, fu2 = G + 1 := ⟨fu2 - 1, by omega⟩
    refine ⟨S, M, true, ?_, fun f => ?_, eq_r, h.1.1.2.2, ⟨eq_r, rfl, rfl⟩, fun _ => ⟨Y, h⟩⟩
    · rw [f162_L5, if_pos (show vk 0 < 0 by decide), if_pos rfl]
    · rw [f70_L12, if_pos (show vk 0 < 0 by decide)]
      rfl
  | succ k ih =>
    intro fu fu2 S M Y hk hf hf2 hM h
    obtain ⟨G, rfl⟩ : ∃ G, fu = G + 1 := ⟨fu - 1, by omega⟩
    obtain ⟨G2, rfl⟩ : ∃ G, fu2 = G + 1 := ⟨fu2 - 1, by omega⟩
    have hkn : k < tN T := by omega
    obtain ⟨w1, w2, w3, w4, w5⟩ := hw.1 k hkn
    have hk4 : rI S (76 + 2 * k) 4 = nI (tK T k) := (h.1.1.2.1 k hkn).2.1
    have hm4 : rA M 322 k = nI (tK T k) := (h.2.1.1.2 k hkn).1
    -- both sides lay k
    have hone : ∃ (S1 M1 : rn_T) (Y1 : rn_LY), (∀ kk, f162_L5 (nI w) (G + 1) S (vk (k + 1)) kk = if (rI S1 (76 + 2 * k) 5) ≤ (64 : Int32) then f162_L5 (nI w) G S1 (vk k) kk else some (false, S1)) ∧ f69 M (nI k) = some M1 ∧ eKM T k M M1 ∧ EqT (fun q => q < 66 ∨ 276 ≤ q) S S1 ∧ rI S1 76 15 = nI 0 ∧ rI S1 (76 + 2 * k) 5 = nI (Y1 k 5) ∧ rA M1 334 k = nI (Y1 k 5) ∧ Y1 k 5 ≤ 1900 ∧ (Y1 k 5 ≤ 64 → LL S1 M1 T Y1 k) ∧ (∃ a, isA a ∧ rA M1 335 k = nI a) := by
      by_cases c5 : tK T k = 5
      · obtain ⟨S1, M1, Y1, r1, r2, r3⟩ := ma_rec hw hkn hN (ll_kr hw hkn h) hM hw2
        have h0 := r3.2.2.2.1.1
        have h4' : rI S1 (76 + 2 * k) 4 = nI (tK T k) := (h0.2.1 k hkn).2.1
        refine ⟨S1, M1, Y1, fun kk => ?_, ?_, r3.2.1, eK_E hw hkn hN r3.1, h0.2.2, (r3.2.2.2.2.2.1 5 (.inl rfl)).1, (r3.2.2.2.2.2.1 5 (.inl rfl)).2, r3.2.2.2.2.2.2.1.2.2.1, fun h64 => ll_step hw hkn h r3 h64 (by omega) (fun h6 => by omega), Y1 k 6, r3.2.2.2.2.2.2.1.1, (r3.2.2.2.2.2.1 6 (.inr (.inl rfl))).2⟩
        · rw [f162_L5, vk_c, if_neg (nI_pos (by omega)), if_neg (ob_F (by omega) (by omega)), nI_clamp (by omega), hk4, if_pos (by rw [c5]; rfl), r1, Option.bind_some]
          unfold f162_J19_5
          rw [h4', if_neg (show ¬ nI (tK T k) = 6 by rw [c5]; decide), vk_s]
        · unfold f69
          rw [if_neg (ob_F (by omega) (by omega)), nI_clamp (by omega), hm4, if_pos (by rw [c5]; rfl), r2]; rfl
      · by_cases c6 : tK T k = 6
        · obtain ⟨S1, M1, Y1, r1, r2, r3, r4⟩ := ma_var hw hkn hN (ll_kr hw hkn h) (hc k hkn (by omega)) (ll_mk hw hkn h)
          have h0 := r3.2.2.2.1.1
          refine ⟨S1, M1, Y1, fun kk => ?_, ?_, r3.2.1, eK_E hw hkn hN r3.1, h0.2.2, (r3.2.2.2.2.2.1 5 (.inl rfl)).1, (r3.2.2.2.2.2.1 5 (.inl rfl)).2, r3.2.2.2.2.2.2.1.2.2.1, fun h64 => ll_step hw hkn h r3 h64 (by omega) (fun _ => r4), Y1 k 6, r3.2.2.2.2.2.2.1.1, (r3.2.2.2.2.2.1 6 (.inr (.inl rfl))).2⟩
          · rw [f162_L5, vk_c, if_neg (nI_pos (by omega)), if_neg (ob_F (by omega) (by omega)), nI_clamp (by omega), hk4, if_neg (show ¬ nI (tK T k) = 5 by rw [c6]; decide)]
            unfold f162_J19_5
            rw [hk4, if_pos (by rw [c6]; rfl), r1, Option.bind_some, vk_s]
          · unfold f69
            rw [if_neg (ob_F (by omega) (by omega)), nI_clamp (by omega), hm4, if_neg (show ¬ nI (tK T k) = 5 by rw [c6]; decide), if_pos (by rw [c6]; rfl), r2]; rfl
        · obtain ⟨M1, r1, r2, r3⟩ := ll_leaf hw hkn hN h (by omega)
          have hCI := r3.2.2.2.1 k hkn (.inl (Nat.le_refl k))
          refine ⟨S, M1, Y, fun kk => ?_, ?_, r2, eq_r, h.1.1.2.2, r3.1.2.1 k hkn (.inl (Nat.le_refl k)) 5 (.inl rfl), r3.2.1.2.1 k hkn (Nat.le_refl k) 5 (.inl rfl), by have := hCI.2.2.1; omega, fun _ => r3, Y k 6, hCI.1, r3.2.1.2.1 k hkn (Nat.le_refl k) 6 (.inr (.inl rfl))⟩
          · rw [f162_L5, vk_c, if_neg (nI_pos (by omega)), if_neg (ob_F (by omega) (by omega)), nI_clamp (by omega), hk4, if_neg (show ¬ nI (tK T k) = 5 by simp (disch := omega) only [nI_lit, nI_add, pk_sub, pk_mul, ma_neg, nI_clamp, ma_ltT, ma_ltF, ma_leT, ma_leF, ma_eqT, ma_eqF, nI_ltI, nI_leI, nI_eq, ma_obT, ma_obF, ma_enF, ma_neF, ma_nlT, ma_lnF, ma_nLT, ma_Ln, ↓reduceIte, Option.bind_some, Option.bind_none, true_and, and_true, false_and, and_false, ne_eq, not_true_eq_false, not_false_eq_true, Bool.false_eq_true, reduceCtorEq, Nat.reduceAdd, Nat.reduceMul, Nat.reduceSub])]
            unfold f162_J19_5
            rw [hk4, if_neg (show ¬ nI (tK T k) = 6 by simp (disch := omega) only [nI_lit, nI_add, pk_sub, pk_mul, ma_neg, nI_clamp, ma_ltT, ma_ltF, ma_leT, ma_leF, ma_eqT, ma_eqF, nI_ltI, nI_leI, nI_eq, ma_obT, ma_obF, ma_enF, ma_neF, ma_nlT, ma_lnF, ma_nLT, ma_Ln, ↓reduceIte, Option.bind_some, Option.bind_none, true_and, and_true, false_and, and_false, ne_eq, not_true_eq_false, not_false_eq_true, Bool.false_eq_true, reduceCtorEq, Nat.reduceAdd, Nat.reduceMul, Nat.reduceSub]), vk_s]
          · unfold f69
            rw [if_neg (ob_F (by omega) (by omega)), nI_clamp (by omega), hm4, if_neg (show ¬ nI (tK T k) = 5 by simp (disch := omega) only [nI_lit, nI_add, pk_sub, pk_mul, ma_neg, nI_clamp, ma_ltT, ma_ltF, ma_leT, ma_leF, ma_eqT, ma_eqF, nI_ltI, nI_leI, nI_eq, ma_obT, ma_obF, ma_enF, ma_neF, ma_nlT, ma_lnF, ma_nLT, ma_Ln, ↓reduceIte, Option.bind_some, Option.bind_none, true_and, and_true, false_and, and_false, ne_eq, not_true_eq_false, not_false_eq_true, Bool.false_eq_true, reduceCtorEq, Nat.reduceAdd, Nat.reduceMul, Nat.reduceSub]), if_neg (show ¬ nI (tK T k) = 6 by simp (disch := omega) only [nI_lit, nI_add, pk_sub, pk_mul, ma_neg, nI_clamp, ma_ltT, ma_ltF, ma_leT, ma_leF, ma_eqT, ma_eqF, nI_ltI, nI_leI, nI_eq, ma_obT, ma_obF, ma_enF, ma_neF, ma_nlT, ma_lnF, ma_nLT, ma_Ln, ↓reduceIte, Option.bind_some, Option.bind_none, true_and, and_true, false_and, and_false, ne_eq, not_true_eq_false, not_false_eq_true, Bool.false_eq_true, reduceCtorEq, Nat.reduceAdd, Nat.reduceMul, Nat.reduceSub]), r1]; rfl
    obtain ⟨S1, M1, Y1, p1, p2, p3, p4, p5, p6, p7, p8, p9, a, pa, pa2⟩ := hone
    have hgoM : ∀ f, f70_L12 (G2 + 1) M (nI 1) (vk (k + 1)) f = if 64 < Y1 k 5 then f70_L12 G2 M1 (nI 0) (vk k) f else f70_L12 G2 M1 (nI 1) (vk k) f := by
      intro f
      rw [f70_L12, vk_c, if_neg (nI_pos (by omega)), p2, Option.bind_some, if_neg (show ¬ nI 1 = 0 by decide), if_neg (ob_F (by omega) (by omega)), nI_clamp (by omega), p7, vk_s]
      by_cases c : 64 < Y1 k 5
      · rw [if_pos (show (64 : Int32) < nI (Y1 k 5) from nI_lt (show 64 < Y1 k 5 from c) (by omega)), if_pos c]; rfl
      · rw [if_neg (show ¬ (64 : Int32) < nI (Y1 k 5) from nI_nlt (show Y1 k 5 ≤ 64 by omega) (show 64 < 2 ^ 31 by omega)), if_neg c]; rfl
    by_cases c : Y1 k 5 ≤ 64
    · have hle : nI (Y1 k 5) ≤ (64 : Int32) := nI_le (show Y1 k 5 ≤ 64 from c) (show 64 < 2 ^ 31 by omega)
      obtain ⟨S2, M2, bb, i1, i2, i3, i4, i5, i6⟩ := ih G G2 S1 M1 Y1 (by omega) (by omega) (by omega) (by rw [p3.2.1]; exact hM) (p9 c)
      refine ⟨S2, M2, bb, ?_, fun f => ?_, eq_t p4 i3, i4, eqM_t (eKM_M p3) i5, i6⟩
      · rw [p1, p6, if_pos hle]; exact i1
      · rw [hgoM, if_neg (by omega)]; exact i2 f
    · have hle : ¬ nI (Y1 k 5) ≤ (64 : Int32) := nI_ge (show 64 < Y1 k 5 by omega) (by omega)
      have hWM : WM M1 T k := by
        refine ⟨mb_eq h.2.1.1 (by rw [p3.2.1]) (fun q h1 h2 => funext fun i => p3.1 q i (by omega) (fun j hj => by omega)), fun i hi hl => ?_⟩
        by_cases e : i = k
        · subst e; exact ⟨a, pa, pa2⟩
        · refine ⟨Y i 6, (h.2.2.2.1 i hi (.inl (by omega))).1, ?_⟩
          rw [p3.1 335 i (by omega) (fun j hj => by omega)]
          exact h.2.1.2.1 i hi (by omega) 6 (.inr (.inl rfl))
      obtain ⟨M2, j1, j2⟩ := wk_loop hw hN hc k G2 M1 (by omega) (by omega) hWM
      refine ⟨S1, M2, false, ?_, fun f => ?_, p4, p5, eqM_t (eKM_M p3) j1, fun hx => by cases hx⟩
      · rw [p1, p6, if_neg hle, if_neg Bool.false_ne_true]
      · rw [hgoM, if_pos (by omega)]; exact j2 f
/-- where a part begins, from the root's first byte on -/
def bF (T : rn_TR) (Y : rn_LY) : Nat → Nat → Nat
  | 0, _ => 0
  | f + 1, i => if i = 0 then 0 else bF T Y f (tP T i) + Y i 7
theorem bF_eq {T : rn_TR} {Y : rn_LY} (hw : TW T) : ∀ (f g i : Nat), i < f → i < g → i < tN T → bF T Y f i = bF T Y g i := by
  intro f
  induction f with
  | zero => intro g i hf; omega
  | succ f ih =>
    intro g i hf hg hi
    obtain ⟨g, rfl⟩ : ∃ x, g = x + 1 := ⟨g - 1, by omega⟩
    unfold bF
    by_cases c : i = 0
    · rw [if_pos c, if_pos c]
    · have := (hw.2.1 i (by omega) hi).1
      rw [if_neg c, if_neg c, ih g (tP T i) (by omega) (by omega) (by omega)]
def bB (T : rn_TR) (Y : rn_LY) (i : Nat) : Nat := bF T Y (i + 1) i
theorem bB_0 {T : rn_TR} {Y : rn_LY} : bB T Y 0 = 0 := rfl
theorem bB_s {T : rn_TR} {Y : rn_LY} {i : Nat} (hw : TW T) (h0 : 0 < i) (hi : i < tN T) : bB T Y i = bB T Y (tP T i) + Y i 7 := by
  have := (hw.2.1 i h0 hi).1
  show bF T Y (i + 1) i = bF T Y (tP T i + 1) (tP T i) + Y i 7
  rw [bF, if_neg (by omega), bF_eq hw i (tP T i + 1) (tP T i) (by omega) (by omega) (by omega)]
theorem bB_le {T : rn_TR} {Y : rn_LY} (hw : TW T) (hy : YL T Y 0) : ∀ (f i : Nat), i < f → i < tN T → bB T Y i + Y i 5 ≤ Y 0 5 := by
  intro f
  induction f with
  | zero => intro i hf; omega
  | succ f ih =>
    intro i hf hi
    by_cases c : i = 0
    · subst c; rw [bB_0]; omega
    · have h1 := (hw.2.1 i (by omega) hi).1
      have h2 := ih (tP T i) (by omega) (by omega)
      have h3 := (hy.2.1 i (by omega) hi (Nat.zero_le _)).2.1
      rw [bB_s hw (by omega) hi]
      omega
/-- the layout stands on both sides -/
def LT (S M : rn_T) (T : rn_TR) (Y : rn_LY) : Prop := LL S M T Y 0 ∧ ∀ i, i < tN T → rI S (76 + 2 * i) 15 = nI (bB T Y i)
theorem ll_15 {S M : rn_T} {T : rn_TR} {Y : rn_LY} {k : Nat} {v : Int32} (h : LL S M T Y 0) (hk : 0 < k) : LL (wI S (76 + 2 * k) 15 v) M T Y 0 := by
  obtain ⟨⟨a1, a2, a3, a4⟩, b, hV, c⟩ := h
  have hI : ∀ q f, f ≠ 15 → rI (wI S (76 + 2 * k) 15 v) q f = rI S q f := fun q f hf => ra_In (.inr hf)
  refine ⟨⟨⟨?_, fun i hi => ?_, ?_⟩, fun i hi hl f hf => ?_, fun i h0 hi hl => ?_, fun i h0 hi hl => by omega⟩, b, fun i hi hl h6 => ?_, c⟩
  · rw [hI _ _ (by omega)]; exact a1.1
  · have := a1.2.1 i hi
    unfold sk at this ⊢
    rw [hI _ _ (by omega), hI _ _ (by omega), hI _ _ (by omega)]
    exact this
  · rw [ra_In (by omega)]; exact a1.2.2
  · rw [hI _ _ (by unfold fK at hf; omega)]; exact a2 i hi hl f hf
  · rw [hI _ _ (by omega)]; exact a3 i h0 hi hl
  · exact lv_eq (hV i hi hl h6) (hI _ _ (by omega)) (hI _ _ (by omega)) rfl rfl (fun j hj => hI _ _ (by omega)) (fun _ _ => rfl) (fun _ _ _ => rfl)
theorem ma_baseL {T : rn_TR} {Y : rn_LY} {M : rn_T} {f : rn_T → Option (Bool × rn_T)} (hw : TW T) (hN : tN T ≤ 100) : ∀ d i fu (S : rn_T), i + d = tN T → d < fu → LL S M T Y 0 → (∀ j, j < i → rI S (76 + 2 * j) 15 = nI (bB T Y j)) → ∃ S2, f162_L35 fu S (nI i) f = f S2 ∧ LT S2 M T Y ∧ EqT (fun q => q < 66 ∨ 276 ≤ q) S S2 := by
  intro d
  induction d with
  | zero =>
    intro i fu S hi hf h hb
    obtain ⟨G, rfl⟩ : ∃ G, fu = G + 1 := ⟨fu - 1, by omega⟩
    have e0 := h.1.1.1
    refine ⟨S, ?_, ⟨h, fun j hj => hb j (by omega)⟩, eq_r⟩
    rw [f162_L35, e0, if_pos (le_T (by omega) (by omega))]
  | succ d ih =>
    intro i fu S hi hf h hb
    obtain ⟨G, rfl⟩ : ∃ G, fu = G + 1 := ⟨fu - 1, by omega⟩
    have e0 := h.1.1.1
    have hin : i < tN T := by omega
    have hR := (h.1.1.2.1 i hin).2.2.1
    by_cases c : i = 0
    · subst c
      rw [if_pos rfl] at hR
      obtain ⟨S2, i1, i2, i3⟩ := ih 1 G S (by omega) (by omega) h (fun j hj => by
        have : j = 0 := by omega
        subst this
        exact h.1.1.2.2)
      refine ⟨S2, ?_, i2, i3⟩
      rw [f162_L35, e0, if_neg (le_F (by omega) (by omega)), if_neg (ob_F (by omega) (by omega)), nI_clamp (by omega), rn_om_n hR, nI_p1]
      exact i1
    · rw [if_neg c] at hR
      have hp := (hw.2.1 i (by omega) hin).1
      have hk3 := ma_kd3 (show tP T i < 100 by omega)
      have e7 := h.1.2.2.1 i (by omega) hin (Nat.zero_le _)
      have e15 := hb (tP T i) hp
      obtain ⟨S2, i1, i2, i3⟩ := ih (i + 1) G (wI S (76 + 2 * i) 15 (nI (bB T Y i))) (by omega) (by omega) (ll_15 h (by omega)) (fun j hj => by
        by_cases e : j = i
        · subst e; rw [ra_I]
        · rw [ra_In (by omega)]; exact hb j (by omega))
      refine ⟨S2, ?_, i2, eq_t (eq_I (by omega)) i3⟩
      rw [f162_L35, e0, if_neg (le_F (by omega) (by omega)), if_neg (ob_F (by omega) (by omega)), nI_clamp (by omega), rn_om_s hR, rn_om_s hR, if_pos hk3, e15, e7, nI_add, ← bB_s hw (by omega) hin, nI_p1]
      exact i1
def Y00 (T : rn_TR) : rn_LY := fun i f => if f = 5 then lS (tK T i) (tO T i) else if f = 6 then lA (tK T i) (tO T i) else if f = 9 then lW (tK T i) else if f = 10 then lF (tK T i) (tO T i) else if f = 11 then lM (tK T i) (tO T i) else 0
theorem leaf_ok {K o : Nat} (h4 : K ≤ 4) (w3 : K = 1 → o = 1 ∨ o = 2 ∨ o = 4) (w4 : K = 3 → 2 ≤ o ∧ o ≤ 9) : lS K o % lA K o = 0 ∧ lS K o ≤ 64 ∧ lW K ≤ 4 ∧ (lM K o = 0 ∨ 0 + lW K ≤ lS K o) ∧ lF K o + lM K o ≤ 256 := by
  have hK : K = 0 ∨ K = 1 ∨ K = 2 ∨ K = 3 ∨ K = 4 := by omega
  rcases hK with rfl | rfl | rfl | rfl | rfl
  · simp [lS, lA, lW, lM, lF]
  · have := w3 rfl
    simp [lS, lA, lW, lM, lF]; omega
  · simp [lS, lA, lW, lM, lF]
  · have := w4 rfl
    simp [lS, lA, lW, lM, lF]; omega
  · simp [lS, lA, lW, lM, lF]
theorem ci_leaf {T : rn_TR} {i : Nat} (hw : TW T) (hi : i < tN T) (h4 : tK T i ≤ 4) : CI (Y00 T) i := by
  obtain ⟨w1, w2, w3, w4, w5⟩ := hw.1 i hi
  obtain ⟨q1, q2, q3, q4, q5⟩ := leaf_ok h4 w3 w4
  exact ⟨lA_is w3, q1, q2, (show (0 : Nat) ≤ 64 by omega), q3, q4, q5⟩
theorem ma_lay {S M : rn_T} {T : rn_TR} {w : Nat} (h : SB S T) (hm : MB M T) (hf : FT T) (hw2 : w < 2) (hM : rI M 318 2 = nI w) : ∃ (S2 M2 : rn_T) (bb : Bool), f162 S (nI w) = some (bb, S2) ∧ f70 M = some (bb, M2) ∧ EqT (fun q => q < 66 ∨ 276 ≤ q) S S2 ∧ rI S2 76 15 = nI 0 ∧ eqM M M2 ∧ (bb = true → ∃ Y, LT S2 M2 T Y) := by
  obtain ⟨hw, hN1, hN, hc⟩ := hf
  have hLL : LL S (wA M 336 0 (nI 0)) T (Y00 T) (tN T) := by
    refine ⟨⟨sb_sk h, fun i hi hl f hf => ?_, fun i h0 hi hl => ?_, fun i h0 hi hl => (h.2.1 i hi).2.2.2.2.2.2.2.2.1⟩, ⟨mb_eq hm rfl (fun q h1 h2 => ra_Af (by omega)), fun i hi hl => absurd hl (by omega), fun i h0 hi hl => ?_, ra_A⟩, fun i hi hl => absurd hl (by omega), fun i hi hl => ci_leaf hw hi (hl.resolve_left (by omega)), fun i h0 hi hl => ?_, fun i hi h4 => ⟨rfl, rfl, rfl, rfl, rfl, rfl⟩⟩
    · obtain ⟨g1, g4, g5, g6, g8, g9, g10, g11, g14, gR, gP⟩ := h.2.1 i hi
      rcases hf with rfl | rfl | rfl | rfl | rfl | rfl
      · exact g5
      · exact g6
      · exact g8
      · exact g9
      · exact g10
      · exact g11
    · have := (hw.2.1 i h0 hi).1; omega
    · have := (hw.2.1 i h0 hi).1; omega
    · have := (hw.2.1 i h0 hi).1; omega
  have hM0 : rI (wA M 336 0 (nI 0)) 318 2 = nI w := hM
  have hvk : vk (tN T) = nI (tN T - 1) := by
    obtain ⟨x, hx⟩ : ∃ x, tN T = x + 1 := ⟨tN T - 1, by omega⟩
    rw [hx, vk_c, Nat.add_sub_cancel]
  obtain ⟨S2, M2, bb, i1, i2, i3, i4, i5, i6⟩ := ma_setL (kS := fun S9 => f162_L35 rn_FU S9 (0 : Int32) (fun S17 => some (true, S17))) hw hN hc hw2 (tN T) rn_FU rn_FU S (wA M 336 0 (nI 0)) (Y00 T) (Nat.le_refl _) (by unfold rn_FU; omega) (by unfold rn_FU; omega) hM0 hLL
  have he0 : eqM M (wA M 336 0 (nI 0)) := ⟨eq_A (by omega), rfl, rfl⟩
  have hfM : f70 M = some (bb, M2) := by
    unfold f70
    rw [show rI (wA M 336 (Int32.toNatClampNeg (0 : Int32)) (0 : Int32)) 318 10 = nI (tN T) from hm.1, show nI (tN T) - (1 : Int32) = nI (tN T - 1) from pk_sub (show 1 ≤ tN T by omega), ← hvk]
    refine (i2 _).trans ?_
    cases bb <;> rfl
  have hfS : f162 S (nI w) = if bb = true then f162_L35 rn_FU S2 (0 : Int32) (fun S17 => some (true, S17)) else some (false, S2) := by
    unfold f162
    rw [h.1, show nI (tN T) - (1 : Int32) = nI (tN T - 1) from pk_sub (show 1 ≤ tN T by omega), ← hvk]
    exact i1
  cases bb with
  | false =>
    exact ⟨S2, M2, false, by rw [hfS, if_neg Bool.false_ne_true], hfM, i3, i4, eqM_t he0 i5, fun hx => by cases hx⟩
  | true =>
    obtain ⟨Y, hY⟩ := i6 rfl
    obtain ⟨S3, j1, j2, j3⟩ := ma_baseL (f := fun S17 => some (true, S17)) hw hN (tN T) 0 rn_FU S2 (by omega) (by unfold rn_FU; omega) hY (fun j hj => by omega)
    refine ⟨S3, M2, true, ?_, hfM, eq_t i3 j3, j2.1.1.1.2.2, eqM_t he0 i5, fun _ => ⟨Y, j2⟩⟩
    rw [hfS, if_pos rfl]
    exact j1
