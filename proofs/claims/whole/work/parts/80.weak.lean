/-! 80: the reference goes on when one is too large -/
def WM (M : rn_T) (T : rn_TR) (lo : Nat) : Prop := MB M T ∧ ∀ i, i < tN T → lo ≤ i → ∃ a, isA a ∧ rA M 335 i = nI a
theorem f32_some {u : Int32} {a : Nat} (h : isA a) : ∃ z, f32 u (nI a) = some z := by
  unfold f32
  rw [if_neg (by rcases h with rfl | rfl | rfl <;> decide)]
  exact ⟨_, rfl⟩
theorem wm_c {M : rn_T} {T : rn_TR} {k j : Nat} (hw : TW T) (hk : k < tN T) (h : WM M T (k + 1)) (hj : j < tC T k) : ∃ a, isA a ∧ rA M 335 (tE T k j) = nI a := by
  obtain ⟨g1, g2, g3, g4⟩ := hw.2.2 k j hk hj
  exact h.2 _ g2 (by omega)
theorem wm_eq {M M2 : rn_T} {T : rn_TR} {k lo : Nat} (h : WM M T lo) (hl : k < lo) (he : eKM T k M M2) : WM M2 T lo := by
  refine ⟨mb_eq h.1 (by rw [he.2.1]) (fun q h1 h2 => funext fun i => he.1 q i (by omega) (fun j hj => by omega)), fun i hi hlo => ?_⟩
  obtain ⟨a, h1, h2⟩ := h.2 i hi hlo
  exact ⟨a, h1, by rw [he.1 335 i (by omega) (fun j hj => by omega)]; exact h2⟩
theorem wk_galL {M : rn_T} {T : rn_TR} {k : Nat} (hw : TW T) (hk : k < tN T) (hN : tN T ≤ 100) (h : WM M T (k + 1)) : ∀ d i a fu2, i + d = tC T k → d < fu2 → isA a → ∃ a2, isA a2 ∧ ∀ f, f60_L4 (nI k) fu2 M (nI a) (nI i) f = f M (nI a2) := by
  have hC := (hw.1 k hk).2.2.2.2
  have e2 := (h.1.2 k hk).2.2.2.2
  intro d
  induction d with
  | zero =>
    intro i a fu2 hi hf2 ha
    obtain ⟨G2, rfl⟩ : ∃ G, fu2 = G + 1 := ⟨fu2 - 1, by omega⟩
    refine ⟨a, ha, fun f => ?_⟩
    rw [f60_L4, if_neg (ob_F (by omega) (by omega)), nI_clamp (by omega), e2, if_pos (le_T (by omega) (by omega))]
  | succ d ih =>
    intro i a fu2 hi hf2 ha
    obtain ⟨G2, rfl⟩ : ∃ G, fu2 = G + 1 := ⟨fu2 - 1, by omega⟩
    have hj : i < tC T k := by omega
    obtain ⟨g1, g2, g3, g4⟩ := hw.2.2 k i hk hj
    obtain ⟨b, hb, hb2⟩ := wm_c hw hk h hj
    have hA2 : isA (mx2 a b) := by
      rcases mx2_o (a := a) (b := b) with e | e <;> rw [e] <;> assumption
    have ha5 : a < 5 := by rcases ha with rfl | rfl | rfl <;> omega
    have hA5 : b < 5 := by rcases hb with rfl | rfl | rfl <;> omega
    obtain ⟨a2, i1, i2⟩ := ih (i + 1) (mx2 a b) G2 (by omega) (by omega) hA2
    refine ⟨a2, i1, fun f => ?_⟩
    rw [f60_L4, if_neg (ob_F (by omega) (by omega)), nI_clamp (by omega), e2, if_neg (le_F (by omega) (by omega)), ma_child h.1 hw hk hj hN, Option.bind_some, if_neg (ob_F (by omega) (by omega)), nI_clamp (by omega), hb2, ma_f31 (by omega) (by omega), nI_p1]
    exact i2 f
theorem wk_gal {M : rn_T} {T : rn_TR} {k : Nat} (hw : TW T) (hk : k < tN T) (hN : tN T ≤ 100) (h : WM M T (k + 1)) : ∃ a2, isA a2 ∧ f60 M (nI k) = some (nI a2) := by
  have hC := (hw.1 k hk).2.2.2.2
  obtain ⟨a2, h1, h2⟩ := wk_galL hw hk hN h (tC T k) 0 1 rn_FU (by omega) (by unfold rn_FU; omega) (.inl rfl)
  exact ⟨a2, h1, h2 _⟩
theorem wk_lineL {T : rn_TR} {k : Nat} {w : Int32} (hw : TW T) (hk : k < tN T) (hN : tN T ≤ 100) : ∀ d i fu2 (e : Int32) (M : rn_T), i + d = tC T k → d < fu2 → WM M T (k + 1) → ∃ (M2 : rn_T) (e2 : Int32), eCM T k M M2 ∧ ∀ f, f61_L4 (nI k) w fu2 M e (nI i) f = f M2 e2 := by
  have hC := (hw.1 k hk).2.2.2.2
  intro d
  induction d with
  | zero =>
    intro i fu2 e M hi hf2 h
    have e2 := (h.1.2 k hk).2.2.2.2
    obtain ⟨G2, rfl⟩ : ∃ G, fu2 = G + 1 := ⟨fu2 - 1, by omega⟩
    refine ⟨M, e, eCM_r, fun f => ?_⟩
    rw [f61_L4, if_neg (ob_F (by omega) (by omega)), nI_clamp (by omega), e2, if_pos (le_T (by omega) (by omega))]
  | succ d ih =>
    intro i fu2 e M hi hf2 h
    have e2 := (h.1.2 k hk).2.2.2.2
    obtain ⟨G2, rfl⟩ : ∃ G, fu2 = G + 1 := ⟨fu2 - 1, by omega⟩
    have hj : i < tC T k := by omega
    obtain ⟨g1, g2, g3, g4⟩ := hw.2.2 k i hk hj
    obtain ⟨b, hb, hb2⟩ := wm_c hw hk h hj
    obtain ⟨z, hz⟩ := f32_some (u := e) hb
    have hJ : ∃ (M2 : rn_T) (e2 : Int32), eCM T k M M2 ∧ ∀ f, f61_J23_4 M (nI k) w e (nI i) (nI (tE T k i)) (fun M v4 v5 => f61_L4 (nI k) w G2 M v4 v5 f) f = f M2 e2 := by
      obtain ⟨M2, e3, i1, i2⟩ := ih (i + 1) G2 ((rA (wA M 336 (tE T k i) z) 336 (tE T k i)) + (rA (wA M 336 (tE T k i) z) 334 (tE T k i))) (wA M 336 (tE T k i) z) (by omega) (by omega) (wm_eq h (Nat.lt_succ_self k) (eCM_K (eCM_c hj)))
      refine ⟨M2, e3, eCM_t (eCM_c hj) i1, fun f => ?_⟩
      unfold f61_J23_4
      rw [if_neg (ob_F (by omega) (by omega)), nI_clamp (by omega), hb2, hz, Option.bind_some, nI_p1]
      exact i2 f
    have hgo : ∀ f, f61_L4 (nI k) w (G2 + 1) M e (nI i) f = if w = 0 then f61_J23_4 M (nI k) w e (nI i) (nI (tE T k i)) (fun M v4 v5 => f61_L4 (nI k) w G2 M v4 v5 f) f else if nI b = w then f61_J23_4 M (nI k) w e (nI i) (nI (tE T k i)) (fun M v4 v5 => f61_L4 (nI k) w G2 M v4 v5 f) f else f61_L4 (nI k) w G2 M e (nI (i + 1)) f := by
      intro f
      rw [f61_L4, if_neg (ob_F (by omega) (by omega)), nI_clamp (show k < 2 ^ 31 by omega), e2, if_neg (le_F (by omega) (by omega)), ma_child h.1 hw hk hj hN, Option.bind_some, if_neg (ob_F (by omega) (by omega)), nI_clamp (show tE T k i < 2 ^ 31 by omega), hb2, nI_p1]
    obtain ⟨M2, e3, j1, j2⟩ := hJ
    by_cases c : w = 0
    · refine ⟨M2, e3, j1, fun f => ?_⟩
      rw [hgo, if_pos c]; exact j2 f
    · by_cases c2 : nI b = w
      · refine ⟨M2, e3, j1, fun f => ?_⟩
        rw [hgo, if_neg c, if_pos c2]; exact j2 f
      · obtain ⟨M3, e4, i1, i2⟩ := ih (i + 1) G2 e M (by omega) (by omega) h
        refine ⟨M3, e4, i1, fun f => ?_⟩
        rw [hgo, if_neg c, if_neg c2]; exact i2 f
theorem wk_line {M : rn_T} {T : rn_TR} {k : Nat} {w e : Int32} (hw : TW T) (hk : k < tN T) (hN : tN T ≤ 100) (h : WM M T (k + 1)) : ∃ (M2 : rn_T) (e2 : Int32), eCM T k M M2 ∧ f61 M (nI k) w e = some (e2, M2) := by
  have hC := (hw.1 k hk).2.2.2.2
  obtain ⟨M2, e2, h1, h2⟩ := wk_lineL (w := w) hw hk hN (tC T k) 0 rn_FU e M (by omega) (by unfold rn_FU; omega) h
  exact ⟨M2, e2, h1, h2 _⟩
theorem wk_58 {M : rn_T} {k : Nat} {a b c d : Int32} (hk : k < 101) : ∃ M2, f58 M (nI k) a b c d = some M2 ∧ eGM k M M2 := by
  refine ⟨wA (wA (wA (wA M 337 k a) 338 k b) 339 k c) 340 k d, ?_, fun q i h => by simp (disch := omega) only [ra_I, ra_In, ra_A, ra_An, ra_IA, ra_IL, ra_IR, ra_IP, ra_AI, ra_AL, ra_AR, ra_AP, ra_L, ra_Ln, ra_LI, ra_LA, ra_LR, ra_LP, ra_R, ra_Rn, ra_RI, ra_RA, ra_RL, ra_RP, ra_P, ra_Pn, ra_PI, ra_PA, ra_PL, ra_PR], rfl, rfl⟩
  unfold f58
  rw [if_neg (ob_F (by omega) (by omega)), nI_clamp (by omega)]
theorem wk_gapL {T : rn_TR} {k : Nat} (hw : TW T) (hk : k < tN T) (hN : tN T ≤ 100) : ∀ d i fu2 (M : rn_T), i + d = tC T k → d < fu2 → MB M T → ∃ M2, eGM k M M2 ∧ ∀ f, f62_L49 (nI k) fu2 M (nI i) f = f M2 := by
  have hC := (hw.1 k hk).2.2.2.2
  intro d
  induction d with
  | zero =>
    intro i fu2 M hi hf2 h
    have e2 := (h.2 k hk).2.2.2.2
    obtain ⟨G2, rfl⟩ : ∃ G, fu2 = G + 1 := ⟨fu2 - 1, by omega⟩
    refine ⟨M, eGM_r, fun f => ?_⟩
    rw [f62_L49, if_neg (ob_F (by omega) (by omega)), nI_clamp (by omega), e2, if_pos (le_T (by omega) (by omega))]
  | succ d ih =>
    intro i fu2 M hi hf2 h
    have e2 := (h.2 k hk).2.2.2.2
    obtain ⟨G2, rfl⟩ : ∃ G, fu2 = G + 1 := ⟨fu2 - 1, by omega⟩
    have hj : i < tC T k := by omega
    obtain ⟨g1, g2, g3, g4⟩ := hw.2.2 k i hk hj
    obtain ⟨M1, p1, p2⟩ := wk_58 (M := M) (k := k) (a := (rA M 336 (tE T k i)) + (rA M 337 (tE T k i))) (b := rA M 338 (tE T k i)) (c := rA M 339 (tE T k i)) (d := rA M 340 (tE T k i)) (by omega)
    have hb1 : MB M1 T := mb_eq h (by rw [p2.2.1]) (fun q h1 h2 => funext fun i => p2.1 q i (by omega))
    obtain ⟨M2, i1, i2⟩ := ih (i + 1) G2 M1 (by omega) (by omega) hb1
    obtain ⟨M3, j1, j2⟩ := ih (i + 1) G2 M (by omega) (by omega) h
    have hJ1 : ∀ f, f62_J99_49 M (nI k) (nI i) (nI (tE T k i)) ((rA M 336 (tE T k i)) + (rA M 337 (tE T k i))) (fun M v3 => f62_L49 (nI k) G2 M v3 f) f = f M2 := by
      intro f
      unfold f62_J99_49 f62_J102_49
      rw [if_neg (by decide), if_neg (ob_F (by omega) (by omega)), nI_clamp (by omega), p1, Option.bind_some, nI_p1]
      exact i2 f
    have hJ0 : ∀ f, f62_J101_49 M (nI k) (nI i) (nI (tE T k i)) ((rA M 336 (tE T k i)) + (rA M 337 (tE T k i))) (fun M v3 => f62_L49 (nI k) G2 M v3 f) f = f M3 := by
      intro f
      unfold f62_J101_49 f62_J102_49
      rw [if_pos rfl, nI_p1]
      exact j2 f
    have hgo : ∀ f, (f62_L49 (nI k) (G2 + 1) M (nI i) f = f M2) ∨ (f62_L49 (nI k) (G2 + 1) M (nI i) f = f M3) := by
      intro f
      rw [f62_L49, if_neg (ob_F (by omega) (by omega)), nI_clamp (show k < 2 ^ 31 by omega), e2, if_neg (le_F (by omega) (by omega)), ma_child h hw hk hj hN, Option.bind_some, if_neg (ob_F (by omega) (by omega)), nI_clamp (show tE T k i < 2 ^ 31 by omega), hJ1, hJ0]
      split
      · exact .inl rfl
      · split
        · split
          · exact .inr rfl
          · split
            · exact .inr rfl
            · exact .inl rfl
        · exact .inr rfl
    by_cases c : ∀ f, f62_L49 (nI k) (G2 + 1) M (nI i) f = f M2
    · exact ⟨M2, eGM_t p2 i1, c⟩
    · refine ⟨M3, j1, fun f => ?_⟩
      -- the tests do not look at f
      have hall : (∀ f, f62_L49 (nI k) (G2 + 1) M (nI i) f = f M2) ∨ (∀ f, f62_L49 (nI k) (G2 + 1) M (nI i) f = f M3) := by
        have hx : ∀ f, f62_L49 (nI k) (G2 + 1) M (nI i) f = if (rA M 340 k) < (rA M 340 (tE T k i)) then f M2 else if (rA M 340 (tE T k i)) = (rA M 340 k) then (if (rA M 340 (tE T k i)) ≤ 0 then f M3 else if (rA M 337 k) ≤ ((rA M 336 (tE T k i)) + (rA M 337 (tE T k i))) then f M3 else f M2) else f M3 := by
          intro f
          rw [f62_L49, if_neg (ob_F (by omega) (by omega)), nI_clamp (show k < 2 ^ 31 by omega), e2, if_neg (le_F (by omega) (by omega)), ma_child h hw hk hj hN, Option.bind_some, if_neg (ob_F (by omega) (by omega)), nI_clamp (show tE T k i < 2 ^ 31 by omega), hJ1, hJ0]
        by_cases d1 : (rA M 340 k) < (rA M 340 (tE T k i))
        · exact .inl (fun f => by rw [hx, if_pos d1])
        · by_cases d2 : (rA M 340 (tE T k i)) = (rA M 340 k)
          · by_cases d3 : (rA M 340 (tE T k i)) ≤ 0
            · exact .inr (fun f => by rw [hx, if_neg d1, if_pos d2, if_pos d3])
            · by_cases d4 : (rA M 337 k) ≤ ((rA M 336 (tE T k i)) + (rA M 337 (tE T k i)))
              · exact .inr (fun f => by rw [hx, if_neg d1, if_pos d2, if_neg d3, if_pos d4])
              · exact .inl (fun f => by rw [hx, if_neg d1, if_pos d2, if_neg d3, if_neg d4])
          · exact .inr (fun f => by rw [hx, if_neg d1, if_neg d2])
      rcases hall with hall | hall
      · exact absurd hall c
      · exact hall f
theorem wk_rec {M : rn_T} {T : rn_TR} {k : Nat} (hw : TW T) (hk : k < tN T) (hN : tN T ≤ 100) (h : WM M T (k + 1)) : ∃ M2, f62 M (nI k) = some M2 ∧ eKM T k M M2 ∧ ∃ a, isA a ∧ rA M2 335 k = nI a := by
  have hC := (hw.1 k hk).2.2.2.2
  have hJ : ∀ (M1 : rn_T) (e : Int32), WM M1 T (k + 1) → ∃ M2, f62_J22 M1 (nI k) e = some M2 ∧ eKM T k M1 M2 ∧ ∃ a, isA a ∧ rA M2 335 k = nI a := by
    intro M1 e h1
    obtain ⟨a, ha, hg⟩ := wk_gal hw hk hN h1
    obtain ⟨z, hz⟩ := f32_some (u := e) ha
    have he1 : eKM T k M1 (wA (wA M1 335 k (nI a)) 334 k z) := eKM_t (eKM_k (by omega)) (eKM_k (by omega))
    obtain ⟨M3, p1, p2⟩ := wk_58 (M := wA (wA M1 335 k (nI a)) 334 k z) (k := k) (a := 0) (b := 0) (c := 0) (d := 0) (by omega)
    have he3 := eKM_t he1 (eGM_K p2)
    obtain ⟨M4, q1, q2⟩ := wk_gapL hw hk hN (tC T k) 0 rn_FU M3 (by omega) (by unfold rn_FU; omega) (wm_eq h1 (Nat.lt_succ_self k) he3).1
    refine ⟨M4, ?_, eKM_t he3 (eGM_K q1), a, ha, ?_⟩
    · unfold f62_J22
      rw [hg, Option.bind_some, if_neg (ob_F (by omega) (by omega)), nI_clamp (by omega), ra_A, hz, Option.bind_some, p1, Option.bind_some]
      exact q2 _
    · rw [q1.1 _ _ (by omega), p2.1 _ _ (by omega), ra_An (by omega), ra_A]
  unfold f62
  by_cases c : rI M 318 2 = 0
  · rw [if_pos c]
    obtain ⟨M1, e1, l1, l2⟩ := wk_line (w := 0) (e := 0) hw hk hN h
    obtain ⟨M2, j1, j2, j3⟩ := hJ M1 e1 (wm_eq h (Nat.lt_succ_self k) (eCM_K l1))
    exact ⟨M2, by rw [l2, Option.bind_some]; exact j1, eKM_t (eCM_K l1) j2, j3⟩
  · rw [if_neg c]
    obtain ⟨M1, e1, l1, l2⟩ := wk_line (w := 4) (e := 0) hw hk hN h
    have h1 := wm_eq h (Nat.lt_succ_self k) (eCM_K l1)
    obtain ⟨M3, e3, l3, l4⟩ := wk_line (w := 2) (e := e1) hw hk hN h1
    have h3 := wm_eq h1 (Nat.lt_succ_self k) (eCM_K l3)
    obtain ⟨M5, e5, l5, l6⟩ := wk_line (w := 1) (e := e3) hw hk hN h3
    obtain ⟨M2, j1, j2, j3⟩ := hJ M5 e5 (wm_eq h3 (Nat.lt_succ_self k) (eCM_K l5))
    refine ⟨M2, ?_, eKM_t (eKM_t (eKM_t (eCM_K l1) (eCM_K l3)) (eCM_K l5)) j2, j3⟩
    rw [l2, Option.bind_some]
    show Option.bind (f61 M1 (nI k) (2 : Int32) e1) _ = _
    rw [l4, Option.bind_some]
    show Option.bind (f61 M3 (nI k) (1 : Int32) e3) _ = _
    rw [l6, Option.bind_some]
    exact j1
