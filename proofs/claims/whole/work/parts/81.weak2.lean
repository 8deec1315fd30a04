/-! 81: the same for a variant, a leaf; one part -/
theorem wk_hostL {M : rn_T} {T : rn_TR} {k : Nat} (hw : TW T) (hk : k < tN T) (hN : tN T ≤ 100) (h2 : MB M T) : ∀ d i b fu2, i + d = tC T k → d < fu2 → b < tC T k → ∃ b2, b2 < tC T k ∧ ∀ f, f63_L4 (nI k) fu2 M (nI b) (nI i) f = f M (nI b2) := by
  have hC := (hw.1 k hk).2.2.2.2
  have e2 := (h2.2 k hk).2.2.2.2
  intro d
  induction d with
  | zero =>
    intro i b fu2 hi hf2 hb
    obtain ⟨G2, rfl⟩ : ∃ G, fu2 = G + 1 := ⟨fu2 - 1, by omega⟩
    refine ⟨b, hb, fun f => ?_⟩
    rw [f63_L4, if_neg (ob_F (by omega) (by omega)), nI_clamp (by omega), e2, if_pos (le_T (by omega) (by omega))]
  | succ d ih =>
    intro i b fu2 hi hf2 hb
    obtain ⟨G2, rfl⟩ : ∃ G, fu2 = G + 1 := ⟨fu2 - 1, by omega⟩
    have hj : i < tC T k := by omega
    obtain ⟨g1, g2, g3, g4⟩ := hw.2.2 k i hk hj
    obtain ⟨q1, q2, q3, q4⟩ := hw.2.2 k b hk hb
    have hM : ∀ f, f63_L4 (nI k) (G2 + 1) M (nI b) (nI i) f = if rA M 334 (tE T k i) ≤ rA M 334 (tE T k b) then f63_L4 (nI k) G2 M (nI b) (nI (i + 1)) f else f63_L4 (nI k) G2 M (nI i) (nI (i + 1)) f := by
      intro f
      rw [f63_L4, if_neg (ob_F (by omega) (by omega)), nI_clamp (show k < 2 ^ 31 by omega), e2, if_neg (le_F (by omega) (by omega)), ma_child h2 hw hk hj hN, Option.bind_some, if_neg (ob_F (by omega) (by omega)), nI_clamp (show tE T k i < 2 ^ 31 by omega), ma_child h2 hw hk hb hN, Option.bind_some, if_neg (ob_F (by omega) (by omega)), nI_clamp (show tE T k b < 2 ^ 31 by omega), nI_p1]
    by_cases c : rA M 334 (tE T k i) ≤ rA M 334 (tE T k b)
    · obtain ⟨b2, j1, j3⟩ := ih (i + 1) b G2 (by omega) (by omega) hb
      exact ⟨b2, j1, fun f => by rw [hM, if_pos c]; exact j3 f⟩
    · obtain ⟨b2, j1, j3⟩ := ih (i + 1) i G2 (by omega) (by omega) hj
      exact ⟨b2, j1, fun f => by rw [hM, if_neg c]; exact j3 f⟩
theorem wk_room {M : rn_T} {e h a : Nat} (he : e < 101) (hh : h < 101) (ha : isA a) (h3 : rA M 335 e = nI a) : ∃ z, f64 M (nI e) (nI h) = some z := by
  obtain ⟨z, hz⟩ := f32_some (u := (rA M 337 h) + (rA M 338 h)) ha
  unfold f64
  rw [if_neg (ob_F (by omega) (by omega)), if_neg (ob_F (by omega) (by omega)), nI_clamp (show e < 2 ^ 31 by omega), nI_clamp (show h < 2 ^ 31 by omega), h3, hz]
  by_cases c : rA M 337 h < rA M 334 e
  · rw [if_pos c, Option.bind_some]
    by_cases c2 : rA M 334 h < z + rA M 334 e
    · exact ⟨_, by rw [if_pos c2]⟩
    · exact ⟨_, by rw [if_neg c2]⟩
  · exact ⟨_, by rw [if_neg c]⟩
theorem wk_hidL {M : rn_T} {T : rn_TR} {k h : Nat} (hw : TW T) (hk : k < tN T) (hN : tN T ≤ 100) (hm : WM M T (k + 1)) (hh : h < 101) : ∀ d i fu2, i + d = tC T k → d < fu2 → ∃ bb : Bool, ∀ f, f65_L17 (nI k) (nI h) fu2 M (nI 1) (nI i) f = f M (nI bb.toNat) := by
  have hC := (hw.1 k hk).2.2.2.2
  have e2 := (hm.1.2 k hk).2.2.2.2
  intro d
  induction d with
  | zero =>
    intro i fu2 hi hf2
    obtain ⟨G2, rfl⟩ : ∃ G, fu2 = G + 1 := ⟨fu2 - 1, by omega⟩
    refine ⟨true, fun f => ?_⟩
    rw [f65_L17, if_neg (ob_F (by omega) (by omega)), nI_clamp (by omega), e2, if_pos (le_T (by omega) (by omega))]
    rfl
  | succ d ih =>
    intro i fu2 hi hf2
    obtain ⟨G2, rfl⟩ : ∃ G, fu2 = G + 1 := ⟨fu2 - 1, by omega⟩
    have hj : i < tC T k := by omega
    obtain ⟨g1, g2, g3, g4⟩ := hw.2.2 k i hk hj
    obtain ⟨b, hb, hb2⟩ := wm_c hw hk hm hj
    obtain ⟨z, hz⟩ := wk_room (show tE T k i < 101 by omega) hh hb hb2
    obtain ⟨bb, i1⟩ := ih (i + 1) G2 (by omega) (by omega)
    have i0 := ma_hid0 (x := nI h) hw hk hN hm.1 d (i + 1) G2 (by omega) (by omega)
    have hgo : ∀ f, f65_L17 (nI k) (nI h) (G2 + 1) M (nI 1) (nI i) f = if nI (tE T k i) = nI h then f M (nI bb.toNat) else if z < 0 then f M (nI 0) else f M (nI bb.toNat) := by
      intro f
      rw [f65_L17, if_neg (ob_F (by omega) (by omega)), nI_clamp (by omega), e2, if_neg (le_F (by omega) (by omega)), ma_child hm.1 hw hk hj hN, Option.bind_some, if_neg (show ¬ nI 1 = 0 by decide), nI_p1, hz, Option.bind_some, ← i1 f, ← i0 f]
      rfl
    by_cases c : nI (tE T k i) = nI h
    · exact ⟨bb, fun f => by rw [hgo, if_pos c]⟩
    · by_cases c2 : z < 0
      · exact ⟨false, fun f => by rw [hgo, if_neg c, if_pos c2]; rfl⟩
      · exact ⟨bb, fun f => by rw [hgo, if_neg c, if_neg c2]⟩
theorem wk_hid {M : rn_T} {T : rn_TR} {k h : Nat} (hw : TW T) (hk : k < tN T) (hN : tN T ≤ 100) (hm : WM M T (k + 1)) (hh : h < 101) : ∃ bb, f65 M (nI k) (nI h) = some bb := by
  have hC := (hw.1 k hk).2.2.2.2
  have hfin : ∀ bb : Bool, (if nI bb.toNat = 0 ∨ nI bb.toNat = 1 then some (decide (nI bb.toNat = 1)) else none) = some bb := by
    intro bb; cases bb <;> rfl
  obtain ⟨bb, i1⟩ := wk_hidL hw hk hN hm hh (tC T k) 0 rn_FU (by omega) (by unfold rn_FU; omega)
  have i0 := ma_hid0 (x := nI h) hw hk hN hm.1 (tC T k) 0 rn_FU (by omega) (by unfold rn_FU; omega)
  unfold f65 f65_J14
  rw [if_neg (ob_F (by omega) (by omega)), if_neg (ob_F (by omega) (by omega))]
  split
  · exact ⟨false, (i0 _).trans (hfin false)⟩
  · exact ⟨bb, (i1 _).trans (hfin bb)⟩
theorem wk_hideL {T : rn_TR} {k h : Nat} (hw : TW T) (hk : k < tN T) (hN : tN T ≤ 100) (hh : h < 101) : ∀ d i fu (M : rn_T), i + d = tC T k → d < fu → WM M T (k + 1) → ∃ M2, eCM T k M M2 ∧ ∀ f, f66_L2 (nI k) (nI h) fu M (nI i) f = f M2 := by
  have hC := (hw.1 k hk).2.2.2.2
  intro d
  induction d with
  | zero =>
    intro i fu M hi hf hm
    have e2 := (hm.1.2 k hk).2.2.2.2
    obtain ⟨G, rfl⟩ : ∃ G, fu = G + 1 := ⟨fu - 1, by omega⟩
    refine ⟨M, eCM_r, fun f => ?_⟩
    rw [f66_L2, if_neg (ob_F (by omega) (by omega)), nI_clamp (by omega), e2, if_pos (le_T (by omega) (by omega))]
  | succ d ih =>
    intro i fu M hi hf hm
    have e2 := (hm.1.2 k hk).2.2.2.2
    obtain ⟨G, rfl⟩ : ∃ G, fu = G + 1 := ⟨fu - 1, by omega⟩
    have hj : i < tC T k := by omega
    obtain ⟨g1, g2, g3, g4⟩ := hw.2.2 k i hk hj
    obtain ⟨b, hb, hb2⟩ := wm_c hw hk hm hj
    obtain ⟨z, hz⟩ := wk_room (show tE T k i < 101 by omega) hh hb hb2
    have hgo : ∀ f, f66_L2 (nI k) (nI h) (G + 1) M (nI i) f = if nI (tE T k i) = nI h then f66_L2 (nI k) (nI h) G (wA M 336 (tE T k i) (0 : Int32)) (nI (i + 1)) f else f66_L2 (nI k) (nI h) G (wA M 336 (tE T k i) z) (nI (i + 1)) f := by
      intro f
      rw [f66_L2, if_neg (ob_F (by omega) (by omega)), nI_clamp (by omega), e2, if_neg (le_F (by omega) (by omega)), ma_child hm.1 hw hk hj hN, Option.bind_some, nI_p1, hz, Option.bind_some, if_neg (ob_F (show tE T k i < 101 by omega) (by omega)), if_neg (ob_F (show tE T k i < 101 by omega) (by omega)), nI_clamp (by omega)]
    by_cases c : nI (tE T k i) = nI h
    · obtain ⟨M2, i1, i2⟩ := ih (i + 1) G (wA M 336 (tE T k i) (0 : Int32)) (by omega) (by omega) (wm_eq hm (Nat.lt_succ_self k) (eCM_K (eCM_c hj)))
      exact ⟨M2, eCM_t (eCM_c hj) i1, fun f => by rw [hgo, if_pos c]; exact i2 f⟩
    · obtain ⟨M2, i1, i2⟩ := ih (i + 1) G (wA M 336 (tE T k i) z) (by omega) (by omega) (wm_eq hm (Nat.lt_succ_self k) (eCM_K (eCM_c hj)))
      exact ⟨M2, eCM_t (eCM_c hj) i1, fun f => by rw [hgo, if_neg c]; exact i2 f⟩
theorem wk_tagL {T : rn_TR} {k : Nat} (hw : TW T) (hk : k < tN T) (hN : tN T ≤ 100) : ∀ d i fu (e : Int32) (M : rn_T), i + d = tC T k → d < fu → WM M T (k + 1) → ∃ (M2 : rn_T) (e2 : Int32), eCM T k M M2 ∧ ∀ f, f67_L4 (nI k) fu M e (nI i) f = f M2 e2 := by
  have hC := (hw.1 k hk).2.2.2.2
  intro d
  induction d with
  | zero =>
    intro i fu e M hi hf hm
    have e2 := (hm.1.2 k hk).2.2.2.2
    obtain ⟨G, rfl⟩ : ∃ G, fu = G + 1 := ⟨fu - 1, by omega⟩
    refine ⟨M, e, eCM_r, fun f => ?_⟩
    rw [f67_L4, if_neg (ob_F (by omega) (by omega)), nI_clamp (by omega), e2, if_pos (le_T (by omega) (by omega))]
  | succ d ih =>
    intro i fu e M hi hf hm
    have e2 := (hm.1.2 k hk).2.2.2.2
    obtain ⟨G, rfl⟩ : ∃ G, fu = G + 1 := ⟨fu - 1, by omega⟩
    have hj : i < tC T k := by omega
    obtain ⟨g1, g2, g3, g4⟩ := hw.2.2 k i hk hj
    obtain ⟨b, hb, hb2⟩ := wm_c hw hk hm hj
    obtain ⟨z, hz⟩ := f32_some (u := (1 : Int32)) hb
    obtain ⟨M2, e3, i1, i2⟩ := ih (i + 1) G (f31 e ((rA (wA M 336 (tE T k i) z) 336 (tE T k i)) + (rA (wA M 336 (tE T k i) z) 334 (tE T k i)))) (wA M 336 (tE T k i) z) (by omega) (by omega) (wm_eq hm (Nat.lt_succ_self k) (eCM_K (eCM_c hj)))
    refine ⟨M2, e3, eCM_t (eCM_c hj) i1, fun f => ?_⟩
    rw [f67_L4, if_neg (ob_F (by omega) (by omega)), nI_clamp (show k < 2 ^ 31 by omega), e2, if_neg (le_F (by omega) (by omega)), ma_child hm.1 hw hk hj hN, Option.bind_some, if_neg (ob_F (by omega) (by omega)), nI_clamp (show tE T k i < 2 ^ 31 by omega), hb2, hz, Option.bind_some, nI_p1]
    exact i2 f
theorem wk_var {M : rn_T} {T : rn_TR} {k : Nat} (hw : TW T) (hk : k < tN T) (hN : tN T ≤ 100) (h : WM M T (k + 1)) (hc : 1 ≤ tC T k) : ∃ M2, f68 M (nI k) = some M2 ∧ eKM T k M M2 ∧ ∃ a, isA a ∧ rA M2 335 k = nI a := by
  have hC := (hw.1 k hk).2.2.2.2
  obtain ⟨a, ha, hg⟩ := wk_gal hw hk hN h
  have heM1 : eKM T k M (wA M 335 k (nI a)) := eKM_k (by omega)
  have h1 := wm_eq h (Nat.lt_succ_self k) heM1
  obtain ⟨hb, hb1, hb3⟩ := wk_hostL hw hk hN h1.1 (tC T k - 1) 1 0 rn_FU (by omega) (by unfold rn_FU; omega) (by omega)
  have h63 : f63 (wA M 335 k (nI a)) (nI k) = some (nI hb) := by
    unfold f63
    exact hb3 _
  obtain ⟨g1, g2, g3, g4⟩ := hw.2.2 k hb hk hb1
  have heM2 : eKM T k M (wA (wA M 335 k (nI a)) 342 k (nI hb)) := eKM_t heM1 (eKM_k (by omega))
  have h2 := wm_eq h (Nat.lt_succ_self k) heM2
  have h57 : f57 (wA (wA M 335 k (nI a)) 342 k (nI hb)) (nI k) (nI hb) = some (nI (tE T k hb)) := ma_child h2.1 hw hk hb1 hN
  have hM5 : rA (wA (wA M 335 k (nI a)) 342 k (nI hb)) 335 k = nI a := by rw [ra_An (by omega), ra_A]
  have hJ : ∀ t2 : Int32, ∃ M2, f68_J41 (wA (wA M 335 k (nI a)) 342 k (nI hb)) (nI k) (nI (tE T k hb)) (nI k) t2 = some M2 ∧ eKM T k M M2 ∧ ∃ a, isA a ∧ rA M2 335 k = nI a := by
    intro t2
    have heM3 : eKM T k M (wA (wA (wA M 335 k (nI a)) 342 k (nI hb)) 341 k t2) := eKM_t heM2 (eKM_k (by omega))
    have h3 := wm_eq h (Nat.lt_succ_self k) heM3
    have hM6 : rA (wA (wA (wA M 335 k (nI a)) 342 k (nI hb)) 341 k t2) 335 k = nI a := by rw [ra_An (by omega)]; exact hM5
    unfold f68_J41
    rw [if_neg (ob_F (by omega) (by omega)), if_neg (ob_F (by omega) (by omega)), nI_clamp (by omega), ra_A]
    by_cases c : t2 = 2
    · rw [if_pos c]
      obtain ⟨M4, e4, q1, q2⟩ := wk_tagL hw hk hN (tC T k) 0 rn_FU (1 : Int32) _ (by omega) (by unfold rn_FU; omega) h3
      have h335 : rA M4 335 k = nI a := by rw [q1.1 335 k (fun j hj => by omega)]; exact hM6
      obtain ⟨z, hz⟩ := f32_some (u := e4) ha
      obtain ⟨M5, p1, p2⟩ := wk_58 (M := wA M4 334 k z) (k := k) (a := 0) (b := 1) (c := rA (wA M4 334 k z) 326 k) (d := (256 : Int32) - (rA (wA M4 334 k z) 326 k)) (by omega)
      have h67 : f67 (wA (wA (wA M 335 k (nI a)) 342 k (nI hb)) 341 k t2) (nI k) = some M5 := by
        unfold f67
        refine (q2 _).trans ?_
        rw [if_neg (ob_F (by omega) (by omega)), nI_clamp (by omega), h335, hz, Option.bind_some, p1]
        rfl
      refine ⟨M5, by rw [h67]; rfl, eKM_t (eKM_t (eKM_t heM3 (eCM_K q1)) (eKM_k (by omega))) (eGM_K p2), a, ha, ?_⟩
      rw [p2.1 335 k (by omega), ra_An (by omega)]; exact h335
    · rw [if_neg c]
      obtain ⟨M4, q1, q2⟩ := wk_hideL hw hk hN (show tE T k hb < 101 by omega) (tC T k) 0 rn_FU _ (by omega) (by unfold rn_FU; omega) h3
      have h335 : rA M4 335 k = nI a := by rw [q1.1 335 k (fun j hj => by omega)]; exact hM6
      obtain ⟨z, hz⟩ := f32_some (u := rA M4 334 (tE T k hb)) ha
      obtain ⟨M5, p1, p2⟩ := wk_58 (M := wA M4 334 k z) (k := k) (a := rA (wA M4 334 k z) 337 (tE T k hb)) (b := rA (wA M4 334 k z) 338 (tE T k hb)) (c := (rA (wA M4 334 k z) 339 (tE T k hb)) + ((rA M4 326 k) - (1 : Int32))) (d := (rA (wA M4 334 k z) 340 (tE T k hb)) - ((rA M4 326 k) - (1 : Int32))) (by omega)
      have h66 : f66 (wA (wA (wA M 335 k (nI a)) 342 k (nI hb)) 341 k t2) (nI k) (nI (tE T k hb)) = some M5 := by
        unfold f66
        refine (q2 _).trans ?_
        rw [if_neg (ob_F (by omega) (by omega)), if_neg (ob_F (by omega) (by omega)), nI_clamp (show k < 2 ^ 31 by omega), nI_clamp (show tE T k hb < 2 ^ 31 by omega), h335, hz, Option.bind_some, p1]
        rfl
      refine ⟨M5, by rw [h66]; rfl, eKM_t (eKM_t (eKM_t heM3 (eCM_K q1)) (eKM_k (by omega))) (eGM_K p2), a, ha, ?_⟩
      rw [p2.1 335 k (by omega), ra_An (by omega)]; exact h335
  obtain ⟨bb, hbb⟩ := wk_hid hw hk hN h2 (show tE T k hb < 101 by omega)
  unfold f68
  rw [hg, Option.bind_some, if_neg (ob_F (by omega) (by omega)), nI_clamp (by omega), h63, Option.bind_some, ra_A, h57, Option.bind_some, hbb]
  split
  · exact hJ _
  · cases bb with
    | true => exact hJ _
    | false => exact hJ _
/-- a leaf on the reference's side -/
theorem rf_leaf {M : rn_T} {T : rn_TR} {k : Nat} (hw : TW T) (hk : k < tN T) (hN : tN T ≤ 100) (h : MB M T) (h4 : tK T k ≤ 4) : ∃ M2, f59 M (nI k) = some M2 ∧ eKM T k M M2 ∧ rA M2 334 k = nI (lS (tK T k) (tO T k)) ∧ rA M2 335 k = nI (lA (tK T k) (tO T k)) ∧ rA M2 337 k = nI 0 ∧ rA M2 338 k = nI (lW (tK T k)) ∧ rA M2 339 k = nI (lF (tK T k) (tO T k)) ∧ rA M2 340 k = nI (lM (tK T k) (tO T k)) := by
  obtain ⟨w1, w2, w3, w4, w5⟩ := hw.1 k hk
  obtain ⟨b1, b2, -⟩ := h.2 k hk
  have hob := ob_F (show k < 101 by omega) (show k < 2 ^ 31 by omega)
  have hcl := nI_clamp (show k < 2 ^ 31 by omega)
  have hz : ∀ M : rn_T, f58 M (nI k) (0 : Int32) (0 : Int32) (0 : Int32) (0 : Int32) = some (gpM M k 0 0 0 0) := fun M => rf_gap (by omega)
  have hfr : ∀ s a, eKM T k M (gpM (wA (wA M 334 k (nI s)) 335 k (nI a)) k 0 0 0 0) := fun s a => eKM_t (eKM_t (eKM_k (by omega)) (eKM_k (by omega))) (eGM_K eGM_g)
  have h322 : ∀ s a, rA (gpM (wA (wA M 334 k (nI s)) 335 k (nI a)) k 0 0 0 0) 322 k = nI (tK T k) := fun s a => by
    rw [(hfr s a).1 322 k (by omega) (fun j hj => by omega)]; exact b1
  have h323 : ∀ s a, rA (gpM (wA (wA M 334 k (nI s)) 335 k (nI a)) k 0 0 0 0) 323 k = rA M 323 k := fun s a => (hfr s a).1 323 k (by omega) (fun j hj => by omega)
  have hv : ∀ s a, rA (gpM (wA (wA M 334 k (nI s)) 335 k (nI a)) k 0 0 0 0) 334 k = nI s ∧ rA (gpM (wA (wA M 334 k (nI s)) 335 k (nI a)) k 0 0 0 0) 335 k = nI a := fun s a => by
    unfold gpM
    exact ⟨by simp (disch := omega) only [ra_I, ra_In, ra_A, ra_An, ra_IA, ra_IL, ra_IR, ra_IP, ra_AI, ra_AL, ra_AR, ra_AP, ra_L, ra_Ln, ra_LI, ra_LA, ra_LR, ra_LP, ra_R, ra_Rn, ra_RI, ra_RA, ra_RL, ra_RP, ra_P, ra_Pn, ra_PI, ra_PA, ra_PL, ra_PR], by simp (disch := omega) only [ra_I, ra_In, ra_A, ra_An, ra_IA, ra_IL, ra_IR, ra_IP, ra_AI, ra_AL, ra_AR, ra_AP, ra_L, ra_Ln, ra_LI, ra_LA, ra_LR, ra_LP, ra_R, ra_Rn, ra_RI, ra_RA, ra_RL, ra_RP, ra_P, ra_Pn, ra_PI, ra_PA, ra_PL, ra_PR]⟩
  have hv2 : ∀ (M : rn_T) a b c d, rA (gpM M k a b c d) 337 k = nI a ∧ rA (gpM M k a b c d) 338 k = nI b ∧ rA (gpM M k a b c d) 339 k = nI c ∧ rA (gpM M k a b c d) 340 k = nI d ∧ rA (gpM M k a b c d) 334 k = rA M 334 k ∧ rA (gpM M k a b c d) 335 k = rA M 335 k := fun M a b c d => by
    unfold gpM
    refine ⟨?_, ?_, ?_, ?_, ?_, ?_⟩ <;> simp (disch := omega) only [ra_I, ra_In, ra_A, ra_An, ra_IA, ra_IL, ra_IR, ra_IP, ra_AI, ra_AL, ra_AR, ra_AP, ra_L, ra_Ln, ra_LI, ra_LA, ra_LR, ra_LP, ra_R, ra_Rn, ra_RI, ra_RA, ra_RL, ra_RP, ra_P, ra_Pn, ra_PI, ra_PA, ra_PL, ra_PR]
  have hJ81 : ∀ M2, rA M2 322 k = nI (tK T k) → f59_J81 M2 (nI k) = if tK T k = 4 then some (gpM M2 k 0 4 0 1) else some M2 := by
    intro M2 h2
    unfold f59_J81
    rw [if_neg hob, hcl, h2]
    by_cases c : tK T k = 4
    · rw [if_pos (by rw [c]; rfl), if_pos c, show (0 : Int32) = nI 0 from rfl, show (4 : Int32) = nI 4 from rfl, show (1 : Int32) = nI 1 from rfl, rf_gap (by omega)]
      rfl
    · rw [if_neg (show ¬ nI (tK T k) = 4 by simp (disch := omega) only [nI_lit, nI_add, pk_sub, pk_mul, ma_neg, nI_clamp, ma_ltT, ma_ltF, ma_leT, ma_leF, ma_eqT, ma_eqF, nI_ltI, nI_leI, nI_eq, ma_obT, ma_obF, ma_enF, ma_neF, ma_nlT, ma_lnF, ma_nLT, ma_Ln, ↓reduceIte, Option.bind_some, Option.bind_none, true_and, and_true, false_and, and_false, ne_eq, not_true_eq_false, not_false_eq_true, Bool.false_eq_true, reduceCtorEq, Nat.reduceAdd, Nat.reduceMul, Nat.reduceSub]), if_neg c]
  have hcase : tK T k = 0 ∨ tK T k = 1 ∨ tK T k = 2 ∨ tK T k = 3 ∨ tK T k = 4 := by omega
  unfold f59
  rw [if_neg hob, hcl, b1]
  have hmain : ∀ s : Nat, s < 100 → f59_J27 M (nI k) (nI s) = Option.bind (some (gpM (wA (wA M 334 k (nI s)) 335 k (nI (mx2 1 s))) k 0 0 0 0)) fun p5 => if (rA p5 322 k) = (2 : Int32) then Option.bind (f58 p5 (nI k) (0 : Int32) (1 : Int32) (2 : Int32) (254 : Int32)) fun p7 => f59_J60 p7 (nI k) else f59_J60 p5 (nI k) := by
    intro s hs
    unfold f59_J27
    rw [if_neg hob, hcl, show (1 : Int32) = nI 1 from rfl, ma_f31 (by omega) (by omega), hz]
  have hJ60 : ∀ M2, rA M2 322 k = nI (tK T k) → tK T k ≠ 3 → f59_J60 M2 (nI k) = f59_J81 M2 (nI k) := by
    intro M2 h2 h3
    unfold f59_J60
    rw [if_neg hob, hcl, h2, if_neg (show ¬ nI (tK T k) = 3 by simp (disch := omega) only [nI_lit, nI_add, pk_sub, pk_mul, ma_neg, nI_clamp, ma_ltT, ma_ltF, ma_leT, ma_leF, ma_eqT, ma_eqF, nI_ltI, nI_leI, nI_eq, ma_obT, ma_obF, ma_enF, ma_neF, ma_nlT, ma_lnF, ma_nLT, ma_Ln, ↓reduceIte, Option.bind_some, Option.bind_none, true_and, and_true, false_and, and_false, ne_eq, not_true_eq_false, not_false_eq_true, Bool.false_eq_true, reduceCtorEq, Nat.reduceAdd, Nat.reduceMul, Nat.reduceSub])]
  clear b1 h4 w1 w2 w5
  generalize tK T k = K at *
  rcases hcase with rfl | rfl | rfl | rfl | rfl
  · rw [if_pos (show nI 0 = (0 : Int32) from rfl), show (0 : Int32) = nI 0 from rfl, hmain 0 (by omega), Option.bind_some, h322, if_neg (by decide), hJ60 _ (h322 _ _) (by omega), hJ81 _ (h322 _ _), if_neg (by omega)]
    obtain ⟨z1, z2, z3, z4, -, -⟩ := hv2 (wA (wA M 334 k (nI 0)) 335 k (nI (mx2 1 0))) 0 0 0 0
    exact ⟨_, rfl, hfr _ _, (hv _ _).1, (hv _ _).2, z1, z2, z3, z4⟩
  · have ho := w3 rfl
    have b3 := b2 (.inl rfl)
    have e1 : mx2 1 (tO T k) = tO T k := by unfold mx2; split <;> omega
    rw [if_neg (by decide), if_pos (show nI 1 = (1 : Int32) from rfl), b3, hmain (tO T k) (by omega), Option.bind_some, h322, if_neg (by decide), hJ60 _ (h322 _ _) (by omega), hJ81 _ (h322 _ _), if_neg (by omega)]
    obtain ⟨z1, z2, z3, z4, -, -⟩ := hv2 (wA (wA M 334 k (nI (tO T k))) 335 k (nI (mx2 1 (tO T k)))) 0 0 0 0
    exact ⟨_, rfl, hfr _ _, (hv _ _).1, by rw [(hv _ _).2, e1]; rfl, z1, z2, z3, z4⟩
  · rw [if_neg (by decide), if_neg (by decide), if_neg (by decide), show (1 : Int32) = nI 1 from rfl, hmain 1 (by omega), Option.bind_some, h322, if_pos (show nI 2 = (2 : Int32) from rfl), show (0 : Int32) = nI 0 from rfl, show (1 : Int32) = nI 1 from rfl, show (2 : Int32) = nI 2 from rfl, show (254 : Int32) = nI 254 from rfl, rf_gap (by omega), Option.bind_some]
    have heq : rA (gpM (gpM (wA (wA M 334 k (nI 1)) 335 k (nI (mx2 1 1))) k 0 0 0 0) k 0 1 2 254) 322 k = nI 2 := by
      rw [eGM_g.1 322 k (by omega)]; exact h322 _ _
    rw [hJ60 _ heq (by omega), hJ81 _ heq, if_neg (by omega)]
    obtain ⟨z1, z2, z3, z4, z5, z6⟩ := hv2 (gpM (wA (wA M 334 k (nI 1)) 335 k (nI (mx2 1 1))) k 0 0 0 0) 0 1 2 254
    exact ⟨_, rfl, eKM_t (hfr _ _) (eGM_K eGM_g), by rw [z5]; exact (hv _ _).1, by rw [z6]; exact (hv _ _).2, z1, z2, z3, z4⟩
  · have ho := w4 rfl
    have b3 := b2 (.inr rfl)
    rw [if_neg (by decide), if_neg (by decide), if_neg (by decide), show (1 : Int32) = nI 1 from rfl, hmain 1 (by omega), Option.bind_some, h322, if_neg (by decide)]
    have hJ3 : f59_J60 (gpM (wA (wA M 334 k (nI 1)) 335 k (nI (mx2 1 1))) k 0 0 0 0) (nI k) = f59_J81 (gpM (gpM (wA (wA M 334 k (nI 1)) 335 k (nI (mx2 1 1))) k 0 0 0 0) k 0 1 (tO T k) (256 - tO T k)) (nI k) := by
      unfold f59_J60
      rw [if_neg hob, hcl, h322, if_pos (show nI 3 = (3 : Int32) from rfl), h323, b3, show (256 : Int32) - nI (tO T k) = nI (256 - tO T k) from pk_sub (show tO T k ≤ 256 by omega), show (0 : Int32) = nI 0 from rfl, show (1 : Int32) = nI 1 from rfl, rf_gap (by omega)]
      rfl
    have heq : rA (gpM (gpM (wA (wA M 334 k (nI 1)) 335 k (nI (mx2 1 1))) k 0 0 0 0) k 0 1 (tO T k) (256 - tO T k)) 322 k = nI 3 := by
      rw [eGM_g.1 322 k (by omega)]; exact h322 _ _
    rw [hJ3, hJ81 _ heq, if_neg (by omega)]
    obtain ⟨z1, z2, z3, z4, z5, z6⟩ := hv2 (gpM (wA (wA M 334 k (nI 1)) 335 k (nI (mx2 1 1))) k 0 0 0 0) 0 1 (tO T k) (256 - tO T k)
    exact ⟨_, rfl, eKM_t (hfr _ _) (eGM_K eGM_g), by rw [z5]; exact (hv _ _).1, by rw [z6]; exact (hv _ _).2, z1, z2, z3, z4⟩
  · rw [if_neg (by decide), if_neg (by decide), if_pos (show nI 4 = (4 : Int32) from rfl), show (4 : Int32) = nI 4 from rfl, hmain 4 (by omega), Option.bind_some, h322, if_neg (by decide), hJ60 _ (h322 _ _) (by omega), hJ81 _ (h322 _ _), if_pos rfl]
    obtain ⟨z1, z2, z3, z4, z5, z6⟩ := hv2 (gpM (wA (wA M 334 k (nI 4)) 335 k (nI (mx2 1 4))) k 0 0 0 0) 0 4 0 1
    exact ⟨_, rfl, eKM_t (hfr _ _) (eGM_K eGM_g), by rw [z5]; exact (hv _ _).1, by rw [z6]; exact (hv _ _).2, z1, z2, z3, z4⟩
theorem lA_is {k o : Nat} (h1 : k = 1 → o = 1 ∨ o = 2 ∨ o = 4) : isA (lA k o) := by
  unfold lA
  split
  · exact h1 (by assumption)
  · split
    · exact .inr (.inr rfl)
    · exact .inl rfl
theorem wk_one {M : rn_T} {T : rn_TR} {k : Nat} (hw : TW T) (hk : k < tN T) (hN : tN T ≤ 100) (h : WM M T (k + 1)) (hc : 5 ≤ tK T k → 1 ≤ tC T k) : ∃ M2, f69 M (nI k) = some M2 ∧ eKM T k M M2 ∧ ∃ a, isA a ∧ rA M2 335 k = nI a := by
  obtain ⟨w1, w2, w3, w4, w5⟩ := hw.1 k hk
  have b1 := (h.1.2 k hk).1
  unfold f69
  rw [if_neg (ob_F (by omega) (by omega)), nI_clamp (by omega), b1]
  by_cases c5 : tK T k = 5
  · obtain ⟨M2, h1, h2⟩ := wk_rec hw hk hN h
    rw [if_pos (by rw [c5]; rfl), h1]
    exact ⟨M2, rfl, h2⟩
  · rw [if_neg (show ¬ nI (tK T k) = 5 by simp (disch := omega) only [nI_lit, nI_add, pk_sub, pk_mul, ma_neg, nI_clamp, ma_ltT, ma_ltF, ma_leT, ma_leF, ma_eqT, ma_eqF, nI_ltI, nI_leI, nI_eq, ma_obT, ma_obF, ma_enF, ma_neF, ma_nlT, ma_lnF, ma_nLT, ma_Ln, ↓reduceIte, Option.bind_some, Option.bind_none, true_and, and_true, false_and, and_false, ne_eq, not_true_eq_false, not_false_eq_true, Bool.false_eq_true, reduceCtorEq, Nat.reduceAdd, Nat.reduceMul, Nat.reduceSub])]
    by_cases c6 : tK T k = 6
    · obtain ⟨M2, h1, h2⟩ := wk_var hw hk hN h (hc (by omega))
      rw [if_pos (by rw [c6]; rfl), h1]
      exact ⟨M2, rfl, h2⟩
    · rw [if_neg (show ¬ nI (tK T k) = 6 by simp (disch := omega) only [nI_lit, nI_add, pk_sub, pk_mul, ma_neg, nI_clamp, ma_ltT, ma_ltF, ma_leT, ma_leF, ma_eqT, ma_eqF, nI_ltI, nI_leI, nI_eq, ma_obT, ma_obF, ma_enF, ma_neF, ma_nlT, ma_lnF, ma_nLT, ma_Ln, ↓reduceIte, Option.bind_some, Option.bind_none, true_and, and_true, false_and, and_false, ne_eq, not_true_eq_false, not_false_eq_true, Bool.false_eq_true, reduceCtorEq, Nat.reduceAdd, Nat.reduceMul, Nat.reduceSub])]
      obtain ⟨M2, h1, h2, h3, h4, _⟩ := rf_leaf hw hk hN h.1 (by omega)
      rw [h1]
      exact ⟨M2, rfl, h2, _, lA_is w3, h4⟩
