/-! 82: all parts are laid, from the last one on -/
def SL (S : rn_T) (T : rn_TR) (Y : rn_LY) (lo : Nat) : Prop := SK S T ∧ (∀ i, i < tN T → (lo ≤ i ∨ tK T i ≤ 4) → ∀ f, fK f → rI S (76 + 2 * i) f = nI (Y i f)) ∧ (∀ i, 0 < i → i < tN T → lo ≤ tP T i → rI S (76 + 2 * i) 7 = nI (Y i 7)) ∧ (∀ i, 0 < i → i < tN T → tP T i < lo → rI S (76 + 2 * i) 14 = -nI 6)
def ML (M : rn_T) (T : rn_TR) (Y : rn_LY) (lo : Nat) : Prop := MB M T ∧ (∀ i, i < tN T → lo ≤ i → ∀ f, fK f → rA M (329 + f) i = nI (Y i f)) ∧ (∀ i, 0 < i → i < tN T → lo ≤ tP T i → rA M 336 i = nI (Y i 7)) ∧ rA M 336 0 = nI 0
def VL (S M : rn_T) (T : rn_TR) (Y : rn_LY) (lo : Nat) : Prop := ∀ i, i < tN T → lo ≤ i → tK T i = 6 → LV S M T Y i
def YL (T : rn_TR) (Y : rn_LY) (lo : Nat) : Prop := (∀ i, i < tN T → (lo ≤ i ∨ tK T i ≤ 4) → CI Y i) ∧ (∀ i, 0 < i → i < tN T → lo ≤ tP T i → Y i 7 % Y i 6 = 0 ∧ Y i 7 + Y i 5 ≤ Y (tP T i) 5 ∧ Y i 6 ≤ Y (tP T i) 6) ∧ (∀ i, i < tN T → tK T i ≤ 4 → Y i 5 = lS (tK T i) (tO T i) ∧ Y i 6 = lA (tK T i) (tO T i) ∧ Y i 8 = 0 ∧ Y i 9 = lW (tK T i) ∧ Y i 10 = lF (tK T i) (tO T i) ∧ Y i 11 = lM (tK T i) (tO T i))
def LL (S M : rn_T) (T : rn_TR) (Y : rn_LY) (lo : Nat) : Prop := SL S T Y lo ∧ ML M T Y lo ∧ VL S M T Y lo ∧ YL T Y lo
theorem is_child {T : rn_TR} {i : Nat} (hw : TW T) (h0 : 0 < i) (hi : i < tN T) : ∃ j, j < tC T (tP T i) ∧ i = tE T (tP T i) j := ⟨tI T i, (hw.2.1 i h0 hi).2.1, (hw.2.1 i h0 hi).2.2.symm⟩
theorem not_child {T : rn_TR} {i k j : Nat} (hw : TW T) (hk : k < tN T) (h : tP T i ≠ k) (hj : j < tC T k) : i ≠ tE T k j := fun e => h (by rw [e]; exact (hw.2.2 k j hk hj).2.2.1)
theorem lv_eq {S S2 M M2 : rn_T} {T : rn_TR} {Y Y2 : rn_LY} {i : Nat} (h : LV S M T Y i) (h1 : rI S2 (76 + 2 * i) 12 = rI S (76 + 2 * i) 12) (h2 : rI S2 (76 + 2 * i) 13 = rI S (76 + 2 * i) 13) (h3 : rA M2 341 i = rA M 341 i) (h4 : rA M2 342 i = rA M 342 i) (h5 : ∀ j, j < tC T i → rI S2 (76 + 2 * tE T i j) 14 = rI S (76 + 2 * tE T i j) 14) (h6 : ∀ f, f ≠ 7 → Y2 i f = Y i f) (h7 : ∀ j f, j < tC T i → Y2 (tE T i j) f = Y (tE T i j) f) : LV S2 M2 T Y2 i := by
  obtain ⟨g1, g2, g3, g4, g5, g6, g7, g8, g9, g10⟩ := h
  have e12 := h6 12 (by omega)
  have e13 := h6 13 (by omega)
  unfold LV
  rw [h1, h2, h3, h4, e12, e13, h6 5 (by omega), h7 _ _ g5, h7 _ _ g5]
  refine ⟨g1, g2, g3, g4, g5, g6, g7, g8, g9, fun j hj => ?_⟩
  rw [h5 j hj, g10 j hj]
  unfold mkI
  rw [e12, e13, h7 _ _ g5]
theorem ll_kr {S M : rn_T} {T : rn_TR} {Y : rn_LY} {k : Nat} (hw : TW T) (hk : k < tN T) (h : LL S M T Y (k + 1)) : KR S M T Y k := by
  obtain ⟨h1, h2, h3, h4⟩ := h
  refine ⟨h1.1, h2.1, fun j hj => ?_⟩
  obtain ⟨g1, g2, g3, g4⟩ := hw.2.2 k j hk hj
  exact ⟨h4.1 _ g2 (.inl (by omega)), fun f hf => ⟨h1.2.1 _ g2 (.inl (by omega)) f hf, h2.2.1 _ g2 (by omega) f hf⟩⟩
theorem ll_mk {S M : rn_T} {T : rn_TR} {Y : rn_LY} {k : Nat} (hw : TW T) (hk : k < tN T) (h : LL S M T Y (k + 1)) : ∀ j, j < tC T k → rI S (76 + 2 * tE T k j) 14 = -nI 6 := by
  intro j hj
  obtain ⟨g1, g2, g3, g4⟩ := hw.2.2 k j hk hj
  exact h.1.2.2.2 _ (by omega) g2 (by omega)
theorem ll_step {S M S2 M2 : rn_T} {T : rn_TR} {Y Y2 : rn_LY} {k : Nat} (hw : TW T) (hk : k < tN T) (h : LL S M T Y (k + 1)) (hd : LD S M S2 M2 T Y Y2 k) (h64 : Y2 k 5 ≤ 64) (hk5 : 5 ≤ tK T k) (hv : tK T k = 6 → LV S2 M2 T Y2 k) : LL S2 M2 T Y2 k := by
  obtain ⟨⟨a1, a2, a3, a4⟩, ⟨b1, b2, b3, b4⟩, hV, c1, c2, c3⟩ := h
  obtain ⟨d1, d2, d3, d4, d5, d6, d7, d8⟩ := hd
  -- one that is not in k
  have hnc : ∀ i, tP T i ≠ k → ∀ j, j < tC T k → i ≠ tE T k j := fun i hi j hj => not_child hw hk hi hj
  have hyf : ∀ i f, i ≠ k → f ≠ 7 → Y2 i f = Y i f := fun i f hi hf => d3 i f hi (.inl hf)
  have hy7 : ∀ i, i ≠ k → tP T i ≠ k → Y2 i 7 = Y i 7 := fun i hi hp => d3 i 7 hi (.inr (hnc i hp))
  have hSf : ∀ i f, i ≠ k → f ≠ 7 → f ≠ 14 → rI S2 (76 + 2 * i) f = rI S (76 + 2 * i) f := fun i f hi h7 h14 => d1.1 _ _ (by omega) (fun j hj => by omega)
  have hS7 : ∀ i f, i ≠ k → tP T i ≠ k → rI S2 (76 + 2 * i) f = rI S (76 + 2 * i) f := fun i f hi hp => d1.1 _ _ (by omega) (fun j hj hx => hnc i hp j hj (by omega))
  have hMf : ∀ i q, i ≠ k → q ≠ 336 → rA M2 q i = rA M q i := fun i q hi hq => d2.1 _ _ (by omega) (fun j hj => by omega)
  have hM7 : ∀ i q, i ≠ k → tP T i ≠ k → rA M2 q i = rA M q i := fun i q hi hp => d2.1 _ _ (by omega) (fun j hj hx => hnc i hp j hj hx.1)
  refine ⟨⟨d4.1, fun i hi hl f hf => ?_, fun i h0 hi hl => ?_, fun i h0 hi hl => ?_⟩, ⟨d4.2.1, fun i hi hl f hf => ?_, fun i h0 hi hl => ?_, ?_⟩, fun i hi hl h6 => ?_, fun i hi hl => ?_, fun i h0 hi hl => ?_, fun i hi h4 => ?_⟩
  · by_cases e : i = k
    · subst e; exact (d6 f hf).1
    · have hf2 : f ≠ 7 ∧ f ≠ 14 := by unfold fK at hf; omega
      rw [hSf i f e hf2.1 hf2.2, hyf i f e hf2.1]
      exact a2 i hi (by omega) f hf
  · by_cases e : tP T i = k
    · obtain ⟨j, hj, e2⟩ := is_child hw h0 hi
      rw [e] at hj e2
      rw [e2]; exact (d5 j hj trivial).1
    · have := (hw.2.1 i h0 hi).1
      rw [hS7 i 7 (by omega) e, hy7 i (by omega) e]
      exact a3 i h0 hi (by omega)
  · by_cases ek : i = k
    · subst ek
      rw [d1.1 _ 14 (by omega) (fun j hj hx => hnc i (by omega) j hj (by omega))]
      exact a4 i h0 hi (by omega)
    · rw [hS7 i 14 ek (by omega)]
      exact a4 i h0 hi (by omega)
  · by_cases e : i = k
    · subst e; exact (d6 f hf).2
    · have hf2 : f ≠ 7 := by unfold fK at hf; omega
      rw [hMf i _ e (by omega), hyf i f e hf2]
      exact b2 i hi (by omega) f hf
  · by_cases e : tP T i = k
    · obtain ⟨j, hj, e2⟩ := is_child hw h0 hi
      rw [e] at hj e2
      rw [e2]; exact (d5 j hj trivial).2.1
    · have := (hw.2.1 i h0 hi).1
      rw [hM7 i 336 (by omega) e, hy7 i (by omega) e]
      exact b3 i h0 hi (by omega)
  · rw [d2.1 336 0 (by omega) (fun j hj hx => by have := hw.2.2 k j hk hj; omega)]
    exact b4
  · by_cases e : i = k
    · subst e; exact hv h6
    · refine lv_eq (hV i hi (by omega) h6) (hSf i 12 e (by omega) (by omega)) (hSf i 13 e (by omega) (by omega)) (hMf i 341 e (by omega)) (hMf i 342 e (by omega)) (fun j hj => ?_) (fun f hf => hyf i f e hf) (fun j f hj => ?_)
      · obtain ⟨g1, g2, g3, g4⟩ := hw.2.2 i j hi hj
        exact hS7 _ _ (by omega) (by omega)
      · obtain ⟨g1, g2, g3, g4⟩ := hw.2.2 i j hi hj
        by_cases e7 : f = 7
        · subst e7; exact hy7 _ (by omega) (by omega)
        · exact hyf _ f (by omega) e7
  · by_cases e : i = k
    · subst e
      obtain ⟨n1, n2, n3, n4, n5, n6, n7⟩ := d7
      exact ⟨n1, n2, h64, by omega, n5, n6, n7⟩
    · have := c1 i hi (by omega)
      unfold CI at this ⊢
      rw [hyf i 5 e (by omega), hyf i 6 e (by omega), hyf i 8 e (by omega), hyf i 9 e (by omega), hyf i 10 e (by omega), hyf i 11 e (by omega)]
      exact this
  · by_cases e : tP T i = k
    · obtain ⟨j, hj, e2⟩ := is_child hw h0 hi
      rw [e] at hj e2 ⊢
      obtain ⟨p1, p2, p3, p4⟩ := d5 j hj trivial
      rw [e2]
      exact ⟨p3, p4, d8 j hj⟩
    · have := (hw.2.1 i h0 hi).1
      rw [hy7 i (by omega) e, hyf i 6 (by omega) (by omega), hyf i 5 (by omega) (by omega), hyf (tP T i) 5 e (by omega), hyf (tP T i) 6 e (by omega)]
      exact c2 i h0 hi (by omega)
  · have e : i ≠ k := fun hx => by subst hx; omega
    rw [hyf i 5 e (by omega), hyf i 6 e (by omega), hyf i 8 e (by omega), hyf i 9 e (by omega), hyf i 10 e (by omega), hyf i 11 e (by omega)]
    exact c3 i hi h4
theorem ll_leaf {S M : rn_T} {T : rn_TR} {Y : rn_LY} {k : Nat} (hw : TW T) (hk : k < tN T) (hN : tN T ≤ 100) (h : LL S M T Y (k + 1)) (h4 : tK T k ≤ 4) : ∃ M2, f59 M (nI k) = some M2 ∧ eKM T k M M2 ∧ LL S M2 T Y k := by
  obtain ⟨⟨a1, a2, a3, a4⟩, ⟨b1, b2, b3, b4⟩, hV, c1, c2, c3⟩ := h
  obtain ⟨M2, r1, r2, r3⟩ := rf_leaf hw hk hN b1 h4
  have hC0 := (hw.1 k hk).2.1 h4
  have hp : ∀ i, 0 < i → i < tN T → tP T i ≠ k := fun i h0 hi e => by
    have := (hw.2.1 i h0 hi).2.1
    rw [e] at this; omega
  have hMf : ∀ i q, i ≠ k → rA M2 q i = rA M q i := fun i q hi => r2.1 _ _ (by omega) (fun j hj => by omega)
  refine ⟨M2, r1, r2, ⟨a1, fun i hi hl => a2 i hi (by
    by_cases e : i = k
    · subst e; exact .inr h4
    · omega), fun i h0 hi hl => a3 i h0 hi (by have := hp i h0 hi; omega), fun i h0 hi hl => a4 i h0 hi (by omega)⟩, ⟨mb_eq b1 (by rw [r2.2.1]) (fun q h1 h2 => funext fun i => r2.1 q i (by omega) (fun j hj => by omega)), fun i hi hl f hf => ?_, fun i h0 hi hl => ?_, ?_⟩, fun i hi hl h6 => ?_, fun i hi hl => c1 i hi (by
    by_cases e : i = k
    · subst e; exact .inr h4
    · omega), fun i h0 hi hl => c2 i h0 hi (by have := hp i h0 hi; omega), c3⟩
  · by_cases e : i = k
    · subst e
      obtain ⟨q1, q2, q3, q4, q5, q6⟩ := c3 i hi h4
      rcases hf with rfl | rfl | rfl | rfl | rfl | rfl
      · rw [q1]; exact r3.1
      · rw [q2]; exact r3.2.1
      · rw [q3]; exact r3.2.2.1
      · rw [q4]; exact r3.2.2.2.1
      · rw [q5]; exact r3.2.2.2.2.1
      · rw [q6]; exact r3.2.2.2.2.2
    · rw [hMf i _ e]; exact b2 i hi (by omega) f hf
  · rw [r2.1 336 i (by omega) (fun j hj => by omega)]
    exact b3 i h0 hi (by have := hp i h0 hi; omega)
  · rw [r2.1 336 0 (by omega) (fun j hj => by omega)]; exact b4
  · have e : i ≠ k := fun hx => by subst hx; omega
    exact lv_eq (hV i hi (by omega) h6) rfl rfl (hMf i 341 e) (hMf i 342 e) (fun _ _ => rfl) (fun _ _ => rfl) (fun _ _ _ => rfl)
theorem eK_E {S S2 : rn_T} {T : rn_TR} {k : Nat} (hw : TW T) (hk : k < tN T) (hN : tN T ≤ 100) (h : eK T k S S2) : EqT (fun q => q < 66 ∨ 276 ≤ q) S S2 := fun q hq => ⟨funext fun f => h.1 q f (by omega) (fun j hj => by have := hw.2.2 k j hk hj; omega), by rw [h.2.1], by rw [h.2.2.1]⟩
theorem eKM_M {M M2 : rn_T} {T : rn_TR} {k : Nat} (h : eKM T k M M2) : eqM M M2 := ⟨fun q hq => ⟨by rw [h.2.1], funext fun i => h.1 q i (by omega) (fun j hj => by omega), by rw [h.2.2]⟩, by rw [h.2.1], by rw [h.2.1]⟩
theorem wk_loop {T : rn_TR} (hw : TW T) (hN : tN T ≤ 100) (hc : ∀ i, i < tN T → 5 ≤ tK T i → 1 ≤ tC T i) : ∀ (k fu : Nat) (M : rn_T), k ≤ tN T → k < fu → WM M T k → ∃ M2, eqM M M2 ∧ ∀ f, f70_L12 fu M (nI 0) (vk k) f = f M2 (nI 0) := by
  intro k
  induction k with
  | zero =>
    intro fu M hk hf h
    obtain ⟨G, rfl⟩ : ∃ G, fu = G + 1 := ⟨fu - 1, by omega⟩
    refine ⟨M, ⟨eq_r, rfl, rfl⟩, fun f => ?_⟩
    rw [f70_L12, if_pos (show vk 0 < 0 by decide)]
  | succ k ih =>
    intro fu M hk hf h
    obtain ⟨G, rfl⟩ : ∃ G, fu = G + 1 := ⟨fu - 1, by omega⟩
    obtain ⟨M2, h1, h2, a, ha, h3⟩ := wk_one hw (show k < tN T by omega) hN h (hc k (by omega))
    have hw2 := wm_eq h (Nat.lt_succ_self k) h2
    obtain ⟨M3, i1, i2⟩ := ih G M2 (by omega) (by omega) ⟨hw2.1, fun i hi hl => by
      by_cases e : i = k
      · subst e; exact ⟨a, ha, h3⟩
      · exact hw2.2 i hi (by omega)⟩
    refine ⟨M3, eqM_t (eKM_M h2) i1, fun f => ?_⟩
    rw [f70_L12, vk_c, if_neg (nI_pos (by omega)), h1, Option.bind_some, if_pos (show nI 0 = 0 from rfl), vk_s]
    exact i2 f
