/-! 58: the class's isWell, from the last shape down -/
theorem ip_mono {A : rn_AT} {b j : Nat} (h : b.testBit j = true) : ∀ {k}, (ip A b k).testBit j = true := by
  intro k
  induction k with
  | zero => exact h
  | succ k ih =>
    show (if (ip A b k).testBit k = true then ip A b k ||| lbA A k else ip A b k).testBit j = true
    split
    · rw [Nat.testBit_or, ih, Bool.true_or]
    · exact ih
theorem ip_let {A : rn_AT} {b e i : Nat} (h : b.testBit e = true) (hl : (lbA A e).testBit i = true) : ∀ {k}, e < k → (ip A b k).testBit i = true := by
  intro k
  induction k with
  | zero => intro hk; omega
  | succ k ih =>
    intro hk
    show (if (ip A b k).testBit k = true then ip A b k ||| lbA A k else ip A b k).testBit i = true
    by_cases he : e = k
    · subst he
      rw [if_pos (ip_mono h), Nat.testBit_or, hl, Bool.or_true]
    · have := ih (by omega)
      split
      · rw [Nat.testBit_or, this, Bool.true_or]
      · exact this
theorem op_mono {A : rn_AT} {b j r : Nat} (h : (op A b r).testBit j = true) : ∀ {r2}, r ≤ r2 → (op A b r2).testBit j = true := by
  intro r2
  induction r2 with
  | zero => intro hr; have : r = 0 := by omega
            subst this; exact h
  | succ r2 ih =>
    intro hr
    by_cases he : r = r2 + 1
    · subst he; exact h
    · exact ip_mono (ih (by omega))
theorem lb_ao {A : rn_AT} {e i : Nat} (hi : i < 8) : (lbA A e).testBit i = true ↔ ao (aC A e) (65 + i) (aN A e) = true := by
  unfold lbA
  rw [lb_bit, ao_iff]
  exact ⟨fun h => h.2, fun h => ⟨hi, h⟩⟩
def vk : Nat → Int32
  | 0 => -nI 1
  | k + 1 => nI k
theorem vk_c {e : Nat} : vk (e + 1) = nI e := rfl
theorem vk_s {e : Nat} : nI e + (-1 : Int32) = vk e := by
  cases e with
  | zero => rfl
  | succ e => exact pk_m1 e
theorem FR_eq {A : rn_AT} {s a : Nat} {S S2 : rn_T} {r : Int32} (h : FR A s a S r) (he : EqT (fun q => q = a ∨ q = a + 1) S S2) : FR A s a S2 r := by
  obtain ⟨h1, h2⟩ := h
  refine ⟨by rw [(he a (by omega)).1]; exact h1, ?_⟩
  rw [(he (a + 1) (by omega)).2.1]
  exact h2
set_option maxHeartbeats 1000000 in
theorem ma_110c {A : rn_AT} {rr : Nat → Int32} {b : Nat} (ho : OKA A) (hr : ∀ e, e < 8 → ∀ S, PS S A → ∃ S2, f134 S (26 + 5 * e) 1 (nI e) = some S2 ∧ EqT (scO (26 + 5 * e)) S S2 ∧ FR A e (26 + 5 * e) S2 (rr e)) : ∀ (k : Nat), k ≤ 8 → ∀ (fu : Nat) (S : rn_T) (N : Nat → Nat), k < fu → PS S A → NR S N → (∀ j, j < 8 → N j = 1 → (op A b (8 - k)).testBit j = true) → ∃ (S2 : rn_T) (N2 : Nat → Nat) (bb : Bool), f110_L22 1 fu S (vk k) (fun S20 => some (true, S20)) = some (bb, S2) ∧ EqT (fun q => q ≠ 25 ∧ (q < 26 ∨ 26 + 5 * k ≤ q)) S S2 ∧ (bb = false → ∃ e, e < 8 ∧ (op A b 8).testBit e = true ∧ ¬ rr e = -nI 6) ∧ (bb = true → (∀ j, j < 8 → N j = 1 → N2 j = 1) ∧ (∀ j, k ≤ j → j < 8 → N2 j = N j) ∧ (∀ j, j < k → N2 j = 1 → rr j = -nI 6 ∧ FR A j (26 + 5 * j) S2 (rr j) ∧ ∀ i, i < j → ao (aC A j) (65 + i) (aN A j) = true → N2 i = 1)) := by
  intro k
  induction k with
  | zero =>
    intro _ fu S N hf hS hN hR
    obtain ⟨g, rfl⟩ : ∃ g, fu = g + 1 := ⟨fu - 1, by omega⟩
    refine ⟨S, N, true, ?_, eq_r, (fun h => Bool.noConfusion h), fun _ => ⟨fun _ _ h => h, fun _ _ _ => rfl, fun j hj => by omega⟩⟩
    rw [f110_L22]
    rw [if_pos (show vk 0 < 0 by decide)]
  | succ e ih =>
    intro hk fu S N hf hS hN hR
    obtain ⟨g, rfl⟩ : ∃ g, fu = g + 1 := ⟨fu - 1, by omega⟩
    obtain ⟨hN1, hN2⟩ := hN e (by omega)
    by_cases h0 : N e = 0
    · obtain ⟨S2, N2, bb, a1, a2, a3, a4⟩ := ih (by omega) g S N (by omega) hS hN (fun j hj hj1 => op_mono (hR j hj hj1) (by omega))
      refine ⟨S2, N2, bb, ?_, eq_m a2 (fun q hq => by omega), a3, fun hb => ?_⟩
      · rw [← a1, f110_L22]
        rw [vk_c]
        simp (disch := omega) only [hN1, h0, nI_lit, nI_add, pk_sub, pk_mul, ma_neg, nI_clamp, ma_ltT, ma_ltF, ma_leT, ma_leF, ma_eqT, ma_eqF, nI_ltI, nI_leI, nI_eq, ma_obT, ma_obF, ma_enF, ma_neF, ma_nlT, ma_lnF, ma_nLT, ma_Ln, ↓reduceIte, Option.bind_some, Option.bind_none, true_and, and_true, false_and, and_false, ne_eq, not_true_eq_false, not_false_eq_true, Bool.false_eq_true, reduceCtorEq, Nat.reduceAdd, Nat.reduceMul, Nat.reduceSub]
        rw [show nI e + -nI 1 = vk e from vk_s]
      · obtain ⟨c1, c2, c3⟩ := a4 hb
        refine ⟨c1, fun j hj => c2 j (by omega), fun j hj hj1 => ?_⟩
        by_cases he : j = e
        · subst he
          rw [c2 j (by omega) (by omega), h0] at hj1
          omega
        · exact c3 j (by omega) hj1
    · have h1 : N e = 1 := by omega
      obtain ⟨S1, y1, y2, y3⟩ := hr e (by omega) S hS
      have hS1 : PS S1 A := ps_eq hS (eq_m y2 (fun q hq => .inl (by omega)))
      have hbit := hR e (by omega) h1
      by_cases hg : rr e = -nI 6
      · have hNR1 : NR S1 N := NR_eq hN (y2 25 (.inl (by omega))).2.1
        obtain ⟨S2, N2, b1, b2, b3, b4⟩ := ma_110b (k := fun S19 => f110_L22 1 g S19 (nI e + (-1 : Int32)) (fun S20 => some (true, S20))) ho (show e < 8 by omega) e 0 rn_FU S1 N (by omega) (by unfold rn_FU; omega) hS1 hNR1
        have hS2 : PS S2 A := ps_eq hS1 (eq_m b1 (fun q hq => by show q ≠ 25; omega))
        obtain ⟨S3, N3, bb, a1, a2, a3, a4⟩ := ih (by omega) g S2 N2 (by omega) hS2 b2 (fun j hj hj1 => by
          rw [b3 j] at hj1
          by_cases hc : 0 ≤ j ∧ j < e ∧ ao (aC A e) (65 + j) (aN A e) = true
          · have : 8 - e = (8 - (e + 1)) + 1 := by omega
            rw [this]
            exact ip_let hbit ((lb_ao hj).mpr hc.2.2) (by omega)
          · rw [if_neg hc] at hj1
            exact op_mono (hR j hj hj1) (by omega))
        refine ⟨S3, N3, bb, ?_, eq_t (eq_m y2 (fun q hq => by unfold scO; omega)) (eq_t (eq_m b1 (fun q hq => hq.1)) (eq_m a2 (fun q hq => by omega))), a3, fun hb => ?_⟩
        · rw [← a1, ← vk_s (e := e)]
          refine Eq.trans ?_ b4
          rw [f110_L22]
          rw [vk_c]
          have y4 := y3.1
          rw [hg] at y4
          simp (disch := omega) only [hN1, h1, y1, y4, nI_lit, nI_add, pk_sub, pk_mul, ma_neg, nI_clamp, ma_ltT, ma_ltF, ma_leT, ma_leF, ma_eqT, ma_eqF, nI_ltI, nI_leI, nI_eq, ma_obT, ma_obF, ma_enF, ma_neF, ma_nlT, ma_lnF, ma_nLT, ma_Ln, ↓reduceIte, Option.bind_some, Option.bind_none, true_and, and_true, false_and, and_false, ne_eq, not_true_eq_false, not_false_eq_true, Bool.false_eq_true, reduceCtorEq, Nat.reduceAdd, Nat.reduceMul, Nat.reduceSub]
        · obtain ⟨c1, c2, c3⟩ := a4 hb
          refine ⟨fun j hj hj1 => c1 j hj ?_, fun j hj hj8 => ?_, fun j hj hj1 => ?_⟩
          · rw [b3 j]; split <;> omega
          · rw [c2 j (by omega) hj8, b3 j, if_neg (by omega)]
          · by_cases he : j = e
            · subst he
              refine ⟨hg, FR_eq (FR_eq y3 (eq_m b1 (fun q hq => by show q ≠ 25; omega))) (eq_m a2 (fun q hq => by omega)), fun i hi hia => c1 i (by omega) ?_⟩
              rw [b3 i, if_pos ⟨by omega, hi, hia⟩]
            · exact c3 j (by omega) hj1
      · refine ⟨S1, N, false, ?_, eq_m y2 (fun q hq => by unfold scO; omega), fun _ => ⟨e, by omega, op_mono hbit (by omega), hg⟩, fun h => by cases h⟩
        rw [f110_L22]
        rw [vk_c]
        have y4 : ¬ rI S1 (26 + 5 * e) 0 = -nI 6 := fun hx => hg (y3.1.symm.trans hx)
        simp (disch := omega) only [hN1, h1, y1, y4, nI_lit, nI_add, pk_sub, pk_mul, ma_neg, nI_clamp, ma_ltT, ma_ltF, ma_leT, ma_leF, ma_eqT, ma_eqF, nI_ltI, nI_leI, nI_eq, ma_obT, ma_obF, ma_enF, ma_neF, ma_nlT, ma_lnF, ma_nLT, ma_Ln, ↓reduceIte, Option.bind_some, Option.bind_none, true_and, and_true, false_and, and_false, ne_eq, not_true_eq_false, not_false_eq_true, Bool.false_eq_true, reduceCtorEq, Nat.reduceAdd, Nat.reduceMul, Nat.reduceSub]
