/-! 59: isWell: both sides agree, and all is at hand behind it -/
theorem ip_sub {A : rn_AT} {N : Nat → Nat} {b : Nat} (hb : ∀ j, j < 8 → b.testBit j = true → N j = 1) (hc : ∀ j, j < 8 → N j = 1 → ∀ i, i < 8 → (lbA A j).testBit i = true → N i = 1) : ∀ k, k ≤ 8 → ∀ j, j < 8 → (ip A b k).testBit j = true → N j = 1 := by
  intro k
  induction k with
  | zero => intro _; exact hb
  | succ k ih =>
    intro hk j hj
    show (if (ip A b k).testBit k = true then ip A b k ||| lbA A k else ip A b k).testBit j = true → _
    split
    · rename_i hx
      rw [Nat.testBit_or, Bool.or_eq_true]
      rintro (h | h)
      · exact ih (by omega) j hj h
      · exact hc k (by omega) (ih (by omega) k (by omega) hx) j hj h
    · exact ih (by omega) j hj
theorem op_sub {A : rn_AT} {N : Nat → Nat} {b : Nat} (hb : ∀ j, j < 8 → b.testBit j = true → N j = 1) (hc : ∀ j, j < 8 → N j = 1 → ∀ i, i < 8 → (lbA A j).testBit i = true → N i = 1) : ∀ r, ∀ j, j < 8 → (op A b r).testBit j = true → N j = 1 := by
  intro r
  induction r with
  | zero => exact hb
  | succ r ih => exact ip_sub ih hc 8 (by omega)
/-- what stands behind isWell -/
def WL (S2 : rn_T) (A : rn_AT) (s : Nat) (kk : Option Nat) : Prop := ∃ N : Nat → Prop, N s ∧ (∀ t, kk = some t → N t) ∧ ∀ j, j < 8 → N j → (∃ E, (∀ i, i < 40 → rA S2 (26 + 5 * j + 1) i = nI (E i)) ∧ WT A j E) ∧ ∀ i, i < aN A j → isL (aC A j i) → N (aC A j i - 65)
theorem ma_well {S M : rn_T} {A : rn_AT} {s : Nat} {u : Int32} {kk : Option Nat} (h : PS S A) (hm : PM M A) (ho : OKA A) (hs : s < 8) (hk : aU A s u kk) : ∃ S2 M2 bb, f110 S 1 (nI s) u = some (bb, S2) ∧ f48 M (nI s) u = some (bb, M2) ∧ (eqS S S2 ∧ rI S2 76 15 = rI S 76 15) ∧ eqD M M2 ∧ (bb = true → WL S2 A s kk) := by
  obtain ⟨rr, hr1, hr2⟩ := ma_all h hm ho
  obtain ⟨M2, m1, m2⟩ := ma_f48 hm ho hs hk hr2
  obtain ⟨S1, q1, q2, q3⟩ := ma_110a (A := A) (k := fun S7 => f110_L22 1 rn_FU S7 (7 : Int32) (fun S20 => some (true, S20))) hs hk 8 0 rn_FU S (by omega) (by unfold rn_FU; omega) (fun j hj => by omega)
  have hS1 : PS S1 A := ps_eq h (eq_m q1 (fun q hq => by show q ≠ 25; omega))
  obtain ⟨S2, N2, bb, a1, a2, a3, a4⟩ := ma_110c (b := b0 s kk) ho hr1 8 (Nat.le_refl 8) rn_FU S1 _ (by unfold rn_FU; omega) hS1 q2 (fun j hj hj1 => by
    show (op A (b0 s kk) 0).testBit j = true
    refine b0_bit.mpr ?_
    by_cases hx : j = s ∨ kk = some j
    · exact hx
    · rw [if_neg hx] at hj1; omega)
  have hf : f110 S 1 (nI s) u = some (bb, S2) := by
    rw [← a1]
    exact q3
  have hes : eqS S S2 ∧ rI S2 76 15 = rI S 76 15 := ⟨eq_t (eq_m q1 (fun q hq => by show q ≠ 25; omega)) (eq_m a2 (fun q hq => by omega)), by rw [(a2 76 (by omega)).1, (q1 76 (by show (76 : Nat) ≠ 25; omega)).1]⟩
  cases bb with
  | false =>
    obtain ⟨e, he, he1, he2⟩ := a3 rfl
    have hw : ¬ wb rr (op A (b0 s kk) 8) 8 = 1 := by
      intro hw
      have := wb_iff.mp hw e he he1
      obtain ⟨S5, _, _, h5, h6⟩ := hr1 e he S h
      rcases h6 with ⟨h6, _⟩ | ⟨j, hj, h6⟩
      · exact he2 h6
      · rw [h6] at this
        exact this (nI_pos' (by omega))
    rw [decide_eq_false hw] at m2
    exact ⟨S2, M2, false, hf, m2, hes, m1, fun hx => Bool.noConfusion hx⟩
  | true =>
    obtain ⟨c1, c2, c3⟩ := a4 rfl
    have hcl : ∀ j, j < 8 → N2 j = 1 → ∀ i, i < 8 → (lbA A j).testBit i = true → N2 i = 1 := by
      intro j hj hj1 i hi hb
      obtain ⟨d1, d2, d3⟩ := c3 j hj hj1
      have ha := (lb_ao hi).mp hb
      refine d3 i ?_ ha
      rcases d2.2 with ⟨_, E, _, hW⟩ | ⟨x, hx, hx2⟩
      · obtain ⟨p, hp, hp2⟩ := ao_iff.mp ha
        have := hW.2 p hp ⟨by omega, by omega⟩
        omega
      · rw [d1] at hx2
        exact absurd hx2.symm (by rw [ma_enF (by omega) (by omega) (by omega)]; exact id)
    have hin : ∀ j, j < 8 → (b0 s kk).testBit j = true → N2 j = 1 := by
      intro j hj hb
      exact c1 j hj (if_pos (b0_bit.mp hb))
    have hw : wb rr (op A (b0 s kk) 8) 8 = 1 := by
      refine wb_iff.mpr (fun j hj hb => ?_)
      have := op_sub hin hcl 8 j hj hb
      rw [(c3 j hj this).1]
      decide
    rw [decide_eq_true hw] at m2
    refine ⟨S2, M2, true, hf, m2, hes, m1, fun _ => ⟨fun j => N2 j = 1, hin s hs (b0_bit.mpr (.inl rfl)), fun t ht => hin t (aU_k hk t ht) (b0_bit.mpr (.inr ht)), fun j hj hj1 => ?_⟩⟩
    obtain ⟨d1, d2, d3⟩ := c3 j hj hj1
    rcases d2.2 with ⟨_, E, hE, hW⟩ | ⟨x, hx, hx2⟩
    · refine ⟨⟨E, hE, hW⟩, fun i hi hL => ?_⟩
      have hL2 : 65 ≤ aC A j i ∧ aC A j i < 73 := hL
      exact hcl j hj hj1 _ (by omega) ((lb_ao (by omega)).mpr (ao_iff.mpr ⟨i, hi, by omega⟩))
    · rw [d1] at hx2
      exact absurd hx2.symm (by rw [ma_enF (by omega) (by omega) (by omega)]; exact id)
