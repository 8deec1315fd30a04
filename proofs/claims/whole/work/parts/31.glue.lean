/-! the law's start, and the claim out of a statement about Lean functions alone -/
theorem rn_hp_0 : rn_blk 318 35 (rn_blk 0 318 rn_h0) = rn_hp rn_S0 rn_S0 := by
  funext q
  by_cases h1 : 318 ≤ q ∧ q < 318 + 35
  · rw [rn_blk_in h1, rn_hp_m (by omega)]
  · rw [rn_blk_out h1]
    by_cases h2 : 0 ≤ q ∧ q < 0 + 318
    · rw [rn_blk_in h2, rn_hp_x (by omega)]
    · rw [rn_blk_out h2, rn_hp_m (by omega)]
      unfold rn_en
      rw [rn_kd_big (by omega)]
      rfl
set_option maxRecDepth 100000 in
theorem rn_start {X : rn_X} {out : Option Value × Nat × Nat × rn_H} (hn : rn_rv X 165 (10, [(3, .int (0 : Int32)), (2, .ref 318), (1, .ref 0), (0, .ref 1000000)], [], 353, 6 + 7450 + 43 + 7483, rn_hp rn_S0 rn_S0) out) : rn_rv X 165 (0, [(0, .ref 1000000)], [], 0, 0, rn_h0) out := by
  have qm := rn_m165
  refine rn_eg qm 2 (s2 := (2, [(0, .ref 1000000)], [.ref 0, .ref 0], 1, 6, rn_up rn_h0 0 (.inr (8, rn_dv 8)))) rfl ?_
  refine rn_ec qm rfl rfl rfl rfl rn_m0 rfl rfl rfl (fun _ => rn_rc_of rn_up_s) CBtop ?_
  refine rn_eg qm 3 (s2 := (6, [(1, .ref 0), (0, .ref 1000000)], [.ref 318, .ref 318], 319, 6 + 7450 + 43, rn_up (rn_blk 0 318 rn_h0) 318 (.inr (9, rn_dv 9)))) rfl ?_
  refine rn_ec qm rfl rfl rfl rfl rn_m28 rfl rfl rfl (fun _ => rn_rc_of rn_up_s) CB28_318 ?_
  rw [rn_hp_0]
  refine rn_eg qm 3 (s2 := (10, [(3, .int (0 : Int32)), (2, .ref 318), (1, .ref 0), (0, .ref 1000000)], [], 353, 6 + 7450 + 43 + 7483, rn_hp rn_S0 rn_S0)) rfl ?_
  exact hn
theorem rn_claim {X : rn_X} {R : rn_T × rn_T} (h : f165 X rn_S0 rn_S0 = some (true, R)) : ∃ (f : Nat) (h1 : rn_H), rn_x X rn_dv rn_ms f 165 (0, [(0, .ref 1000000)], [], 0, 0, rn_h0) = some (some (.int 1), 353, 6 + 7450 + 43 + 7483, h1) := by
  obtain ⟨f, hf⟩ := rn_start (E165 h)
  exact ⟨f, _, hf⟩
