/-! 56: isWell of both sides -/
def b0 (s : Nat) (k : Option Nat) : Nat := 2 ^ s ||| (match k with | none => 0 | some t => 2 ^ t)
theorem b0_lt {s : Nat} {k : Option Nat} (hs : s < 8) (hk : ∀ t, k = some t → t < 8) : b0 s k < 256 := by
  have h1 : ∀ t, t < 8 → 2 ^ t < 256 := by decide
  unfold b0
  cases k with
  | none => exact Nat.or_lt_two_pow (n := 8) (h1 s hs) (by decide)
  | some t => exact Nat.or_lt_two_pow (n := 8) (h1 s hs) (h1 t (hk t rfl))
theorem b0_bit {s j : Nat} {k : Option Nat} : (b0 s k).testBit j = true ↔ j = s ∨ k = some j := by
  unfold b0
  cases k with
  | none =>
    rw [Nat.testBit_or, Nat.testBit_two_pow]
    simp
    exact eq_comm
  | some t =>
    rw [Nat.testBit_or, Nat.testBit_two_pow, Nat.testBit_two_pow]
    simp
    rw [eq_comm (a := s)]
theorem aU_k {A : rn_AT} {s : Nat} {u : Int32} {k : Option Nat} (h : aU A s u k) : ∀ t, k = some t → t < 8 := by
  intro t ht
  rcases h with ⟨h1, _⟩ | ⟨t2, h1, h2, _⟩
  · rw [h1] at ht; cases ht
  · rw [h1] at ht; cases ht; exact h2
theorem ma_f48 {M : rn_T} {A : rn_AT} {rr : Nat → Int32} {s : Nat} {u : Int32} {k : Option Nat} (h : PM M A) (ho : OKA A) (hs : s < 8) (hk : aU A s u k) (hr : ∀ e, e < 8 → ∀ M, PM M A → ∃ M2, f43 M (nI e) = some (rr e, M2) ∧ eqD M M2) : ∃ M2, eqD M M2 ∧ f48 M (nI s) u = some (decide (wb rr (op A (b0 s k) 8) 8 = 1), M2) := by
  have hb := b0_lt hs (aU_k hk)
  obtain ⟨M2, e1, e2⟩ := ma_L45 (k := fun M13 w13_4 => if w13_4 = 0 ∨ w13_4 = 1 then some ((decide (w13_4 = 1)), M13) else none) ho (op_lt (A := A) hb (r := 8)) hr 8 rn_FU 0 M (by omega) (by unfold rn_FU; omega) h
  have e3 := ma_L16 (x := 1) (k := fun M7 w7_3 => f48_L45 w7_3 rn_FU M7 (1 : Int32) (0 : Int32) (fun M13 w13_4 => if w13_4 = 0 ∨ w13_4 = 1 then some ((decide (w13_4 = 1)), M13) else none)) h ho hb 8 rn_FU 0 (by omega) (by unfold rn_FU; omega)
  refine ⟨M2, e1, ?_⟩
  have e4 : f48 M (nI s) u = f48_L16 1 rn_FU M (nI (b0 s k)) 0 (fun M7 w7_3 => f48_L45 w7_3 rn_FU M7 (1 : Int32) (0 : Int32) (fun M13 w13_4 => if w13_4 = 0 ∨ w13_4 = 1 then some ((decide (w13_4 = 1)), M13) else none)) := by
    unfold f48 f48_J10 b0
    rcases hk with ⟨h1, h2, h3⟩ | ⟨t, h1, h2, h3, h4⟩
    · subst h1 h2
      rw [if_neg (by decide), ma_shl hs, show (0 : Int32) = nI 0 from rfl, ma_or]
    · subst h1 h3
      rw [if_pos (nI_pos' (by omega)), ma_shl hs, ma_shl h2, ma_or]
  rw [e4]
  refine (show _ = _ from e3).trans ((show _ = _ from e2).trans ?_)
  have hlt := wb_lt (rr := rr) (B := op A (b0 s k) 8) (e := 8)
  by_cases hw : wb rr (op A (b0 s k) 8) 8 = 1
  · rw [hw]
    rfl
  · have : wb rr (op A (b0 s k) 8) 8 = 0 := by omega
    rw [this]
    rfl
