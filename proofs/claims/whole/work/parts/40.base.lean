/-! THE MATHEMATICS, 40: numbers, reads over writes -/
theorem nI_lit (n : Nat) : (OfNat.ofNat n : Int32) = nI n := rfl
theorem ma_ltT {a b : Nat} (h : a < b) (hb : b < 2 ^ 31) : (nI a < nI b) = True := eq_true (nI_lt h hb)
theorem ma_ltF {a b : Nat} (h : b ≤ a) (ha : a < 2 ^ 31) : (nI a < nI b) = False := eq_false (nI_nlt h ha)
theorem ma_leT {a b : Nat} (h : a ≤ b) (hb : b < 2 ^ 31) : (nI a ≤ nI b) = True := eq_true (nI_le h hb)
theorem ma_leF {a b : Nat} (h : b < a) (ha : a < 2 ^ 31) : (nI a ≤ nI b) = False := eq_false (nI_ge h ha)
theorem ma_eqT {a b : Nat} (h : a = b) : (nI a = nI b) = True := eq_true (by rw [h])
theorem ma_eqF {a b : Nat} (h : a ≠ b) (ha : a < 2 ^ 31) (hb : b < 2 ^ 31) : (nI a = nI b) = False := eq_false (fun e => h ((nI_eq ha hb).mp e))
theorem ma_obT {a n : Nat} (h : n ≤ a) (ha : a < 2 ^ 31) : rn_ob (nI a) n = True := eq_true (Or.inr (by rw [nI_clamp ha]; exact h))
theorem ma_obF {a n : Nat} (h : a < n) (ha : a < 2 ^ 31) : rn_ob (nI a) n = False := by
  refine eq_false (fun e => ?_)
  rcases e with e | e
  · exact nI_pos ha e
  · rw [nI_clamp ha] at e; omega
theorem ma_neg {a b : Nat} (h : b ≤ a) : nI a + -nI b = nI (a - b) := by rw [← Int32.sub_eq_add_neg, pk_sub h]
theorem ma_negT {w : Nat} (h : w < 2 ^ 31) : (-nI w).toInt = -(w : Int) := sb_negT h
theorem ma_enF {a k : Nat} (ha : a < 2 ^ 31) (hk : 0 < k) (hk2 : k < 2 ^ 31) : (nI a = -nI k) = False := by
  refine eq_false (fun e => ?_)
  have := congrArg Int32.toInt e
  rw [nI_toInt ha, ma_negT hk2] at this; omega
theorem ma_neF {a k : Nat} (ha : a < 2 ^ 31) (hk : 0 < k) (hk2 : k < 2 ^ 31) : (-nI k = nI a) = False := by
  refine eq_false (fun e => ?_)
  have := congrArg Int32.toInt e
  rw [nI_toInt ha, ma_negT hk2] at this; omega
theorem ma_nlT {a k : Nat} (ha : a < 2 ^ 31) (hk : 0 < k) (hk2 : k < 2 ^ 31) : (-nI k < nI a) = True := by
  refine eq_true ?_
  rw [Int32.lt_iff_toInt_lt, nI_toInt ha, ma_negT hk2]; omega
theorem ma_lnF {a k : Nat} (ha : a < 2 ^ 31) (hk2 : k < 2 ^ 31) : (nI a < -nI k) = False := by
  refine eq_false ?_
  rw [Int32.lt_iff_toInt_lt, nI_toInt ha, ma_negT hk2]; omega
theorem ma_nLT {a k : Nat} (ha : a < 2 ^ 31) (hk2 : k < 2 ^ 31) : (-nI k ≤ nI a) = True := by
  refine eq_true ?_
  rw [Int32.le_iff_toInt_le, nI_toInt ha, ma_negT hk2]; omega
theorem ma_Ln {a k : Nat} (ha : a < 2 ^ 31) (hk : 0 < k) (hk2 : k < 2 ^ 31) : (nI a ≤ -nI k) = False := by
  refine eq_false ?_
  rw [Int32.le_iff_toInt_le, nI_toInt ha, ma_negT hk2]; omega
theorem ra_I {S : rn_T} {q k : Nat} {v : Int32} : rI (wI S q k v) q k = v := by simp only [rI, wI, va_up_self]
theorem ra_In {S : rn_T} {q q2 k k2 : Nat} {v : Int32} (h : q2 ≠ q ∨ k2 ≠ k) : rI (wI S q k v) q2 k2 = rI S q2 k2 := by
  unfold rI wI va_up
  by_cases h1 : q2 = q
  · subst h1
    have h2 : k2 ≠ k := by omega
    simp only [if_true, if_neg h2]
  · simp only [if_neg h1]
theorem ra_A {S : rn_T} {q k : Nat} {v : Int32} : rA (wA S q k v) q k = v := by simp only [rA, wA, va_up_self, upd, if_true]
theorem ra_An {S : rn_T} {q q2 k k2 : Nat} {v : Int32} (h : q2 ≠ q ∨ k2 ≠ k) : rA (wA S q k v) q2 k2 = rA S q2 k2 := by
  unfold rA wA va_up upd
  by_cases h1 : q2 = q
  · subst h1
    have h2 : k2 ≠ k := by omega
    simp only [if_true, if_neg h2]
  · simp only [if_neg h1]
theorem ra_L {S : rn_T} {q k : Nat} {v : Int64} : rL (wL S q k v) q k = v := by simp only [rL, wL, va_up_self, vp_updL, if_true]
theorem ra_Ln {S : rn_T} {q q2 k k2 : Nat} {v : Int64} (h : q2 ≠ q ∨ k2 ≠ k) : rL (wL S q k v) q2 k2 = rL S q2 k2 := by
  unfold rL wL va_up vp_updL
  by_cases h1 : q2 = q
  · subst h1
    have h2 : k2 ≠ k := by omega
    simp only [if_true, if_neg h2]
  · simp only [if_neg h1]
theorem ra_R {S : rn_T} {q : Nat} {v : Option Nat} : rR (wR S q v) q = v := by simp only [rR, wR, va_up_self]
theorem ra_Rn {S : rn_T} {q q2 : Nat} {v : Option Nat} (h : q2 ≠ q) : rR (wR S q v) q2 = rR S q2 := by simp only [rR, wR, va_up, if_neg h]
theorem ra_P {S : rn_T} {q k : Nat} {v : Option Nat} : rP (wP S q k v) q k = v := by simp only [rP, wP, va_up_self]
theorem ra_Pn {S : rn_T} {q q2 k k2 : Nat} {v : Option Nat} (h : q2 ≠ q ∨ k2 ≠ k) : rP (wP S q k v) q2 k2 = rP S q2 k2 := by
  unfold rP wP va_up
  by_cases h1 : q2 = q
  · subst h1
    have h2 : k2 ≠ k := by omega
    simp only [if_true, if_neg h2]
  · simp only [if_neg h1]
theorem ra_IA {S : rn_T} {q k : Nat} {v : Int32} : rI (wA S q k v) = rI S := rfl
theorem ra_IL {S : rn_T} {q k : Nat} {v : Int64} : rI (wL S q k v) = rI S := rfl
theorem ra_IR {S : rn_T} {q : Nat} {v : Option Nat} : rI (wR S q v) = rI S := rfl
theorem ra_IP {S : rn_T} {q k : Nat} {v : Option Nat} : rI (wP S q k v) = rI S := rfl
theorem ra_AI {S : rn_T} {q k : Nat} {v : Int32} : rA (wI S q k v) = rA S := rfl
theorem ra_AL {S : rn_T} {q k : Nat} {v : Int64} : rA (wL S q k v) = rA S := rfl
theorem ra_AR {S : rn_T} {q : Nat} {v : Option Nat} : rA (wR S q v) = rA S := rfl
theorem ra_AP {S : rn_T} {q k : Nat} {v : Option Nat} : rA (wP S q k v) = rA S := rfl
theorem ra_LI {S : rn_T} {q k : Nat} {v : Int32} : rL (wI S q k v) = rL S := rfl
theorem ra_LA {S : rn_T} {q k : Nat} {v : Int32} : rL (wA S q k v) = rL S := rfl
theorem ra_LR {S : rn_T} {q : Nat} {v : Option Nat} : rL (wR S q v) = rL S := rfl
theorem ra_LP {S : rn_T} {q k : Nat} {v : Option Nat} : rL (wP S q k v) = rL S := rfl
theorem ra_RI {S : rn_T} {q k : Nat} {v : Int32} : rR (wI S q k v) = rR S := rfl
theorem ra_RA {S : rn_T} {q k : Nat} {v : Int32} : rR (wA S q k v) = rR S := rfl
theorem ra_RL {S : rn_T} {q k : Nat} {v : Int64} : rR (wL S q k v) = rR S := rfl
theorem ra_RP {S : rn_T} {q k : Nat} {v : Option Nat} : rR (wP S q k v) = rR S := rfl
theorem ra_PI {S : rn_T} {q k : Nat} {v : Int32} : rP (wI S q k v) = rP S := rfl
theorem ra_PA {S : rn_T} {q k : Nat} {v : Int32} : rP (wA S q k v) = rP S := rfl
theorem ra_PL {S : rn_T} {q k : Nat} {v : Int64} : rP (wL S q k v) = rP S := rfl
theorem ra_PR {S : rn_T} {q : Nat} {v : Option Nat} : rP (wR S q v) = rP S := rfl
/-! tests of a number -/
theorem ma_cmp0 {x y : Int64} : lg_cmp x y < 0 ↔ x.toInt < y.toInt := by
  unfold lg_cmp
  by_cases h : x > y
  · rw [if_pos h]
    have h2 := Int64.lt_iff_toInt_lt.mp h
    constructor
    · intro e; exact absurd e (by decide)
    · intro e; omega
  · rw [if_neg h]
    have h2 : ¬ y.toInt < x.toInt := fun e => h (Int64.lt_iff_toInt_lt.mpr e)
    by_cases h3 : x = y
    · subst h3
      rw [if_pos rfl]
      constructor
      · intro e; exact absurd e (by decide)
      · intro e; omega
    · rw [if_neg h3]
      have h4 : x.toInt ≠ y.toInt := fun e => h3 (Int64.toInt_inj.mp e)
      constructor
      · intro _; omega
      · intro _; decide
theorem ma_cmp1 {x y : Int64} : 0 < lg_cmp x y ↔ y.toInt < x.toInt := by
  unfold lg_cmp
  by_cases h : x > y
  · rw [if_pos h]
    have h2 := Int64.lt_iff_toInt_lt.mp h
    constructor
    · intro _; exact h2
    · intro _; decide
  · rw [if_neg h]
    have h2 : ¬ y.toInt < x.toInt := fun e => h (Int64.lt_iff_toInt_lt.mpr e)
    by_cases h3 : x = y
    · rw [if_pos h3]
      constructor
      · intro e; exact absurd e (by decide)
      · intro e; omega
    · rw [if_neg h3]
      constructor
      · intro e; exact absurd e (by decide)
      · intro e; omega
theorem ma_in (x lo hi : Int64) : f29 x lo hi = decide (lo.toInt ≤ x.toInt ∧ x.toInt ≤ hi.toInt) := by
  unfold f29
  by_cases h1 : x.toInt < lo.toInt
  · rw [if_pos (ma_cmp0.mpr h1)]
    symm; rw [decide_eq_false_iff_not]; omega
  · rw [if_neg (fun e => h1 (ma_cmp0.mp e))]
    by_cases h2 : hi.toInt < x.toInt
    · rw [if_pos (ma_cmp1.mpr h2)]
      symm; rw [decide_eq_false_iff_not]; omega
    · rw [if_neg (fun e => h2 (ma_cmp1.mp e))]
      symm; rw [decide_eq_true_iff]; omega
theorem ma_in32 (x : Int32) (lo hi : Int64) : f29 x.toInt64 lo hi = decide (lo.toInt ≤ x.toInt ∧ x.toInt ≤ hi.toInt) := by
  rw [ma_in, Int32.toInt_toInt64]
theorem ma_shape (x : Int32) : (x < 0 ∨ 8 ≤ x) ∨ ∃ s, s < 8 ∧ x = nI s := by
  by_cases h : x < 0
  · exact .inl (.inl h)
  · obtain ⟨j, hj, rfl⟩ := nI_of h
    by_cases h8 : j < 8
    · exact .inr ⟨j, h8, rfl⟩
    · exact .inl (.inr (by simp (disch := omega) only [nI_lit, nI_add, pk_sub, pk_mul, ma_neg, nI_clamp, ma_ltT, ma_ltF, ma_leT, ma_leF, ma_eqT, ma_eqF, nI_ltI, nI_leI, nI_eq, ma_obT, ma_obF, ma_enF, ma_neF, ma_nlT, ma_lnF, ma_nLT, ma_Ln, ↓reduceIte, Option.bind_some, Option.bind_none, true_and, and_true, false_and, and_false, ne_eq, not_true_eq_false, not_false_eq_true, Bool.false_eq_true, reduceCtorEq, Nat.reduceAdd, Nat.reduceMul, Nat.reduceSub]))
theorem ma_f22 {s : Nat} (h : s < 8) : f22 (nI s) = true := by
  unfold f22
  simp (disch := omega) only [nI_lit, nI_add, pk_sub, pk_mul, ma_neg, nI_clamp, ma_ltT, ma_ltF, ma_leT, ma_leF, ma_eqT, ma_eqF, nI_ltI, nI_leI, nI_eq, ma_obT, ma_obF, ma_enF, ma_neF, ma_nlT, ma_lnF, ma_nLT, ma_Ln, ↓reduceIte, Option.bind_some, Option.bind_none, true_and, and_true, false_and, and_false, ne_eq, not_true_eq_false, not_false_eq_true, Bool.false_eq_true, reduceCtorEq, Nat.reduceAdd, Nat.reduceMul, Nat.reduceSub]
theorem ma_f22n {a : Int32} (h : a < 0 ∨ 8 ≤ a) : f22 a = false := by
  unfold f22
  by_cases h0 : a < 0
  · rw [if_pos h0]
  · rw [if_neg h0, if_pos (h.resolve_left h0)]
theorem ma_f30 {M : rn_T} {s : Nat} (h : s < 8) : f30 M (nI s) = true := by
  unfold f30
  rw [ma_in32, nI_toInt (by omega), show (0 : Int64).toInt = 0 from rfl, show (7 : Int64).toInt = 7 from rfl, decide_eq_true_iff]
  omega
theorem ma_f30n {M : rn_T} {a : Int32} (h : a < 0 ∨ 8 ≤ a) : f30 M a = false := by
  unfold f30
  rw [ma_in32, show (0 : Int64).toInt = 0 from rfl, show (7 : Int64).toInt = 7 from rfl, decide_eq_false_iff_not]
  rw [Int32.lt_iff_toInt_lt, Int32.le_iff_toInt_le] at h
  have h0 : (0 : Int32).toInt = 0 := rfl
  have h8 : (8 : Int32).toInt = 8 := rfl
  omega
/-- a number of a range, or out of it -/
theorem ma_rng (x : Int32) (lo hi : Nat) (hlo : lo < 2 ^ 31) (hhi : hi < 2 ^ 31) : (x < nI lo ∨ nI hi < x) ∧ ¬ (lo ≤ x.toInt ∧ x.toInt ≤ hi) ∨ ∃ n, lo ≤ n ∧ n ≤ hi ∧ x = nI n := by
  by_cases h : (lo : Int) ≤ x.toInt ∧ x.toInt ≤ hi
  · refine .inr ?_
    have h0 : ¬ x < 0 := by
      rw [Int32.lt_iff_toInt_lt]
      have h0 : (0 : Int32).toInt = 0 := rfl
      omega
    obtain ⟨j, hj, rfl⟩ := nI_of h0
    rw [nI_toInt hj] at h
    exact ⟨j, by omega, by omega, rfl⟩
  · refine .inl ⟨?_, h⟩
    rw [Int32.lt_iff_toInt_lt, Int32.lt_iff_toInt_lt, nI_toInt hlo, nI_toInt hhi]
    omega
