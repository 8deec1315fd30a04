/-! 54: the reference's set of shapes, as bits -/
theorem ma_all {A : rn_AT} {S0 M0 : rn_T} (h : PS S0 A) (hm : PM M0 A) (ho : OKA A) : ∃ rr : Nat → Int32, (∀ e, e < 8 → ∀ S, PS S A → ∃ S2, f134 S (26 + 5 * e) 1 (nI e) = some S2 ∧ EqT (scO (26 + 5 * e)) S S2 ∧ FR A e (26 + 5 * e) S2 (rr e)) ∧ (∀ e, e < 8 → ∀ M, PM M A → ∃ M2, f43 M (nI e) = some (rr e, M2) ∧ eqD M M2) := by
  have key : ∀ e, ∃ r : Int32, e < 8 → (∀ S, PS S A → ∃ S2, f134 S (26 + 5 * e) 1 (nI e) = some S2 ∧ EqT (scO (26 + 5 * e)) S S2 ∧ FR A e (26 + 5 * e) S2 r) ∧ (∀ M, PM M A → ∃ M2, f43 M (nI e) = some (r, M2) ∧ eqD M M2) := by
    intro e
    by_cases he : e < 8
    · obtain ⟨S2, M2, r, z1, z2, z3, z4, z5⟩ := ma_scan h hm ho he
      refine ⟨r, fun _ => ⟨fun S hS => ?_, fun M hM => ?_⟩⟩
      · obtain ⟨S3, M3, r3, y1, y2, y3, y4, y5⟩ := ma_scan hS hm ho he
        rw [z2] at y2
        have e1 := (Prod.mk.inj (Option.some.inj y2)).1
        subst e1
        exact ⟨S3, y1, y3, y5⟩
      · obtain ⟨S3, M3, r3, y1, y2, y3, y4, y5⟩ := ma_scan h hM ho he
        rw [z1] at y1
        have e1 := Option.some.inj y1
        subst e1
        have e2 : r = r3 := z5.1.symm.trans y5.1
        subst e2
        exact ⟨M3, y2, y4⟩
    · exact ⟨0, fun hx => absurd hx he⟩
  refine ⟨fun e => Classical.choose (key e), fun e he => ?_, fun e he => ?_⟩
  · exact (Classical.choose_spec (key e) he).1
  · exact (Classical.choose_spec (key e) he).2
theorem ma_or (a b : Nat) : nI a ||| nI b = nI (a ||| b) := by
  apply Int32.toBitVec_inj.mp
  rw [Int32.toBitVec_or]
  unfold nI
  rw [Int32.toBitVec_ofNat', Int32.toBitVec_ofNat', Int32.toBitVec_ofNat', BitVec.ofNat_or]
theorem ma_shl {s : Nat} (h : s < 8) : (1 : Int32) <<< (nI s &&& 31) = nI (2 ^ s) := (by decide +kernel : ∀ s, s < 8 → (1 : Int32) <<< (nI s &&& 31) = nI (2 ^ s)) s h
theorem ma_bit {b e : Nat} (hb : b < 256) (he : e < 8) : (nI b >>> (nI e &&& 31)) &&& (1 : Int32) = nI (if b.testBit e then 1 else 0) := (by decide +kernel : ∀ b, b < 256 → ∀ e, e < 8 → (nI b >>> (nI e &&& 31)) &&& (1 : Int32) = nI (if b.testBit e then 1 else 0)) b hb e he
/-- the letters of a text -/
def lb (c : Nat → Nat) : Nat → Nat
  | 0 => 0
  | n + 1 => if 65 ≤ c n ∧ c n < 73 then lb c n ||| 2 ^ (c n - 65) else lb c n
theorem lb_lt {c : Nat → Nat} : ∀ {n}, lb c n < 256 := by
  intro n
  induction n with
  | zero => show 0 < 256; omega
  | succ n ih =>
    show (if 65 ≤ c n ∧ c n < 73 then lb c n ||| 2 ^ (c n - 65) else lb c n) < 256
    split
    · rename_i h
      have h2 : 2 ^ (c n - 65) < 2 ^ 8 := Nat.pow_lt_pow_right (by omega) (by omega)
      exact Nat.or_lt_two_pow (n := 8) ih h2
    · exact ih
theorem lb_bit {c : Nat → Nat} {j : Nat} : ∀ {n}, (lb c n).testBit j = true ↔ j < 8 ∧ ∃ i, i < n ∧ c i = 65 + j := by
  intro n
  induction n with
  | zero =>
    constructor
    · intro h; exact absurd h (by show ¬ (Nat.testBit 0 j = true); simp)
    · rintro ⟨_, i, hi, _⟩; omega
  | succ n ih =>
    show (if 65 ≤ c n ∧ c n < 73 then lb c n ||| 2 ^ (c n - 65) else lb c n).testBit j = true ↔ _
    split
    · rename_i h
      rw [Nat.testBit_or, Bool.or_eq_true, ih, Nat.testBit_two_pow]
      constructor
      · rintro (⟨h1, i, h2, h3⟩ | h1)
        · exact ⟨h1, i, by omega, h3⟩
        · have := of_decide_eq_true h1
          exact ⟨by omega, n, by omega, by omega⟩
      · rintro ⟨h1, i, h2, h3⟩
        by_cases e : i = n
        · subst e
          exact .inr (decide_eq_true (by omega))
        · exact .inl ⟨h1, i, by omega, h3⟩
    · rename_i h
      rw [ih]
      constructor
      · rintro ⟨h1, i, h2, h3⟩
        exact ⟨h1, i, by omega, h3⟩
      · rintro ⟨h1, i, h2, h3⟩
        by_cases e : i = n
        · subst e; omega
        · exact ⟨h1, i, by omega, h3⟩
def lbA (A : rn_AT) (s : Nat) : Nat := lb (aC A s) (aN A s)
theorem ma_f47L {M : rn_T} {A : rn_AT} {s : Nat} {k : rn_T → Int32 → Option Int32} (h : PM M A) (ho : OKA A) (hs : s < 8) : ∀ d fu i, i + d = aN A s → d < fu → f47_L4 (nI s) fu M (nI (lb (aC A s) i)) (nI i) k = k M (nI (lbA A s)) := by
  have hn := ho.1 s hs
  intro d
  induction d with
  | zero =>
    intro fu i hi hd
    obtain ⟨g, rfl⟩ : ∃ g, fu = g + 1 := ⟨fu - 1, by omega⟩
    have : i = aN A s := by omega
    subst this
    unfold f47_L4
    simp (disch := omega) only [h.1 s hs, nI_lit, nI_add, pk_sub, pk_mul, ma_neg, nI_clamp, ma_ltT, ma_ltF, ma_leT, ma_leF, ma_eqT, ma_eqF, nI_ltI, nI_leI, nI_eq, ma_obT, ma_obF, ma_enF, ma_neF, ma_nlT, ma_lnF, ma_nLT, ma_Ln, ↓reduceIte, Option.bind_some, Option.bind_none, true_and, and_true, false_and, and_false, ne_eq, not_true_eq_false, not_false_eq_true, Bool.false_eq_true, reduceCtorEq, Nat.reduceAdd, Nat.reduceMul, Nat.reduceSub]
    rfl
  | succ d ih =>
    intro fu i hi hd
    obtain ⟨g, rfl⟩ : ∃ g, fu = g + 1 := ⟨fu - 1, by omega⟩
    have h2 := ho.2.1 s hs i (by omega)
    have h3 := ih g (i + 1) (by omega) (by omega)
    have hl : lb (aC A s) (i + 1) = if 65 ≤ aC A s i ∧ aC A s i < 73 then lb (aC A s) i ||| 2 ^ (aC A s i - 65) else lb (aC A s) i := rfl
    have e37 := ma_f37 (M := M) h2
    unfold f47_L4
    rw [← h3]
    by_cases hL : 65 ≤ aC A s i ∧ aC A s i < 73
    · rw [decide_eq_true hL] at e37
      rw [hl, if_pos hL]
      have hs1 := ma_shl (show aC A s i - 65 < 8 by omega)
      rw [show (31 : Int32) = nI 31 from rfl, show (1 : Int32) = nI 1 from rfl] at hs1
      simp (disch := omega) only [h.1 s hs, ma_f33 h hs (show i < 40 by omega), e37, hs1, ma_or, nI_lit, nI_add, pk_sub, pk_mul, ma_neg, nI_clamp, ma_ltT, ma_ltF, ma_leT, ma_leF, ma_eqT, ma_eqF, nI_ltI, nI_leI, nI_eq, ma_obT, ma_obF, ma_enF, ma_neF, ma_nlT, ma_lnF, ma_nLT, ma_Ln, ↓reduceIte, Option.bind_some, Option.bind_none, true_and, and_true, false_and, and_false, ne_eq, not_true_eq_false, not_false_eq_true, Bool.false_eq_true, reduceCtorEq, Nat.reduceAdd, Nat.reduceMul, Nat.reduceSub]
    · rw [decide_eq_false hL] at e37
      rw [hl, if_neg hL]
      simp (disch := omega) only [h.1 s hs, ma_f33 h hs (show i < 40 by omega), e37, ma_or, Nat.or_zero, nI_lit, nI_add, pk_sub, pk_mul, ma_neg, nI_clamp, ma_ltT, ma_ltF, ma_leT, ma_leF, ma_eqT, ma_eqF, nI_ltI, nI_leI, nI_eq, ma_obT, ma_obF, ma_enF, ma_neF, ma_nlT, ma_lnF, ma_nLT, ma_Ln, ↓reduceIte, Option.bind_some, Option.bind_none, true_and, and_true, false_and, and_false, ne_eq, not_true_eq_false, not_false_eq_true, Bool.false_eq_true, reduceCtorEq, Nat.reduceAdd, Nat.reduceMul, Nat.reduceSub]
theorem ma_f47 {M : rn_T} {A : rn_AT} {s : Nat} (h : PM M A) (ho : OKA A) (hs : s < 8) : f47 M (nI s) = some (nI (lbA A s)) := by
  unfold f47
  have hn := ho.1 s hs
  exact ma_f47L (k := fun _ w6_2 => some w6_2) h ho hs (aN A s) rn_FU 0 (by omega) (by unfold rn_FU; omega)
