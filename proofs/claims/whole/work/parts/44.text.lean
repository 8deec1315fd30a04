/-! 44: a sign in a text; open shapes; what is asked -/
def ao (c : Nat → Nat) (v : Nat) : Nat → Bool
  | 0 => false
  | n + 1 => ao c v n || c n == v
theorem ao_iff {c : Nat → Nat} {v n : Nat} : ao c v n = true ↔ ∃ i, i < n ∧ c i = v := by
  induction n with
  | zero =>
    constructor
    · intro e; exact absurd e (by simp [ao])
    · rintro ⟨i, hi, -⟩; omega
  | succ n ih =>
    simp only [ao, Bool.or_eq_true, ih, beq_iff_eq]
    constructor
    · rintro (⟨i, hi, e⟩ | e)
      · exact ⟨i, by omega, e⟩
      · exact ⟨n, by omega, e⟩
    · rintro ⟨i, hi, e⟩
      by_cases h : i = n
      · exact .inr (h ▸ e)
      · exact .inl ⟨i, by omega, e⟩
theorem ao_no {c : Nat → Nat} {v n : Nat} (h : ∀ i, i < n → c i ≠ v) : ao c v n = false := by
  cases e : ao c v n with
  | false => rfl
  | true =>
    obtain ⟨i, hi, hc⟩ := ao_iff.mp e
    exact absurd hc (h i hi)
theorem ma_holdsL {S : rn_T} {b n v : Nat} {c : Nat → Nat} {f : rn_T → Option Bool} (hk : rn_kd b = 5) (hn : rI S b 1 = nI n) (h40 : n ≤ 40) (hc : ∀ i, i < 40 → rA S (b + 1) i = nI (c i)) (hc2 : ∀ i, i < 40 → c i ≤ 126) (hv : v ≤ 126) (hf : f S = some false) : ∀ d fu i, i + d = n → d < fu → (∀ j, j < i → c j ≠ v) → f142_L2 b (nI v) fu S (nI i) f = some (ao c v n) := by
  intro d
  induction d with
  | zero =>
    intro fu i hi hd hno
    obtain ⟨g, rfl⟩ : ∃ g, fu = g + 1 := ⟨fu - 1, by omega⟩
    have : i = n := by omega
    subst this
    unfold f142_L2
    simp (disch := omega) only [hn, hk, nI_lit, nI_add, pk_sub, pk_mul, ma_neg, nI_clamp, ma_ltT, ma_ltF, ma_leT, ma_leF, ma_eqT, ma_eqF, nI_ltI, nI_leI, nI_eq, ma_obT, ma_obF, ma_enF, ma_neF, ma_nlT, ma_lnF, ma_nLT, ma_Ln, ↓reduceIte, Option.bind_some, Option.bind_none, true_and, and_true, false_and, and_false, ne_eq, not_true_eq_false, not_false_eq_true, Bool.false_eq_true, reduceCtorEq, Nat.reduceAdd, Nat.reduceMul, Nat.reduceSub]
    rw [hf, ao_no hno]
  | succ d ih =>
    intro fu i hi hd hno
    obtain ⟨g, rfl⟩ : ∃ g, fu = g + 1 := ⟨fu - 1, by omega⟩
    unfold f142_L2
    have h2 := hc2 i (by omega)
    by_cases e : c i = v
    · have : ao c v n = true := ao_iff.mpr ⟨i, by omega, e⟩
      simp (disch := omega) only [hn, hk, hc i (by omega), this, nI_lit, nI_add, pk_sub, pk_mul, ma_neg, nI_clamp, ma_ltT, ma_ltF, ma_leT, ma_leF, ma_eqT, ma_eqF, nI_ltI, nI_leI, nI_eq, ma_obT, ma_obF, ma_enF, ma_neF, ma_nlT, ma_lnF, ma_nLT, ma_Ln, ↓reduceIte, Option.bind_some, Option.bind_none, true_and, and_true, false_and, and_false, ne_eq, not_true_eq_false, not_false_eq_true, Bool.false_eq_true, reduceCtorEq, Nat.reduceAdd, Nat.reduceMul, Nat.reduceSub]
    · simp (disch := omega) only [hn, hk, hc i (by omega), nI_lit, nI_add, pk_sub, pk_mul, ma_neg, nI_clamp, ma_ltT, ma_ltF, ma_leT, ma_leF, ma_eqT, ma_eqF, nI_ltI, nI_leI, nI_eq, ma_obT, ma_obF, ma_enF, ma_neF, ma_nlT, ma_lnF, ma_nLT, ma_Ln, ↓reduceIte, Option.bind_some, Option.bind_none, true_and, and_true, false_and, and_false, ne_eq, not_true_eq_false, not_false_eq_true, Bool.false_eq_true, reduceCtorEq, Nat.reduceAdd, Nat.reduceMul, Nat.reduceSub]
      exact ih g (i + 1) (by omega) (by omega) (fun j hj => by
        by_cases e2 : j = i
        · subst e2; exact e
        · exact hno j (by omega))
theorem ma_holds {S : rn_T} {A : rn_AT} {s v : Nat} (h : PS S A) (ho : OKA A) (hs : s < 8) (hv : v ≤ 126) : f142 S (5 + 2 * s) (nI v) = some (ao (aC A s) v (aN A s)) := by
  unfold f142
  have hn := ho.1 s hs
  exact ma_holdsL (ma_kd5 hs) (h.1 s hs) hn (fun i hi => by rw [show 5 + 2 * s + 1 = 6 + 2 * s by omega]; exact h.2.1 s hs i hi) (fun i hi => ho.2.1 s hs i hi) hv rfl (aN A s) rn_FU 0 (by omega) (by unfold rn_FU; omega) (fun j hj => by omega)
/-- open -/
def aO (A : rn_AT) (s : Nat) : Bool := ao (aC A s) 120 (aN A s)
theorem ma_f114 {S : rn_T} {A : rn_AT} {s : Nat} (h : PS S A) (ho : OKA A) (hs : s < 8) : f114 S 1 (nI s) = some (aO A s) := by
  unfold f114
  rw [ma_f22 hs]
  have := ma_holds h ho hs (v := 120) (by omega)
  simp (disch := omega) only [show rn_kd 1 = 1 from rfl, this, nI_lit, nI_add, pk_sub, pk_mul, ma_neg, nI_clamp, ma_ltT, ma_ltF, ma_leT, ma_leF, ma_eqT, ma_eqF, nI_ltI, nI_leI, nI_eq, ma_obT, ma_obF, ma_enF, ma_neF, ma_nlT, ma_lnF, ma_nLT, ma_Ln, ↓reduceIte, Option.bind_some, Option.bind_none, true_and, and_true, false_and, and_false, ne_eq, not_true_eq_false, not_false_eq_true, Bool.false_eq_true, reduceCtorEq, Nat.reduceAdd, Nat.reduceMul, Nat.reduceSub]
  unfold aO
  cases ao (aC A s) 120 (aN A s) <;> rfl
theorem ma_f33 {M : rn_T} {A : rn_AT} {s i : Nat} (h : PM M A) (hs : s < 8) (hi : i < 40) : f33 M (nI s) (nI i) = some (nI (aC A s i)) := by
  unfold f33
  simp (disch := omega) only [h.2.1 s hs i hi, nI_lit, nI_add, pk_sub, pk_mul, ma_neg, nI_clamp, ma_ltT, ma_ltF, ma_leT, ma_leF, ma_eqT, ma_eqF, nI_ltI, nI_leI, nI_eq, ma_obT, ma_obF, ma_enF, ma_neF, ma_nlT, ma_lnF, ma_nLT, ma_Ln, ↓reduceIte, Option.bind_some, Option.bind_none, true_and, and_true, false_and, and_false, ne_eq, not_true_eq_false, not_false_eq_true, Bool.false_eq_true, reduceCtorEq, Nat.reduceAdd, Nat.reduceMul, Nat.reduceSub]
theorem ma_openL {M : rn_T} {A : rn_AT} {s : Nat} {f : rn_T → Int32 → Option Bool} (h : PM M A) (ho : OKA A) (hs : s < 8) : ∀ d fu i, i + d = aN A s → d < fu → f36_L4 (nI s) fu M (nI (ao (aC A s) 120 i).toNat) (nI i) f = f M (nI (aO A s).toNat) := by
  have hn := ho.1 s hs
  intro d
  induction d with
  | zero =>
    intro fu i hi hd
    obtain ⟨g, rfl⟩ : ∃ g, fu = g + 1 := ⟨fu - 1, by omega⟩
    have : i = aN A s := by omega
    subst this
    unfold f36_L4
    simp (disch := omega) only [h.1 s hs, nI_lit, nI_add, pk_sub, pk_mul, ma_neg, nI_clamp, ma_ltT, ma_ltF, ma_leT, ma_leF, ma_eqT, ma_eqF, nI_ltI, nI_leI, nI_eq, ma_obT, ma_obF, ma_enF, ma_neF, ma_nlT, ma_lnF, ma_nLT, ma_Ln, ↓reduceIte, Option.bind_some, Option.bind_none, true_and, and_true, false_and, and_false, ne_eq, not_true_eq_false, not_false_eq_true, Bool.false_eq_true, reduceCtorEq, Nat.reduceAdd, Nat.reduceMul, Nat.reduceSub]
    rfl
  | succ d ih =>
    intro fu i hi hd
    obtain ⟨g, rfl⟩ : ∃ g, fu = g + 1 := ⟨fu - 1, by omega⟩
    unfold f36_L4
    have h2 := ho.2.1 s hs i (by omega)
    have h3 := ih g (i + 1) (by omega) (by omega)
    rw [← h3]
    cases e : ao (aC A s) 120 i with
    | true => simp (disch := omega) only [h.1 s hs, ao, e, Bool.toNat_true, Bool.true_or, nI_lit, nI_add, pk_sub, pk_mul, ma_neg, nI_clamp, ma_ltT, ma_ltF, ma_leT, ma_leF, ma_eqT, ma_eqF, nI_ltI, nI_leI, nI_eq, ma_obT, ma_obF, ma_enF, ma_neF, ma_nlT, ma_lnF, ma_nLT, ma_Ln, ↓reduceIte, Option.bind_some, Option.bind_none, true_and, and_true, false_and, and_false, ne_eq, not_true_eq_false, not_false_eq_true, Bool.false_eq_true, reduceCtorEq, Nat.reduceAdd, Nat.reduceMul, Nat.reduceSub]
    | false =>
      simp (disch := omega) only [h.1 s hs, ma_f33 h hs (show i < 40 by omega), ao, e, Bool.toNat_false, Bool.false_or, nI_lit, nI_add, pk_sub, pk_mul, ma_neg, nI_clamp, ma_ltT, ma_ltF, ma_leT, ma_leF, ma_eqT, ma_eqF, nI_ltI, nI_leI, nI_eq, ma_obT, ma_obF, ma_enF, ma_neF, ma_nlT, ma_lnF, ma_nLT, ma_Ln, ↓reduceIte, Option.bind_some, Option.bind_none, true_and, and_true, false_and, and_false, ne_eq, not_true_eq_false, not_false_eq_true, Bool.false_eq_true, reduceCtorEq, Nat.reduceAdd, Nat.reduceMul, Nat.reduceSub]
      by_cases e2 : aC A s i = 120
      · simp (disch := omega) only [e2, beq_self_eq_true, Bool.toNat_true, nI_lit, nI_add, pk_sub, pk_mul, ma_neg, nI_clamp, ma_ltT, ma_ltF, ma_leT, ma_leF, ma_eqT, ma_eqF, nI_ltI, nI_leI, nI_eq, ma_obT, ma_obF, ma_enF, ma_neF, ma_nlT, ma_lnF, ma_nLT, ma_Ln, ↓reduceIte, Option.bind_some, Option.bind_none, true_and, and_true, false_and, and_false, ne_eq, not_true_eq_false, not_false_eq_true, Bool.false_eq_true, reduceCtorEq, Nat.reduceAdd, Nat.reduceMul, Nat.reduceSub]
      · have : (aC A s i == 120) = false := by simpa using e2
        simp (disch := omega) only [this, Bool.toNat_false, e2, nI_lit, nI_add, pk_sub, pk_mul, ma_neg, nI_clamp, ma_ltT, ma_ltF, ma_leT, ma_leF, ma_eqT, ma_eqF, nI_ltI, nI_leI, nI_eq, ma_obT, ma_obF, ma_enF, ma_neF, ma_nlT, ma_lnF, ma_nLT, ma_Ln, ↓reduceIte, Option.bind_some, Option.bind_none, true_and, and_true, false_and, and_false, ne_eq, not_true_eq_false, not_false_eq_true, Bool.false_eq_true, reduceCtorEq, Nat.reduceAdd, Nat.reduceMul, Nat.reduceSub]
theorem ma_f36 {M : rn_T} {A : rn_AT} {s : Nat} (h : PM M A) (ho : OKA A) (hs : s < 8) : f36 M (nI s) = some (aO A s) := by
  unfold f36
  have hn := ho.1 s hs
  have := ma_openL (f := fun M6 w6_2 => if w6_2 = 0 ∨ w6_2 = 1 then some (decide (w6_2 = 1)) else none) h ho hs (aN A s) rn_FU 0 (by omega) (by unfold rn_FU; omega)
  refine this.trans ?_
  cases aO A s <;> rfl
theorem ma_f141 {S : rn_T} {A : rn_AT} {s i : Nat} (h : PS S A) (ho : OKA A) (hs : s < 8) (hi : i < 2 ^ 31) : f141 S (5 + 2 * s) (nI i) = some (nI (if i < aN A s then aC A s i else 0)) := by
  unfold f141
  have hn := ho.1 s hs
  by_cases hl : i < aN A s
  · rw [if_pos hl]
    simp (disch := omega) only [h.1 s hs, ma_kd5 hs, show 5 + 2 * s + 1 = 6 + 2 * s from by omega, h.2.1 s hs i (by omega), nI_lit, nI_add, pk_sub, pk_mul, ma_neg, nI_clamp, ma_ltT, ma_ltF, ma_leT, ma_leF, ma_eqT, ma_eqF, nI_ltI, nI_leI, nI_eq, ma_obT, ma_obF, ma_enF, ma_neF, ma_nlT, ma_lnF, ma_nLT, ma_Ln, ↓reduceIte, Option.bind_some, Option.bind_none, true_and, and_true, false_and, and_false, ne_eq, not_true_eq_false, not_false_eq_true, Bool.false_eq_true, reduceCtorEq, Nat.reduceAdd, Nat.reduceMul, Nat.reduceSub]
  · rw [if_neg hl]
    simp (disch := omega) only [h.1 s hs, ma_kd5 hs, nI_lit, nI_add, pk_sub, pk_mul, ma_neg, nI_clamp, ma_ltT, ma_ltF, ma_leT, ma_leF, ma_eqT, ma_eqF, nI_ltI, nI_leI, nI_eq, ma_obT, ma_obF, ma_enF, ma_neF, ma_nlT, ma_lnF, ma_nLT, ma_Ln, ↓reduceIte, Option.bind_some, Option.bind_none, true_and, and_true, false_and, and_false, ne_eq, not_true_eq_false, not_false_eq_true, Bool.false_eq_true, reduceCtorEq, Nat.reduceAdd, Nat.reduceMul, Nat.reduceSub]
theorem ma_f115 {S : rn_T} {A : rn_AT} {s i : Nat} (h : PS S A) (ho : OKA A) (hs : s < 8) (hi : i < 2 ^ 31) : f115 S 1 (nI s) (nI i) = some (nI (if i < aN A s then aC A s i else 0)) := by
  unfold f115
  rw [ma_f22 hs]
  simp (disch := omega) only [show rn_kd 1 = 1 from rfl, ma_f141 h ho hs hi, nI_lit, nI_add, pk_sub, pk_mul, ma_neg, nI_clamp, ma_ltT, ma_ltF, ma_leT, ma_leF, ma_eqT, ma_eqF, nI_ltI, nI_leI, nI_eq, ma_obT, ma_obF, ma_enF, ma_neF, ma_nlT, ma_lnF, ma_nLT, ma_Ln, ↓reduceIte, Option.bind_some, Option.bind_none, true_and, and_true, false_and, and_false, ne_eq, not_true_eq_false, not_false_eq_true, Bool.false_eq_true, reduceCtorEq, Nat.reduceAdd, Nat.reduceMul, Nat.reduceSub]
/-- what a shape is asked with -/
def aU (A : rn_AT) (s : Nat) (u : Int32) (k : Option Nat) : Prop := (k = none ∧ u = -1 ∧ aO A s = false) ∨ ∃ t, k = some t ∧ t < 8 ∧ u = nI t ∧ aO A s = true ∧ aO A t = false
theorem ma_f23n {S : rn_T} {x y : Int32} (h : x < 0 ∨ 8 ≤ x) : f23 S x y = some false := by
  unfold f23
  rw [ma_f22n h]; rfl
theorem ma_f46n {M : rn_T} {x y : Int32} (h : x < 0 ∨ 8 ≤ x) : f46 M x y = some false := by
  unfold f46
  rw [ma_f30n h]; rfl
/-- both sides agree on what may be asked -/
theorem ma_ask {S M : rn_T} {A : rn_AT} (h : PS S A) (hm : PM M A) (ho : OKA A) (x u : Int32) : (f23 S x u = some false ∧ f46 M x u = some false) ∨ (f23 S x u = some true ∧ f46 M x u = some true ∧ ∃ s k, s < 8 ∧ x = nI s ∧ aU A s u k) := by
  rcases ma_shape x with hx | ⟨s, hs, rfl⟩
  · exact .inl ⟨ma_f23n hx, ma_f46n hx⟩
  · rw [show f46 M (nI s) u = (if f29 u.toInt64 (-1) 7 = true then Option.bind (f36 M (nI s)) fun p5 => if p5 = true then if u < 0 then some false else Option.bind (f36 M u) fun p9 => if p9 = true then some false else some true else if u = (-1 : Int32) then some true else some false else some false) by unfold f46; rw [ma_f30 hs, if_pos rfl]]
    rw [show f23 S (nI s) u = (Option.bind (f114 S 1 (nI s)) fun p3 => if p3 = true then if (f22 u) = true then Option.bind (f114 S 1 u) fun p8 => if p8 = true then some false else some true else some false else if u = (-1 : Int32) then some true else some false) by unfold f23; rw [ma_f22 hs, if_pos rfl]]
    rw [ma_f114 h ho hs, ma_f36 hm ho hs, ma_in32]
    have e1 : (-1 : Int64).toInt = -1 := rfl
    have e7 : (7 : Int64).toInt = 7 := rfl
    rw [e1, e7]
    simp only [Option.bind_some]
    by_cases hu : u = -1
    · subst hu
      have : (-1 : Int32).toInt = -1 := rfl
      rw [this, ma_f22n (.inl (by decide))]
      cases e : aO A s with
      | true => exact .inl ⟨rfl, rfl⟩
      | false => exact .inr ⟨rfl, rfl, s, none, hs, rfl, .inl ⟨rfl, rfl, e⟩⟩
    · rcases ma_shape u with hu2 | ⟨t, ht, rfl⟩
      · rw [ma_f22n hu2]
        have hd : decide (-1 ≤ u.toInt ∧ u.toInt ≤ 7) = false := by
          rw [decide_eq_false_iff_not]
          rw [Int32.lt_iff_toInt_lt, Int32.le_iff_toInt_le] at hu2
          have h0 : (0 : Int32).toInt = 0 := rfl
          have h8 : (8 : Int32).toInt = 8 := rfl
          have h1 : u.toInt ≠ -1 := fun e => hu (Int32.toInt_inj.mp e)
          omega
        rw [hd]
        cases e : aO A s with
        | true => exact .inl ⟨rfl, rfl⟩
        | false => simp only [hu, Bool.false_eq_true, if_false, and_self, true_or]
      · rw [ma_f22 ht, ma_f114 h ho ht, ma_f36 hm ho ht, nI_toInt (by omega)]
        have hd : decide (-1 ≤ (t : Int) ∧ (t : Int) ≤ 7) = true := by
          rw [decide_eq_true_iff]; omega
        rw [hd]
        simp only [Option.bind_some, if_true, hu, if_false]
        simp (disch := omega) only [nI_lit, nI_add, pk_sub, pk_mul, ma_neg, nI_clamp, ma_ltT, ma_ltF, ma_leT, ma_leF, ma_eqT, ma_eqF, nI_ltI, nI_leI, nI_eq, ma_obT, ma_obF, ma_enF, ma_neF, ma_nlT, ma_lnF, ma_nLT, ma_Ln, ↓reduceIte, Option.bind_some, Option.bind_none, true_and, and_true, false_and, and_false, ne_eq, not_true_eq_false, not_false_eq_true, Bool.false_eq_true, reduceCtorEq, Nat.reduceAdd, Nat.reduceMul, Nat.reduceSub]
        cases e : aO A s with
        | false => exact .inl ⟨rfl, rfl⟩
        | true =>
          cases e2 : aO A t with
          | true => exact .inl ⟨rfl, rfl⟩
          | false => exact .inr ⟨rfl, rfl, s, some t, hs, rfl, .inr ⟨t, rfl, ht, rfl, e, e2⟩⟩
