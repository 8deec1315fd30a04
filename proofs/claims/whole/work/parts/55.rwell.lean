/-! 55: the reference's isWell -/
def ip (A : rn_AT) (b : Nat) : Nat → Nat
  | 0 => b
  | k + 1 => if (ip A b k).testBit k = true then ip A b k ||| lbA A k else ip A b k
def op (A : rn_AT) (b : Nat) : Nat → Nat
  | 0 => b
  | r + 1 => ip A (op A b r) 8
theorem ip_lt {A : rn_AT} {b : Nat} (h : b < 256) : ∀ {k}, ip A b k < 256 := by
  intro k
  induction k with
  | zero => exact h
  | succ k ih =>
    show (if (ip A b k).testBit k = true then ip A b k ||| lbA A k else ip A b k) < 256
    split
    · exact Nat.or_lt_two_pow (n := 8) ih lb_lt
    · exact ih
theorem op_lt {A : rn_AT} {b : Nat} (h : b < 256) : ∀ {r}, op A b r < 256 := by
  intro r
  induction r with
  | zero => exact h
  | succ r ih => exact ip_lt ih
theorem ma_L21 {M : rn_T} {A : rn_AT} {b : Nat} {x y : Int32} {k : rn_T → Int32 → Option (Bool × rn_T)} (h : PM M A) (ho : OKA A) (hb : b < 256) : ∀ d fu e, e + d = 8 → d < fu → f48_L21 x y fu M (nI (ip A b e)) (nI e) k = k M (nI (ip A b 8)) := by
  intro d
  induction d with
  | zero =>
    intro fu i hi hd
    obtain ⟨g, rfl⟩ : ∃ g, fu = g + 1 := ⟨fu - 1, by omega⟩
    have : i = 8 := by omega
    subst this
    unfold f48_L21
    simp (disch := omega) only [nI_lit, nI_add, pk_sub, pk_mul, ma_neg, nI_clamp, ma_ltT, ma_ltF, ma_leT, ma_leF, ma_eqT, ma_eqF, nI_ltI, nI_leI, nI_eq, ma_obT, ma_obF, ma_enF, ma_neF, ma_nlT, ma_lnF, ma_nLT, ma_Ln, ↓reduceIte, Option.bind_some, Option.bind_none, true_and, and_true, false_and, and_false, ne_eq, not_true_eq_false, not_false_eq_true, Bool.false_eq_true, reduceCtorEq, Nat.reduceAdd, Nat.reduceMul, Nat.reduceSub]
  | succ d ih =>
    intro fu e hi hd
    obtain ⟨g, rfl⟩ : ∃ g, fu = g + 1 := ⟨fu - 1, by omega⟩
    have h3 := ih g (e + 1) (by omega) (by omega)
    have hb1 := ma_bit (ip_lt (A := A) hb (k := e)) (show e < 8 by omega)
    rw [show (31 : Int32) = nI 31 from rfl, show (1 : Int32) = nI 1 from rfl] at hb1
    have hl : ip A b (e + 1) = if (ip A b e).testBit e = true then ip A b e ||| lbA A e else ip A b e := rfl
    unfold f48_L21
    rw [← h3]
    cases ht : (ip A b e).testBit e with
    | true =>
      rw [ht, if_pos rfl] at hb1 hl
      rw [hl]
      simp (disch := omega) only [hb1, ma_f47 h ho (show e < 8 by omega), ma_or, nI_lit, nI_add, pk_sub, pk_mul, ma_neg, nI_clamp, ma_ltT, ma_ltF, ma_leT, ma_leF, ma_eqT, ma_eqF, nI_ltI, nI_leI, nI_eq, ma_obT, ma_obF, ma_enF, ma_neF, ma_nlT, ma_lnF, ma_nLT, ma_Ln, ↓reduceIte, Option.bind_some, Option.bind_none, true_and, and_true, false_and, and_false, ne_eq, not_true_eq_false, not_false_eq_true, Bool.false_eq_true, reduceCtorEq, Nat.reduceAdd, Nat.reduceMul, Nat.reduceSub]
    | false =>
      rw [ht, if_neg (by decide)] at hb1 hl
      rw [hl]
      simp (disch := omega) only [hb1, ma_or, Nat.or_zero, nI_lit, nI_add, pk_sub, pk_mul, ma_neg, nI_clamp, ma_ltT, ma_ltF, ma_leT, ma_leF, ma_eqT, ma_eqF, nI_ltI, nI_leI, nI_eq, ma_obT, ma_obF, ma_enF, ma_neF, ma_nlT, ma_lnF, ma_nLT, ma_Ln, ↓reduceIte, Option.bind_some, Option.bind_none, true_and, and_true, false_and, and_false, ne_eq, not_true_eq_false, not_false_eq_true, Bool.false_eq_true, reduceCtorEq, Nat.reduceAdd, Nat.reduceMul, Nat.reduceSub]
theorem ma_L16 {M : rn_T} {A : rn_AT} {b : Nat} {x : Int32} {k : rn_T → Int32 → Option (Bool × rn_T)} (h : PM M A) (ho : OKA A) (hb : b < 256) : ∀ d fu r, r + d = 8 → d < fu → f48_L16 x fu M (nI (op A b r)) (nI r) k = k M (nI (op A b 8)) := by
  intro d
  induction d with
  | zero =>
    intro fu i hi hd
    obtain ⟨g, rfl⟩ : ∃ g, fu = g + 1 := ⟨fu - 1, by omega⟩
    have : i = 8 := by omega
    subst this
    unfold f48_L16
    simp (disch := omega) only [nI_lit, nI_add, pk_sub, pk_mul, ma_neg, nI_clamp, ma_ltT, ma_ltF, ma_leT, ma_leF, ma_eqT, ma_eqF, nI_ltI, nI_leI, nI_eq, ma_obT, ma_obF, ma_enF, ma_neF, ma_nlT, ma_lnF, ma_nLT, ma_Ln, ↓reduceIte, Option.bind_some, Option.bind_none, true_and, and_true, false_and, and_false, ne_eq, not_true_eq_false, not_false_eq_true, Bool.false_eq_true, reduceCtorEq, Nat.reduceAdd, Nat.reduceMul, Nat.reduceSub]
  | succ d ih =>
    intro fu r hi hd
    obtain ⟨g, rfl⟩ : ∃ g, fu = g + 1 := ⟨fu - 1, by omega⟩
    have h3 := ih g (r + 1) (by omega) (by omega)
    have h4 := ma_L21 (x := x) (y := nI r) (k := fun M6 w6_3 => f48_L16 x g M6 w6_3 (nI (r + 1)) k) h ho (op_lt (A := A) hb (r := r)) 8 rn_FU 0 (by omega) (by unfold rn_FU; omega)
    unfold f48_L16
    rw [← h3]
    simp (disch := omega) only [nI_lit, nI_add, pk_sub, pk_mul, ma_neg, nI_clamp, ma_ltT, ma_ltF, ma_leT, ma_leF, ma_eqT, ma_eqF, nI_ltI, nI_leI, nI_eq, ma_obT, ma_obF, ma_enF, ma_neF, ma_nlT, ma_lnF, ma_nLT, ma_Ln, ↓reduceIte, Option.bind_some, Option.bind_none, true_and, and_true, false_and, and_false, ne_eq, not_true_eq_false, not_false_eq_true, Bool.false_eq_true, reduceCtorEq, Nat.reduceAdd, Nat.reduceMul, Nat.reduceSub]
    exact h4
def wb (rr : Nat → Int32) (B : Nat) : Nat → Nat
  | 0 => 1
  | e + 1 => if wb rr B e = 0 then 0 else if B.testBit e = true then (if 0 ≤ rr e then 0 else 1) else 1
theorem wb_lt {rr : Nat → Int32} {B : Nat} : ∀ {e}, wb rr B e < 2 := by
  intro e
  induction e with
  | zero => show 1 < 2; omega
  | succ e ih =>
    show (if wb rr B e = 0 then 0 else if B.testBit e = true then (if 0 ≤ rr e then 0 else 1) else 1) < 2
    split
    · omega
    · split
      · split <;> omega
      · omega
theorem wb_iff {rr : Nat → Int32} {B : Nat} : ∀ {e}, wb rr B e = 1 ↔ ∀ j, j < e → B.testBit j = true → ¬ 0 ≤ rr j := by
  intro e
  induction e with
  | zero => exact ⟨fun _ j hj => by omega, fun _ => rfl⟩
  | succ e ih =>
    have h1 : wb rr B (e + 1) = if wb rr B e = 0 then 0 else if B.testBit e = true then (if 0 ≤ rr e then 0 else 1) else 1 := rfl
    have hlt := wb_lt (rr := rr) (B := B) (e := e)
    constructor
    · intro hw j hj hb
      rw [h1] at hw
      by_cases h0 : wb rr B e = 0
      · rw [if_pos h0] at hw; omega
      · rw [if_neg h0] at hw
        by_cases ej : j = e
        · subst ej
          rw [if_pos hb] at hw
          intro hr
          rw [if_pos hr] at hw; omega
        · exact ih.mp (by omega) j (by omega) hb
    · intro hw
      have he := ih.mpr (fun j hj => hw j (by omega))
      rw [h1, if_neg (by omega)]
      by_cases hb : B.testBit e = true
      · rw [if_pos hb, if_neg (hw e (by omega) hb)]
      · rw [if_neg hb]
set_option maxHeartbeats 1000000 in
theorem ma_L45 {A : rn_AT} {rr : Nat → Int32} {B : Nat} {k : rn_T → Int32 → Option (Bool × rn_T)} (ho : OKA A) (hB : B < 256) (hr : ∀ e, e < 8 → ∀ M, PM M A → ∃ M2, f43 M (nI e) = some (rr e, M2) ∧ eqD M M2) : ∀ d fu e M, e + d = 8 → d < fu → PM M A → ∃ M2, eqD M M2 ∧ f48_L45 (nI B) fu M (nI (wb rr B e)) (nI e) k = k M2 (nI (wb rr B 8)) := by
  intro d
  induction d with
  | zero =>
    intro fu i M hi hd hM
    obtain ⟨g, rfl⟩ : ∃ g, fu = g + 1 := ⟨fu - 1, by omega⟩
    have : i = 8 := by omega
    subst this
    refine ⟨M, eqD_r, ?_⟩
    unfold f48_L45
    have hlt := wb_lt (rr := rr) (B := B) (e := 8)
    simp (disch := omega) only [nI_lit, nI_add, pk_sub, pk_mul, ma_neg, nI_clamp, ma_ltT, ma_ltF, ma_leT, ma_leF, ma_eqT, ma_eqF, nI_ltI, nI_leI, nI_eq, ma_obT, ma_obF, ma_enF, ma_neF, ma_nlT, ma_lnF, ma_nLT, ma_Ln, ↓reduceIte, Option.bind_some, Option.bind_none, true_and, and_true, false_and, and_false, ne_eq, not_true_eq_false, not_false_eq_true, Bool.false_eq_true, reduceCtorEq, Nat.reduceAdd, Nat.reduceMul, Nat.reduceSub]
  | succ d ih =>
    intro fu e M hi hd hM
    obtain ⟨g, rfl⟩ : ∃ g, fu = g + 1 := ⟨fu - 1, by omega⟩
    have h1 : wb rr B (e + 1) = if wb rr B e = 0 then 0 else if B.testBit e = true then (if 0 ≤ rr e then 0 else 1) else 1 := rfl
    have hlt := wb_lt (rr := rr) (B := B) (e := e)
    have hb1 := ma_bit hB (show e < 8 by omega)
    rw [show (31 : Int32) = nI 31 from rfl, show (1 : Int32) = nI 1 from rfl] at hb1
    by_cases h0 : wb rr B e = 0
    · rw [if_pos h0] at h1
      obtain ⟨M2, a1, a2⟩ := ih g (e + 1) M (by omega) (by omega) hM
      refine ⟨M2, a1, ?_⟩
      rw [← a2, h1, h0]
      rw [f48_L45]
      simp (disch := omega) only [nI_lit, nI_add, pk_sub, pk_mul, ma_neg, nI_clamp, ma_ltT, ma_ltF, ma_leT, ma_leF, ma_eqT, ma_eqF, nI_ltI, nI_leI, nI_eq, ma_obT, ma_obF, ma_enF, ma_neF, ma_nlT, ma_lnF, ma_nLT, ma_Ln, ↓reduceIte, Option.bind_some, Option.bind_none, true_and, and_true, false_and, and_false, ne_eq, not_true_eq_false, not_false_eq_true, Bool.false_eq_true, reduceCtorEq, Nat.reduceAdd, Nat.reduceMul, Nat.reduceSub]
    · rw [if_neg h0] at h1
      have h01 : wb rr B e = 1 := by omega
      cases ht : B.testBit e with
      | false =>
        rw [ht, if_neg (by decide)] at h1 hb1
        obtain ⟨M2, a1, a2⟩ := ih g (e + 1) M (by omega) (by omega) hM
        refine ⟨M2, a1, ?_⟩
        rw [← a2, h1, h01]
        rw [f48_L45]
        simp (disch := omega) only [hb1, nI_lit, nI_add, pk_sub, pk_mul, ma_neg, nI_clamp, ma_ltT, ma_ltF, ma_leT, ma_leF, ma_eqT, ma_eqF, nI_ltI, nI_leI, nI_eq, ma_obT, ma_obF, ma_enF, ma_neF, ma_nlT, ma_lnF, ma_nLT, ma_Ln, ↓reduceIte, Option.bind_some, Option.bind_none, true_and, and_true, false_and, and_false, ne_eq, not_true_eq_false, not_false_eq_true, Bool.false_eq_true, reduceCtorEq, Nat.reduceAdd, Nat.reduceMul, Nat.reduceSub]
      | true =>
        rw [ht, if_pos rfl] at h1 hb1
        obtain ⟨M1, y1, y2⟩ := hr e (by omega) M hM
        obtain ⟨M2, a1, a2⟩ := ih g (e + 1) M1 (by omega) (by omega) (pm_D hM y2)
        refine ⟨M2, eqD_t y2 a1, ?_⟩
        rw [← a2, h1, h01]
        rw [f48_L45]
        by_cases h00 : (nI 0) ≤ rr e
        · have h00' : (0 : Int32) ≤ rr e := h00
          rw [if_pos h00']
          simp (disch := omega) only [hb1, y1, h00, if_true, nI_lit, nI_add, pk_sub, pk_mul, ma_neg, nI_clamp, ma_ltT, ma_ltF, ma_leT, ma_leF, ma_eqT, ma_eqF, nI_ltI, nI_leI, nI_eq, ma_obT, ma_obF, ma_enF, ma_neF, ma_nlT, ma_lnF, ma_nLT, ma_Ln, ↓reduceIte, Option.bind_some, Option.bind_none, true_and, and_true, false_and, and_false, ne_eq, not_true_eq_false, not_false_eq_true, Bool.false_eq_true, reduceCtorEq, Nat.reduceAdd, Nat.reduceMul, Nat.reduceSub]
        · have h00' : ¬ (0 : Int32) ≤ rr e := h00
          rw [if_neg h00']
          simp (disch := omega) only [hb1, y1, h00, if_false, nI_lit, nI_add, pk_sub, pk_mul, ma_neg, nI_clamp, ma_ltT, ma_ltF, ma_leT, ma_leF, ma_eqT, ma_eqF, nI_ltI, nI_leI, nI_eq, ma_obT, ma_obF, ma_enF, ma_neF, ma_nlT, ma_lnF, ma_nLT, ma_Ln, ↓reduceIte, Option.bind_some, Option.bind_none, true_and, and_true, false_and, and_false, ne_eq, not_true_eq_false, not_false_eq_true, Bool.false_eq_true, reduceCtorEq, Nat.reduceAdd, Nat.reduceMul, Nat.reduceSub]
