/-! 62: the PARTS of a tree -/
/-- how many; kinds, told numbers, parents, places in them, how many in each, the ones in each -/
abbrev rn_TR : Type := Nat × (Nat → Nat) × (Nat → Nat) × (Nat → Nat) × (Nat → Nat) × (Nat → Nat) × (Nat → Nat → Nat)
def tN (T : rn_TR) : Nat := T.1
def tK (T : rn_TR) : Nat → Nat := T.2.1
def tO (T : rn_TR) : Nat → Nat := T.2.2.1
def tP (T : rn_TR) : Nat → Nat := T.2.2.2.1
def tI (T : rn_TR) : Nat → Nat := T.2.2.2.2.1
def tC (T : rn_TR) : Nat → Nat := T.2.2.2.2.2.1
def tE (T : rn_TR) : Nat → Nat → Nat := T.2.2.2.2.2.2
def TW (T : rn_TR) : Prop := (∀ i, i < tN T → tK T i ≤ 6 ∧ (tK T i ≤ 4 → tC T i = 0) ∧ (tK T i = 1 → tO T i = 1 ∨ tO T i = 2 ∨ tO T i = 4) ∧ (tK T i = 3 → 2 ≤ tO T i ∧ tO T i ≤ 9) ∧ tC T i ≤ 6) ∧ (∀ i, 0 < i → i < tN T → tP T i < i ∧ tI T i < tC T (tP T i) ∧ tE T (tP T i) (tI T i) = i) ∧ (∀ k j, k < tN T → j < tC T k → k < tE T k j ∧ tE T k j < tN T ∧ tP T (tE T k j) = k ∧ tI T (tE T k j) = j)
/-- one that holds no others: size, align, the gap's width, first, many -/
def lS (k o : Nat) : Nat := if k = 1 then o else if k = 2 ∨ k = 3 then 1 else if k = 4 then 4 else 0
def lA (k o : Nat) : Nat := if k = 1 then o else if k = 4 then 4 else 1
def lW (k : Nat) : Nat := if k = 2 ∨ k = 3 then 1 else if k = 4 then 4 else 0
def lF (k o : Nat) : Nat := if k = 2 then 2 else if k = 3 then o else 0
def lM (k o : Nat) : Nat := if k = 2 then 254 else if k = 3 then 256 - o else if k = 4 then 1 else 0
def nB (S : rn_T) (T : rn_TR) (i : Nat) : Prop := rI S (76 + 2 * i) 1 = nI (tC T i) ∧ rI S (76 + 2 * i) 4 = nI (tK T i) ∧ rI S (76 + 2 * i) 5 = nI (lS (tK T i) (tO T i)) ∧ rI S (76 + 2 * i) 6 = nI (lA (tK T i) (tO T i)) ∧ rI S (76 + 2 * i) 8 = nI 0 ∧ rI S (76 + 2 * i) 9 = nI (lW (tK T i)) ∧ rI S (76 + 2 * i) 10 = nI (lF (tK T i) (tO T i)) ∧ rI S (76 + 2 * i) 11 = nI (lM (tK T i) (tO T i)) ∧ rI S (76 + 2 * i) 14 = -nI 6 ∧ rR S (76 + 2 * i) = (if i = 0 then none else some (76 + 2 * tP T i)) ∧ (0 < i → rI S (76 + 2 * i) 3 = nI (tI T i) ∧ rP S (77 + 2 * tP T i) (tI T i) = some (76 + 2 * i))
def SB (S : rn_T) (T : rn_TR) : Prop := rI S 66 0 = nI (tN T) ∧ (∀ i, i < tN T → nB S T i) ∧ rI S 76 15 = nI 0
def mB (M : rn_T) (T : rn_TR) (i : Nat) : Prop := rA M 322 i = nI (tK T i) ∧ (tK T i = 1 ∨ tK T i = 3 → rA M 323 i = nI (tO T i)) ∧ rA M 324 i = (if i = 0 then -nI 6 else nI (tP T i)) ∧ rA M 325 i = nI (tI T i) ∧ rA M 326 i = nI (tC T i)
def MB (M : rn_T) (T : rn_TR) : Prop := rI M 318 10 = nI (tN T) ∧ ∀ i, i < tN T → mB M T i
def pI (T : rn_TR) : Option Nat → Nat
  | none => 0
  | some q => tC T q
/-- one more part, of this kind and number, in p -/
def addP (T : rn_TR) (k o : Nat) (p : Option Nat) : rn_TR := (tN T + 1, (fun i => if i = tN T then k else tK T i), (fun i => if i = tN T then o else tO T i), (fun i => if i = tN T then p.getD 0 else tP T i), (fun i => if i = tN T then pI T p else tI T i), (fun i => if i = tN T then 0 else if p = some i then tC T i + 1 else tC T i), fun a j => if p = some a ∧ j = tC T a then tN T else tE T a j)
/-- where a part may be added -/
def PP (T : rn_TR) (p : Option Nat) : Prop := (p = none ∧ tN T = 0) ∨ ∃ q, p = some q ∧ q < tN T ∧ 5 ≤ tK T q ∧ tC T q < 6
theorem ad_N {T : rn_TR} {k o : Nat} {p : Option Nat} : tN (addP T k o p) = tN T + 1 := rfl
theorem ad_K {T : rn_TR} {k o i : Nat} {p : Option Nat} : tK (addP T k o p) i = if i = tN T then k else tK T i := rfl
theorem ad_O {T : rn_TR} {k o i : Nat} {p : Option Nat} : tO (addP T k o p) i = if i = tN T then o else tO T i := rfl
theorem ad_P {T : rn_TR} {k o i : Nat} {p : Option Nat} : tP (addP T k o p) i = if i = tN T then p.getD 0 else tP T i := rfl
theorem ad_I {T : rn_TR} {k o i : Nat} {p : Option Nat} : tI (addP T k o p) i = if i = tN T then pI T p else tI T i := rfl
theorem ad_C {T : rn_TR} {k o i : Nat} {p : Option Nat} : tC (addP T k o p) i = if i = tN T then 0 else if p = some i then tC T i + 1 else tC T i := rfl
theorem ad_E {T : rn_TR} {k o i j : Nat} {p : Option Nat} : tE (addP T k o p) i j = if p = some i ∧ j = tC T i then tN T else tE T i j := rfl
theorem tw_add {T : rn_TR} {k o : Nat} {p : Option Nat} (h : TW T) (hp : PP T p) (hk : k ≤ 6) (h1 : k = 1 → o = 1 ∨ o = 2 ∨ o = 4) (h3 : k = 3 → 2 ≤ o ∧ o ≤ 9) : TW (addP T k o p) := by
  obtain ⟨g1, g2, g3⟩ := h
  refine ⟨fun i hi => ?_, fun i h0 hi => ?_, fun a j ha hj => ?_⟩
  · rw [ad_N] at hi
    simp only [ad_K, ad_O, ad_C]
    by_cases e : i = tN T
    · simp only [if_pos e]
      exact ⟨hk, fun _ => trivial, h1, h3, by omega⟩
    · simp only [if_neg e]
      obtain ⟨a1, a2, a3, a4, a5⟩ := g1 i (by omega)
      by_cases e2 : p = some i
      · rcases hp with ⟨rfl, _⟩ | ⟨q, rfl, b1, b2, b3⟩
        · cases e2
        · cases e2
          rw [if_pos rfl]
          exact ⟨a1, fun hh => by omega, a3, a4, by omega⟩
      · rw [if_neg e2]
        exact ⟨a1, a2, a3, a4, a5⟩
  · rw [ad_N] at hi
    by_cases e : i = tN T
    · rw [ad_P, ad_I, if_pos e, if_pos e, ad_C, ad_E]
      rcases hp with ⟨rfl, b⟩ | ⟨q, rfl, b1, b2, b3⟩
      · omega
      · have hh : ¬ q = tN T := by omega
        rw [Option.getD_some, if_neg hh, if_pos rfl, if_pos ⟨rfl, rfl⟩]
        exact ⟨by omega, Nat.lt_succ_self _, e.symm⟩
    · obtain ⟨a1, a2, a3⟩ := g2 i h0 (by omega)
      rw [ad_P, ad_I, if_neg e, if_neg e, ad_C, ad_E]
      have hh : ¬ tP T i = tN T := by omega
      rw [if_neg hh]
      refine ⟨a1, ?_, ?_⟩
      · split <;> omega
      · rw [if_neg (fun hh => by omega)]
        exact a3
  · rw [ad_N] at ha
    rw [ad_C] at hj
    rw [ad_N, ad_E]
    by_cases e : a = tN T
    · rw [if_pos e] at hj; omega
    · rw [if_neg e] at hj
      by_cases e2 : p = some a ∧ j = tC T a
      · rw [if_pos e2, ad_P, ad_I, if_pos rfl, if_pos rfl]
        obtain ⟨rfl, e3⟩ := e2
        rw [Option.getD_some]
        exact ⟨by omega, by omega, rfl, e3.symm⟩
      · have hj2 : j < tC T a := by
          by_cases e4 : p = some a
          · rw [if_pos e4] at hj
            have : ¬ j = tC T a := fun hh => e2 ⟨e4, hh⟩
            omega
          · rw [if_neg e4] at hj; exact hj
        obtain ⟨a1, a2, a3, a4⟩ := g3 a j (by omega) hj2
        rw [if_neg e2, ad_P, ad_I]
        have hh : ¬ tE T a j = tN T := by omega
        rw [if_neg hh, if_neg hh]
        exact ⟨a1, by omega, a3, a4⟩
theorem ma_kd3 {i : Nat} (h : i < 100) : rn_kd (76 + 2 * i) = 3 := (by decide +kernel : ∀ i, i < 100 → rn_kd (76 + 2 * i) = 3) i h
