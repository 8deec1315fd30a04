/-! 60: the reference's endOf -/
def dstep (c D : Nat) : Nat := if c = 40 ∨ c = 91 then D + 1 else if c = 41 ∨ c = 93 then D - 1 else D
def mstep (A : rn_AT) (c : Nat) : Bool := decide (65 ≤ c ∧ c < 73) && aO A (c - 65)
def nstep (A : rn_AT) (c D n : Nat) : Nat := if dstep c D = 0 ∧ mstep A c = false then n - 1 else n
theorem ma_J57 {M : rn_T} {x : Int32} {c p n D t : Nat} {rc : rn_T → Int32 → Int32 → Int32 → Option Int32} {k : rn_T → Int32 → Option Int32} (hc : c ≤ 126) (hn : 0 < n) (hn2 : n < 100) (hD : D < 200) (ht : t < 2) : f49_J57_6 M x (nI p) (nI n) (nI D) (nI c) (nI t) rc k = rc M (nI (p + if c = 101 then 2 else 1)) (nI (if D = 0 ∧ t = 0 then n - 1 else n)) (nI D) := by
  have hJ : f49_J65_6 M x (nI p) (nI D) (nI c) (nI n) rc k = rc M (nI (p + if c = 101 then 2 else 1)) (nI n) (nI D) := by
    unfold f49_J65_6
    by_cases h1 : c = 101
    · rw [if_pos (show nI c = 101 by rw [h1]; rfl), if_pos h1, show nI n - 0 = nI n from pk_sub (b := 0) (by omega), show nI p + (2 : Int32) = nI (p + 2) from nI_add p 2]
    · rw [if_neg (show ¬ nI c = 101 by rw [show (101 : Int32) = nI 101 from rfl, nI_eq (by omega) (by omega)]; exact h1), if_neg h1, show nI n - 0 = nI n from pk_sub (b := 0) (by omega), nI_1]
  unfold f49_J57_6
  rw [hJ]
  by_cases h0 : D = 0
  · rw [if_pos (show nI D = 0 by rw [h0]; rfl)]
    by_cases h1 : t = 0
    · rw [if_pos (show nI t = 0 by rw [h1]; rfl), if_pos (show D = 0 ∧ t = 0 from ⟨h0, h1⟩)]
      by_cases h2 : c = 101
      · rw [if_pos (show nI c = 101 by rw [h2]; rfl), if_pos h2, show nI n - 1 = nI (n - 1) from pk_sub (b := 1) (by omega), show nI p + (2 : Int32) = nI (p + 2) from nI_add p 2]
      · rw [if_neg (show ¬ nI c = 101 by rw [show (101 : Int32) = nI 101 from rfl, nI_eq (by omega) (by omega)]; exact h2), if_neg h2, show nI n - 1 = nI (n - 1) from pk_sub (b := 1) (by omega), nI_1]
    · rw [if_neg (show ¬ nI t = 0 from nI_ne0 (by omega) (by omega)), if_neg (show ¬ (D = 0 ∧ t = 0) by omega)]
  · rw [if_neg (show ¬ nI D = 0 from nI_ne0 (by omega) (by omega)), if_neg (show ¬ (D = 0 ∧ t = 0) by omega)]
theorem ma_J43 {M : rn_T} {A : rn_AT} {x t0 t1 : Int32} {c p n D : Nat} {rc : rn_T → Int32 → Int32 → Int32 → Option Int32} {k : rn_T → Int32 → Option Int32} (h : PM M A) (ho : OKA A) (hc : c ≤ 126) (hn : 0 < n) (hn2 : n < 100) (hD : D < 200) (ht : t0 + t1 = nI D) : f49_J43_6 M x (nI p) (nI n) (nI c) t0 t1 rc k = rc M (nI (p + if c = 101 then 2 else 1)) (nI (if D = 0 ∧ mstep A c = false then n - 1 else n)) (nI D) := by
  have e37 := ma_f37 (M := M) hc
  have j0 := ma_J57 (M := M) (x := x) (p := p) (rc := rc) (k := k) hc hn hn2 hD (t := 0) (by omega)
  have j1 := ma_J57 (M := M) (x := x) (p := p) (rc := rc) (k := k) hc hn hn2 hD (t := 1) (by omega)
  unfold f49_J43_6
  rw [ht, e37]
  by_cases hL : 65 ≤ c ∧ c < 73
  · rw [decide_eq_true hL, if_pos rfl, show nI c - 65 = nI (c - 65) from pk_sub (b := 65) hL.1, ma_f36 h ho (show c - 65 < 8 by omega)]
    cases e : aO A (c - 65) with
    | true =>
      have hm : mstep A c = true := by unfold mstep; rw [decide_eq_true hL, e]; rfl
      rw [hm]
      refine (show _ = _ from j1).trans ?_
      rw [if_neg (show ¬ (D = 0 ∧ 1 = 0) by omega), if_neg (show ¬ (D = 0 ∧ true = false) from fun hx => Bool.noConfusion hx.2)]
    | false =>
      have hm : mstep A c = false := by unfold mstep; rw [e, Bool.and_false]
      rw [hm]
      refine (show _ = _ from j0).trans ?_
      simp only [and_true]
  · have hm : mstep A c = false := by unfold mstep; rw [decide_eq_false hL]; rfl
    rw [decide_eq_false hL, if_neg (by decide), hm]
    refine (show _ = _ from j0).trans ?_
    simp only [and_true]
