/-! 60: the reference's endOf -/
def dstep (c D : Nat) : Nat := if c = 40 ∨ c = 91 then D + 1 else if c = 41 ∨ c = 93 then D - 1 else D
def mstep (A : rn_AT) (c : Nat) : Bool := decide (65 ≤ c ∧ c < 73) && aO A (c - 65)
def nstep (A : rn_AT) (c D n : Nat) : Nat := if dstep c D = 0 ∧ mstep A c = false then n - 1 else n
theorem ma_J57 {M : rn_T} {x : Int32} {c p n D t : Nat} {rc : rn_T → Int32 → Int32 → Int32 → Option Int32} {k : rn_T → Int32 → Option Int32} (hc : c ≤ 126) (hn : 0 < n) (hn2 : n < 100) (hD : D < 200) (ht : t < 2) : f49_J57_6 M x (nI p) (nI n) (nI D) (nI c) (nI t) rc k = rc M (nI (p + if c = 101 then 2 else 1)) (nI (if D = 0 ∧ t = 0 then n - 1 else n)) (nI D) := by
  have hJ : f49_J65_6 M x (nI p) (nI D) (nI c) (nI n) rc k = rc M (nI (p + if c = 101 then 2 else 1)) (nI n) (nI D) := by
    unfold f49_J65_6
    by_cases h1 : c = 101
    · rw [if_pos (show nI c = 101 by rw [h1]; rfl), if_pos h1, show nI n - 0 = nI n from pk_sub (b := 0) (by omega), show nI p + (2 : Int32) = nI (p + 2) from nI_add p 2]
    · rw [if_neg (show ¬ nI c = 101 by rw [show (101 : Int32) = nI 101 from rfl, nI_eq (by omega) (by omega)]; exact h1), if_neg h1, show nI n - 0 = nI n from pk_sub (b := 0) (by omega), nI_1]
  unfold f49_J57_6
  rw [hJ]
  by_cases h0 : D = 0
  · rw [if_pos (show nI D = 0 by rw [h0]; rfl)]
    by_cases h1 : t = 0
    · rw [if_pos (show nI t = 0 by rw [h1]; rfl), if_pos (show D = 0 ∧ t = 0 from ⟨h0, h1⟩)]
      by_cases h2 : c = 101
      · rw [if_pos (show nI c = 101 by rw [h2]; rfl), if_pos h2, show nI n - 1 = nI (n - 1) from pk_sub (b := 1) (by omega), show nI p + (2 : Int32) = nI (p + 2) from nI_add p 2]
      · rw [if_neg (show ¬ nI c = 101 by rw [show (101 : Int32) = nI 101 from rfl, nI_eq (by omega) (by omega)]; exact h2), if_neg h2, show nI n - 1 = nI (n - 1) from pk_sub (b := 1) (by omega), nI_1]
    · rw [if_neg (show ¬ nI t = 0 from nI_ne0 (by omega) (by omega)), if_neg (show ¬ (D = 0 ∧ t = 0) by omega)]
  · rw [if_neg (show ¬ nI D = 0 from nI_ne0 (by omega) (by omega)), if_neg (show ¬ (D = 0 ∧ t = 0) by omega)]
theorem ma_J43 {M : rn_T} {A : rn_AT} {x t0 t1 : Int32} {c p n D : Nat} {rc : rn_T → Int32 → Int32 → Int32 → Option Int32} {k : rn_T → Int32 → Option Int32} (h : PM M A) (ho : OKA A) (hc : c ≤ 126) (hn : 0 < n) (hn2 : n < 100) (hD : D < 200) (ht : t0 + t1 = nI D) : f49_J43_6 M x (nI p) (nI n) (nI c) t0 t1 rc k = rc M (nI (p + if c = 101 then 2 else 1)) (nI (if D = 0 ∧ mstep A c = false then n - 1 else n)) (nI D) := by
  have e37 := ma_f37 (M := M) hc
  have j0 := ma_J57 (M := M) (x := x) (p := p) (rc := rc) (k := k) hc hn hn2 hD (t := 0) (by omega)
  have j1 := ma_J57 (M := M) (x := x) (p := p) (rc := rc) (k := k) hc hn hn2 hD (t := 1) (by omega)
  unfold f49_J43_6
  rw [ht, e37]
  by_cases hL : 65 ≤ c ∧ c < 73
  · rw [decide_eq_true hL, if_pos rfl, show nI c - 65 = nI (c - 65) from pk_sub (b := 65) hL.1, ma_f36 h ho (show c - 65 < 8 by omega)]
    cases e : aO A (c - 65) with
    | true =>
      have hm : mstep A c = true := by unfold mstep; rw [decide_eq_true hL, e]; rfl
      rw [hm]
      refine (show _ = _ from j1).trans ?_
      rw [if_neg (show ¬ (D = 0 ∧ 1 = 0) by omega), if_neg (show ¬ (D = 0 ∧ true = false) from fun hx => Bool.noConfusion hx.2)]
    | false =>
      have hm : mstep A c = false := by unfold mstep; rw [e, Bool.and_false]
      rw [hm]
      refine (show _ = _ from j0).trans ?_
      simp only [and_true]
  · have hm : mstep A c = false := by unfold mstep; rw [decide_eq_false hL]; rfl
    rw [decide_eq_false hL, if_neg (by decide), hm]
    refine (show _ = _ from j0).trans ?_
    simp only [and_true]
theorem ma_estep {M : rn_T} {A : rn_AT} {s p n D g : Nat} {k : rn_T → Int32 → Option Int32} (h : PM M A) (ho : OKA A) (hs : s < 8) (hp : p < 40) (hn : 0 < n) (hn2 : n < 100) (hD : D < 100) (hcl : aC A s p = 41 ∨ aC A s p = 93 → 0 < D) : f49_L6 (nI s) (g + 1) M (nI p) (nI n) (nI D) k = f49_L6 (nI s) g M (nI (p + if aC A s p = 101 then 2 else 1)) (nI (nstep A (aC A s p) D n)) (nI (dstep (aC A s p) D)) k := by
  have hc := ho.2.1 s hs p hp
  have h33 := ma_f33 h hs hp
  have hJ : ∀ (t1 : Int32) (D2 : Nat), D2 < 200 → nI D + t1 = nI D2 → _ := fun t1 D2 h1 h2 => ma_J43 (x := nI s) (p := p) (rc := fun M v3 v4 v5 => f49_L6 (nI s) g M v3 v4 v5 k) (k := k) h ho hc hn hn2 h1 h2
  rw [f49_L6, if_neg (show ¬ nI n ≤ 0 from nI_nle hn (by omega)), h33]
  simp only [Option.bind_some]
  have hD1 := hJ 1 (D + 1) (by omega) (nI_1 D)
  have hD0 := hJ 0 D (by omega) (nI_add D 0)
  have q : ∀ a b : Nat, a < 200 → b < 200 → a ≠ b → ¬ nI a = nI b := fun a b ha hb hab => by rw [nI_eq (by omega) (by omega)]; exact hab
  have q40 : aC A s p ≠ 40 → ¬ nI (aC A s p) = (40 : Int32) := fun hx => q _ 40 (by omega) (by omega) hx
  have q91 : aC A s p ≠ 91 → ¬ nI (aC A s p) = (91 : Int32) := fun hx => q _ 91 (by omega) (by omega) hx
  have q41 : aC A s p ≠ 41 → ¬ nI (aC A s p) = (41 : Int32) := fun hx => q _ 41 (by omega) (by omega) hx
  have q93 : aC A s p ≠ 93 → ¬ nI (aC A s p) = (93 : Int32) := fun hx => q _ 93 (by omega) (by omega) hx
  unfold nstep
  by_cases h1 : aC A s p = 40 ∨ aC A s p = 91
  · have hd : dstep (aC A s p) D = D + 1 := if_pos h1
    rw [hd]
    refine Eq.trans ?_ hD1
    have e1 : ∀ rc, f49_J19_6 M (nI s) (nI p) (nI n) (nI D) (nI (aC A s p)) rc k = f49_J43_6 M (nI s) (nI p) (nI n) (nI (aC A s p)) (nI D) 1 rc k := by
      intro rc
      unfold f49_J19_6 f49_J22_6
      rw [if_neg (q41 (by omega)), if_neg (q93 (by omega))]
      unfold f49_J32_6
      rw [if_neg (show ¬ (1 : Int32) = 0 by decide)]
    rcases h1 with h1 | h1
    · rw [if_pos (show nI (aC A s p) = 40 by rw [h1]; rfl), e1]
    · rw [if_neg (q40 (by omega)), if_pos (show nI (aC A s p) = 91 by rw [h1]; rfl), e1]
  · rw [if_neg (q40 (by omega)), if_neg (q91 (by omega))]
    by_cases h2 : aC A s p = 41 ∨ aC A s p = 93
    · have hD0 := hcl h2
      have hd : dstep (aC A s p) D = D - 1 := by unfold dstep; rw [if_neg h1, if_pos h2]
      rw [hd]
      refine Eq.trans ?_ (hJ (-1) (D - 1) (by omega) (ma_neg (a := D) (b := 1) hD0))
      have e1 : ∀ rc, f49_J29_6 M (nI s) (nI p) (nI n) (nI D) (nI (aC A s p)) 0 rc k = f49_J43_6 M (nI s) (nI p) (nI n) (nI (aC A s p)) (nI D) (-1) rc k := by
        intro rc
        unfold f49_J29_6 f49_J32_6
        rw [if_pos (show (0 : Int32) = 0 from rfl), if_neg (show ¬ (1 : Int32) = 0 by decide)]
      unfold f49_J22_6
      rcases h2 with h2 | h2
      · rw [if_pos (show nI (aC A s p) = 41 by rw [h2]; rfl), e1]
      · rw [if_neg (q41 (by omega)), if_pos (show nI (aC A s p) = 93 by rw [h2]; rfl), e1]
    · have hd : dstep (aC A s p) D = D := by unfold dstep; rw [if_neg h1, if_neg h2]
      rw [hd]
      refine Eq.trans ?_ hD0
      unfold f49_J22_6
      rw [if_neg (q41 (by omega)), if_neg (q93 (by omega))]
      unfold f49_J32_6
      rw [if_pos (show (0 : Int32) = 0 from rfl), if_pos (show (0 : Int32) = 0 from rfl)]
