/-! the heap out of a number, over a heap of old -/
def pe_or (q : Nat) : Nat := if q < 76 then q else if q < 120 then q + 200 else q - 44
def pe_rk_ (q : Nat) : Nat := if q < 76 then q else if q < 276 then q + 44 else q - 200
theorem pe_or_rk {q : Nat} (h : q < 320) : pe_or (pe_rk_ q) = q := by
  unfold pe_or pe_rk_
  by_cases h1 : q < 76
  · rw [if_pos h1, if_pos h1]
  · rw [if_neg h1]
    by_cases h2 : q < 276
    · rw [if_pos h2, if_neg (by omega), if_neg (by omega)]; omega
    · rw [if_neg h2, if_neg (by omega), if_pos (by omega)]; omega
theorem pe_rk_lt {q : Nat} (h : q < 320) : pe_rk_ q < 320 := by
  unfold pe_rk_
  split <;> (try split) <;> omega
theorem pe_ch1 : ∀ r, r < 319 → pe_bs (pe_or r) + pe_bl (pe_or r) ≤ pe_bs (pe_or (r + 1)) := by decide +kernel
theorem pe_ch {r : Nat} : ∀ d, r + d + 1 < 320 → pe_bs (pe_or r) + pe_bl (pe_or r) ≤ pe_bs (pe_or (r + d + 1))
  | 0, h => pe_ch1 r (by omega)
  | d + 1, h => by
    have h1 := pe_ch (r := r) d (by omega)
    have h2 := pe_ch1 (r + d + 1) (by omega)
    rw [show r + (d + 1) + 1 = r + d + 1 + 1 by omega]
    omega
theorem pe_dis {q q2 k k2 : Nat} (h : q < 320) (h2 : q2 < 320) (hk : k < pe_bl q) (hk2 : k2 < pe_bl q2) (he : pe_bs q + k = pe_bs q2 + k2) : q = q2 ∧ k = k2 := by
  by_cases e : q = q2
  · subst e; exact ⟨rfl, by omega⟩
  · exfalso
    have a1 := pe_or_rk h
    have a2 := pe_or_rk h2
    have b1 := pe_rk_lt h
    have b2 := pe_rk_lt h2
    have hne : pe_rk_ q ≠ pe_rk_ q2 := fun g => e (by rw [← a1, ← a2, g])
    rcases Nat.lt_or_gt_of_ne hne with g | g
    · have := pe_ch (r := pe_rk_ q) (pe_rk_ q2 - pe_rk_ q - 1) (by omega)
      rw [show pe_rk_ q + (pe_rk_ q2 - pe_rk_ q - 1) + 1 = pe_rk_ q2 by omega, a1, a2] at this
      omega
    · have := pe_ch (r := pe_rk_ q2) (pe_rk_ q - pe_rk_ q2 - 1) (by omega)
      rw [show pe_rk_ q2 + (pe_rk_ q - pe_rk_ q2 - 1) + 1 = pe_rk_ q by omega, a1, a2] at this
      omega
theorem pe_tz {t w b q : Nat} (ht : t < 2 ^ (w * b)) (hq : b ≤ q) : t >>> (w * q) = 0 := by
  rw [Nat.shiftRight_eq_div_pow]
  exact Nat.div_eq_of_lt (Nat.lt_of_lt_of_le ht (Nat.pow_le_pow_right (by decide) (Nat.mul_le_mul_left w hq)))
theorem pe_t1_lt : pe_t1 < 2 ^ (8 * 318) := by decide +kernel
theorem pe_t2_lt : pe_t2 < 2 ^ (8 * 320) := by decide +kernel
theorem pe_lt_lt : pe_lt < 2 ^ (16 * 320) := by decide +kernel
theorem pe_bl_0 {q : Nat} (h : 320 ≤ q) : pe_bl q = 0 := by
  show (pe_lt >>> (16 * q)) % 65536 = 0
  rw [pe_tz pe_lt_lt h]
def pe_nn (n : Nat) : Prop := n = 318 ∨ n = 320
theorem pe_kq1 : ∀ q, q < 318 → pe_kq 318 q = 0 ∨ pe_kq 318 q = rn_kd q + 1 ∧ q < 278 := by decide +kernel
theorem pe_kq2 : ∀ q, q < 320 → pe_kq 320 q = 0 ∨ pe_kq 320 q = rn_kd q + 1 ∧ (q < 278 ∨ 318 ≤ q) := by decide +kernel
theorem pe_kq_of {n q kd : Nat} (hn : pe_nn n) (h : pe_kq n q = kd + 1) : q < n ∧ rn_kd q = kd ∧ (q < 278 ∨ 318 ≤ q) := by
  rcases hn with rfl | rfl
  · rcases Nat.lt_or_ge q 318 with g | g
    · rcases pe_kq1 q g with e | ⟨e, e2⟩
      · omega
      · exact ⟨g, by omega, Or.inl e2⟩
    · have : pe_kq 318 q = 0 := by
        show (pe_t1 >>> (8 * q)) % 256 = 0
        rw [pe_tz pe_t1_lt g]
      omega
  · rcases Nat.lt_or_ge q 320 with g | g
    · rcases pe_kq2 q g with e | ⟨e, e2⟩
      · omega
      · exact ⟨g, by omega, e2⟩
    · have : pe_kq 320 q = 0 := by
        show (pe_t2 >>> (8 * q)) % 256 = 0
        rw [pe_tz pe_t2_lt g]
      omega
theorem pe_q_of {n kd x : Nat} (hn : pe_nn n) (h : pe_q n kd x = true) : x % 8 = 3 ∧ x / 8 < n ∧ rn_kd (x / 8) = kd ∧ (x / 8 < 278 ∨ 318 ≤ x / 8) := by
  have h2 : 8 * pe_kq n (x / 8) + x % 8 = 8 * kd + 11 := pe_beq h
  have h3 : pe_kq n (x / 8) = kd + 1 := by omega
  exact ⟨by omega, pe_kq_of hn h3⟩
theorem pe_bl_ln : ∀ q, q < 320 → (rn_kd q = 10 ∨ rn_kd q = 11 ∨ rn_kd q = 12 ∨ rn_kd q = 14) → pe_bl q ≤ rn_ln_ q := by decide +kernel
/-- what lies in a place -/
def pe_cl (c q k : Nat) : Nat := if k < pe_bl q then pe_cg c (pe_bs q + k) else 0
theorem pe_cl_cs {c q k v q2 k2 : Nat} (hq : q < 320) (hk : k < pe_bl q) (hv : v < 68719476736) : pe_cl (pe_cs c (pe_bs q + k) v) q2 k2 = if q2 = q ∧ k2 = k then v else pe_cl c q2 k2 := by
  unfold pe_cl
  by_cases h : k2 < pe_bl q2
  · rw [if_pos h, if_pos h, pe_cg_cs hv]
    have hq2 : q2 < 320 := Nat.lt_of_not_le fun g => by rw [pe_bl_0 g] at h; omega
    by_cases e : pe_bs q2 + k2 = pe_bs q + k
    · obtain ⟨a, b⟩ := pe_dis hq2 hq h hk e
      rw [if_pos e, if_pos ⟨a, b⟩]
    · rw [if_neg e, if_neg (fun g => e (by rw [g.1, g.2]))]
  · rw [if_neg h, if_neg h, if_neg (fun g => h (by rw [g.1, g.2]; exact hk))]
def pe_dr (v : Nat) : Option Nat := if v % 8 = 3 then some (v / 8) else none
def pe_TT (c : Nat) (B : rn_T) : rn_T :=
  (fun q k => if pe_fc (rn_kd q) k = 1 ∧ pe_cl c q k ≠ 0 then pe_dI (pe_cl c q k) else B.1 q k,
   fun q k => if (rn_kd q = 10 ∨ rn_kd q = 12) ∧ pe_cl c q k ≠ 0 then pe_dI (pe_cl c q k) else B.2.1 q k,
   fun q k => if rn_kd q = 11 ∧ pe_cl c q k ≠ 0 then pe_dJ (pe_cl c q k) else B.2.2.1 q k,
   fun q => if rn_kd q = 3 ∧ pe_cl c q 2 ≠ 0 then pe_dr (pe_cl c q 2) else B.2.2.2.1 q,
   fun q k => if rn_kd q = 14 ∧ pe_cl c q k ≠ 0 then pe_dr (pe_cl c q k) else B.2.2.2.2 q k)
theorem pe_fc_hi {kd k : Nat} (h : 10 ≤ kd) : pe_fc kd k = 0 := by
  unfold pe_fc
  have : pe_ft.getD kd [] = [] := by
    rw [List.getD_eq_getElem?_getD, List.getElem?_eq_none (by show 10 ≤ kd; exact h)]
    rfl
  rw [this]
  rfl
theorem pe_upd {f : Nat → Int32} {i j : Nat} {v : Int32} : upd f i v j = if j = i then v else f j := rfl
theorem pe_updL {f : Nat → Int64} {i j : Nat} {v : Int64} : vp_updL f i v j = if j = i then v else f j := rfl
theorem pe_wI {c q k v : Nat} {B : rn_T} (hq : q < 320) (hk : k < pe_bl q) (hv : v < 68719476736) (h0 : v ≠ 0) (hf : pe_fc (rn_kd q) k = 1) : pe_TT (pe_cs c (pe_bs q + k) v) B = wI (pe_TT c B) q k (pe_dI v) := by
  have hd : rn_kd q < 10 := Nat.lt_of_not_le fun g => by rw [pe_fc_hi g] at hf; cases hf
  have h2 : ¬ (rn_kd q = 3 ∧ k = 2) := fun g => by rw [g.1, g.2] at hf; exact absurd hf (by decide)
  unfold pe_TT wI va_up
  simp only [pe_cl_cs hq hk hv]
  refine Prod.ext (funext fun q2 => ?_) (Prod.ext (funext fun q2 => funext fun k2 => ?_) (Prod.ext (funext fun q2 => funext fun k2 => ?_) (Prod.ext (funext fun q2 => ?_) (funext fun q2 => funext fun k2 => ?_))))
  · dsimp only
    by_cases e : q2 = q
    · subst e
      rw [if_pos rfl]
      funext k2
      by_cases e2 : k2 = k
      · subst e2
        rw [if_pos (show q2 = q2 ∧ k2 = k2 from ⟨rfl, rfl⟩)]
        exact (if_pos ⟨hf, h0⟩).trans (if_pos rfl).symm
      · rw [if_neg (show ¬ (q2 = q2 ∧ k2 = k) from fun g => e2 g.2)]
        exact (if_neg e2).symm
    · rw [if_neg e]
      funext k2
      rw [if_neg (show ¬ (q2 = q ∧ k2 = k) from fun g => e g.1)]
  · dsimp only
    by_cases e : q2 = q ∧ k2 = k
    · rw [e.1, if_neg (by omega), if_neg (by omega)]
    · rw [if_neg e]
  · dsimp only
    by_cases e : q2 = q ∧ k2 = k
    · rw [e.1, if_neg (by omega), if_neg (by omega)]
    · rw [if_neg e]
  · dsimp only
    by_cases e : q2 = q ∧ 2 = k
    · rw [e.1, if_neg (fun g => h2 ⟨g.1, e.2.symm⟩), if_neg (fun g => h2 ⟨g.1, e.2.symm⟩)]
    · rw [if_neg e]
  · dsimp only
    by_cases e : q2 = q ∧ k2 = k
    · rw [e.1, if_neg (by omega), if_neg (by omega)]
    · rw [if_neg e]
theorem pe_wR {c q k v : Nat} {B : rn_T} (hq : q < 320) (hk : k < pe_bl q) (hv : v < 68719476736) (h0 : v ≠ 0) (hf : rn_kd q = 3) (h2 : k = 2) : pe_TT (pe_cs c (pe_bs q + k) v) B = wR (pe_TT c B) q (pe_dr v) := by
  unfold pe_TT wR va_up
  simp only [pe_cl_cs hq hk hv]
  refine Prod.ext (funext fun q2 => funext fun k2 => ?_) (Prod.ext (funext fun q2 => funext fun k2 => ?_) (Prod.ext (funext fun q2 => funext fun k2 => ?_) (Prod.ext (funext fun q2 => ?_) (funext fun q2 => funext fun k2 => ?_))))
  · dsimp only
    by_cases e : q2 = q ∧ k2 = k
    · have n : ¬ pe_fc (rn_kd q) k = 1 := by rw [hf, h2]; decide
      rw [e.1, e.2, if_neg (fun g => n g.1), if_neg (fun g => n g.1)]
    · rw [if_neg e]
  · dsimp only
    by_cases e : q2 = q ∧ k2 = k
    · rw [e.1, if_neg (by omega), if_neg (by omega)]
    · rw [if_neg e]
  · dsimp only
    by_cases e : q2 = q ∧ k2 = k
    · rw [e.1, if_neg (by omega), if_neg (by omega)]
    · rw [if_neg e]
  · dsimp only
    by_cases e : q2 = q
    · subst e
      rw [if_pos (show q2 = q2 ∧ 2 = k from ⟨rfl, h2.symm⟩), if_pos (show rn_kd q2 = 3 ∧ v ≠ 0 from ⟨hf, h0⟩)]
      first | rfl | exact (if_pos rfl).symm
    · rw [if_neg e, if_neg (show ¬ (q2 = q ∧ 2 = k) from fun g => e g.1)]
  · dsimp only
    by_cases e : q2 = q ∧ k2 = k
    · rw [e.1, if_neg (by omega), if_neg (by omega)]
    · rw [if_neg e]

theorem pe_wA {c q k v : Nat} {B : rn_T} (hq : q < 320) (hk : k < pe_bl q) (hv : v < 68719476736) (h0 : v ≠ 0) (hf : rn_kd q = 10 ∨ rn_kd q = 12) : pe_TT (pe_cs c (pe_bs q + k) v) B = wA (pe_TT c B) q k (pe_dI v) := by
  have hi : 10 ≤ rn_kd q := by omega
  unfold pe_TT wA va_up
  simp only [pe_cl_cs hq hk hv]
  refine Prod.ext (funext fun q2 => funext fun k2 => ?_) (Prod.ext (funext fun q2 => ?_) (Prod.ext (funext fun q2 => funext fun k2 => ?_) (Prod.ext (funext fun q2 => ?_) (funext fun q2 => funext fun k2 => ?_))))
  · dsimp only
    by_cases e : q2 = q ∧ k2 = k
    · rw [e.1, pe_fc_hi hi, if_neg (by omega), if_neg (by omega)]
    · rw [if_neg e]
  · dsimp only
    by_cases e : q2 = q
    · subst e
      rw [if_pos rfl]
      funext k2
      by_cases e2 : k2 = k
      · subst e2
        rw [if_pos (show q2 = q2 ∧ k2 = k2 from ⟨rfl, rfl⟩)]
        exact (if_pos ⟨hf, h0⟩).trans (if_pos rfl).symm
      · rw [if_neg (show ¬ (q2 = q2 ∧ k2 = k) from fun g => e2 g.2)]
        exact (if_neg e2).symm
    · rw [if_neg e]
      funext k2
      rw [if_neg (show ¬ (q2 = q ∧ k2 = k) from fun g => e g.1)]
  · dsimp only
    by_cases e : q2 = q ∧ k2 = k
    · rw [e.1, if_neg (by omega), if_neg (by omega)]
    · rw [if_neg e]
  · dsimp only
    by_cases e : q2 = q ∧ 2 = k
    · rw [e.1, if_neg (by omega), if_neg (by omega)]
    · rw [if_neg e]
  · dsimp only
    by_cases e : q2 = q ∧ k2 = k
    · rw [e.1, if_neg (by omega), if_neg (by omega)]
    · rw [if_neg e]
theorem pe_wL {c q k v : Nat} {B : rn_T} (hq : q < 320) (hk : k < pe_bl q) (hv : v < 68719476736) (h0 : v ≠ 0) (hf : rn_kd q = 11) : pe_TT (pe_cs c (pe_bs q + k) v) B = wL (pe_TT c B) q k (pe_dJ v) := by
  have hi : 10 ≤ rn_kd q := by omega
  unfold pe_TT wL va_up
  simp only [pe_cl_cs hq hk hv]
  refine Prod.ext (funext fun q2 => funext fun k2 => ?_) (Prod.ext (funext fun q2 => funext fun k2 => ?_) (Prod.ext (funext fun q2 => ?_) (Prod.ext (funext fun q2 => ?_) (funext fun q2 => funext fun k2 => ?_))))
  · dsimp only
    by_cases e : q2 = q ∧ k2 = k
    · rw [e.1, pe_fc_hi hi, if_neg (by omega), if_neg (by omega)]
    · rw [if_neg e]
  · dsimp only
    by_cases e : q2 = q ∧ k2 = k
    · rw [e.1, if_neg (by omega), if_neg (by omega)]
    · rw [if_neg e]
  · dsimp only
    by_cases e : q2 = q
    · subst e
      rw [if_pos rfl]
      funext k2
      by_cases e2 : k2 = k
      · subst e2
        rw [if_pos (show q2 = q2 ∧ k2 = k2 from ⟨rfl, rfl⟩)]
        exact (if_pos ⟨hf, h0⟩).trans (if_pos rfl).symm
      · rw [if_neg (show ¬ (q2 = q2 ∧ k2 = k) from fun g => e2 g.2)]
        exact (if_neg e2).symm
    · rw [if_neg e]
      funext k2
      rw [if_neg (show ¬ (q2 = q ∧ k2 = k) from fun g => e g.1)]
  · dsimp only
    by_cases e : q2 = q ∧ 2 = k
    · rw [e.1, if_neg (by omega), if_neg (by omega)]
    · rw [if_neg e]
  · dsimp only
    by_cases e : q2 = q ∧ k2 = k
    · rw [e.1, if_neg (by omega), if_neg (by omega)]
    · rw [if_neg e]
theorem pe_wP {c q k v : Nat} {B : rn_T} (hq : q < 320) (hk : k < pe_bl q) (hv : v < 68719476736) (h0 : v ≠ 0) (hf : rn_kd q = 14) : pe_TT (pe_cs c (pe_bs q + k) v) B = wP (pe_TT c B) q k (pe_dr v) := by
  have hi : 10 ≤ rn_kd q := by omega
  unfold pe_TT wP va_up
  simp only [pe_cl_cs hq hk hv]
  refine Prod.ext (funext fun q2 => funext fun k2 => ?_) (Prod.ext (funext fun q2 => funext fun k2 => ?_) (Prod.ext (funext fun q2 => funext fun k2 => ?_) (Prod.ext (funext fun q2 => ?_) (funext fun q2 => ?_))))
  · dsimp only
    by_cases e : q2 = q ∧ k2 = k
    · rw [e.1, pe_fc_hi hi, if_neg (by omega), if_neg (by omega)]
    · rw [if_neg e]
  · dsimp only
    by_cases e : q2 = q ∧ k2 = k
    · rw [e.1, if_neg (by omega), if_neg (by omega)]
    · rw [if_neg e]
  · dsimp only
    by_cases e : q2 = q ∧ k2 = k
    · rw [e.1, if_neg (by omega), if_neg (by omega)]
    · rw [if_neg e]
  · dsimp only
    by_cases e : q2 = q ∧ 2 = k
    · rw [e.1, if_neg (by omega), if_neg (by omega)]
    · rw [if_neg e]
  · dsimp only
    by_cases e : q2 = q
    · subst e
      rw [if_pos rfl]
      funext k2
      by_cases e2 : k2 = k
      · subst e2
        rw [if_pos (show q2 = q2 ∧ k2 = k2 from ⟨rfl, rfl⟩)]
        exact (if_pos ⟨hf, h0⟩).trans (if_pos rfl).symm
      · rw [if_neg (show ¬ (q2 = q2 ∧ k2 = k) from fun g => e2 g.2)]
        exact (if_neg e2).symm
    · rw [if_neg e]
      funext k2
      rw [if_neg (show ¬ (q2 = q ∧ k2 = k) from fun g => e g.1)]
/-- the heap of the machine is that number, over B; beyond n it is as it was -/
def pe_HR (n c : Nat) (B : rn_T) (h0 h : rn_H) : Prop := (∀ q, q < n → h q = rn_en (pe_TT c B) q) ∧ ∀ q, n ≤ q → h q = h0 q
theorem pe_cl_ne {c q k t : Nat} (h : pe_cl c q k % 8 = t) (ht : t ≠ 0) : pe_cl c q k ≠ 0 := fun g => by rw [g] at h; exact ht h.symm
theorem pe_cl_in {c q k : Nat} (h : k < pe_bl q) : pe_cg c (Nat.add (pe_bs q) k) = pe_cl c q k := by
  unfold pe_cl
  rw [if_pos h]
  rfl
theorem pe_rI {c q k : Nat} {B : rn_T} (hf : pe_fc (rn_kd q) k = 1) (h : pe_cl c q k % 8 = 1) : rI (pe_TT c B) q k = pe_dI (pe_cl c q k) := if_pos ⟨hf, pe_cl_ne h (by decide)⟩
theorem pe_rA {c q k : Nat} {B : rn_T} (hf : rn_kd q = 10 ∨ rn_kd q = 12) (h : pe_cl c q k % 8 = 1) : rA (pe_TT c B) q k = pe_dI (pe_cl c q k) := if_pos ⟨hf, pe_cl_ne h (by decide)⟩
theorem pe_rL {c q k : Nat} {B : rn_T} (hf : rn_kd q = 11) (h : pe_cl c q k % 8 = 2) : rL (pe_TT c B) q k = pe_dJ (pe_cl c q k) := if_pos ⟨hf, pe_cl_ne h (by decide)⟩
theorem pe_rR {c q : Nat} {B : rn_T} (hf : rn_kd q = 3) (h : pe_cl c q 2 ≠ 0) : rR (pe_TT c B) q = pe_dr (pe_cl c q 2) := if_pos ⟨hf, h⟩
theorem pe_rP {c q k : Nat} {B : rn_T} (hf : rn_kd q = 14) (h : pe_cl c q k ≠ 0) : rP (pe_TT c B) q k = pe_dr (pe_cl c q k) := if_pos ⟨hf, h⟩
theorem pe_drv {σ : Nat → Value} {v : Nat} (h : pe_a v = true) : va_rf (pe_dr v) = pe_dv σ v := by
  unfold pe_dr
  rcases pe_a_of h with g | g
  · rw [if_pos g, pe_dv3 g]; rfl
  · rw [if_neg (by omega), pe_dv4 g]; rfl
theorem pe_fi (c k : Nat) (h : pe_fc c k = 1) (q n : Nat) (I A : Nat → Int32) (L : Nat → Int64) (R : Option Nat) (P : Nat → Option Nat) : ∃ fs : List Value, rn_e0 c q n I A L R P = .inr (c, fs) ∧ fs[k]? = some (.int (I k)) ∧ Nat.blt k fs.length = true ∧ ∀ x : Int32, rn_e0 c q n (va_up I k x) A L R P = .inr (c, fs.set k (.int x)) := by
  match c, k, h with
  | 1, 3, _ => exact ⟨_, rfl, rfl, rfl, fun _ => rfl⟩
  | 1, 4, _ => exact ⟨_, rfl, rfl, rfl, fun _ => rfl⟩
  | 3, 1, _ => exact ⟨_, rfl, rfl, rfl, fun _ => rfl⟩
  | 3, 3, _ => exact ⟨_, rfl, rfl, rfl, fun _ => rfl⟩
  | 3, 4, _ => exact ⟨_, rfl, rfl, rfl, fun _ => rfl⟩
  | 3, 5, _ => exact ⟨_, rfl, rfl, rfl, fun _ => rfl⟩
  | 3, 6, _ => exact ⟨_, rfl, rfl, rfl, fun _ => rfl⟩
  | 3, 7, _ => exact ⟨_, rfl, rfl, rfl, fun _ => rfl⟩
  | 3, 8, _ => exact ⟨_, rfl, rfl, rfl, fun _ => rfl⟩
  | 3, 9, _ => exact ⟨_, rfl, rfl, rfl, fun _ => rfl⟩
  | 3, 10, _ => exact ⟨_, rfl, rfl, rfl, fun _ => rfl⟩
  | 3, 11, _ => exact ⟨_, rfl, rfl, rfl, fun _ => rfl⟩
  | 3, 12, _ => exact ⟨_, rfl, rfl, rfl, fun _ => rfl⟩
  | 3, 13, _ => exact ⟨_, rfl, rfl, rfl, fun _ => rfl⟩
  | 3, 14, _ => exact ⟨_, rfl, rfl, rfl, fun _ => rfl⟩
  | 3, 15, _ => exact ⟨_, rfl, rfl, rfl, fun _ => rfl⟩
  | 3, 16, _ => exact ⟨_, rfl, rfl, rfl, fun _ => rfl⟩
  | 3, 17, _ => exact ⟨_, rfl, rfl, rfl, fun _ => rfl⟩
  | 4, 0, _ => exact ⟨_, rfl, rfl, rfl, fun _ => rfl⟩
  | 4, 5, _ => exact ⟨_, rfl, rfl, rfl, fun _ => rfl⟩
  | 5, 1, _ => exact ⟨_, rfl, rfl, rfl, fun _ => rfl⟩
  | 6, 1, _ => exact ⟨_, rfl, rfl, rfl, fun _ => rfl⟩
  | 7, 0, _ => exact ⟨_, rfl, rfl, rfl, fun _ => rfl⟩
  | 7, 3, _ => exact ⟨_, rfl, rfl, rfl, fun _ => rfl⟩
  | 7, 4, _ => exact ⟨_, rfl, rfl, rfl, fun _ => rfl⟩
  | 7, 5, _ => exact ⟨_, rfl, rfl, rfl, fun _ => rfl⟩
  | 7, 6, _ => exact ⟨_, rfl, rfl, rfl, fun _ => rfl⟩
  | 7, 10, _ => exact ⟨_, rfl, rfl, rfl, fun _ => rfl⟩
  | 7, 15, _ => exact ⟨_, rfl, rfl, rfl, fun _ => rfl⟩
  | 0, 0, h => exact absurd h (by decide)
  | 0, 1, h => exact absurd h (by decide)
  | 0, k + 2, h => exact absurd h (by rw [show pe_fc 0 (k + 2) = 0 from rfl]; decide)
  | 1, 0, h => exact absurd h (by decide)
  | 1, 1, h => exact absurd h (by decide)
  | 1, 2, h => exact absurd h (by decide)
  | 1, k + 5, h => exact absurd h (by rw [show pe_fc 1 (k + 5) = 0 from rfl]; decide)
  | 2, k + 0, h => exact absurd h (by rw [show pe_fc 2 (k + 0) = 0 from rfl]; decide)
  | 3, 0, h => exact absurd h (by decide)
  | 3, 2, h => exact absurd h (by decide)
  | 3, k + 18, h => exact absurd h (by rw [show pe_fc 3 (k + 18) = 0 from rfl]; decide)
  | 4, 1, h => exact absurd h (by decide)
  | 4, 2, h => exact absurd h (by decide)
  | 4, 3, h => exact absurd h (by decide)
  | 4, 4, h => exact absurd h (by decide)
  | 4, k + 6, h => exact absurd h (by rw [show pe_fc 4 (k + 6) = 0 from rfl]; decide)
  | 5, 0, h => exact absurd h (by decide)
  | 5, k + 2, h => exact absurd h (by rw [show pe_fc 5 (k + 2) = 0 from rfl]; decide)
  | 6, 0, h => exact absurd h (by decide)
  | 6, k + 2, h => exact absurd h (by rw [show pe_fc 6 (k + 2) = 0 from rfl]; decide)
  | 7, 1, h => exact absurd h (by decide)
  | 7, 2, h => exact absurd h (by decide)
  | 7, 7, h => exact absurd h (by decide)
  | 7, 8, h => exact absurd h (by decide)
  | 7, 9, h => exact absurd h (by decide)
  | 7, 11, h => exact absurd h (by decide)
  | 7, 12, h => exact absurd h (by decide)
  | 7, 13, h => exact absurd h (by decide)
  | 7, 14, h => exact absurd h (by decide)
  | 7, k + 16, h => exact absurd h (by rw [show pe_fc 7 (k + 16) = 0 from rfl]; decide)
  | 8, 0, h => exact absurd h (by decide)
  | 8, 1, h => exact absurd h (by decide)
  | 8, 2, h => exact absurd h (by decide)
  | 8, 3, h => exact absurd h (by decide)
  | 8, 4, h => exact absurd h (by decide)
  | 8, 5, h => exact absurd h (by decide)
  | 8, k + 6, h => exact absurd h (by rw [show pe_fc 8 (k + 6) = 0 from rfl]; decide)
  | 9, k + 0, h => exact absurd h (by rw [show pe_fc 9 (k + 0) = 0 from rfl]; decide)
  | c + 10, k, h => exact absurd h (by rw [pe_fc_hi (by omega)]; decide)
theorem pe_fr2 (c k : Nat) (h : pe_fc c k = 2) (q n : Nat) (I A : Nat → Int32) (L : Nat → Int64) (R : Option Nat) (P : Nat → Option Nat) : c = 3 ∧ k = 2 ∧ ∃ fs : List Value, rn_e0 c q n I A L R P = .inr (c, fs) ∧ fs[k]? = some (va_rf R) ∧ Nat.blt k fs.length = true ∧ ∀ x : Option Nat, rn_e0 c q n I A L x P = .inr (c, fs.set k (va_rf x)) := by
  match c, k, h with
  | 0, 0, h => exact absurd h (by decide)
  | 0, 1, h => exact absurd h (by decide)
  | 0, k + 2, h => exact absurd h (by rw [show pe_fc 0 (k + 2) = 0 from rfl]; decide)
  | 1, 0, h => exact absurd h (by decide)
  | 1, 1, h => exact absurd h (by decide)
  | 1, 2, h => exact absurd h (by decide)
  | 1, 3, h => exact absurd h (by decide)
  | 1, 4, h => exact absurd h (by decide)
  | 1, k + 5, h => exact absurd h (by rw [show pe_fc 1 (k + 5) = 0 from rfl]; decide)
  | 2, k + 0, h => exact absurd h (by rw [show pe_fc 2 (k + 0) = 0 from rfl]; decide)
  | 3, 0, h => exact absurd h (by decide)
  | 3, 1, h => exact absurd h (by decide)
  | 3, 2, _ => exact ⟨rfl, rfl, _, rfl, rfl, rfl, fun _ => rfl⟩
  | 3, 3, h => exact absurd h (by decide)
  | 3, 4, h => exact absurd h (by decide)
  | 3, 5, h => exact absurd h (by decide)
  | 3, 6, h => exact absurd h (by decide)
  | 3, 7, h => exact absurd h (by decide)
  | 3, 8, h => exact absurd h (by decide)
  | 3, 9, h => exact absurd h (by decide)
  | 3, 10, h => exact absurd h (by decide)
  | 3, 11, h => exact absurd h (by decide)
  | 3, 12, h => exact absurd h (by decide)
  | 3, 13, h => exact absurd h (by decide)
  | 3, 14, h => exact absurd h (by decide)
  | 3, 15, h => exact absurd h (by decide)
  | 3, 16, h => exact absurd h (by decide)
  | 3, 17, h => exact absurd h (by decide)
  | 3, k + 18, h => exact absurd h (by rw [show pe_fc 3 (k + 18) = 0 from rfl]; decide)
  | 4, 0, h => exact absurd h (by decide)
  | 4, 1, h => exact absurd h (by decide)
  | 4, 2, h => exact absurd h (by decide)
  | 4, 3, h => exact absurd h (by decide)
  | 4, 4, h => exact absurd h (by decide)
  | 4, 5, h => exact absurd h (by decide)
  | 4, k + 6, h => exact absurd h (by rw [show pe_fc 4 (k + 6) = 0 from rfl]; decide)
  | 5, 0, h => exact absurd h (by decide)
  | 5, 1, h => exact absurd h (by decide)
  | 5, k + 2, h => exact absurd h (by rw [show pe_fc 5 (k + 2) = 0 from rfl]; decide)
  | 6, 0, h => exact absurd h (by decide)
  | 6, 1, h => exact absurd h (by decide)
  | 6, k + 2, h => exact absurd h (by rw [show pe_fc 6 (k + 2) = 0 from rfl]; decide)
  | 7, 0, h => exact absurd h (by decide)
  | 7, 1, h => exact absurd h (by decide)
  | 7, 2, h => exact absurd h (by decide)
  | 7, 3, h => exact absurd h (by decide)
  | 7, 4, h => exact absurd h (by decide)
  | 7, 5, h => exact absurd h (by decide)
  | 7, 6, h => exact absurd h (by decide)
  | 7, 7, h => exact absurd h (by decide)
  | 7, 8, h => exact absurd h (by decide)
  | 7, 9, h => exact absurd h (by decide)
  | 7, 10, h => exact absurd h (by decide)
  | 7, 11, h => exact absurd h (by decide)
  | 7, 12, h => exact absurd h (by decide)
  | 7, 13, h => exact absurd h (by decide)
  | 7, 14, h => exact absurd h (by decide)
  | 7, 15, h => exact absurd h (by decide)
  | 7, k + 16, h => exact absurd h (by rw [show pe_fc 7 (k + 16) = 0 from rfl]; decide)
  | 8, 0, h => exact absurd h (by decide)
  | 8, 1, h => exact absurd h (by decide)
  | 8, 2, h => exact absurd h (by decide)
  | 8, 3, h => exact absurd h (by decide)
  | 8, 4, h => exact absurd h (by decide)
  | 8, 5, h => exact absurd h (by decide)
  | 8, k + 6, h => exact absurd h (by rw [show pe_fc 8 (k + 6) = 0 from rfl]; decide)
  | 9, k + 0, h => exact absurd h (by rw [show pe_fc 9 (k + 0) = 0 from rfl]; decide)
  | c + 10, k, h => exact absurd h (by rw [pe_fc_hi (by omega)]; decide)
theorem pe_fo (c k o : Nat) (h : pe_fc c k = o + 3) (q n : Nat) (I A : Nat → Int32) (L : Nat → Int64) (R : Option Nat) (P : Nat → Option Nat) : ∃ fs : List Value, rn_e0 c q n I A L R P = .inr (c, fs) ∧ fs[k]? = some (.ref (q + o)) := by
  match c, k, h with
  | 0, 0, h => obtain rfl : o = 1 := by { have h : 4 = o + 3 := h; omega }; exact ⟨_, rfl, rfl⟩
  | 0, 1, h => obtain rfl : o = 2 := by { have h : 5 = o + 3 := h; omega }; exact ⟨_, rfl, rfl⟩
  | 0, k + 2, h => exact absurd h (by rw [show pe_fc 0 (k + 2) = 0 from rfl]; omega)
  | 1, 0, h => obtain rfl : o = 1 := by { have h : 4 = o + 3 := h; omega }; exact ⟨_, rfl, rfl⟩
  | 1, 1, h => obtain rfl : o = 2 := by { have h : 5 = o + 3 := h; omega }; exact ⟨_, rfl, rfl⟩
  | 1, 2, h => obtain rfl : o = 3 := by { have h : 6 = o + 3 := h; omega }; exact ⟨_, rfl, rfl⟩
  | 1, 3, h => exact absurd h (by rw [show pe_fc 1 3 = 1 from rfl]; omega)
  | 1, 4, h => exact absurd h (by rw [show pe_fc 1 4 = 1 from rfl]; omega)
  | 1, k + 5, h => exact absurd h (by rw [show pe_fc 1 (k + 5) = 0 from rfl]; omega)
  | 2, k + 0, h => exact absurd h (by rw [show pe_fc 2 (k + 0) = 0 from rfl]; omega)
  | 3, 0, h => obtain rfl : o = 1 := by { have h : 4 = o + 3 := h; omega }; exact ⟨_, rfl, rfl⟩
  | 3, 1, h => exact absurd h (by rw [show pe_fc 3 1 = 1 from rfl]; omega)
  | 3, 2, h => exact absurd h (by rw [show pe_fc 3 2 = 2 from rfl]; omega)
  | 3, 3, h => exact absurd h (by rw [show pe_fc 3 3 = 1 from rfl]; omega)
  | 3, 4, h => exact absurd h (by rw [show pe_fc 3 4 = 1 from rfl]; omega)
  | 3, 5, h => exact absurd h (by rw [show pe_fc 3 5 = 1 from rfl]; omega)
  | 3, 6, h => exact absurd h (by rw [show pe_fc 3 6 = 1 from rfl]; omega)
  | 3, 7, h => exact absurd h (by rw [show pe_fc 3 7 = 1 from rfl]; omega)
  | 3, 8, h => exact absurd h (by rw [show pe_fc 3 8 = 1 from rfl]; omega)
  | 3, 9, h => exact absurd h (by rw [show pe_fc 3 9 = 1 from rfl]; omega)
  | 3, 10, h => exact absurd h (by rw [show pe_fc 3 10 = 1 from rfl]; omega)
  | 3, 11, h => exact absurd h (by rw [show pe_fc 3 11 = 1 from rfl]; omega)
  | 3, 12, h => exact absurd h (by rw [show pe_fc 3 12 = 1 from rfl]; omega)
  | 3, 13, h => exact absurd h (by rw [show pe_fc 3 13 = 1 from rfl]; omega)
  | 3, 14, h => exact absurd h (by rw [show pe_fc 3 14 = 1 from rfl]; omega)
  | 3, 15, h => exact absurd h (by rw [show pe_fc 3 15 = 1 from rfl]; omega)
  | 3, 16, h => exact absurd h (by rw [show pe_fc 3 16 = 1 from rfl]; omega)
  | 3, 17, h => exact absurd h (by rw [show pe_fc 3 17 = 1 from rfl]; omega)
  | 3, k + 18, h => exact absurd h (by rw [show pe_fc 3 (k + 18) = 0 from rfl]; omega)
  | 4, 0, h => exact absurd h (by rw [show pe_fc 4 0 = 1 from rfl]; omega)
  | 4, 1, h => obtain rfl : o = 1 := by { have h : 4 = o + 3 := h; omega }; exact ⟨_, rfl, rfl⟩
  | 4, 2, h => obtain rfl : o = 2 := by { have h : 5 = o + 3 := h; omega }; exact ⟨_, rfl, rfl⟩
  | 4, 3, h => obtain rfl : o = 3 := by { have h : 6 = o + 3 := h; omega }; exact ⟨_, rfl, rfl⟩
  | 4, 4, h => obtain rfl : o = 4 := by { have h : 7 = o + 3 := h; omega }; exact ⟨_, rfl, rfl⟩
  | 4, 5, h => exact absurd h (by rw [show pe_fc 4 5 = 1 from rfl]; omega)
  | 4, k + 6, h => exact absurd h (by rw [show pe_fc 4 (k + 6) = 0 from rfl]; omega)
  | 5, 0, h => obtain rfl : o = 1 := by { have h : 4 = o + 3 := h; omega }; exact ⟨_, rfl, rfl⟩
  | 5, 1, h => exact absurd h (by rw [show pe_fc 5 1 = 1 from rfl]; omega)
  | 5, k + 2, h => exact absurd h (by rw [show pe_fc 5 (k + 2) = 0 from rfl]; omega)
  | 6, 0, h => obtain rfl : o = 1 := by { have h : 4 = o + 3 := h; omega }; exact ⟨_, rfl, rfl⟩
  | 6, 1, h => exact absurd h (by rw [show pe_fc 6 1 = 1 from rfl]; omega)
  | 6, k + 2, h => exact absurd h (by rw [show pe_fc 6 (k + 2) = 0 from rfl]; omega)
  | 7, 0, h => exact absurd h (by rw [show pe_fc 7 0 = 1 from rfl]; omega)
  | 7, 1, h => obtain rfl : o = 1 := by { have h : 4 = o + 3 := h; omega }; exact ⟨_, rfl, rfl⟩
  | 7, 2, h => obtain rfl : o = 2 := by { have h : 5 = o + 3 := h; omega }; exact ⟨_, rfl, rfl⟩
  | 7, 3, h => exact absurd h (by rw [show pe_fc 7 3 = 1 from rfl]; omega)
  | 7, 4, h => exact absurd h (by rw [show pe_fc 7 4 = 1 from rfl]; omega)
  | 7, 5, h => exact absurd h (by rw [show pe_fc 7 5 = 1 from rfl]; omega)
  | 7, 6, h => exact absurd h (by rw [show pe_fc 7 6 = 1 from rfl]; omega)
  | 7, 7, h => obtain rfl : o = 3 := by { have h : 6 = o + 3 := h; omega }; exact ⟨_, rfl, rfl⟩
  | 7, 8, h => obtain rfl : o = 4 := by { have h : 7 = o + 3 := h; omega }; exact ⟨_, rfl, rfl⟩
  | 7, 9, h => obtain rfl : o = 5 := by { have h : 8 = o + 3 := h; omega }; exact ⟨_, rfl, rfl⟩
  | 7, 10, h => exact absurd h (by rw [show pe_fc 7 10 = 1 from rfl]; omega)
  | 7, 11, h => obtain rfl : o = 6 := by { have h : 9 = o + 3 := h; omega }; exact ⟨_, rfl, rfl⟩
  | 7, 12, h => obtain rfl : o = 7 := by { have h : 10 = o + 3 := h; omega }; exact ⟨_, rfl, rfl⟩
  | 7, 13, h => obtain rfl : o = 8 := by { have h : 11 = o + 3 := h; omega }; exact ⟨_, rfl, rfl⟩
  | 7, 14, h => obtain rfl : o = 9 := by { have h : 12 = o + 3 := h; omega }; exact ⟨_, rfl, rfl⟩
  | 7, 15, h => exact absurd h (by rw [show pe_fc 7 15 = 1 from rfl]; omega)
  | 7, k + 16, h => exact absurd h (by rw [show pe_fc 7 (k + 16) = 0 from rfl]; omega)
  | 8, 0, h => obtain rfl : o = 1 := by { have h : 4 = o + 3 := h; omega }; exact ⟨_, rfl, rfl⟩
  | 8, 1, h => obtain rfl : o = 21 := by { have h : 24 = o + 3 := h; omega }; exact ⟨_, rfl, rfl⟩
  | 8, 2, h => obtain rfl : o = 22 := by { have h : 25 = o + 3 := h; omega }; exact ⟨_, rfl, rfl⟩
  | 8, 3, h => obtain rfl : o = 23 := by { have h : 26 = o + 3 := h; omega }; exact ⟨_, rfl, rfl⟩
  | 8, 4, h => obtain rfl : o = 66 := by { have h : 69 = o + 3 := h; omega }; exact ⟨_, rfl, rfl⟩
  | 8, 5, h => obtain rfl : o = 276 := by { have h : 279 = o + 3 := h; omega }; exact ⟨_, rfl, rfl⟩
  | 8, k + 6, h => exact absurd h (by rw [show pe_fc 8 (k + 6) = 0 from rfl]; omega)
  | 9, k + 0, h => exact absurd h (by rw [show pe_fc 9 (k + 0) = 0 from rfl]; omega)
  | c + 10, k, h => exact absurd h (by rw [pe_fc_hi (by omega)]; omega)
theorem pe_bl_ob : ∀ q, q < 278 → rn_kd q < 10 → ∀ k, k < 18 → pe_fc (rn_kd q) k ≠ 0 → k < pe_bl q := by decide +kernel
