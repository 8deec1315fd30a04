/-! THE HEAP WITH ITS SHAPE: entries 0 to 317 the class, 318 to 319 the reference -/
/-- what can change: fields of ints, int (and truth) arrays, long arrays, parents, arrays of references -/
abbrev rn_T : Type := (Nat → Nat → Int32) × (Nat → Nat → Int32) × (Nat → Nat → Int64) × (Nat → Option Nat) × (Nat → Nat → Option Nat)
def rI (S : rn_T) (q : Nat) : Nat → Int32 := S.1 q
def rA (S : rn_T) (q : Nat) : Nat → Int32 := S.2.1 q
def rL (S : rn_T) (q : Nat) : Nat → Int64 := S.2.2.1 q
def rR (S : rn_T) (q : Nat) : Option Nat := S.2.2.2.1 q
def rP (S : rn_T) (q : Nat) : Nat → Option Nat := S.2.2.2.2 q
def wI (S : rn_T) (q k : Nat) (v : Int32) : rn_T := (va_up S.1 q (va_up (S.1 q) k v), S.2)
def wA (S : rn_T) (q k : Nat) (v : Int32) : rn_T := (S.1, va_up S.2.1 q (upd (S.2.1 q) k v), S.2.2)
def wL (S : rn_T) (q k : Nat) (v : Int64) : rn_T := (S.1, S.2.1, va_up S.2.2.1 q (vp_updL (S.2.2.1 q) k v), S.2.2.2)
def wR (S : rn_T) (q : Nat) (v : Option Nat) : rn_T := (S.1, S.2.1, S.2.2.1, va_up S.2.2.2.1 q v, S.2.2.2.2)
def wP (S : rn_T) (q k : Nat) (v : Option Nat) : rn_T := (S.1, S.2.1, S.2.2.1, S.2.2.2.1, va_up S.2.2.2.2 q (va_up (S.2.2.2.2 q) k v))
def wAc (S : rn_T) (q : Nat) (f : Nat → Int32) : rn_T := (S.1, va_up S.2.1 q f, S.2.2)
def wLc (S : rn_T) (q : Nat) (f : Nat → Int64) : rn_T := (S.1, S.2.1, va_up S.2.2.1 q f, S.2.2.2)
def rn_ka : List Nat := [8, 1, 20, 11, 10, 5, 10, 5, 10, 5, 10, 5, 10, 5, 10, 5, 10, 5, 10, 5, 10, 21, 12, 0, 22, 12, 4, 10, 10, 10, 10, 4, 10, 10, 10, 10, 4, 10, 10, 10, 10, 4, 10, 10, 10, 10, 4, 10, 10, 10, 10, 4, 10, 10, 10, 10, 4, 10, 10, 10, 10, 4, 10, 10, 10, 10, 7, 23, 12, 10, 10, 10, 14, 10, 10, 10]
def rn_kb : List Nat := [6, 11, 1, 20, 11, 10, 5, 10, 5, 10, 5, 10, 5, 10, 5, 10, 5, 10, 5, 10, 5, 10, 1, 20, 11, 10, 5, 10, 5, 10, 5, 10, 5, 10, 5, 10, 5, 10, 5, 10, 5, 10, 10, 10]
def rn_la_ : List Nat := [0, 0, 8, 60, 96, 0, 40, 0, 40, 0, 40, 0, 40, 0, 40, 0, 40, 0, 40, 0, 40, 2, 2, 0, 8, 8, 0, 40, 40, 40, 40, 0, 40, 40, 40, 40, 0, 40, 40, 40, 40, 0, 40, 40, 40, 40, 0, 40, 40, 40, 40, 0, 40, 40, 40, 40, 0, 40, 40, 40, 40, 0, 40, 40, 40, 40, 0, 100, 64, 501, 501, 501, 100, 100, 100, 100]
def rn_lb_ : List Nat := [0, 100, 0, 8, 60, 96, 0, 40, 0, 40, 0, 40, 0, 40, 0, 40, 0, 40, 0, 40, 0, 40, 0, 8, 60, 96, 0, 40, 0, 40, 0, 40, 0, 40, 0, 40, 0, 40, 0, 40, 0, 40, 8, 12]
def rn_kd (q : Nat) : Nat := match Nat.blt q 76 with
  | true => rn_ka.getD q 99
  | false => match Nat.blt q 276 with
    | true => match q % 2 with
      | 0 => 3
      | _ => 14
    | false => rn_kb.getD (q - 276) 99
def rn_ln_ (q : Nat) : Nat := match Nat.blt q 76 with
  | true => rn_la_.getD q 0
  | false => match Nat.blt q 276 with
    | true => 6
    | false => rn_lb_.getD (q - 276) 0
def rn_cr (n b s : Nat) : Nat → Option Nat := fun i => if i < n then some (b + s * i) else none
def rn_e0 (kd q n : Nat) (I : Nat → Int32) (A : Nat → Int32) (L : Nat → Int64) (R : Option Nat) (P : Nat → Option Nat) : rn_E := match kd with
  | 0 => .inr (0, [.ref (q + 1), .ref (q + 2)])
  | 1 => .inr (1, [.ref (q + 1), .ref (q + 2), .ref (q + 3), .int (I 3), .int (I 4)])
  | 3 => .inr (3, [.ref (q + 1), .int (I 1), va_rf (R), .int (I 3), .int (I 4), .int (I 5), .int (I 6), .int (I 7), .int (I 8), .int (I 9), .int (I 10), .int (I 11), .int (I 12), .int (I 13), .int (I 14), .int (I 15), .int (I 16), .int (I 17)])
  | 4 => .inr (4, [.int (I 0), .ref (q + 1), .ref (q + 2), .ref (q + 3), .ref (q + 4), .int (I 5)])
  | 5 => .inr (5, [.ref (q + 1), .int (I 1)])
  | 6 => .inr (6, [.ref (q + 1), .int (I 1)])
  | 7 => .inr (7, [.int (I 0), .ref (q + 1), .ref (q + 2), .int (I 3), .int (I 4), .int (I 5), .int (I 6), .ref (q + 3), .ref (q + 4), .ref (q + 5), .int (I 10), .ref (q + 6), .ref (q + 7), .ref (q + 8), .ref (q + 9), .int (I 15)])
  | 8 => .inr (8, [.ref (q + 1), .ref (q + 21), .ref (q + 22), .ref (q + 23), .ref (q + 66), .ref (q + 276)])
  | 10 => .inl (0, n, .inl A)
  | 11 => .inl (1, n, .inr (.inl L))
  | 12 => .inl (2, n, .inl A)
  | 14 => .inl (4, n, .inr (.inr (.inr (.inr P))))
  | 20 => .inl (6, 8, .inr (.inr (.inr (.inr (rn_cr 8 (q + 3) 2)))))
  | 21 => .inl (3, 2, .inr (.inr (.inr (.inr (rn_cr 2 (q + 257) 20)))))
  | 22 => .inl (5, 8, .inr (.inr (.inr (.inr (rn_cr 8 (q + 2) 5)))))
  | 23 => .inl (4, 100, .inr (.inr (.inr (.inr (rn_cr 100 (q + 9) 2)))))
  | _ => .inr (999999, [])
def rn_en (S : rn_T) (q : Nat) : rn_E := rn_e0 (rn_kd q) q (rn_ln_ q) (S.1 q) (S.2.1 q) (S.2.2.1 q) (S.2.2.2.1 q) (S.2.2.2.2 q)
def rn_hp (S M : rn_T) : rn_H := fun q => match Nat.blt q 318 with
  | true => rn_en S q
  | false => rn_en M q
theorem rn_blt {a b : Nat} (h : a < b) : Nat.blt a b = true := Nat.ble_eq.mpr h
theorem rn_nblt {a b : Nat} (h : b ≤ a) : Nat.blt a b = false := by
  cases hb : Nat.blt a b with
  | false => rfl
  | true => have := Nat.le_of_ble_eq_true hb; omega
theorem rn_hp_x {S M : rn_T} {q : Nat} (h : q < 318) : rn_hp S M q = rn_en S q := by simp only [rn_hp, rn_blt h]
theorem rn_hp_m {S M : rn_T} {q : Nat} (h : 318 ≤ q) : rn_hp S M q = rn_en M q := by simp only [rn_hp, rn_nblt h]
theorem rn_kd_big {q : Nat} (h : 320 ≤ q) : rn_kd q = 99 := by
  unfold rn_kd
  rw [rn_nblt (show 76 ≤ q by omega), rn_nblt (show 276 ≤ q by omega)]
  simp only
  rw [List.getD_eq_getElem?_getD, List.getElem?_eq_none (by have e : rn_kb.length = 44 := rfl; omega)]
  rfl
theorem rn_up_eq {h h2 : rn_H} {q : Nat} {e : rn_E} (hq : h2 q = e) (ho : ∀ j, j ≠ q → h2 j = h j) : rn_up h q e = h2 := by
  funext j
  by_cases hj : j = q
  · subst hj; rw [rn_up_s, hq]
  · rw [rn_up_n hj, ho j hj]
theorem rn_vs {α : Type} {f : Nat → α} {q : Nat} {v : α} : va_up f q v q = v := if_pos rfl
theorem rn_vn {α : Type} {f : Nat → α} {q j : Nat} {v : α} (h : j ≠ q) : va_up f q v j = f j := if_neg h
theorem rn_en_wI {S : rn_T} {q j : Nat} {k : Nat} {v : Int32} (h : j ≠ q) : rn_en (wI S q k v) j = rn_en S j := by simp only [rn_en, wI, rn_vn h]
theorem rn_en_sI {S : rn_T} {q : Nat} {k : Nat} {v : Int32} : rn_en (wI S q k v) q = rn_e0 (rn_kd q) q (rn_ln_ q) (va_up (S.1 q) k v) (S.2.1 q) (S.2.2.1 q) (S.2.2.2.1 q) (S.2.2.2.2 q) := by simp only [rn_en, wI, rn_vs]
theorem rn_hx_I {S M : rn_T} {q : Nat} {k : Nat} {v : Int32} {e : rn_E} (hq : q < 318) (he : rn_e0 (rn_kd q) q (rn_ln_ q) (va_up (S.1 q) k v) (S.2.1 q) (S.2.2.1 q) (S.2.2.2.1 q) (S.2.2.2.2 q) = e) : rn_up (rn_hp S M) q e = rn_hp (wI S q k v) M := by
  refine rn_up_eq ?_ (fun j hj => ?_)
  · rw [rn_hp_x hq, rn_en_sI]; exact he
  · unfold rn_hp
    rw [rn_en_wI hj]
theorem rn_hm_I {S M : rn_T} {q : Nat} {k : Nat} {v : Int32} {e : rn_E} (hq : 318 ≤ q) (he : rn_e0 (rn_kd q) q (rn_ln_ q) (va_up (S.1 q) k v) (S.2.1 q) (S.2.2.1 q) (S.2.2.2.1 q) (S.2.2.2.2 q) = e) : rn_up (rn_hp M S) q e = rn_hp M (wI S q k v) := by
  refine rn_up_eq ?_ (fun j hj => ?_)
  · rw [rn_hp_m hq, rn_en_sI]; exact he
  · unfold rn_hp
    rw [rn_en_wI hj]
theorem rn_en_wA {S : rn_T} {q j : Nat} {k : Nat} {v : Int32} (h : j ≠ q) : rn_en (wA S q k v) j = rn_en S j := by simp only [rn_en, wA, rn_vn h]
theorem rn_en_sA {S : rn_T} {q : Nat} {k : Nat} {v : Int32} : rn_en (wA S q k v) q = rn_e0 (rn_kd q) q (rn_ln_ q) (S.1 q) (upd (S.2.1 q) k v) (S.2.2.1 q) (S.2.2.2.1 q) (S.2.2.2.2 q) := by simp only [rn_en, wA, rn_vs]
theorem rn_hx_A {S M : rn_T} {q : Nat} {k : Nat} {v : Int32} {e : rn_E} (hq : q < 318) (he : rn_e0 (rn_kd q) q (rn_ln_ q) (S.1 q) (upd (S.2.1 q) k v) (S.2.2.1 q) (S.2.2.2.1 q) (S.2.2.2.2 q) = e) : rn_up (rn_hp S M) q e = rn_hp (wA S q k v) M := by
  refine rn_up_eq ?_ (fun j hj => ?_)
  · rw [rn_hp_x hq, rn_en_sA]; exact he
  · unfold rn_hp
    rw [rn_en_wA hj]
theorem rn_hm_A {S M : rn_T} {q : Nat} {k : Nat} {v : Int32} {e : rn_E} (hq : 318 ≤ q) (he : rn_e0 (rn_kd q) q (rn_ln_ q) (S.1 q) (upd (S.2.1 q) k v) (S.2.2.1 q) (S.2.2.2.1 q) (S.2.2.2.2 q) = e) : rn_up (rn_hp M S) q e = rn_hp M (wA S q k v) := by
  refine rn_up_eq ?_ (fun j hj => ?_)
  · rw [rn_hp_m hq, rn_en_sA]; exact he
  · unfold rn_hp
    rw [rn_en_wA hj]
theorem rn_en_wL {S : rn_T} {q j : Nat} {k : Nat} {v : Int64} (h : j ≠ q) : rn_en (wL S q k v) j = rn_en S j := by simp only [rn_en, wL, rn_vn h]
theorem rn_en_sL {S : rn_T} {q : Nat} {k : Nat} {v : Int64} : rn_en (wL S q k v) q = rn_e0 (rn_kd q) q (rn_ln_ q) (S.1 q) (S.2.1 q) (vp_updL (S.2.2.1 q) k v) (S.2.2.2.1 q) (S.2.2.2.2 q) := by simp only [rn_en, wL, rn_vs]
theorem rn_hx_L {S M : rn_T} {q : Nat} {k : Nat} {v : Int64} {e : rn_E} (hq : q < 318) (he : rn_e0 (rn_kd q) q (rn_ln_ q) (S.1 q) (S.2.1 q) (vp_updL (S.2.2.1 q) k v) (S.2.2.2.1 q) (S.2.2.2.2 q) = e) : rn_up (rn_hp S M) q e = rn_hp (wL S q k v) M := by
  refine rn_up_eq ?_ (fun j hj => ?_)
  · rw [rn_hp_x hq, rn_en_sL]; exact he
  · unfold rn_hp
    rw [rn_en_wL hj]
theorem rn_hm_L {S M : rn_T} {q : Nat} {k : Nat} {v : Int64} {e : rn_E} (hq : 318 ≤ q) (he : rn_e0 (rn_kd q) q (rn_ln_ q) (S.1 q) (S.2.1 q) (vp_updL (S.2.2.1 q) k v) (S.2.2.2.1 q) (S.2.2.2.2 q) = e) : rn_up (rn_hp M S) q e = rn_hp M (wL S q k v) := by
  refine rn_up_eq ?_ (fun j hj => ?_)
  · rw [rn_hp_m hq, rn_en_sL]; exact he
  · unfold rn_hp
    rw [rn_en_wL hj]
theorem rn_en_wR {S : rn_T} {q j : Nat} {k : Nat} {v : Option Nat} (h : j ≠ q) : rn_en (wR S q v) j = rn_en S j := by simp only [rn_en, wR, rn_vn h]
theorem rn_en_sR {S : rn_T} {q : Nat} {k : Nat} {v : Option Nat} : rn_en (wR S q v) q = rn_e0 (rn_kd q) q (rn_ln_ q) (S.1 q) (S.2.1 q) (S.2.2.1 q) v (S.2.2.2.2 q) := by simp only [rn_en, wR, rn_vs]
theorem rn_hx_R {S M : rn_T} {q : Nat} {k : Nat} {v : Option Nat} {e : rn_E} (hq : q < 318) (he : rn_e0 (rn_kd q) q (rn_ln_ q) (S.1 q) (S.2.1 q) (S.2.2.1 q) v (S.2.2.2.2 q) = e) : rn_up (rn_hp S M) q e = rn_hp (wR S q v) M := by
  refine rn_up_eq ?_ (fun j hj => ?_)
  · rw [rn_hp_x hq, rn_en_sR (k := k)]; exact he
  · unfold rn_hp
    rw [rn_en_wR (k := k) hj]
theorem rn_hm_R {S M : rn_T} {q : Nat} {k : Nat} {v : Option Nat} {e : rn_E} (hq : 318 ≤ q) (he : rn_e0 (rn_kd q) q (rn_ln_ q) (S.1 q) (S.2.1 q) (S.2.2.1 q) v (S.2.2.2.2 q) = e) : rn_up (rn_hp M S) q e = rn_hp M (wR S q v) := by
  refine rn_up_eq ?_ (fun j hj => ?_)
  · rw [rn_hp_m hq, rn_en_sR (k := k)]; exact he
  · unfold rn_hp
    rw [rn_en_wR (k := k) hj]
theorem rn_en_wP {S : rn_T} {q j : Nat} {k : Nat} {v : Option Nat} (h : j ≠ q) : rn_en (wP S q k v) j = rn_en S j := by simp only [rn_en, wP, rn_vn h]
theorem rn_en_sP {S : rn_T} {q : Nat} {k : Nat} {v : Option Nat} : rn_en (wP S q k v) q = rn_e0 (rn_kd q) q (rn_ln_ q) (S.1 q) (S.2.1 q) (S.2.2.1 q) (S.2.2.2.1 q) (va_up (S.2.2.2.2 q) k v) := by simp only [rn_en, wP, rn_vs]
theorem rn_hx_P {S M : rn_T} {q : Nat} {k : Nat} {v : Option Nat} {e : rn_E} (hq : q < 318) (he : rn_e0 (rn_kd q) q (rn_ln_ q) (S.1 q) (S.2.1 q) (S.2.2.1 q) (S.2.2.2.1 q) (va_up (S.2.2.2.2 q) k v) = e) : rn_up (rn_hp S M) q e = rn_hp (wP S q k v) M := by
  refine rn_up_eq ?_ (fun j hj => ?_)
  · rw [rn_hp_x hq, rn_en_sP]; exact he
  · unfold rn_hp
    rw [rn_en_wP hj]
theorem rn_hm_P {S M : rn_T} {q : Nat} {k : Nat} {v : Option Nat} {e : rn_E} (hq : 318 ≤ q) (he : rn_e0 (rn_kd q) q (rn_ln_ q) (S.1 q) (S.2.1 q) (S.2.2.1 q) (S.2.2.2.1 q) (va_up (S.2.2.2.2 q) k v) = e) : rn_up (rn_hp M S) q e = rn_hp M (wP S q k v) := by
  refine rn_up_eq ?_ (fun j hj => ?_)
  · rw [rn_hp_m hq, rn_en_sP]; exact he
  · unfold rn_hp
    rw [rn_en_wP hj]
theorem rn_en_wAc {S : rn_T} {q j : Nat} {k : Nat} {v : Nat → Int32} (h : j ≠ q) : rn_en (wAc S q v) j = rn_en S j := by simp only [rn_en, wAc, rn_vn h]
theorem rn_en_sAc {S : rn_T} {q : Nat} {k : Nat} {v : Nat → Int32} : rn_en (wAc S q v) q = rn_e0 (rn_kd q) q (rn_ln_ q) (S.1 q) v (S.2.2.1 q) (S.2.2.2.1 q) (S.2.2.2.2 q) := by simp only [rn_en, wAc, rn_vs]
theorem rn_hx_Ac {S M : rn_T} {q : Nat} {k : Nat} {v : Nat → Int32} {e : rn_E} (hq : q < 318) (he : rn_e0 (rn_kd q) q (rn_ln_ q) (S.1 q) v (S.2.2.1 q) (S.2.2.2.1 q) (S.2.2.2.2 q) = e) : rn_up (rn_hp S M) q e = rn_hp (wAc S q v) M := by
  refine rn_up_eq ?_ (fun j hj => ?_)
  · rw [rn_hp_x hq, rn_en_sAc (k := k)]; exact he
  · unfold rn_hp
    rw [rn_en_wAc (k := k) hj]
theorem rn_hm_Ac {S M : rn_T} {q : Nat} {k : Nat} {v : Nat → Int32} {e : rn_E} (hq : 318 ≤ q) (he : rn_e0 (rn_kd q) q (rn_ln_ q) (S.1 q) v (S.2.2.1 q) (S.2.2.2.1 q) (S.2.2.2.2 q) = e) : rn_up (rn_hp M S) q e = rn_hp M (wAc S q v) := by
  refine rn_up_eq ?_ (fun j hj => ?_)
  · rw [rn_hp_m hq, rn_en_sAc (k := k)]; exact he
  · unfold rn_hp
    rw [rn_en_wAc (k := k) hj]
theorem rn_en_wLc {S : rn_T} {q j : Nat} {k : Nat} {v : Nat → Int64} (h : j ≠ q) : rn_en (wLc S q v) j = rn_en S j := by simp only [rn_en, wLc, rn_vn h]
theorem rn_en_sLc {S : rn_T} {q : Nat} {k : Nat} {v : Nat → Int64} : rn_en (wLc S q v) q = rn_e0 (rn_kd q) q (rn_ln_ q) (S.1 q) (S.2.1 q) v (S.2.2.2.1 q) (S.2.2.2.2 q) := by simp only [rn_en, wLc, rn_vs]
theorem rn_hx_Lc {S M : rn_T} {q : Nat} {k : Nat} {v : Nat → Int64} {e : rn_E} (hq : q < 318) (he : rn_e0 (rn_kd q) q (rn_ln_ q) (S.1 q) (S.2.1 q) v (S.2.2.2.1 q) (S.2.2.2.2 q) = e) : rn_up (rn_hp S M) q e = rn_hp (wLc S q v) M := by
  refine rn_up_eq ?_ (fun j hj => ?_)
  · rw [rn_hp_x hq, rn_en_sLc (k := k)]; exact he
  · unfold rn_hp
    rw [rn_en_wLc (k := k) hj]
theorem rn_hm_Lc {S M : rn_T} {q : Nat} {k : Nat} {v : Nat → Int64} {e : rn_E} (hq : 318 ≤ q) (he : rn_e0 (rn_kd q) q (rn_ln_ q) (S.1 q) (S.2.1 q) v (S.2.2.2.1 q) (S.2.2.2.2 q) = e) : rn_up (rn_hp M S) q e = rn_hp M (wLc S q v) := by
  refine rn_up_eq ?_ (fun j hj => ?_)
  · rw [rn_hp_m hq, rn_en_sLc (k := k)]; exact he
  · unfold rn_hp
    rw [rn_en_wLc (k := k) hj]
/-! class 0 -/
theorem rn_lt0 {q : Nat} (hk : rn_kd q = 0) : q < 318 := by
  rcases Nat.lt_or_ge q 320 with h | h
  · exact (by decide +kernel : ∀ q, q < 320 → rn_kd q = 0 → q < 318) q h hk
  · rw [rn_kd_big h] at hk; cases hk
theorem en_0 {S M : rn_T} {q : Nat} (hk : rn_kd q = 0) : rn_hp S M q = .inr (0, [.ref (q + 1), .ref (q + 2)]) := by
  rw [rn_hp_x (rn_lt0 hk)]
  unfold rn_en
  rw [hk]
  rfl
/-! class 1 -/
theorem rn_lt1 {q : Nat} (hk : rn_kd q = 1) : q < 318 := by
  rcases Nat.lt_or_ge q 320 with h | h
  · exact (by decide +kernel : ∀ q, q < 320 → rn_kd q = 1 → q < 318) q h hk
  · rw [rn_kd_big h] at hk; cases hk
theorem en_1 {S M : rn_T} {q : Nat} (hk : rn_kd q = 1) : rn_hp S M q = .inr (1, [.ref (q + 1), .ref (q + 2), .ref (q + 3), .int (rI S q 3), .int (rI S q 4)]) := by
  rw [rn_hp_x (rn_lt1 hk)]
  unfold rn_en
  rw [hk]
  rfl
theorem ko_1_0 {q : Nat} (hk : rn_kd q = 1) : rn_kd (q + 1) = 20 ∧ rn_ln_ (q + 1) = 8 ∧ q + 1 < 318 := by
  rcases Nat.lt_or_ge q 320 with h | h
  · exact (by decide +kernel : ∀ q, q < 320 → rn_kd q = 1 → rn_kd (q + 1) = 20 ∧ rn_ln_ (q + 1) = 8 ∧ q + 1 < 318) q h hk
  · rw [rn_kd_big h] at hk; cases hk
theorem ko_1_1 {q : Nat} (hk : rn_kd q = 1) : rn_kd (q + 2) = 11 ∧ rn_ln_ (q + 2) = 60 ∧ q + 2 < 318 := by
  rcases Nat.lt_or_ge q 320 with h | h
  · exact (by decide +kernel : ∀ q, q < 320 → rn_kd q = 1 → rn_kd (q + 2) = 11 ∧ rn_ln_ (q + 2) = 60 ∧ q + 2 < 318) q h hk
  · rw [rn_kd_big h] at hk; cases hk
theorem ko_1_2 {q : Nat} (hk : rn_kd q = 1) : rn_kd (q + 3) = 10 ∧ rn_ln_ (q + 3) = 96 ∧ q + 3 < 318 := by
  rcases Nat.lt_or_ge q 320 with h | h
  · exact (by decide +kernel : ∀ q, q < 320 → rn_kd q = 1 → rn_kd (q + 3) = 10 ∧ rn_ln_ (q + 3) = 96 ∧ q + 3 < 318) q h hk
  · rw [rn_kd_big h] at hk; cases hk
theorem wf_1_3 {S M : rn_T} {q : Nat} {v : Int32} (hk : rn_kd q = 1) : rn_up (rn_hp S M) q (.inr (1, [.ref (q + 1), .ref (q + 2), .ref (q + 3), .int v, .int (rI S q 4)])) = rn_hp (wI S q 3 v) M := rn_hx_I (rn_lt1 hk) (by rw [hk]; rfl)
theorem wf_1_4 {S M : rn_T} {q : Nat} {v : Int32} (hk : rn_kd q = 1) : rn_up (rn_hp S M) q (.inr (1, [.ref (q + 1), .ref (q + 2), .ref (q + 3), .int (rI S q 3), .int v])) = rn_hp (wI S q 4 v) M := rn_hx_I (rn_lt1 hk) (by rw [hk]; rfl)
/-! class 3 -/
theorem rn_lt3 {q : Nat} (hk : rn_kd q = 3) : q < 318 := by
  rcases Nat.lt_or_ge q 320 with h | h
  · exact (by decide +kernel : ∀ q, q < 320 → rn_kd q = 3 → q < 318) q h hk
  · rw [rn_kd_big h] at hk; cases hk
theorem en_3 {S M : rn_T} {q : Nat} (hk : rn_kd q = 3) : rn_hp S M q = .inr (3, [.ref (q + 1), .int (rI S q 1), va_rf (rR S q), .int (rI S q 3), .int (rI S q 4), .int (rI S q 5), .int (rI S q 6), .int (rI S q 7), .int (rI S q 8), .int (rI S q 9), .int (rI S q 10), .int (rI S q 11), .int (rI S q 12), .int (rI S q 13), .int (rI S q 14), .int (rI S q 15), .int (rI S q 16), .int (rI S q 17)]) := by
  rw [rn_hp_x (rn_lt3 hk)]
  unfold rn_en
  rw [hk]
  rfl
theorem ko_3_0 {q : Nat} (hk : rn_kd q = 3) : rn_kd (q + 1) = 14 ∧ rn_ln_ (q + 1) = 6 ∧ q + 1 < 318 := by
  rcases Nat.lt_or_ge q 320 with h | h
  · exact (by decide +kernel : ∀ q, q < 320 → rn_kd q = 3 → rn_kd (q + 1) = 14 ∧ rn_ln_ (q + 1) = 6 ∧ q + 1 < 318) q h hk
  · rw [rn_kd_big h] at hk; cases hk
theorem wf_3_1 {S M : rn_T} {q : Nat} {v : Int32} (hk : rn_kd q = 3) : rn_up (rn_hp S M) q (.inr (3, [.ref (q + 1), .int v, va_rf (rR S q), .int (rI S q 3), .int (rI S q 4), .int (rI S q 5), .int (rI S q 6), .int (rI S q 7), .int (rI S q 8), .int (rI S q 9), .int (rI S q 10), .int (rI S q 11), .int (rI S q 12), .int (rI S q 13), .int (rI S q 14), .int (rI S q 15), .int (rI S q 16), .int (rI S q 17)])) = rn_hp (wI S q 1 v) M := rn_hx_I (rn_lt3 hk) (by rw [hk]; rfl)
theorem wf_3_2 {S M : rn_T} {q : Nat} {v : Option Nat} (hk : rn_kd q = 3) : rn_up (rn_hp S M) q (.inr (3, [.ref (q + 1), .int (rI S q 1), va_rf v, .int (rI S q 3), .int (rI S q 4), .int (rI S q 5), .int (rI S q 6), .int (rI S q 7), .int (rI S q 8), .int (rI S q 9), .int (rI S q 10), .int (rI S q 11), .int (rI S q 12), .int (rI S q 13), .int (rI S q 14), .int (rI S q 15), .int (rI S q 16), .int (rI S q 17)])) = rn_hp (wR S q v) M := rn_hx_R (k := 0) (rn_lt3 hk) (by rw [hk]; rfl)
theorem wf_3_3 {S M : rn_T} {q : Nat} {v : Int32} (hk : rn_kd q = 3) : rn_up (rn_hp S M) q (.inr (3, [.ref (q + 1), .int (rI S q 1), va_rf (rR S q), .int v, .int (rI S q 4), .int (rI S q 5), .int (rI S q 6), .int (rI S q 7), .int (rI S q 8), .int (rI S q 9), .int (rI S q 10), .int (rI S q 11), .int (rI S q 12), .int (rI S q 13), .int (rI S q 14), .int (rI S q 15), .int (rI S q 16), .int (rI S q 17)])) = rn_hp (wI S q 3 v) M := rn_hx_I (rn_lt3 hk) (by rw [hk]; rfl)
theorem wf_3_4 {S M : rn_T} {q : Nat} {v : Int32} (hk : rn_kd q = 3) : rn_up (rn_hp S M) q (.inr (3, [.ref (q + 1), .int (rI S q 1), va_rf (rR S q), .int (rI S q 3), .int v, .int (rI S q 5), .int (rI S q 6), .int (rI S q 7), .int (rI S q 8), .int (rI S q 9), .int (rI S q 10), .int (rI S q 11), .int (rI S q 12), .int (rI S q 13), .int (rI S q 14), .int (rI S q 15), .int (rI S q 16), .int (rI S q 17)])) = rn_hp (wI S q 4 v) M := rn_hx_I (rn_lt3 hk) (by rw [hk]; rfl)
theorem wf_3_5 {S M : rn_T} {q : Nat} {v : Int32} (hk : rn_kd q = 3) : rn_up (rn_hp S M) q (.inr (3, [.ref (q + 1), .int (rI S q 1), va_rf (rR S q), .int (rI S q 3), .int (rI S q 4), .int v, .int (rI S q 6), .int (rI S q 7), .int (rI S q 8), .int (rI S q 9), .int (rI S q 10), .int (rI S q 11), .int (rI S q 12), .int (rI S q 13), .int (rI S q 14), .int (rI S q 15), .int (rI S q 16), .int (rI S q 17)])) = rn_hp (wI S q 5 v) M := rn_hx_I (rn_lt3 hk) (by rw [hk]; rfl)
theorem wf_3_6 {S M : rn_T} {q : Nat} {v : Int32} (hk : rn_kd q = 3) : rn_up (rn_hp S M) q (.inr (3, [.ref (q + 1), .int (rI S q 1), va_rf (rR S q), .int (rI S q 3), .int (rI S q 4), .int (rI S q 5), .int v, .int (rI S q 7), .int (rI S q 8), .int (rI S q 9), .int (rI S q 10), .int (rI S q 11), .int (rI S q 12), .int (rI S q 13), .int (rI S q 14), .int (rI S q 15), .int (rI S q 16), .int (rI S q 17)])) = rn_hp (wI S q 6 v) M := rn_hx_I (rn_lt3 hk) (by rw [hk]; rfl)
theorem wf_3_7 {S M : rn_T} {q : Nat} {v : Int32} (hk : rn_kd q = 3) : rn_up (rn_hp S M) q (.inr (3, [.ref (q + 1), .int (rI S q 1), va_rf (rR S q), .int (rI S q 3), .int (rI S q 4), .int (rI S q 5), .int (rI S q 6), .int v, .int (rI S q 8), .int (rI S q 9), .int (rI S q 10), .int (rI S q 11), .int (rI S q 12), .int (rI S q 13), .int (rI S q 14), .int (rI S q 15), .int (rI S q 16), .int (rI S q 17)])) = rn_hp (wI S q 7 v) M := rn_hx_I (rn_lt3 hk) (by rw [hk]; rfl)
theorem wf_3_8 {S M : rn_T} {q : Nat} {v : Int32} (hk : rn_kd q = 3) : rn_up (rn_hp S M) q (.inr (3, [.ref (q + 1), .int (rI S q 1), va_rf (rR S q), .int (rI S q 3), .int (rI S q 4), .int (rI S q 5), .int (rI S q 6), .int (rI S q 7), .int v, .int (rI S q 9), .int (rI S q 10), .int (rI S q 11), .int (rI S q 12), .int (rI S q 13), .int (rI S q 14), .int (rI S q 15), .int (rI S q 16), .int (rI S q 17)])) = rn_hp (wI S q 8 v) M := rn_hx_I (rn_lt3 hk) (by rw [hk]; rfl)
theorem wf_3_9 {S M : rn_T} {q : Nat} {v : Int32} (hk : rn_kd q = 3) : rn_up (rn_hp S M) q (.inr (3, [.ref (q + 1), .int (rI S q 1), va_rf (rR S q), .int (rI S q 3), .int (rI S q 4), .int (rI S q 5), .int (rI S q 6), .int (rI S q 7), .int (rI S q 8), .int v, .int (rI S q 10), .int (rI S q 11), .int (rI S q 12), .int (rI S q 13), .int (rI S q 14), .int (rI S q 15), .int (rI S q 16), .int (rI S q 17)])) = rn_hp (wI S q 9 v) M := rn_hx_I (rn_lt3 hk) (by rw [hk]; rfl)
theorem wf_3_10 {S M : rn_T} {q : Nat} {v : Int32} (hk : rn_kd q = 3) : rn_up (rn_hp S M) q (.inr (3, [.ref (q + 1), .int (rI S q 1), va_rf (rR S q), .int (rI S q 3), .int (rI S q 4), .int (rI S q 5), .int (rI S q 6), .int (rI S q 7), .int (rI S q 8), .int (rI S q 9), .int v, .int (rI S q 11), .int (rI S q 12), .int (rI S q 13), .int (rI S q 14), .int (rI S q 15), .int (rI S q 16), .int (rI S q 17)])) = rn_hp (wI S q 10 v) M := rn_hx_I (rn_lt3 hk) (by rw [hk]; rfl)
theorem wf_3_11 {S M : rn_T} {q : Nat} {v : Int32} (hk : rn_kd q = 3) : rn_up (rn_hp S M) q (.inr (3, [.ref (q + 1), .int (rI S q 1), va_rf (rR S q), .int (rI S q 3), .int (rI S q 4), .int (rI S q 5), .int (rI S q 6), .int (rI S q 7), .int (rI S q 8), .int (rI S q 9), .int (rI S q 10), .int v, .int (rI S q 12), .int (rI S q 13), .int (rI S q 14), .int (rI S q 15), .int (rI S q 16), .int (rI S q 17)])) = rn_hp (wI S q 11 v) M := rn_hx_I (rn_lt3 hk) (by rw [hk]; rfl)
theorem wf_3_12 {S M : rn_T} {q : Nat} {v : Int32} (hk : rn_kd q = 3) : rn_up (rn_hp S M) q (.inr (3, [.ref (q + 1), .int (rI S q 1), va_rf (rR S q), .int (rI S q 3), .int (rI S q 4), .int (rI S q 5), .int (rI S q 6), .int (rI S q 7), .int (rI S q 8), .int (rI S q 9), .int (rI S q 10), .int (rI S q 11), .int v, .int (rI S q 13), .int (rI S q 14), .int (rI S q 15), .int (rI S q 16), .int (rI S q 17)])) = rn_hp (wI S q 12 v) M := rn_hx_I (rn_lt3 hk) (by rw [hk]; rfl)
theorem wf_3_13 {S M : rn_T} {q : Nat} {v : Int32} (hk : rn_kd q = 3) : rn_up (rn_hp S M) q (.inr (3, [.ref (q + 1), .int (rI S q 1), va_rf (rR S q), .int (rI S q 3), .int (rI S q 4), .int (rI S q 5), .int (rI S q 6), .int (rI S q 7), .int (rI S q 8), .int (rI S q 9), .int (rI S q 10), .int (rI S q 11), .int (rI S q 12), .int v, .int (rI S q 14), .int (rI S q 15), .int (rI S q 16), .int (rI S q 17)])) = rn_hp (wI S q 13 v) M := rn_hx_I (rn_lt3 hk) (by rw [hk]; rfl)
theorem wf_3_14 {S M : rn_T} {q : Nat} {v : Int32} (hk : rn_kd q = 3) : rn_up (rn_hp S M) q (.inr (3, [.ref (q + 1), .int (rI S q 1), va_rf (rR S q), .int (rI S q 3), .int (rI S q 4), .int (rI S q 5), .int (rI S q 6), .int (rI S q 7), .int (rI S q 8), .int (rI S q 9), .int (rI S q 10), .int (rI S q 11), .int (rI S q 12), .int (rI S q 13), .int v, .int (rI S q 15), .int (rI S q 16), .int (rI S q 17)])) = rn_hp (wI S q 14 v) M := rn_hx_I (rn_lt3 hk) (by rw [hk]; rfl)
theorem wf_3_15 {S M : rn_T} {q : Nat} {v : Int32} (hk : rn_kd q = 3) : rn_up (rn_hp S M) q (.inr (3, [.ref (q + 1), .int (rI S q 1), va_rf (rR S q), .int (rI S q 3), .int (rI S q 4), .int (rI S q 5), .int (rI S q 6), .int (rI S q 7), .int (rI S q 8), .int (rI S q 9), .int (rI S q 10), .int (rI S q 11), .int (rI S q 12), .int (rI S q 13), .int (rI S q 14), .int v, .int (rI S q 16), .int (rI S q 17)])) = rn_hp (wI S q 15 v) M := rn_hx_I (rn_lt3 hk) (by rw [hk]; rfl)
theorem wf_3_16 {S M : rn_T} {q : Nat} {v : Int32} (hk : rn_kd q = 3) : rn_up (rn_hp S M) q (.inr (3, [.ref (q + 1), .int (rI S q 1), va_rf (rR S q), .int (rI S q 3), .int (rI S q 4), .int (rI S q 5), .int (rI S q 6), .int (rI S q 7), .int (rI S q 8), .int (rI S q 9), .int (rI S q 10), .int (rI S q 11), .int (rI S q 12), .int (rI S q 13), .int (rI S q 14), .int (rI S q 15), .int v, .int (rI S q 17)])) = rn_hp (wI S q 16 v) M := rn_hx_I (rn_lt3 hk) (by rw [hk]; rfl)
theorem wf_3_17 {S M : rn_T} {q : Nat} {v : Int32} (hk : rn_kd q = 3) : rn_up (rn_hp S M) q (.inr (3, [.ref (q + 1), .int (rI S q 1), va_rf (rR S q), .int (rI S q 3), .int (rI S q 4), .int (rI S q 5), .int (rI S q 6), .int (rI S q 7), .int (rI S q 8), .int (rI S q 9), .int (rI S q 10), .int (rI S q 11), .int (rI S q 12), .int (rI S q 13), .int (rI S q 14), .int (rI S q 15), .int (rI S q 16), .int v])) = rn_hp (wI S q 17 v) M := rn_hx_I (rn_lt3 hk) (by rw [hk]; rfl)
/-! class 4 -/
theorem rn_lt4 {q : Nat} (hk : rn_kd q = 4) : q < 318 := by
  rcases Nat.lt_or_ge q 320 with h | h
  · exact (by decide +kernel : ∀ q, q < 320 → rn_kd q = 4 → q < 318) q h hk
  · rw [rn_kd_big h] at hk; cases hk
theorem en_4 {S M : rn_T} {q : Nat} (hk : rn_kd q = 4) : rn_hp S M q = .inr (4, [.int (rI S q 0), .ref (q + 1), .ref (q + 2), .ref (q + 3), .ref (q + 4), .int (rI S q 5)]) := by
  rw [rn_hp_x (rn_lt4 hk)]
  unfold rn_en
  rw [hk]
  rfl
theorem ko_4_1 {q : Nat} (hk : rn_kd q = 4) : rn_kd (q + 1) = 10 ∧ rn_ln_ (q + 1) = 40 ∧ q + 1 < 318 := by
  rcases Nat.lt_or_ge q 320 with h | h
  · exact (by decide +kernel : ∀ q, q < 320 → rn_kd q = 4 → rn_kd (q + 1) = 10 ∧ rn_ln_ (q + 1) = 40 ∧ q + 1 < 318) q h hk
  · rw [rn_kd_big h] at hk; cases hk
theorem ko_4_2 {q : Nat} (hk : rn_kd q = 4) : rn_kd (q + 2) = 10 ∧ rn_ln_ (q + 2) = 40 ∧ q + 2 < 318 := by
  rcases Nat.lt_or_ge q 320 with h | h
  · exact (by decide +kernel : ∀ q, q < 320 → rn_kd q = 4 → rn_kd (q + 2) = 10 ∧ rn_ln_ (q + 2) = 40 ∧ q + 2 < 318) q h hk
  · rw [rn_kd_big h] at hk; cases hk
theorem ko_4_3 {q : Nat} (hk : rn_kd q = 4) : rn_kd (q + 3) = 10 ∧ rn_ln_ (q + 3) = 40 ∧ q + 3 < 318 := by
  rcases Nat.lt_or_ge q 320 with h | h
  · exact (by decide +kernel : ∀ q, q < 320 → rn_kd q = 4 → rn_kd (q + 3) = 10 ∧ rn_ln_ (q + 3) = 40 ∧ q + 3 < 318) q h hk
  · rw [rn_kd_big h] at hk; cases hk
theorem ko_4_4 {q : Nat} (hk : rn_kd q = 4) : rn_kd (q + 4) = 10 ∧ rn_ln_ (q + 4) = 40 ∧ q + 4 < 318 := by
  rcases Nat.lt_or_ge q 320 with h | h
  · exact (by decide +kernel : ∀ q, q < 320 → rn_kd q = 4 → rn_kd (q + 4) = 10 ∧ rn_ln_ (q + 4) = 40 ∧ q + 4 < 318) q h hk
  · rw [rn_kd_big h] at hk; cases hk
theorem wf_4_0 {S M : rn_T} {q : Nat} {v : Int32} (hk : rn_kd q = 4) : rn_up (rn_hp S M) q (.inr (4, [.int v, .ref (q + 1), .ref (q + 2), .ref (q + 3), .ref (q + 4), .int (rI S q 5)])) = rn_hp (wI S q 0 v) M := rn_hx_I (rn_lt4 hk) (by rw [hk]; rfl)
theorem wf_4_5 {S M : rn_T} {q : Nat} {v : Int32} (hk : rn_kd q = 4) : rn_up (rn_hp S M) q (.inr (4, [.int (rI S q 0), .ref (q + 1), .ref (q + 2), .ref (q + 3), .ref (q + 4), .int v])) = rn_hp (wI S q 5 v) M := rn_hx_I (rn_lt4 hk) (by rw [hk]; rfl)
/-! class 5 -/
theorem rn_lt5 {q : Nat} (hk : rn_kd q = 5) : q < 318 := by
  rcases Nat.lt_or_ge q 320 with h | h
  · exact (by decide +kernel : ∀ q, q < 320 → rn_kd q = 5 → q < 318) q h hk
  · rw [rn_kd_big h] at hk; cases hk
theorem en_5 {S M : rn_T} {q : Nat} (hk : rn_kd q = 5) : rn_hp S M q = .inr (5, [.ref (q + 1), .int (rI S q 1)]) := by
  rw [rn_hp_x (rn_lt5 hk)]
  unfold rn_en
  rw [hk]
  rfl
theorem ko_5_0 {q : Nat} (hk : rn_kd q = 5) : rn_kd (q + 1) = 10 ∧ rn_ln_ (q + 1) = 40 ∧ q + 1 < 318 := by
  rcases Nat.lt_or_ge q 320 with h | h
  · exact (by decide +kernel : ∀ q, q < 320 → rn_kd q = 5 → rn_kd (q + 1) = 10 ∧ rn_ln_ (q + 1) = 40 ∧ q + 1 < 318) q h hk
  · rw [rn_kd_big h] at hk; cases hk
theorem wf_5_1 {S M : rn_T} {q : Nat} {v : Int32} (hk : rn_kd q = 5) : rn_up (rn_hp S M) q (.inr (5, [.ref (q + 1), .int v])) = rn_hp (wI S q 1 v) M := rn_hx_I (rn_lt5 hk) (by rw [hk]; rfl)
/-! class 6 -/
theorem rn_lt6 {q : Nat} (hk : rn_kd q = 6) : q < 318 := by
  rcases Nat.lt_or_ge q 320 with h | h
  · exact (by decide +kernel : ∀ q, q < 320 → rn_kd q = 6 → q < 318) q h hk
  · rw [rn_kd_big h] at hk; cases hk
theorem en_6 {S M : rn_T} {q : Nat} (hk : rn_kd q = 6) : rn_hp S M q = .inr (6, [.ref (q + 1), .int (rI S q 1)]) := by
  rw [rn_hp_x (rn_lt6 hk)]
  unfold rn_en
  rw [hk]
  rfl
theorem wf_6_1 {S M : rn_T} {q : Nat} {v : Int32} (hk : rn_kd q = 6) : rn_up (rn_hp S M) q (.inr (6, [.ref (q + 1), .int v])) = rn_hp (wI S q 1 v) M := rn_hx_I (rn_lt6 hk) (by rw [hk]; rfl)
/-! class 7 -/
theorem rn_lt7 {q : Nat} (hk : rn_kd q = 7) : q < 318 := by
  rcases Nat.lt_or_ge q 320 with h | h
  · exact (by decide +kernel : ∀ q, q < 320 → rn_kd q = 7 → q < 318) q h hk
  · rw [rn_kd_big h] at hk; cases hk
theorem en_7 {S M : rn_T} {q : Nat} (hk : rn_kd q = 7) : rn_hp S M q = .inr (7, [.int (rI S q 0), .ref (q + 1), .ref (q + 2), .int (rI S q 3), .int (rI S q 4), .int (rI S q 5), .int (rI S q 6), .ref (q + 3), .ref (q + 4), .ref (q + 5), .int (rI S q 10), .ref (q + 6), .ref (q + 7), .ref (q + 8), .ref (q + 9), .int (rI S q 15)]) := by
  rw [rn_hp_x (rn_lt7 hk)]
  unfold rn_en
  rw [hk]
  rfl
theorem wf_7_0 {S M : rn_T} {q : Nat} {v : Int32} (hk : rn_kd q = 7) : rn_up (rn_hp S M) q (.inr (7, [.int v, .ref (q + 1), .ref (q + 2), .int (rI S q 3), .int (rI S q 4), .int (rI S q 5), .int (rI S q 6), .ref (q + 3), .ref (q + 4), .ref (q + 5), .int (rI S q 10), .ref (q + 6), .ref (q + 7), .ref (q + 8), .ref (q + 9), .int (rI S q 15)])) = rn_hp (wI S q 0 v) M := rn_hx_I (rn_lt7 hk) (by rw [hk]; rfl)
theorem wf_7_3 {S M : rn_T} {q : Nat} {v : Int32} (hk : rn_kd q = 7) : rn_up (rn_hp S M) q (.inr (7, [.int (rI S q 0), .ref (q + 1), .ref (q + 2), .int v, .int (rI S q 4), .int (rI S q 5), .int (rI S q 6), .ref (q + 3), .ref (q + 4), .ref (q + 5), .int (rI S q 10), .ref (q + 6), .ref (q + 7), .ref (q + 8), .ref (q + 9), .int (rI S q 15)])) = rn_hp (wI S q 3 v) M := rn_hx_I (rn_lt7 hk) (by rw [hk]; rfl)
theorem wf_7_4 {S M : rn_T} {q : Nat} {v : Int32} (hk : rn_kd q = 7) : rn_up (rn_hp S M) q (.inr (7, [.int (rI S q 0), .ref (q + 1), .ref (q + 2), .int (rI S q 3), .int v, .int (rI S q 5), .int (rI S q 6), .ref (q + 3), .ref (q + 4), .ref (q + 5), .int (rI S q 10), .ref (q + 6), .ref (q + 7), .ref (q + 8), .ref (q + 9), .int (rI S q 15)])) = rn_hp (wI S q 4 v) M := rn_hx_I (rn_lt7 hk) (by rw [hk]; rfl)
theorem wf_7_5 {S M : rn_T} {q : Nat} {v : Int32} (hk : rn_kd q = 7) : rn_up (rn_hp S M) q (.inr (7, [.int (rI S q 0), .ref (q + 1), .ref (q + 2), .int (rI S q 3), .int (rI S q 4), .int v, .int (rI S q 6), .ref (q + 3), .ref (q + 4), .ref (q + 5), .int (rI S q 10), .ref (q + 6), .ref (q + 7), .ref (q + 8), .ref (q + 9), .int (rI S q 15)])) = rn_hp (wI S q 5 v) M := rn_hx_I (rn_lt7 hk) (by rw [hk]; rfl)
theorem wf_7_6 {S M : rn_T} {q : Nat} {v : Int32} (hk : rn_kd q = 7) : rn_up (rn_hp S M) q (.inr (7, [.int (rI S q 0), .ref (q + 1), .ref (q + 2), .int (rI S q 3), .int (rI S q 4), .int (rI S q 5), .int v, .ref (q + 3), .ref (q + 4), .ref (q + 5), .int (rI S q 10), .ref (q + 6), .ref (q + 7), .ref (q + 8), .ref (q + 9), .int (rI S q 15)])) = rn_hp (wI S q 6 v) M := rn_hx_I (rn_lt7 hk) (by rw [hk]; rfl)
theorem wf_7_10 {S M : rn_T} {q : Nat} {v : Int32} (hk : rn_kd q = 7) : rn_up (rn_hp S M) q (.inr (7, [.int (rI S q 0), .ref (q + 1), .ref (q + 2), .int (rI S q 3), .int (rI S q 4), .int (rI S q 5), .int (rI S q 6), .ref (q + 3), .ref (q + 4), .ref (q + 5), .int v, .ref (q + 6), .ref (q + 7), .ref (q + 8), .ref (q + 9), .int (rI S q 15)])) = rn_hp (wI S q 10 v) M := rn_hx_I (rn_lt7 hk) (by rw [hk]; rfl)
theorem wf_7_15 {S M : rn_T} {q : Nat} {v : Int32} (hk : rn_kd q = 7) : rn_up (rn_hp S M) q (.inr (7, [.int (rI S q 0), .ref (q + 1), .ref (q + 2), .int (rI S q 3), .int (rI S q 4), .int (rI S q 5), .int (rI S q 6), .ref (q + 3), .ref (q + 4), .ref (q + 5), .int (rI S q 10), .ref (q + 6), .ref (q + 7), .ref (q + 8), .ref (q + 9), .int v])) = rn_hp (wI S q 15 v) M := rn_hx_I (rn_lt7 hk) (by rw [hk]; rfl)
/-! class 8 -/
theorem rn_lt8 {q : Nat} (hk : rn_kd q = 8) : q < 318 := by
  rcases Nat.lt_or_ge q 320 with h | h
  · exact (by decide +kernel : ∀ q, q < 320 → rn_kd q = 8 → q < 318) q h hk
  · rw [rn_kd_big h] at hk; cases hk
theorem en_8 {S M : rn_T} {q : Nat} (hk : rn_kd q = 8) : rn_hp S M q = .inr (8, [.ref (q + 1), .ref (q + 21), .ref (q + 22), .ref (q + 23), .ref (q + 66), .ref (q + 276)]) := by
  rw [rn_hp_x (rn_lt8 hk)]
  unfold rn_en
  rw [hk]
  rfl
/-! arrays -/
theorem ar_x10 {S M : rn_T} {q n : Nat} (hk : rn_kd q = 10) (hl : rn_ln_ q = n) (hq : q < 318) : rn_hp S M q = .inl (0, n, .inl (rA S q)) := by
  rw [rn_hp_x hq]
  unfold rn_en
  rw [hk, hl]
  rfl
theorem aw_x10 {S M : rn_T} {q n i : Nat} {v : Int32} (hk : rn_kd q = 10) (hl : rn_ln_ q = n) (hq : q < 318) : rn_up (rn_hp S M) q (.inl (0, n, .inl (upd (rA S q) i v))) = rn_hp (wA S q i v) M := rn_hx_A hq (by rw [hk, hl]; rfl)
theorem ac_x10 {S M : rn_T} {q n : Nat} {v : Nat → Int32} (hk : rn_kd q = 10) (hl : rn_ln_ q = n) (hq : q < 318) : rn_up (rn_hp S M) q (.inl (0, n, .inl (v))) = rn_hp (wAc S q v) M := rn_hx_Ac (k := 0) hq (by rw [hk, hl]; rfl)
theorem ar_x12 {S M : rn_T} {q n : Nat} (hk : rn_kd q = 12) (hl : rn_ln_ q = n) (hq : q < 318) : rn_hp S M q = .inl (2, n, .inl (rA S q)) := by
  rw [rn_hp_x hq]
  unfold rn_en
  rw [hk, hl]
  rfl
theorem aw_x12 {S M : rn_T} {q n i : Nat} {v : Int32} (hk : rn_kd q = 12) (hl : rn_ln_ q = n) (hq : q < 318) : rn_up (rn_hp S M) q (.inl (2, n, .inl (upd (rA S q) i v))) = rn_hp (wA S q i v) M := rn_hx_A hq (by rw [hk, hl]; rfl)
theorem ar_x11 {S M : rn_T} {q n : Nat} (hk : rn_kd q = 11) (hl : rn_ln_ q = n) (hq : q < 318) : rn_hp S M q = .inl (1, n, .inr (.inl (rL S q))) := by
  rw [rn_hp_x hq]
  unfold rn_en
  rw [hk, hl]
  rfl
theorem aw_x11 {S M : rn_T} {q n i : Nat} {v : Int64} (hk : rn_kd q = 11) (hl : rn_ln_ q = n) (hq : q < 318) : rn_up (rn_hp S M) q (.inl (1, n, .inr (.inl (vp_updL (rL S q) i v)))) = rn_hp (wL S q i v) M := rn_hx_L hq (by rw [hk, hl]; rfl)
theorem ac_x11 {S M : rn_T} {q n : Nat} {v : Nat → Int64} (hk : rn_kd q = 11) (hl : rn_ln_ q = n) (hq : q < 318) : rn_up (rn_hp S M) q (.inl (1, n, .inr (.inl (v)))) = rn_hp (wLc S q v) M := rn_hx_Lc (k := 0) hq (by rw [hk, hl]; rfl)
theorem ar_x14 {S M : rn_T} {q n : Nat} (hk : rn_kd q = 14) (hl : rn_ln_ q = n) (hq : q < 318) : rn_hp S M q = .inl (4, n, .inr (.inr (.inr (.inr (rP S q))))) := by
  rw [rn_hp_x hq]
  unfold rn_en
  rw [hk, hl]
  rfl
theorem aw_x14 {S M : rn_T} {q n i : Nat} {v : Option Nat} (hk : rn_kd q = 14) (hl : rn_ln_ q = n) (hq : q < 318) : rn_up (rn_hp S M) q (.inl (4, n, .inr (.inr (.inr (.inr (va_up (rP S q) i v)))))) = rn_hp (wP S q i v) M := rn_hx_P hq (by rw [hk, hl]; rfl)
theorem ar_m10 {S M : rn_T} {q n : Nat} (hk : rn_kd q = 10) (hl : rn_ln_ q = n) (hq : 318 ≤ q) : rn_hp S M q = .inl (0, n, .inl (rA M q)) := by
  rw [rn_hp_m hq]
  unfold rn_en
  rw [hk, hl]
  rfl
theorem aw_m10 {S M : rn_T} {q n i : Nat} {v : Int32} (hk : rn_kd q = 10) (hl : rn_ln_ q = n) (hq : 318 ≤ q) : rn_up (rn_hp S M) q (.inl (0, n, .inl (upd (rA M q) i v))) = rn_hp S (wA M q i v) := rn_hm_A hq (by rw [hk, hl]; rfl)
theorem ar_m12 {S M : rn_T} {q n : Nat} (hk : rn_kd q = 12) (hl : rn_ln_ q = n) (hq : 318 ≤ q) : rn_hp S M q = .inl (2, n, .inl (rA M q)) := by
  rw [rn_hp_m hq]
  unfold rn_en
  rw [hk, hl]
  rfl
theorem aw_m12 {S M : rn_T} {q n i : Nat} {v : Int32} (hk : rn_kd q = 12) (hl : rn_ln_ q = n) (hq : 318 ≤ q) : rn_up (rn_hp S M) q (.inl (2, n, .inl (upd (rA M q) i v))) = rn_hp S (wA M q i v) := rn_hm_A hq (by rw [hk, hl]; rfl)
theorem ar_m11 {S M : rn_T} {q n : Nat} (hk : rn_kd q = 11) (hl : rn_ln_ q = n) (hq : 318 ≤ q) : rn_hp S M q = .inl (1, n, .inr (.inl (rL M q))) := by
  rw [rn_hp_m hq]
  unfold rn_en
  rw [hk, hl]
  rfl
theorem aw_m11 {S M : rn_T} {q n i : Nat} {v : Int64} (hk : rn_kd q = 11) (hl : rn_ln_ q = n) (hq : 318 ≤ q) : rn_up (rn_hp S M) q (.inl (1, n, .inr (.inl (vp_updL (rL M q) i v)))) = rn_hp S (wL M q i v) := rn_hm_L hq (by rw [hk, hl]; rfl)
theorem ar_x20 {S M : rn_T} {q : Nat} (hk : rn_kd q = 20) (hq : q < 318) : rn_hp S M q = .inl (6, 8, .inr (.inr (.inr (.inr (rn_cr 8 (q + 3) 2))))) := by
  rw [rn_hp_x hq]
  unfold rn_en
  rw [hk]
  rfl
theorem ck_20 {q i : Nat} (hk : rn_kd q = 20) (hi : i < 8) : rn_kd (q + 3 + 2 * i) = 5 := by
  rcases Nat.lt_or_ge q 320 with h | h
  · exact (by decide +kernel : ∀ q, q < 320 → rn_kd q = 20 → ∀ i, i < 8 → rn_kd (q + 3 + 2 * i) = 5) q h hk i hi
  · rw [rn_kd_big h] at hk; cases hk
theorem ar_x21 {S M : rn_T} {q : Nat} (hk : rn_kd q = 21) (hq : q < 318) : rn_hp S M q = .inl (3, 2, .inr (.inr (.inr (.inr (rn_cr 2 (q + 257) 20))))) := by
  rw [rn_hp_x hq]
  unfold rn_en
  rw [hk]
  rfl
theorem ck_21 {q i : Nat} (hk : rn_kd q = 21) (hi : i < 2) : rn_kd (q + 257 + 20 * i) = 1 := by
  rcases Nat.lt_or_ge q 320 with h | h
  · exact (by decide +kernel : ∀ q, q < 320 → rn_kd q = 21 → ∀ i, i < 2 → rn_kd (q + 257 + 20 * i) = 1) q h hk i hi
  · rw [rn_kd_big h] at hk; cases hk
theorem ar_x22 {S M : rn_T} {q : Nat} (hk : rn_kd q = 22) (hq : q < 318) : rn_hp S M q = .inl (5, 8, .inr (.inr (.inr (.inr (rn_cr 8 (q + 2) 5))))) := by
  rw [rn_hp_x hq]
  unfold rn_en
  rw [hk]
  rfl
theorem ck_22 {q i : Nat} (hk : rn_kd q = 22) (hi : i < 8) : rn_kd (q + 2 + 5 * i) = 4 := by
  rcases Nat.lt_or_ge q 320 with h | h
  · exact (by decide +kernel : ∀ q, q < 320 → rn_kd q = 22 → ∀ i, i < 8 → rn_kd (q + 2 + 5 * i) = 4) q h hk i hi
  · rw [rn_kd_big h] at hk; cases hk
theorem ar_x23 {S M : rn_T} {q : Nat} (hk : rn_kd q = 23) (hq : q < 318) : rn_hp S M q = .inl (4, 100, .inr (.inr (.inr (.inr (rn_cr 100 (q + 9) 2))))) := by
  rw [rn_hp_x hq]
  unfold rn_en
  rw [hk]
  rfl
theorem ck_23 {q i : Nat} (hk : rn_kd q = 23) (hi : i < 100) : rn_kd (q + 9 + 2 * i) = 3 := by
  rcases Nat.lt_or_ge q 320 with h | h
  · exact (by decide +kernel : ∀ q, q < 320 → rn_kd q = 23 → ∀ i, i < 100 → rn_kd (q + 9 + 2 * i) = 3) q h hk i hi
  · rw [rn_kd_big h] at hk; cases hk
theorem rn_cr_at {n b s i : Nat} (h : i < n) : rn_cr n b s i = some (b + s * i) := if_pos h
theorem rn_ob_lt {i : Int32} {n : Nat} (h : ¬ rn_ob i n) : i.toNatClampNeg < n := Nat.not_le.mp fun q => h (Or.inr q)
theorem rn_rc_of {h : rn_H} {q c : Nat} {fs as : List Value} (hq : h q = .inr (c, fs)) : rn_rc h c (.ref q :: as) = true := by simp [rn_rc, hq]
def rn_bi (b : Bool) : Int32 := match b with
  | true => 1
  | false => 0
theorem rn_bi01 (b : Bool) : rn_bi b = 0 ∨ rn_bi b = 1 := by cases b <;> simp [rn_bi]
theorem rn_bi0 {b : Bool} : rn_bi b = 0 ↔ b = false := by cases b <;> simp [rn_bi]
def rn_om {α β : Type} (o : Option α) (n : β) (f : α → β) : β := match o with
  | none => n
  | some a => f a
theorem rn_om_n {α β : Type} {o : Option α} {n : β} {f : α → β} (h : o = none) : rn_om o n f = n := by rw [h]; rfl
theorem rn_om_s {α β : Type} {o : Option α} {n : β} {f : α → β} {a : α} (h : o = some a) : rn_om o n f = f a := by rw [h]; rfl
def rn_FU : Nat := 5000
