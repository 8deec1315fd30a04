/-! cells of numbers, values -/
def pe_gg (w c a : Nat) : Nat := (c >>> (w * a)) % 2 ^ w
theorem pe_gg_lt {w c a : Nat} : pe_gg w c a < 2 ^ w := Nat.mod_lt _ (Nat.two_pow_pos w)
theorem pe_gg_bit {w c a i : Nat} : (pe_gg w c a).testBit i = (decide (i < w) && c.testBit (w * a + i)) := by
  unfold pe_gg
  rw [Nat.testBit_mod_two_pow, Nat.testBit_shiftRight]
theorem pe_gs {w c a b v : Nat} (hw : 0 < w) (hv : v < 2 ^ w) : pe_gg w (c ^^^ ((pe_gg w c a ^^^ v) <<< (w * a))) b = if b = a then v else pe_gg w c b := by
  refine Nat.eq_of_testBit_eq (fun i => ?_)
  rw [pe_gg_bit, Nat.testBit_xor, Nat.testBit_shiftLeft, Nat.testBit_xor, pe_gg_bit]
  have hvb : ∀ j, w ≤ j → v.testBit j = false := fun j hj => Nat.testBit_lt_two_pow (Nat.lt_of_lt_of_le hv (Nat.pow_le_pow_right (by omega) hj))
  by_cases hb : b = a
  · subst hb
    rw [if_pos rfl]
    by_cases hi : i < w
    · have e : w * b + i - w * b = i := by omega
      have e2 : decide (w * b + i ≥ w * b) = true := decide_eq_true (by omega)
      rw [e, e2, decide_eq_true hi, Bool.true_and, Bool.true_and, Bool.true_and]
      cases c.testBit (w * b + i) <;> cases v.testBit i <;> rfl
    · rw [decide_eq_false hi, Bool.false_and, hvb i (by omega)]
  · rw [if_neg hb, pe_gg_bit]
    by_cases hi : i < w
    · rw [decide_eq_true hi, Bool.true_and, Bool.true_and]
      rcases Nat.lt_or_gt_of_ne hb with h | h
      · have h2 : w * b + w ≤ w * a := by
          have := Nat.mul_le_mul_left w (show b + 1 ≤ a by omega)
          rw [Nat.mul_add, Nat.mul_one] at this
          exact this
        rw [decide_eq_false (show ¬ w * b + i ≥ w * a by omega), Bool.false_and, Bool.xor_false]
      · have h2 : w * a + w ≤ w * b := by
          have := Nat.mul_le_mul_left w (show a + 1 ≤ b by omega)
          rw [Nat.mul_add, Nat.mul_one] at this
          exact this
        rw [decide_eq_false (show ¬ w * b + i - w * a < w by omega), hvb _ (by omega)]
        simp
    · rw [decide_eq_false hi, Bool.false_and, Bool.false_and]
theorem pe_cg_gg {c a : Nat} : pe_cg c a = pe_gg 36 c a := rfl
theorem pe_lg_gg {c a : Nat} : pe_lg c a = pe_gg 72 c a := rfl
theorem pe_cg_cs {c a b v : Nat} (hv : v < 68719476736) : pe_cg (pe_cs c a v) b = if b = a then v else pe_cg c b := pe_gs (w := 36) (by decide) hv
theorem pe_lg_ls {c a b v : Nat} (hv : v < 4722366482869645213696) : pe_lg (pe_ls c a v) b = if b = a then v else pe_lg c b := pe_gs (w := 72) (by decide) hv
theorem pe_lg_lt {c a : Nat} : pe_lg c a < 4722366482869645213696 := pe_gg_lt (w := 72)
theorem pe_lg_0 {a : Nat} : pe_lg 0 a = 0 := by
  rw [pe_lg_gg]; unfold pe_gg; rw [Nat.zero_shiftRight]
/-! values -/
theorem pe_n32 {x : Int32} : Int32.ofNat x.toUInt32.toNat = x := by
  cases x with
  | ofUInt32 u =>
    cases u with
    | ofBitVec b =>
      show Int32.ofUInt32 (UInt32.ofBitVec (BitVec.ofNat 32 b.toNat)) = Int32.ofUInt32 (UInt32.ofBitVec b)
      rw [BitVec.ofNat_toNat, BitVec.setWidth_eq]
theorem pe_n64 {x : Int64} : Int64.ofNat x.toUInt64.toNat = x := by
  cases x with
  | ofUInt64 u =>
    cases u with
    | ofBitVec b =>
      show Int64.ofUInt64 (UInt64.ofBitVec (BitVec.ofNat 64 b.toNat)) = Int64.ofUInt64 (UInt64.ofBitVec b)
      rw [BitVec.ofNat_toNat, BitVec.setWidth_eq]
theorem pe_eI_eq {x : Int32} : pe_eI x = 8 * x.toUInt32.toNat + 1 := rfl
theorem pe_eJ_eq {x : Int64} : pe_eJ x = 8 * x.toUInt64.toNat + 2 := rfl
theorem pe_dI_eq {v : Nat} : pe_dI v = Int32.ofNat (v / 8) := rfl
theorem pe_dJ_eq {v : Nat} : pe_dJ v = Int64.ofNat (v / 8) := rfl
theorem pe_dI_eI {x : Int32} : pe_dI (pe_eI x) = x := by
  rw [pe_dI_eq, pe_eI_eq, show (8 * x.toUInt32.toNat + 1) / 8 = x.toUInt32.toNat by omega, pe_n32]
theorem pe_dJ_eJ {x : Int64} : pe_dJ (pe_eJ x) = x := by
  rw [pe_dJ_eq, pe_eJ_eq, show (8 * x.toUInt64.toNat + 2) / 8 = x.toUInt64.toNat by omega, pe_n64]
theorem pe_dv1 {σ : Nat → Value} {v : Nat} (h : v % 8 = 1) : pe_dv σ v = .int (pe_dI v) := by
  unfold pe_dv
  rw [h]
  rfl
theorem pe_dv2 {σ : Nat → Value} {v : Nat} (h : v % 8 = 2) : pe_dv σ v = .long (pe_dJ v) := by
  unfold pe_dv
  rw [h]
  rfl
theorem pe_dv3 {σ : Nat → Value} {v : Nat} (h : v % 8 = 3) : pe_dv σ v = .ref (v / 8) := by
  unfold pe_dv
  rw [h]
  rfl
theorem pe_dv4 {σ : Nat → Value} {v : Nat} (h : v % 8 = 4) : pe_dv σ v = .null := by
  unfold pe_dv
  rw [h]
  rfl
theorem pe_dv_eI {σ : Nat → Value} {x : Int32} : pe_dv σ (pe_eI x) = .int x := by
  rw [pe_dv1 (by rw [pe_eI_eq]; omega), pe_dI_eI]
theorem pe_dv_eJ {σ : Nat → Value} {x : Int64} : pe_dv σ (pe_eJ x) = .long x := by
  rw [pe_dv2 (by rw [pe_eJ_eq]; omega), pe_dJ_eJ]
theorem pe_beq {a b : Nat} (h : Nat.beq a b = true) : a = b := Nat.eq_of_beq_eq_true h
theorem pe_i_of {x : Nat} (h : pe_i x = true) : x % 8 = 1 ∧ x / 8 < 4294967296 := by
  have h2 : x % 8 + 8 * (x / 34359738368) = 1 := pe_beq h
  omega
theorem pe_ii_of {x y : Nat} (h : pe_ii x y = true) : (x % 8 = 1 ∧ x / 8 < 4294967296) ∧ (y % 8 = 1 ∧ y / 8 < 4294967296) := by
  have h2 : pe_iz x * pe_iz x + pe_iz y * pe_iz y = 2 := pe_beq h
  have e : ∀ z, pe_iz z = z % 8 + 8 * (z / 34359738368) := fun z => rfl
  have hx : pe_iz x < 2 := Nat.lt_of_not_le fun q => by have := Nat.mul_le_mul q q; omega
  have hy : pe_iz y < 2 := Nat.lt_of_not_le fun q => by have := Nat.mul_le_mul q q; omega
  have h3 : pe_iz x = 1 ∧ pe_iz y = 1 := by
    rcases (show pe_iz x = 0 ∨ pe_iz x = 1 by omega) with a | a <;> rcases (show pe_iz y = 0 ∨ pe_iz y = 1 by omega) with b | b <;> rw [a, b] at h2 <;> first | exact ⟨a, b⟩ | omega
  rw [e, e] at h3
  omega
theorem pe_j_of {x : Nat} (h : pe_j x = true) : x % 8 = 2 ∧ x < 147573952589676412928 := by
  have h2 : x % 8 + 8 * (x / 147573952589676412928) = 2 := pe_beq h
  omega
theorem pe_a_of {x : Nat} (h : pe_a x = true) : x % 8 = 3 ∨ x % 8 = 4 := by
  have h2 : (x % 8 + 1) / 2 = 2 := pe_beq h
  omega
theorem pe_01_of {x : Nat} (h : pe_01 x = true) : x = 1 ∨ x = 9 := by
  unfold pe_01 at h
  rw [Bool.and_eq_true, Bool.and_eq_true] at h
  obtain ⟨h1, h2, h3⟩ := h
  have h1 : (9 - x) * ((x + 7) * (x - 1)) = 0 := pe_beq h1
  have h2 : 1 ≤ x := Nat.le_of_ble_eq_true h2
  have h3 : x ≤ 9 := Nat.le_of_ble_eq_true h3
  rcases Nat.mul_eq_zero.mp h1 with h | h
  · exact Or.inr (by omega)
  · rcases Nat.mul_eq_zero.mp h with h | h
    · omega
    · exact Or.inl (by omega)
theorem pe_nI {a : Nat} : Int32.ofNat a = nI a := rfl
theorem pe_mod32 {a : Nat} : Int32.ofNat (a % 4294967296) = Int32.ofNat a := by
  show Int32.ofUInt32 (UInt32.ofBitVec (BitVec.ofNat 32 (a % 4294967296))) = Int32.ofUInt32 (UInt32.ofBitVec (BitVec.ofNat 32 a))
  have : BitVec.ofNat 32 (a % 4294967296) = BitVec.ofNat 32 a := by
    apply BitVec.eq_of_toNat_eq
    rw [BitVec.toNat_ofNat, BitVec.toNat_ofNat]
    exact Nat.mod_mod _ _
  rw [this]
theorem pe_nat32 {a : Nat} (h : a < 4294967296) : (Int32.ofNat a).toUInt32.toNat = a := by
  show (BitVec.ofNat 32 a).toNat = a
  rw [BitVec.toNat_ofNat]
  exact Nat.mod_eq_of_lt h
theorem pe_inj32 {x y : Nat} (hx : x % 8 = 1 ∧ x / 8 < 4294967296) (hy : y % 8 = 1 ∧ y / 8 < 4294967296) (h : pe_dI x = pe_dI y) : x = y := by
  have := congrArg (fun z : Int32 => z.toUInt32.toNat) h
  simp only [pe_dI_eq, pe_nat32 hx.2, pe_nat32 hy.2] at this
  omega
theorem pe_iadd {x y : Nat} {σ : Nat → Value} (hx : x % 8 = 1 ∧ x / 8 < 4294967296) (hy : y % 8 = 1 ∧ y / 8 < 4294967296) : pe_dv σ (Nat.mod (Nat.sub (Nat.add x y) 1) 34359738368) = .int (pe_dI x + pe_dI y) := by
  show pe_dv σ ((x + y - 1) % 34359738368) = _
  rw [pe_dv1 (by omega), pe_dI_eq, pe_dI_eq, pe_dI_eq, show (x + y - 1) % 34359738368 / 8 = (x / 8 + y / 8) % 4294967296 by omega, pe_mod32, pe_nI, pe_nI, pe_nI, nI_add]
theorem pe_isub {x y : Nat} {σ : Nat → Value} (hx : x % 8 = 1 ∧ x / 8 < 4294967296) (hy : y % 8 = 1 ∧ y / 8 < 4294967296) : pe_dv σ (Nat.mod (Nat.sub (Nat.add x 34359738369) y) 34359738368) = .int (pe_dI x - pe_dI y) := by
  show pe_dv σ ((x + 34359738369 - y) % 34359738368) = _
  rw [pe_dv1 (by omega), pe_dI_eq, pe_dI_eq, pe_dI_eq, show (x + 34359738369 - y) % 34359738368 / 8 = (x / 8 + 4294967296 - y / 8) % 4294967296 by omega, pe_mod32]
  have e : Int32.ofNat (x / 8 + 4294967296 - y / 8) + Int32.ofNat (y / 8) = Int32.ofNat (x / 8) := by
    rw [pe_nI, pe_nI, nI_add, show x / 8 + 4294967296 - y / 8 + y / 8 = x / 8 + 4294967296 by omega]
    have g := pe_mod32 (a := x / 8 + 4294967296)
    rw [show (x / 8 + 4294967296) % 4294967296 = x / 8 by omega] at g
    exact g.symm
  rw [← e, Int32.add_sub_cancel]
theorem pe_toInt {x : Nat} (hx : x / 8 < 4294967296) : (pe_dI x).toInt = if x / 8 < 2147483648 then (x / 8 : Int) else (x / 8 : Int) - 4294967296 := by
  show (BitVec.ofNat 32 (x / 8)).toInt = _
  rw [BitVec.toInt_eq_toNat_cond, BitVec.toNat_ofNat, Nat.mod_eq_of_lt (show x / 8 < 2 ^ 32 from hx)]
  by_cases h : x / 8 < 2147483648
  · rw [if_pos h, if_pos (by omega)]; rfl
  · rw [if_neg h, if_neg (by omega)]; rfl
theorem pe_up_eq {x : Nat} : pe_up x = (x + 17179869184) % 34359738368 := rfl
theorem pe_lti_of {x y : Nat} (hx : x % 8 = 1 ∧ x / 8 < 4294967296) (hy : y % 8 = 1 ∧ y / 8 < 4294967296) : pe_lti x y = true ↔ pe_dI x < pe_dI y := by
  rw [Int32.lt_iff_toInt_lt, pe_toInt hx.2, pe_toInt hy.2]
  unfold pe_lti
  rw [Nat.ble_eq, pe_up_eq, pe_up_eq]
  have : Nat.succ ((x + 17179869184) % 34359738368) = (x + 17179869184) % 34359738368 + 1 := rfl
  rw [this]
  split <;> split <;> omega
theorem pe_lei_of {x y : Nat} (hx : x % 8 = 1 ∧ x / 8 < 4294967296) (hy : y % 8 = 1 ∧ y / 8 < 4294967296) : pe_lei x y = true ↔ pe_dI x ≤ pe_dI y := by
  rw [Int32.le_iff_toInt_le, pe_toInt hx.2, pe_toInt hy.2]
  unfold pe_lei
  rw [Nat.ble_eq, pe_up_eq, pe_up_eq]
  split <;> split <;> omega
theorem pe_beq_of {x y : Nat} (hx : x % 8 = 1 ∧ x / 8 < 4294967296) (hy : y % 8 = 1 ∧ y / 8 < 4294967296) : Nat.beq x y = true ↔ pe_dI x = pe_dI y := by
  rw [Nat.beq_eq]
  exact ⟨fun h => by rw [h], fun h => pe_inj32 hx hy h⟩
theorem pe_nF {b : Bool} {p : Prop} (h : b = true ↔ p) (hb : b = false) : ¬ p := fun q => by rw [h.mpr q] at hb; cases hb
theorem pe_dI1 : pe_dI 1 = 0 := rfl
theorem pe_ok1 : 1 % 8 = 1 ∧ 1 / 8 < 4294967296 := ⟨rfl, by decide⟩
