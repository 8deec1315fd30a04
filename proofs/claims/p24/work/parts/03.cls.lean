/-! classes and kinds of arrays by number -/
abbrev rn_cls : List vw_C := [(RX0, TX0, 2), (RX1, TX1, 5), (RX0, TX0, 2), (RX3, TX3, 18), (RX4, TX4, 6), (RX5, TX5, 2), (RX6, TX6, 2), (RX7, TX7, 16), (RX8, TX8, 6), (RX0, TX0, 2)]
def rn_fty : Nat → Nat → FieldType := fun c => match c with
  | 0 => tyX0
  | 1 => tyX1
  | 2 => tyX0
  | 3 => tyX3
  | 4 => tyX4
  | 5 => tyX5
  | 6 => tyX6
  | 7 => tyX7
  | 8 => tyX8
  | 9 => tyX0
  | _ => fun _ => .int
def rn_ft : List FieldType := [.int, .long, .boolean, .object RX1, .object RX3, .object RX4, .object RX5]
def rn_dv : Nat → List Value := fun c => match c with
  | 0 => [.null, .null]
  | 1 => [.null, .null, .null, .int 0, .int 0]
  | 2 => [.null, .null]
  | 3 => [.null, .int 0, .null, .int 0, .int 0, .int 0, .int 0, .int 0, .int 0, .int 0, .int 0, .int 0, .int 0, .int 0, .int 0, .int 0, .int 0, .int 0]
  | 4 => [.int 0, .null, .null, .null, .null, .int 0]
  | 5 => [.null, .int 0]
  | 6 => [.null, .int 0]
  | 7 => [.int 0, .null, .null, .int 0, .int 0, .int 0, .int 0, .null, .null, .null, .int 0, .null, .null, .null, .null, .int 0]
  | 8 => [.null, .null, .null, .null, .null, .null]
  | 9 => [.null, .null]
  | _ => []
def rn_nest : List (String × Nat × MethodName × String) := [("RecordNiches$Holding", 25, ⟨"RecordNiches$Text", "<init>", "()V"⟩, "RecordNiches"), ("RecordNiches$Grammar", 21, ⟨"RecordNiches$Scan", "<init>", "()V"⟩, "RecordNiches"), ("RecordNiches$Tree", 43, ⟨"RecordNiches$Node", "<init>", "()V"⟩, "RecordNiches"), ("RecordNiches", 40, ⟨"RecordNiches$Transfer", "<init>", "()V"⟩, "RecordNiches"), ("RecordNiches$Scan", 56, ⟨"RecordNiches", "isLetter", "(I)Z"⟩, "RecordNiches"), ("RecordNiches$Holding", 43, ⟨"RecordNiches", "isShape", "(I)Z"⟩, "RecordNiches"), ("RecordNiches$Tree", 105, ⟨"RecordNiches", "isLetter", "(I)Z"⟩, "RecordNiches"), ("RecordNiches$Grammar", 42, ⟨"RecordNiches", "isShape", "(I)Z"⟩, "RecordNiches"), ("RecordNiches$Lay", 25, ⟨"RecordNiches", "upTo", "(II)I"⟩, "RecordNiches")]
def rn_gw : List Cond := lw_tbl.filter goodWord
theorem rn_in0 : ∀ w ∈ u_ws RX0 TX0 2, w ∈ rn_gw := by decide +kernel
theorem rn_dv0 : ∀ j, j < 2 → defaultValue (tyX0 j) = vp_V (rn_dv 0) j := by decide +kernel
theorem rn_in1 : ∀ w ∈ u_ws RX1 TX1 5, w ∈ rn_gw := by decide +kernel
theorem rn_dv1 : ∀ j, j < 5 → defaultValue (tyX1 j) = vp_V (rn_dv 1) j := by decide +kernel
theorem rn_in2 : ∀ w ∈ u_ws RX2 TX2 0, w ∈ rn_gw := by decide +kernel
theorem rn_dv2 : ∀ j, j < 0 → defaultValue (tyX2 j) = vp_V (rn_dv 2) j := by decide +kernel
theorem rn_in3 : ∀ w ∈ u_ws RX3 TX3 18, w ∈ rn_gw := by decide +kernel
theorem rn_dv3 : ∀ j, j < 18 → defaultValue (tyX3 j) = vp_V (rn_dv 3) j := by decide +kernel
theorem rn_in4 : ∀ w ∈ u_ws RX4 TX4 6, w ∈ rn_gw := by decide +kernel
theorem rn_dv4 : ∀ j, j < 6 → defaultValue (tyX4 j) = vp_V (rn_dv 4) j := by decide +kernel
theorem rn_in5 : ∀ w ∈ u_ws RX5 TX5 2, w ∈ rn_gw := by decide +kernel
theorem rn_dv5 : ∀ j, j < 2 → defaultValue (tyX5 j) = vp_V (rn_dv 5) j := by decide +kernel
theorem rn_in6 : ∀ w ∈ u_ws RX6 TX6 2, w ∈ rn_gw := by decide +kernel
theorem rn_dv6 : ∀ j, j < 2 → defaultValue (tyX6 j) = vp_V (rn_dv 6) j := by decide +kernel
theorem rn_in7 : ∀ w ∈ u_ws RX7 TX7 16, w ∈ rn_gw := by decide +kernel
theorem rn_dv7 : ∀ j, j < 16 → defaultValue (tyX7 j) = vp_V (rn_dv 7) j := by decide +kernel
theorem rn_in8 : ∀ w ∈ u_ws RX8 TX8 6, w ∈ rn_gw := by decide +kernel
theorem rn_dv8 : ∀ j, j < 6 → defaultValue (tyX8 j) = vp_V (rn_dv 8) j := by decide +kernel
theorem rn_in9 : ∀ w ∈ u_ws RX9 TX9 0, w ∈ rn_gw := by decide +kernel
theorem rn_dv9 : ∀ j, j < 0 → defaultValue (tyX9 j) = vp_V (rn_dv 9) j := by decide +kernel
/-- what is known of a class by its number -/
def rn_cf (c : Nat) (q : vw_C) : Prop := (∀ w ∈ u_ws q.1 q.2.1 q.2.2, w ∈ rn_gw) ∧ (∀ k, k < q.2.2 → parseFieldDescriptor (q.2.1 k).2.2.1 = some (rn_fty c k)) ∧ (∀ a, a < q.2.2 → ∀ b, b < q.2.2 → a ≠ b → (q.2.1 a).2.1 ≠ (q.2.1 b).2.1) ∧ (∀ j, j < q.2.2 → defaultValue (rn_fty c j) = vp_V (rn_dv c) j)
theorem rn_cf_all : ∀ (c : Nat) (q : vw_C), rn_cls[c]? = some q → rn_cf c q := by
  intro c q h
  match c, h with
  | 0, h => cases h; exact ⟨rn_in0, tyX0_ok, nmX0, rn_dv0⟩
  | 1, h => cases h; exact ⟨rn_in1, tyX1_ok, nmX1, rn_dv1⟩
  | 2, h => cases h; exact ⟨rn_in0, tyX0_ok, nmX0, rn_dv0⟩
  | 3, h => cases h; exact ⟨rn_in3, tyX3_ok, nmX3, rn_dv3⟩
  | 4, h => cases h; exact ⟨rn_in4, tyX4_ok, nmX4, rn_dv4⟩
  | 5, h => cases h; exact ⟨rn_in5, tyX5_ok, nmX5, rn_dv5⟩
  | 6, h => cases h; exact ⟨rn_in6, tyX6_ok, nmX6, rn_dv6⟩
  | 7, h => cases h; exact ⟨rn_in7, tyX7_ok, nmX7, rn_dv7⟩
  | 8, h => cases h; exact ⟨rn_in8, tyX8_ok, nmX8, rn_dv8⟩
  | 9, h => cases h; exact ⟨rn_in0, tyX0_ok, nmX0, rn_dv0⟩
  | c + 10, h => simp [rn_cls] at h
