/-! 21: RecordNiches.told(I)I -/
def f21_J45 (S : rn_T) (u1 : Int32) : Option Int32 :=
  if u1 < (100 : Int32) then
    some (-2 : Int32)
  else
    if u1 < (900 : Int32) then
      Option.bind (f115 S 1 ((u1 / (100 : Int32)) - (1 : Int32)) (u1 - u1 / (100 : Int32) * (100 : Int32))) fun p7 =>
        if p7 = 0 then
          some (-2 : Int32)
        else
          some p7
    else
      some (-2 : Int32)
set_option maxHeartbeats 4000000 in
theorem E21_J45 {X : rn_X} {N sl : Nat} {M : rn_T} {S : rn_T} {u1 : Int32} {R : (Int32)} (h : f21_J45 S u1 = some R) : rn_rv X 21 (45, [(0, .ref 0), (1, .int u1)], [], N, sl, rn_hp S M) (some (.int R), N, sl, rn_hp S M) := by
  have qm := rn_m21
  unfold f21_J45 at h
  refine rn_eg qm 3 (s2 := ((if u1 < (100 : Int32) then 51 else 48), [(0, .ref 0), (1, .int u1)], [], N, sl, rn_hp S M)) rfl ?_
  refine rn_ite (fun c5 => ?_) (fun c5 => ?_)
  · rw [if_pos c5] at h
    refine rn_eg qm 1 (s2 := (52, [], [.int (-2 : Int32)], N, sl, rn_hp S M)) rfl ?_
    cases h
    exact rn_er qm rfl rfl rfl
  · rw [if_neg c5] at h
    refine rn_eg qm 3 (s2 := ((if u1 < (900 : Int32) then 53 else 51), [(0, .ref 0), (1, .int u1)], [], N, sl, rn_hp S M)) rfl ?_
    refine rn_ite (fun c6 => ?_) (fun c6 => ?_)
    · rw [if_pos c6] at h
      refine rn_eg qm 4 (s2 := (57, [(0, .ref 0), (1, .int u1)], [.int (100 : Int32), .int u1, .ref 1], N, sl, rn_hp S M)) rfl ?_
      refine rn_e1 qm (s2 := (58, [(0, .ref 0), (1, .int u1)], [.int (u1 / (100 : Int32)), .ref 1], N, sl, rn_hp S M)) (rn_g_idiv rfl rfl (by decide)) ?_
      refine rn_eg qm 4 (s2 := (62, [(0, .ref 0), (1, .int u1)], [.int (100 : Int32), .int u1, .int ((u1 / (100 : Int32)) - (1 : Int32)), .ref 1], N, sl, rn_hp S M)) rfl ?_
      refine rn_e1 qm (s2 := (63, [(0, .ref 0), (1, .int u1)], [.int (u1 - u1 / (100 : Int32) * (100 : Int32)), .int ((u1 / (100 : Int32)) - (1 : Int32)), .ref 1], N, sl, rn_hp S M)) (rn_g_irem rfl rfl (by decide)) ?_
      obtain ⟨p7, hp7, h⟩ := Option.bind_eq_some_iff.mp h
      refine rn_ec qm rfl rfl rfl rfl rn_m115 rfl rfl rfl (fun _ => rn_rc_of (en_1 (q := 1) rfl)) (E115 hp7) ?_
      refine rn_eg qm 0 (s2 := (64, [(0, .ref 0), (1, .int u1)], [.int p7], N, sl, rn_hp S M)) rfl ?_
      refine rn_eg qm 3 (s2 := ((if p7 = 0 then 67 else 69), [(2, .int p7), (0, .ref 0), (1, .int u1)], [], N, sl, rn_hp S M)) rfl ?_
      refine rn_ite (fun c8 => ?_) (fun c8 => ?_)
      · rw [if_pos c8] at h
        refine rn_eg qm 2 (s2 := (70, [(2, .int p7), (0, .ref 0), (1, .int u1)], [.int (-2 : Int32)], N, sl, rn_hp S M)) rfl ?_
        cases h
        exact rn_er qm rfl rfl rfl
      · rw [if_neg c8] at h
        refine rn_eg qm 1 (s2 := (70, [(2, .int p7), (0, .ref 0), (1, .int u1)], [.int p7], N, sl, rn_hp S M)) rfl ?_
        cases h
        exact rn_er qm rfl rfl rfl
    · rw [if_neg c6] at h
      refine rn_eg qm 1 (s2 := (52, [], [.int (-2 : Int32)], N, sl, rn_hp S M)) rfl ?_
      cases h
      exact rn_er qm rfl rfl rfl
def f21_J28 (S : rn_T) (u1 : Int32) : Option Int32 :=
  if u1 < (20 : Int32) then
    f21_J45 S u1
  else
    if (28 : Int32) ≤ u1 then
      f21_J45 S u1
    else
      Option.bind (f114 S 1 (u1 - (20 : Int32))) fun p10 =>
        if p10 = true then
          some (1 : Int32)
        else
          some (0 : Int32)
set_option maxHeartbeats 4000000 in
theorem E21_J28 {X : rn_X} {N sl : Nat} {M : rn_T} {S : rn_T} {u1 : Int32} {R : (Int32)} (h : f21_J28 S u1 = some R) : rn_rv X 21 (28, [(0, .ref 0), (1, .int u1)], [], N, sl, rn_hp S M) (some (.int R), N, sl, rn_hp S M) := by
  have qm := rn_m21
  unfold f21_J28 at h
  refine rn_eg qm 3 (s2 := ((if u1 < (20 : Int32) then 45 else 31), [(0, .ref 0), (1, .int u1)], [], N, sl, rn_hp S M)) rfl ?_
  refine rn_ite (fun c4 => ?_) (fun c4 => ?_)
  · rw [if_pos c4] at h
    refine rn_kq qm (s2 := (45, [(0, .ref 0), (1, .int u1)], [], N, sl, rn_hp S M)) rfl rfl ?_
    exact E21_J45 h
  · rw [if_neg c4] at h
    refine rn_eg qm 3 (s2 := ((if (28 : Int32) ≤ u1 then 45 else 34), [(0, .ref 0), (1, .int u1)], [], N, sl, rn_hp S M)) rfl ?_
    refine rn_ite (fun c9 => ?_) (fun c9 => ?_)
    · rw [if_pos c9] at h
      refine rn_kq qm (s2 := (45, [(0, .ref 0), (1, .int u1)], [], N, sl, rn_hp S M)) rfl rfl ?_
      exact E21_J45 h
    · rw [if_neg c9] at h
      refine rn_eg qm 5 (s2 := (39, [(0, .ref 0), (1, .int u1)], [.int (u1 - (20 : Int32)), .ref 1], N, sl, rn_hp S M)) rfl ?_
      obtain ⟨p10, hp10, h⟩ := Option.bind_eq_some_iff.mp h
      refine rn_ec qm rfl rfl rfl rfl rn_m114 rfl rfl rfl (fun _ => rn_rc_of (en_1 (q := 1) rfl)) (E114 hp10) ?_
      refine rn_eg qm 0 (s2 := (40, [(0, .ref 0), (1, .int u1)], [.int (rn_bi p10)], N, sl, rn_hp S M)) rfl ?_
      refine rn_eg qm 1 (s2 := ((if (rn_bi p10) = 0 then 43 else 41), [(0, .ref 0), (1, .int u1)], [], N, sl, rn_hp S M)) rfl ?_
      refine rn_iteb (fun c11 => ?_) (fun c11 => ?_)
      · rw [if_neg (rn_bf c11)] at h
        refine rn_eg qm 1 (s2 := (44, [(0, .ref 0), (1, .int u1)], [.int (0 : Int32)], N, sl, rn_hp S M)) rfl ?_
        cases h
        exact rn_er qm rfl rfl rfl
      · rw [if_pos c11] at h
        refine rn_eg qm 2 (s2 := (44, [(0, .ref 0), (1, .int u1)], [.int (1 : Int32)], N, sl, rn_hp S M)) rfl ?_
        cases h
        exact rn_er qm rfl rfl rfl
def f21 (S : rn_T) (a1 : Int32) : Option Int32 :=
  if a1 = 0 then
    some (rI S 1 4)
  else
    if a1 = (1 : Int32) then
      some (rI S 1 3)
    else
      if a1 < (10 : Int32) then
        f21_J28 S a1
      else
        if (18 : Int32) ≤ a1 then
          f21_J28 S a1
        else
          if rn_ob (a1 - (10 : Int32)) 8 then none else
            some (rI S (5 + 2 * (Int32.toNatClampNeg (a1 - (10 : Int32)))) 1)
set_option maxHeartbeats 4000000 in
theorem E21 {X : rn_X} {N sl : Nat} {S M : rn_T} {a1 : Int32} {R : (Int32)} (h : f21 S a1 = some R) : rn_rv X 21 (0, [(0, .ref 0), (1, .int a1)], [], N, sl, rn_hp S M) (some (.int R), N, sl, rn_hp S M) := by
  have qm := rn_m21
  unfold f21 at h
  refine rn_eg qm 2 (s2 := ((if a1 = 0 then 2 else 6), [(0, .ref 0), (1, .int a1)], [], N, sl, rn_hp S M)) rfl ?_
  refine rn_ite (fun c1 => ?_) (fun c1 => ?_)
  · rw [if_pos c1] at h
    refine rn_eg qm 3 (s2 := (5, [(0, .ref 0), (1, .int a1)], [.int (rI S 1 4)], N, sl, rn_hp S M)) rfl ?_
    cases h
    exact rn_er qm rfl rfl rfl
  · rw [if_neg c1] at h
    refine rn_eg qm 3 (s2 := ((if a1 = (1 : Int32) then 9 else 13), [(0, .ref 0), (1, .int a1)], [], N, sl, rn_hp S M)) rfl ?_
    refine rn_ite (fun c2 => ?_) (fun c2 => ?_)
    · rw [if_pos c2] at h
      refine rn_eg qm 3 (s2 := (12, [(0, .ref 0), (1, .int a1)], [.int (rI S 1 3)], N, sl, rn_hp S M)) rfl ?_
      cases h
      exact rn_er qm rfl rfl rfl
    · rw [if_neg c2] at h
      refine rn_eg qm 3 (s2 := ((if a1 < (10 : Int32) then 28 else 16), [(0, .ref 0), (1, .int a1)], [], N, sl, rn_hp S M)) rfl ?_
      refine rn_ite (fun c3 => ?_) (fun c3 => ?_)
      · rw [if_pos c3] at h
        refine rn_kq qm (s2 := (28, [(0, .ref 0), (1, .int a1)], [], N, sl, rn_hp S M)) rfl rfl ?_
        exact E21_J28 h
      · rw [if_neg c3] at h
        refine rn_eg qm 3 (s2 := ((if (18 : Int32) ≤ a1 then 28 else 19), [(0, .ref 0), (1, .int a1)], [], N, sl, rn_hp S M)) rfl ?_
        refine rn_ite (fun c12 => ?_) (fun c12 => ?_)
        · rw [if_pos c12] at h
          refine rn_kq qm (s2 := (28, [(0, .ref 0), (1, .int a1)], [], N, sl, rn_hp S M)) rfl rfl ?_
          exact E21_J28 h
        · rw [if_neg c12] at h
          refine rn_eg qm 6 (s2 := (25, [(0, .ref 0), (1, .int a1)], [.int (a1 - (10 : Int32)), .ref 2], N, sl, rn_hp S M)) rfl ?_
          have c13 : ¬ (rn_ob (a1 - (10 : Int32)) 8) := fun c => by rw [if_pos c] at h; cases h
          rw [if_neg c13] at h
          refine rn_e1 qm (s2 := (26, [(0, .ref 0), (1, .int a1)], [.ref (5 + 2 * (Int32.toNatClampNeg (a1 - (10 : Int32))))], N, sl, rn_hp S M)) (rn_g_aald (r := some (5 + 2 * (Int32.toNatClampNeg (a1 - (10 : Int32))))) rfl rfl (ar_x20 (q := 2) rfl (Nat.le_of_ble_eq_true rfl)) c13 (rn_cr_at (rn_ob_lt c13))) ?_
          refine rn_e1 qm (s2 := (27, [(0, .ref 0), (1, .int a1)], [.int (rI S (5 + 2 * (Int32.toNatClampNeg (a1 - (10 : Int32)))) 1)], N, sl, rn_hp S M)) (rn_g_getf rfl rfl (en_5 (show rn_kd (5 + 2 * (Int32.toNatClampNeg (a1 - (10 : Int32)))) = 5 from ck_20 (q := 2) rfl (rn_ob_lt c13))) rfl) ?_
          cases h
          exact rn_er qm rfl rfl rfl
/-! 29: RecordNichesModel.in(JJJ)Z -/
def f29 (a0 : Int64) (a2 : Int64) (a4 : Int64) : Bool :=
  if (lg_cmp a0 a2) < 0 then
    false
  else
    if 0 < (lg_cmp a0 a4) then
      false
    else
      true
set_option maxHeartbeats 4000000 in
theorem E29 {X : rn_X} {N sl : Nat} {S M : rn_T} {a0 : Int64} {a2 : Int64} {a4 : Int64} {R : Bool} (h : f29 a0 a2 a4 = R) : rn_rv X 29 (0, [(0, .long a0), (2, .long a2), (4, .long a4)], [], N, sl, rn_hp S M) (some (.int (rn_bi R)), N, sl, rn_hp S M) := by
  have qm := rn_m29
  unfold f29 at h
  refine rn_eg qm 4 (s2 := ((if (lg_cmp a0 a2) < 0 then 10 else 4), [(0, .long a0), (2, .long a2), (4, .long a4)], [], N, sl, rn_hp S M)) rfl ?_
  refine rn_ite (fun c1 => ?_) (fun c1 => ?_)
  · rw [if_pos c1] at h
    refine rn_eg qm 1 (s2 := (11, [], [.int (0 : Int32)], N, sl, rn_hp S M)) rfl ?_
    cases h
    exact rn_er qm rfl rfl rn_rt0
  · rw [if_neg c1] at h
    refine rn_eg qm 4 (s2 := ((if 0 < (lg_cmp a0 a4) then 10 else 8), [(0, .long a0), (2, .long a2), (4, .long a4)], [], N, sl, rn_hp S M)) rfl ?_
    refine rn_ite (fun c2 => ?_) (fun c2 => ?_)
    · rw [if_pos c2] at h
      refine rn_eg qm 1 (s2 := (11, [], [.int (0 : Int32)], N, sl, rn_hp S M)) rfl ?_
      cases h
      exact rn_er qm rfl rfl rn_rt0
    · rw [if_neg c2] at h
      refine rn_eg qm 2 (s2 := (11, [(0, .long a0), (2, .long a2), (4, .long a4)], [.int (1 : Int32)], N, sl, rn_hp S M)) rfl ?_
      cases h
      exact rn_er qm rfl rfl rn_rt1
/-! 30: RecordNichesModel.isShape(I)Z -/
def f30 (M : rn_T) (a0 : Int32) : Bool :=
  (f29 (Int32.toInt64 a0) (0 : Int64) (7 : Int64))
set_option maxHeartbeats 4000000 in
theorem E30 {X : rn_X} {N sl : Nat} {S M : rn_T} {a0 : Int32} {R : Bool} (h : f30 M a0 = R) : rn_rv X 30 (0, [(0, .int a0)], [], N, sl, rn_hp S M) (some (.int (rn_bi R)), N, sl, rn_hp S M) := by
  have qm := rn_m30
  unfold f30 at h
  refine rn_eg qm 4 (s2 := (4, [(0, .int a0)], [.long (7 : Int64), .long (0 : Int64), .long (Int32.toInt64 a0)], N, sl, rn_hp S M)) rfl ?_
  refine rn_ec qm rfl rfl rfl rfl rn_m29 rfl rfl rfl (fun h => by cases h) (E29 rfl) ?_
  refine rn_eg qm 0 (s2 := (5, [(0, .int a0)], [.int (rn_bi (f29 (Int32.toInt64 a0) (0 : Int64) (7 : Int64)))], N, sl, rn_hp S M)) rfl ?_
  cases h
  exact rn_er qm rfl rfl (rn_rtb _)
/-! 31: RecordNichesModel.greater(II)I -/
def f31 (a0 : Int32) (a1 : Int32) : Int32 :=
  if a0 ≤ a1 then
    a1
  else
    a0
set_option maxHeartbeats 4000000 in
theorem E31 {X : rn_X} {N sl : Nat} {S M : rn_T} {a0 : Int32} {a1 : Int32} {R : Int32} (h : f31 a0 a1 = R) : rn_rv X 31 (0, [(0, .int a0), (1, .int a1)], [], N, sl, rn_hp S M) (some (.int R), N, sl, rn_hp S M) := by
  have qm := rn_m31
  unfold f31 at h
  refine rn_eg qm 3 (s2 := ((if a0 ≤ a1 then 5 else 3), [(0, .int a0), (1, .int a1)], [], N, sl, rn_hp S M)) rfl ?_
  refine rn_ite (fun c1 => ?_) (fun c1 => ?_)
  · rw [if_pos c1] at h
    refine rn_eg qm 1 (s2 := (6, [(0, .int a0), (1, .int a1)], [.int a1], N, sl, rn_hp S M)) rfl ?_
    cases h
    exact rn_er qm rfl rfl rfl
  · rw [if_neg c1] at h
    refine rn_eg qm 2 (s2 := (6, [(0, .int a0), (1, .int a1)], [.int a0], N, sl, rn_hp S M)) rfl ?_
    cases h
    exact rn_er qm rfl rfl rfl
/-! 32: RecordNichesModel.upTo(II)I -/
def f32 (a0 : Int32) (a1 : Int32) : Option Int32 :=
  if a1 = 0 then none else
    some ((((a0 + a1) - (1 : Int32)) / a1) * a1)
set_option maxHeartbeats 4000000 in
theorem E32 {X : rn_X} {N sl : Nat} {S M : rn_T} {a0 : Int32} {a1 : Int32} {R : (Int32)} (h : f32 a0 a1 = some R) : rn_rv X 32 (0, [(0, .int a0), (1, .int a1)], [], N, sl, rn_hp S M) (some (.int R), N, sl, rn_hp S M) := by
  have qm := rn_m32
  unfold f32 at h
  refine rn_eg qm 6 (s2 := (6, [(0, .int a0), (1, .int a1)], [.int a1, .int ((a0 + a1) - (1 : Int32))], N, sl, rn_hp S M)) rfl ?_
  have c1 : ¬ (a1 = 0) := fun c => by rw [if_pos c] at h; cases h
  rw [if_neg c1] at h
  refine rn_e1 qm (s2 := (7, [(0, .int a0), (1, .int a1)], [.int (((a0 + a1) - (1 : Int32)) / a1)], N, sl, rn_hp S M)) (rn_g_idiv rfl rfl c1) ?_
  refine rn_eg qm 2 (s2 := (9, [(0, .int a0), (1, .int a1)], [.int ((((a0 + a1) - (1 : Int32)) / a1) * a1)], N, sl, rn_hp S M)) rfl ?_
  cases h
  exact rn_er qm rfl rfl rfl
/-! 33: RecordNichesModel.signAt(II)I -/
def f33 (M : rn_T) (a1 : Int32) (a2 : Int32) : Option Int32 :=
  if rn_ob (((40 : Int32) * a1) + a2) 320 then none else
    some (rA M 319 (Int32.toNatClampNeg (((40 : Int32) * a1) + a2)))
set_option maxHeartbeats 4000000 in
theorem E33 {X : rn_X} {N sl : Nat} {S M : rn_T} {a1 : Int32} {a2 : Int32} {R : (Int32)} (h : f33 M a1 a2 = some R) : rn_rv X 33 (0, [(0, .ref 318), (1, .int a1), (2, .int a2)], [], N, sl, rn_hp S M) (some (.int R), N, sl, rn_hp S M) := by
  have qm := rn_m33
  unfold f33 at h
  refine rn_eg qm 7 (s2 := (7, [(0, .ref 318), (1, .int a1), (2, .int a2)], [.int (((40 : Int32) * a1) + a2), .ref 319], N, sl, rn_hp S M)) rfl ?_
  have c1 : ¬ (rn_ob (((40 : Int32) * a1) + a2) 320) := fun c => by rw [if_pos c] at h; cases h
  rw [if_neg c1] at h
  refine rn_e1 qm (s2 := (8, [(0, .ref 318), (1, .int a1), (2, .int a2)], [.int (rA M 319 (Int32.toNatClampNeg (((40 : Int32) * a1) + a2)))], N, sl, rn_hp S M)) (rn_g_iald (n := 320) rfl rfl (ar_m10 rfl rfl (Nat.le_of_ble_eq_true rfl)) c1) ?_
  cases h
  exact rn_er qm rfl rfl rfl
/-! 34: RecordNichesModel.say(II)I -/
def f34 (M : rn_T) (a1 : Int32) (a2 : Int32) : Option (Int32 × rn_T) :=
  if (f30 M a1) = true then
    if (f29 (Int32.toInt64 a2) (33 : Int64) (126 : Int64)) = true then
      if rn_ob a1 8 then none else
        if (rA M 320 (Int32.toNatClampNeg a1)) = (40 : Int32) then
          some ((-4 : Int32), M)
        else
          if rn_ob (((40 : Int32) * a1) + (rA M 320 (Int32.toNatClampNeg a1))) 320 then none else
            some ((rA (wA (wA M 319 (Int32.toNatClampNeg (((40 : Int32) * a1) + (rA M 320 (Int32.toNatClampNeg a1)))) a2) 320 (Int32.toNatClampNeg a1) ((rA (wA M 319 (Int32.toNatClampNeg (((40 : Int32) * a1) + (rA M 320 (Int32.toNatClampNeg a1)))) a2) 320 (Int32.toNatClampNeg a1)) + (1 : Int32))) 320 (Int32.toNatClampNeg a1)), wA (wA M 319 (Int32.toNatClampNeg (((40 : Int32) * a1) + (rA M 320 (Int32.toNatClampNeg a1)))) a2) 320 (Int32.toNatClampNeg a1) ((rA (wA M 319 (Int32.toNatClampNeg (((40 : Int32) * a1) + (rA M 320 (Int32.toNatClampNeg a1)))) a2) 320 (Int32.toNatClampNeg a1)) + (1 : Int32)))
    else
      some ((-2 : Int32), M)
  else
    some ((-1 : Int32), M)
set_option maxHeartbeats 4000000 in
theorem E34 {X : rn_X} {N sl : Nat} {S M : rn_T} {a1 : Int32} {a2 : Int32} {R : (Int32 × rn_T)} (h : f34 M a1 a2 = some R) : rn_rv X 34 (0, [(0, .ref 318), (1, .int a1), (2, .int a2)], [], N, sl, rn_hp S M) (some (.int R.1), N, sl, rn_hp S R.2) := by
  have qm := rn_m34
  unfold f34 at h
  refine rn_eg qm 1 (s2 := (1, [(0, .ref 318), (1, .int a1), (2, .int a2)], [.int a1], N, sl, rn_hp S M)) rfl ?_
  refine rn_ec qm rfl rfl rfl rfl rn_m30 rfl rfl rfl (fun h => by cases h) (E30 rfl) ?_
  refine rn_eg qm 0 (s2 := (2, [(0, .ref 318), (1, .int a1), (2, .int a2)], [.int (rn_bi (f30 M a1))], N, sl, rn_hp S M)) rfl ?_
  refine rn_eg qm 1 (s2 := ((if (rn_bi (f30 M a1)) = 0 then 3 else 5), [(0, .ref 318), (1, .int a1), (2, .int a2)], [], N, sl, rn_hp S M)) rfl ?_
  refine rn_iteb (fun c2 => ?_) (fun c2 => ?_)
  · rw [if_neg (rn_bf c2)] at h
    refine rn_eg qm 1 (s2 := (4, [(0, .ref 318), (1, .int a1), (2, .int a2)], [.int (-1 : Int32)], N, sl, rn_hp S M)) rfl ?_
    cases h
    exact rn_er qm rfl rfl rfl
  · rw [if_pos c2] at h
    refine rn_eg qm 4 (s2 := (9, [(0, .ref 318), (1, .int a1), (2, .int a2)], [.long (126 : Int64), .long (33 : Int64), .long (Int32.toInt64 a2)], N, sl, rn_hp S M)) rfl ?_
    refine rn_ec qm rfl rfl rfl rfl rn_m29 rfl rfl rfl (fun h => by cases h) (E29 rfl) ?_
    refine rn_eg qm 0 (s2 := (10, [(0, .ref 318), (1, .int a1), (2, .int a2)], [.int (rn_bi (f29 (Int32.toInt64 a2) (33 : Int64) (126 : Int64)))], N, sl, rn_hp S M)) rfl ?_
    refine rn_eg qm 1 (s2 := ((if (rn_bi (f29 (Int32.toInt64 a2) (33 : Int64) (126 : Int64))) = 0 then 11 else 13), [(0, .ref 318), (1, .int a1), (2, .int a2)], [], N, sl, rn_hp S M)) rfl ?_
    refine rn_iteb (fun c4 => ?_) (fun c4 => ?_)
    · rw [if_neg (rn_bf c4)] at h
      refine rn_eg qm 1 (s2 := (12, [(0, .ref 318), (1, .int a1), (2, .int a2)], [.int (-2 : Int32)], N, sl, rn_hp S M)) rfl ?_
      cases h
      exact rn_er qm rfl rfl rfl
    · rw [if_pos c4] at h
      refine rn_eg qm 3 (s2 := (16, [(0, .ref 318), (1, .int a1), (2, .int a2)], [.int a1, .ref 320], N, sl, rn_hp S M)) rfl ?_
      have c5 : ¬ (rn_ob a1 8) := fun c => by rw [if_pos c] at h; cases h
      rw [if_neg c5] at h
      refine rn_e1 qm (s2 := (17, [(0, .ref 318), (1, .int a1), (2, .int a2)], [.int (rA M 320 (Int32.toNatClampNeg a1))], N, sl, rn_hp S M)) (rn_g_iald (n := 8) rfl rfl (ar_m10 rfl rfl (Nat.le_of_ble_eq_true rfl)) c5) ?_
      refine rn_eg qm 2 (s2 := ((if (rA M 320 (Int32.toNatClampNeg a1)) = (40 : Int32) then 19 else 21), [(0, .ref 318), (1, .int a1), (2, .int a2)], [], N, sl, rn_hp S M)) rfl ?_
      refine rn_ite (fun c6 => ?_) (fun c6 => ?_)
      · rw [if_pos c6] at h
        refine rn_eg qm 1 (s2 := (20, [(0, .ref 318), (1, .int a1), (2, .int a2)], [.int (-4 : Int32)], N, sl, rn_hp S M)) rfl ?_
        cases h
        exact rn_er qm rfl rfl rfl
      · rw [if_neg c6] at h
        refine rn_eg qm 8 (s2 := (29, [(0, .ref 318), (1, .int a1), (2, .int a2)], [.int a1, .ref 320, .int ((40 : Int32) * a1), .ref 319], N, sl, rn_hp S M)) rfl ?_
        refine rn_e1 qm (s2 := (30, [(0, .ref 318), (1, .int a1), (2, .int a2)], [.int (rA M 320 (Int32.toNatClampNeg a1)), .int ((40 : Int32) * a1), .ref 319], N, sl, rn_hp S M)) (rn_g_iald (n := 8) rfl rfl (ar_m10 rfl rfl (Nat.le_of_ble_eq_true rfl)) c5) ?_
        refine rn_eg qm 2 (s2 := (32, [(0, .ref 318), (1, .int a1), (2, .int a2)], [.int a2, .int (((40 : Int32) * a1) + (rA M 320 (Int32.toNatClampNeg a1))), .ref 319], N, sl, rn_hp S M)) rfl ?_
        have c7 : ¬ (rn_ob (((40 : Int32) * a1) + (rA M 320 (Int32.toNatClampNeg a1))) 320) := fun c => by rw [if_pos c] at h; cases h
        rw [if_neg c7] at h
        refine rn_e1 qm (s2 := (33, [(0, .ref 318), (1, .int a1), (2, .int a2)], [], N, sl, rn_hp S (wA M 319 (Int32.toNatClampNeg (((40 : Int32) * a1) + (rA M 320 (Int32.toNatClampNeg a1)))) a2))) (rn_g_iast (n := 320) rfl rfl (ar_m10 rfl rfl (Nat.le_of_ble_eq_true rfl)) c7 (aw_m10 rfl rfl (Nat.le_of_ble_eq_true rfl))) ?_
        refine rn_eg qm 4 (s2 := (37, [(0, .ref 318), (1, .int a1), (2, .int a2)], [.int a1, .ref 320, .int a1, .ref 320], N, sl, rn_hp S (wA M 319 (Int32.toNatClampNeg (((40 : Int32) * a1) + (rA M 320 (Int32.toNatClampNeg a1)))) a2))) rfl ?_
        refine rn_e1 qm (s2 := (38, [(0, .ref 318), (1, .int a1), (2, .int a2)], [.int (rA (wA M 319 (Int32.toNatClampNeg (((40 : Int32) * a1) + (rA M 320 (Int32.toNatClampNeg a1)))) a2) 320 (Int32.toNatClampNeg a1)), .int a1, .ref 320], N, sl, rn_hp S (wA M 319 (Int32.toNatClampNeg (((40 : Int32) * a1) + (rA M 320 (Int32.toNatClampNeg a1)))) a2))) (rn_g_iald (n := 8) rfl rfl (ar_m10 rfl rfl (Nat.le_of_ble_eq_true rfl)) c5) ?_
        refine rn_eg qm 2 (s2 := (40, [(0, .ref 318), (1, .int a1), (2, .int a2)], [.int ((rA (wA M 319 (Int32.toNatClampNeg (((40 : Int32) * a1) + (rA M 320 (Int32.toNatClampNeg a1)))) a2) 320 (Int32.toNatClampNeg a1)) + (1 : Int32)), .int a1, .ref 320], N, sl, rn_hp S (wA M 319 (Int32.toNatClampNeg (((40 : Int32) * a1) + (rA M 320 (Int32.toNatClampNeg a1)))) a2))) rfl ?_
        refine rn_e1 qm (s2 := (41, [(0, .ref 318), (1, .int a1), (2, .int a2)], [], N, sl, rn_hp S (wA (wA M 319 (Int32.toNatClampNeg (((40 : Int32) * a1) + (rA M 320 (Int32.toNatClampNeg a1)))) a2) 320 (Int32.toNatClampNeg a1) ((rA (wA M 319 (Int32.toNatClampNeg (((40 : Int32) * a1) + (rA M 320 (Int32.toNatClampNeg a1)))) a2) 320 (Int32.toNatClampNeg a1)) + (1 : Int32))))) (rn_g_iast (n := 8) rfl rfl (ar_m10 rfl rfl (Nat.le_of_ble_eq_true rfl)) c5 (aw_m10 rfl rfl (Nat.le_of_ble_eq_true rfl))) ?_
        refine rn_eg qm 3 (s2 := (44, [(0, .ref 318), (1, .int a1), (2, .int a2)], [.int a1, .ref 320], N, sl, rn_hp S (wA (wA M 319 (Int32.toNatClampNeg (((40 : Int32) * a1) + (rA M 320 (Int32.toNatClampNeg a1)))) a2) 320 (Int32.toNatClampNeg a1) ((rA (wA M 319 (Int32.toNatClampNeg (((40 : Int32) * a1) + (rA M 320 (Int32.toNatClampNeg a1)))) a2) 320 (Int32.toNatClampNeg a1)) + (1 : Int32))))) rfl ?_
        refine rn_e1 qm (s2 := (45, [(0, .ref 318), (1, .int a1), (2, .int a2)], [.int (rA (wA (wA M 319 (Int32.toNatClampNeg (((40 : Int32) * a1) + (rA M 320 (Int32.toNatClampNeg a1)))) a2) 320 (Int32.toNatClampNeg a1) ((rA (wA M 319 (Int32.toNatClampNeg (((40 : Int32) * a1) + (rA M 320 (Int32.toNatClampNeg a1)))) a2) 320 (Int32.toNatClampNeg a1)) + (1 : Int32))) 320 (Int32.toNatClampNeg a1))], N, sl, rn_hp S (wA (wA M 319 (Int32.toNatClampNeg (((40 : Int32) * a1) + (rA M 320 (Int32.toNatClampNeg a1)))) a2) 320 (Int32.toNatClampNeg a1) ((rA (wA M 319 (Int32.toNatClampNeg (((40 : Int32) * a1) + (rA M 320 (Int32.toNatClampNeg a1)))) a2) 320 (Int32.toNatClampNeg a1)) + (1 : Int32))))) (rn_g_iald (n := 8) rfl rfl (ar_m10 rfl rfl (Nat.le_of_ble_eq_true rfl)) c5) ?_
        cases h
        exact rn_er qm rfl rfl rfl
/-! 35: RecordNichesModel.wipe(I)I -/
def f35 (M : rn_T) (a1 : Int32) : Option (Int32 × rn_T) :=
  if (f30 M a1) = true then
    if rn_ob a1 8 then none else
      some ((rA M 320 (Int32.toNatClampNeg a1)), wA M 320 (Int32.toNatClampNeg a1) (0 : Int32))
  else
    some ((-1 : Int32), M)
set_option maxHeartbeats 4000000 in
theorem E35 {X : rn_X} {N sl : Nat} {S M : rn_T} {a1 : Int32} {R : (Int32 × rn_T)} (h : f35 M a1 = some R) : rn_rv X 35 (0, [(0, .ref 318), (1, .int a1)], [], N, sl, rn_hp S M) (some (.int R.1), N, sl, rn_hp S R.2) := by
  have qm := rn_m35
  unfold f35 at h
  refine rn_eg qm 1 (s2 := (1, [(0, .ref 318), (1, .int a1)], [.int a1], N, sl, rn_hp S M)) rfl ?_
  refine rn_ec qm rfl rfl rfl rfl rn_m30 rfl rfl rfl (fun h => by cases h) (E30 rfl) ?_
  refine rn_eg qm 0 (s2 := (2, [(0, .ref 318), (1, .int a1)], [.int (rn_bi (f30 M a1))], N, sl, rn_hp S M)) rfl ?_
  refine rn_eg qm 1 (s2 := ((if (rn_bi (f30 M a1)) = 0 then 3 else 5), [(0, .ref 318), (1, .int a1)], [], N, sl, rn_hp S M)) rfl ?_
  refine rn_iteb (fun c2 => ?_) (fun c2 => ?_)
  · rw [if_neg (rn_bf c2)] at h
    refine rn_eg qm 1 (s2 := (4, [(0, .ref 318), (1, .int a1)], [.int (-1 : Int32)], N, sl, rn_hp S M)) rfl ?_
    cases h
    exact rn_er qm rfl rfl rfl
  · rw [if_pos c2] at h
    refine rn_eg qm 3 (s2 := (8, [(0, .ref 318), (1, .int a1)], [.int a1, .ref 320], N, sl, rn_hp S M)) rfl ?_
    have c3 : ¬ (rn_ob a1 8) := fun c => by rw [if_pos c] at h; cases h
    rw [if_neg c3] at h
    refine rn_e1 qm (s2 := (9, [(0, .ref 318), (1, .int a1)], [.int (rA M 320 (Int32.toNatClampNeg a1))], N, sl, rn_hp S M)) (rn_g_iald (n := 8) rfl rfl (ar_m10 rfl rfl (Nat.le_of_ble_eq_true rfl)) c3) ?_
    refine rn_eg qm 5 (s2 := (14, [(2, .int (rA M 320 (Int32.toNatClampNeg a1))), (0, .ref 318), (1, .int a1)], [.int (0 : Int32), .int a1, .ref 320], N, sl, rn_hp S M)) rfl ?_
    refine rn_e1 qm (s2 := (15, [(2, .int (rA M 320 (Int32.toNatClampNeg a1))), (0, .ref 318), (1, .int a1)], [], N, sl, rn_hp S (wA M 320 (Int32.toNatClampNeg a1) (0 : Int32)))) (rn_g_iast (n := 8) rfl rfl (ar_m10 rfl rfl (Nat.le_of_ble_eq_true rfl)) c3 (aw_m10 rfl rfl (Nat.le_of_ble_eq_true rfl))) ?_
    refine rn_eg qm 1 (s2 := (16, [(2, .int (rA M 320 (Int32.toNatClampNeg a1))), (0, .ref 318), (1, .int a1)], [.int (rA M 320 (Int32.toNatClampNeg a1))], N, sl, rn_hp S (wA M 320 (Int32.toNatClampNeg a1) (0 : Int32)))) rfl ?_
    cases h
    exact rn_er qm rfl rfl rfl
/-! 36: RecordNichesModel.isOpen(I)Z -/
def f36_L4 (b1 : Int32) : Nat → rn_T → Int32 → Int32 → (rn_T → Int32 → Option Bool) → Option Bool
  | 0, _, _, _, _ => none
  | fu + 1, M, v2, v3, k =>
    if rn_ob b1 8 then none else
      if (rA M 320 (Int32.toNatClampNeg b1)) ≤ v3 then
        k M v2
      else
        if v2 = 0 then
          Option.bind (f33 M b1 v3) fun p4 =>
            if p4 = (120 : Int32) then
              f36_L4 b1 fu M (1 : Int32) (v3 + (1 : Int32)) k
            else
              f36_L4 b1 fu M (0 : Int32) (v3 + (1 : Int32)) k
        else
          f36_L4 b1 fu M (1 : Int32) (v3 + (1 : Int32)) k
set_option maxHeartbeats 4000000 in
theorem E36_L4 {X : rn_X} {N sl : Nat} {S : rn_T} {b1 : Int32} : ∀ (fu : Nat) (M : rn_T) (v2 : Int32) (v3 : Int32) (k : (rn_T → Int32 → Option Bool)) (R : (Bool)), (∀ (M : rn_T) (w_2 : Int32), k M w_2 = some R → rn_rv X 36 (24, [(2, .int w_2)], [], N, sl, rn_hp S M) (some (.int (rn_bi R)), N, sl, rn_hp S M)) → f36_L4 b1 fu M v2 v3 k = some R → rn_rv X 36 (4, [(0, .ref 318), (1, .int b1), (2, .int v2), (3, .int v3)], [], N, sl, rn_hp S M) (some (.int (rn_bi R)), N, sl, rn_hp S M) := by
  have qm := rn_m36
  intro fu
  induction fu with
  | zero => intro M v2 v3 k R hk h; cases h
  | succ fu ih =>
    intro M v2 v3 k R hk h
    unfold f36_L4 at h
    refine rn_eg qm 4 (s2 := (8, [(0, .ref 318), (1, .int b1), (2, .int v2), (3, .int v3)], [.int b1, .ref 320, .int v3], N, sl, rn_hp S M)) rfl ?_
    have c1 : ¬ (rn_ob b1 8) := fun c => by rw [if_pos c] at h; cases h
    rw [if_neg c1] at h
    refine rn_e1 qm (s2 := (9, [(0, .ref 318), (1, .int b1), (2, .int v2), (3, .int v3)], [.int (rA M 320 (Int32.toNatClampNeg b1)), .int v3], N, sl, rn_hp S M)) (rn_g_iald (n := 8) rfl rfl (ar_m10 rfl rfl (Nat.le_of_ble_eq_true rfl)) c1) ?_
    refine rn_eg qm 1 (s2 := ((if (rA M 320 (Int32.toNatClampNeg b1)) ≤ v3 then 24 else 10), [(0, .ref 318), (1, .int b1), (2, .int v2), (3, .int v3)], [], N, sl, rn_hp S M)) rfl ?_
    refine rn_ite (fun c2 => ?_) (fun c2 => ?_)
    · rw [if_pos c2] at h
      refine rn_kq qm (s2 := (24, [(2, .int v2)], [], N, sl, rn_hp S M)) rfl rfl ?_
      exact hk _ _ h
    · rw [if_neg c2] at h
      refine rn_eg qm 2 (s2 := ((if v2 = 0 then 12 else 18), [(0, .ref 318), (1, .int b1), (2, .int v2), (3, .int v3)], [], N, sl, rn_hp S M)) rfl ?_
      refine rn_ite (fun c3 => ?_) (fun c3 => ?_)
      · rw [if_pos c3] at h
        refine rn_eg qm 3 (s2 := (15, [(0, .ref 318), (1, .int b1), (2, .int v2), (3, .int v3)], [.int v3, .int b1, .ref 318], N, sl, rn_hp S M)) rfl ?_
        obtain ⟨p4, hp4, h⟩ := Option.bind_eq_some_iff.mp h
        refine rn_ec qm rfl rfl rfl rfl rn_m33 rfl rfl rfl (fun _ => rn_rc_of (en_9 (q := 318) rfl)) (E33 hp4) ?_
        refine rn_eg qm 0 (s2 := (16, [(0, .ref 318), (1, .int b1), (2, .int v2), (3, .int v3)], [.int p4], N, sl, rn_hp S M)) rfl ?_
        refine rn_eg qm 2 (s2 := ((if p4 = (120 : Int32) then 18 else 20), [(0, .ref 318), (1, .int b1), (2, .int v2), (3, .int v3)], [], N, sl, rn_hp S M)) rfl ?_
        refine rn_ite (fun c5 => ?_) (fun c5 => ?_)
        · rw [if_pos c5] at h
          refine rn_eg qm 5 (s2 := (4, [(3, .int (v3 + (1 : Int32))), (2, .int (1 : Int32)), (0, .ref 318), (1, .int b1)], [], N, sl, rn_hp S M)) rfl ?_
          refine rn_kq qm (s2 := (4, [(0, .ref 318), (1, .int b1), (2, .int (1 : Int32)), (3, .int (v3 + (1 : Int32)))], [], N, sl, rn_hp S M)) rfl rfl ?_
          exact ih _ _ _ k R hk h
        · rw [if_neg c5] at h
          refine rn_eg qm 4 (s2 := (4, [(3, .int (v3 + (1 : Int32))), (2, .int (0 : Int32)), (0, .ref 318), (1, .int b1)], [], N, sl, rn_hp S M)) rfl ?_
          refine rn_kq qm (s2 := (4, [(0, .ref 318), (1, .int b1), (2, .int (0 : Int32)), (3, .int (v3 + (1 : Int32)))], [], N, sl, rn_hp S M)) rfl rfl ?_
          exact ih _ _ _ k R hk h
      · rw [if_neg c3] at h
        refine rn_eg qm 5 (s2 := (4, [(3, .int (v3 + (1 : Int32))), (2, .int (1 : Int32)), (0, .ref 318), (1, .int b1)], [], N, sl, rn_hp S M)) rfl ?_
        refine rn_kq qm (s2 := (4, [(0, .ref 318), (1, .int b1), (2, .int (1 : Int32)), (3, .int (v3 + (1 : Int32)))], [], N, sl, rn_hp S M)) rfl rfl ?_
        exact ih _ _ _ k R hk h
def f36 (M : rn_T) (a1 : Int32) : Option Bool :=
  f36_L4 a1 rn_FU M (0 : Int32) (0 : Int32) (fun M6 w6_2 =>
    if w6_2 = 0 ∨ w6_2 = 1 then some (decide (w6_2 = 1)) else none)
set_option maxHeartbeats 4000000 in
theorem E36 {X : rn_X} {N sl : Nat} {S M : rn_T} {a1 : Int32} {R : (Bool)} (h : f36 M a1 = some R) : rn_rv X 36 (0, [(0, .ref 318), (1, .int a1)], [], N, sl, rn_hp S M) (some (.int (rn_bi R)), N, sl, rn_hp S M) := by
  have qm := rn_m36
  unfold f36 at h
  refine rn_eg qm 4 (s2 := (4, [(3, .int (0 : Int32)), (2, .int (0 : Int32)), (0, .ref 318), (1, .int a1)], [], N, sl, rn_hp S M)) rfl ?_
  refine rn_kq qm (s2 := (4, [(0, .ref 318), (1, .int a1), (2, .int (0 : Int32)), (3, .int (0 : Int32))], [], N, sl, rn_hp S M)) rfl rfl ?_
  refine E36_L4 rn_FU _ _ _ _ R ?_ h
  intro M6 w6_2 h
  refine rn_eg qm 1 (s2 := (25, [(2, .int w6_2)], [.int w6_2], N, sl, rn_hp S M6)) rfl ?_
  have z7 : w6_2 = 0 ∨ w6_2 = 1 := Decidable.byContradiction fun c => by rw [if_neg c] at h; cases h
  rw [if_pos z7] at h
  cases h
  rw [rn_bi_dec z7]
  exact rn_er qm rfl rfl (rn_rtz z7)
/-! 37: RecordNichesModel.isLetter(I)Z -/
def f37 (M : rn_T) (a0 : Int32) : Bool :=
  (f29 (Int32.toInt64 a0) (65 : Int64) (72 : Int64))
set_option maxHeartbeats 4000000 in
theorem E37 {X : rn_X} {N sl : Nat} {S M : rn_T} {a0 : Int32} {R : Bool} (h : f37 M a0 = R) : rn_rv X 37 (0, [(0, .int a0)], [], N, sl, rn_hp S M) (some (.int (rn_bi R)), N, sl, rn_hp S M) := by
  have qm := rn_m37
  unfold f37 at h
  refine rn_eg qm 4 (s2 := (4, [(0, .int a0)], [.long (72 : Int64), .long (65 : Int64), .long (Int32.toInt64 a0)], N, sl, rn_hp S M)) rfl ?_
  refine rn_ec qm rfl rfl rfl rfl rn_m29 rfl rfl rfl (fun h => by cases h) (E29 rfl) ?_
  refine rn_eg qm 0 (s2 := (5, [(0, .int a0)], [.int (rn_bi (f29 (Int32.toInt64 a0) (65 : Int64) (72 : Int64)))], N, sl, rn_hp S M)) rfl ?_
  cases h
  exact rn_er qm rfl rfl (rn_rtb _)
/-! 38: RecordNichesModel.push(I)V -/
def f38 (M : rn_T) (a1 : Int32) : Option (rn_T) :=
  if rn_ob (rI M 318 4) 60 then none else
    some (wI (wA M 321 (Int32.toNatClampNeg (rI M 318 4)) a1) 318 4 ((rI (wA M 321 (Int32.toNatClampNeg (rI M 318 4)) a1) 318 4) + (1 : Int32)))
set_option maxHeartbeats 4000000 in
theorem E38 {X : rn_X} {N sl : Nat} {S M : rn_T} {a1 : Int32} {R : (rn_T)} (h : f38 M a1 = some R) : rn_rv X 38 (0, [(0, .ref 318), (1, .int a1)], [], N, sl, rn_hp S M) (none, N, sl, rn_hp S R) := by
  have qm := rn_m38
  unfold f38 at h
  refine rn_eg qm 5 (s2 := (5, [(0, .ref 318), (1, .int a1)], [.int a1, .int (rI M 318 4), .ref 321], N, sl, rn_hp S M)) rfl ?_
  have c1 : ¬ (rn_ob (rI M 318 4) 60) := fun c => by rw [if_pos c] at h; cases h
  rw [if_neg c1] at h
  refine rn_e1 qm (s2 := (6, [(0, .ref 318), (1, .int a1)], [], N, sl, rn_hp S (wA M 321 (Int32.toNatClampNeg (rI M 318 4)) a1))) (rn_g_iast (n := 60) rfl rfl (ar_m10 rfl rfl (Nat.le_of_ble_eq_true rfl)) c1 (aw_m10 rfl rfl (Nat.le_of_ble_eq_true rfl))) ?_
  refine rn_eg qm 5 (s2 := (11, [(0, .ref 318), (1, .int a1)], [.int ((rI (wA M 321 (Int32.toNatClampNeg (rI M 318 4)) a1) 318 4) + (1 : Int32)), .ref 318], N, sl, rn_hp S (wA M 321 (Int32.toNatClampNeg (rI M 318 4)) a1))) rfl ?_
  refine rn_e1 qm (s2 := (12, [(0, .ref 318), (1, .int a1)], [], N, sl, rn_hp S (wI (wA M 321 (Int32.toNatClampNeg (rI M 318 4)) a1) 318 4 ((rI (wA M 321 (Int32.toNatClampNeg (rI M 318 4)) a1) 318 4) + (1 : Int32))))) (rn_g_putf rfl rfl (en_9 rfl) rfl rfl rfl (wf_9_4 (v := ((rI (wA M 321 (Int32.toNatClampNeg (rI M 318 4)) a1) 318 4) + (1 : Int32))) rfl)) ?_
  cases h
  exact rn_er qm rfl rfl rfl
/-! 39: RecordNichesModel.isPlain(I)Z -/
def f39 (a0 : Int32) : Bool :=
  if a0 = (48 : Int32) then
    true
  else
    if a0 = (49 : Int32) then
      true
    else
      if a0 = (50 : Int32) then
        true
      else
        if a0 = (52 : Int32) then
          true
        else
          if a0 = (98 : Int32) then
            true
          else
            if a0 = (112 : Int32) then
              true
            else
              if a0 = (120 : Int32) then
                true
              else
                false
set_option maxHeartbeats 4000000 in
theorem E39 {X : rn_X} {N sl : Nat} {S M : rn_T} {a0 : Int32} {R : Bool} (h : f39 a0 = R) : rn_rv X 39 (0, [(0, .int a0)], [], N, sl, rn_hp S M) (some (.int (rn_bi R)), N, sl, rn_hp S M) := by
  have qm := rn_m39
  unfold f39 at h
  refine rn_eg qm 3 (s2 := ((if a0 = (48 : Int32) then 21 else 3), [(0, .int a0)], [], N, sl, rn_hp S M)) rfl ?_
  refine rn_ite (fun c1 => ?_) (fun c1 => ?_)
  · rw [if_pos c1] at h
    refine rn_eg qm 2 (s2 := (24, [], [.int (1 : Int32)], N, sl, rn_hp S M)) rfl ?_
    cases h
    exact rn_er qm rfl rfl rn_rt1
  · rw [if_neg c1] at h
    refine rn_eg qm 3 (s2 := ((if a0 = (49 : Int32) then 21 else 6), [(0, .int a0)], [], N, sl, rn_hp S M)) rfl ?_
    refine rn_ite (fun c2 => ?_) (fun c2 => ?_)
    · rw [if_pos c2] at h
      refine rn_eg qm 2 (s2 := (24, [], [.int (1 : Int32)], N, sl, rn_hp S M)) rfl ?_
      cases h
      exact rn_er qm rfl rfl rn_rt1
    · rw [if_neg c2] at h
      refine rn_eg qm 3 (s2 := ((if a0 = (50 : Int32) then 21 else 9), [(0, .int a0)], [], N, sl, rn_hp S M)) rfl ?_
      refine rn_ite (fun c3 => ?_) (fun c3 => ?_)
      · rw [if_pos c3] at h
        refine rn_eg qm 2 (s2 := (24, [], [.int (1 : Int32)], N, sl, rn_hp S M)) rfl ?_
        cases h
        exact rn_er qm rfl rfl rn_rt1
      · rw [if_neg c3] at h
        refine rn_eg qm 3 (s2 := ((if a0 = (52 : Int32) then 21 else 12), [(0, .int a0)], [], N, sl, rn_hp S M)) rfl ?_
        refine rn_ite (fun c4 => ?_) (fun c4 => ?_)
        · rw [if_pos c4] at h
          refine rn_eg qm 2 (s2 := (24, [], [.int (1 : Int32)], N, sl, rn_hp S M)) rfl ?_
          cases h
          exact rn_er qm rfl rfl rn_rt1
        · rw [if_neg c4] at h
          refine rn_eg qm 3 (s2 := ((if a0 = (98 : Int32) then 21 else 15), [(0, .int a0)], [], N, sl, rn_hp S M)) rfl ?_
          refine rn_ite (fun c5 => ?_) (fun c5 => ?_)
          · rw [if_pos c5] at h
            refine rn_eg qm 2 (s2 := (24, [], [.int (1 : Int32)], N, sl, rn_hp S M)) rfl ?_
            cases h
            exact rn_er qm rfl rfl rn_rt1
          · rw [if_neg c5] at h
            refine rn_eg qm 3 (s2 := ((if a0 = (112 : Int32) then 21 else 18), [(0, .int a0)], [], N, sl, rn_hp S M)) rfl ?_
            refine rn_ite (fun c6 => ?_) (fun c6 => ?_)
            · rw [if_pos c6] at h
              refine rn_eg qm 2 (s2 := (24, [], [.int (1 : Int32)], N, sl, rn_hp S M)) rfl ?_
              cases h
              exact rn_er qm rfl rfl rn_rt1
            · rw [if_neg c6] at h
              refine rn_eg qm 3 (s2 := ((if a0 = (120 : Int32) then 21 else 23), [(0, .int a0)], [], N, sl, rn_hp S M)) rfl ?_
              refine rn_ite (fun c7 => ?_) (fun c7 => ?_)
              · rw [if_pos c7] at h
                refine rn_eg qm 2 (s2 := (24, [], [.int (1 : Int32)], N, sl, rn_hp S M)) rfl ?_
                cases h
                exact rn_er qm rfl rfl rn_rt1
              · rw [if_neg c7] at h
                refine rn_eg qm 1 (s2 := (24, [(0, .int a0)], [.int (0 : Int32)], N, sl, rn_hp S M)) rfl ?_
                cases h
                exact rn_er qm rfl rfl rn_rt0
/-! 40: RecordNichesModel.begins(II)Z -/
def f40_J9 (M : rn_T) (u2 : Int32) : Option (Bool × rn_T) :=
  if u2 = (40 : Int32) then
    Option.bind (f38 M (10 : Int32)) fun p3 =>
      some (true, p3)
  else
    if u2 = (91 : Int32) then
      Option.bind (f38 M (20 : Int32)) fun p5 =>
        some (true, p5)
    else
      Option.bind (f38 M (30 : Int32)) fun p6 =>
        some (true, p6)
set_option maxHeartbeats 4000000 in
theorem E40_J9 {X : rn_X} {N sl : Nat} {S : rn_T} {M : rn_T} {u2 : Int32} {R : (Bool × rn_T)} (h : f40_J9 M u2 = some R) : rn_rv X 40 (9, [(0, .ref 318), (2, .int u2)], [], N, sl, rn_hp S M) (some (.int (rn_bi R.1)), N, sl, rn_hp S R.2) := by
  have qm := rn_m40
  unfold f40_J9 at h
  refine rn_eg qm 4 (s2 := ((if u2 = (40 : Int32) then 13 else 15), [(0, .ref 318), (2, .int u2)], [.ref 318], N, sl, rn_hp S M)) rfl ?_
  refine rn_ite (fun c2 => ?_) (fun c2 => ?_)
  · rw [if_pos c2] at h
    refine rn_eg qm 2 (s2 := (21, [(0, .ref 318), (2, .int u2)], [.int (10 : Int32), .ref 318], N, sl, rn_hp S M)) rfl ?_
    obtain ⟨p3, hp3, h⟩ := Option.bind_eq_some_iff.mp h
    refine rn_ec qm rfl rfl rfl rfl rn_m38 rfl rfl rfl (fun _ => rn_rc_of (en_9 (q := 318) rfl)) (E38 hp3) ?_
    refine rn_eg qm 0 (s2 := (22, [], [], N, sl, rn_hp S p3)) rfl ?_
    refine rn_eg qm 1 (s2 := (23, [], [.int (1 : Int32)], N, sl, rn_hp S p3)) rfl ?_
    cases h
    exact rn_er qm rfl rfl rn_rt1
  · rw [if_neg c2] at h
    refine rn_eg qm 3 (s2 := ((if u2 = (91 : Int32) then 18 else 20), [(0, .ref 318), (2, .int u2)], [.ref 318], N, sl, rn_hp S M)) rfl ?_
    refine rn_ite (fun c4 => ?_) (fun c4 => ?_)
    · rw [if_pos c4] at h
      refine rn_eg qm 2 (s2 := (21, [(0, .ref 318), (2, .int u2)], [.int (20 : Int32), .ref 318], N, sl, rn_hp S M)) rfl ?_
      obtain ⟨p5, hp5, h⟩ := Option.bind_eq_some_iff.mp h
      refine rn_ec qm rfl rfl rfl rfl rn_m38 rfl rfl rfl (fun _ => rn_rc_of (en_9 (q := 318) rfl)) (E38 hp5) ?_
      refine rn_eg qm 0 (s2 := (22, [], [], N, sl, rn_hp S p5)) rfl ?_
      refine rn_eg qm 1 (s2 := (23, [], [.int (1 : Int32)], N, sl, rn_hp S p5)) rfl ?_
      cases h
      exact rn_er qm rfl rfl rn_rt1
    · rw [if_neg c4] at h
      refine rn_eg qm 1 (s2 := (21, [(0, .ref 318), (2, .int u2)], [.int (30 : Int32), .ref 318], N, sl, rn_hp S M)) rfl ?_
      obtain ⟨p6, hp6, h⟩ := Option.bind_eq_some_iff.mp h
      refine rn_ec qm rfl rfl rfl rfl rn_m38 rfl rfl rfl (fun _ => rn_rc_of (en_9 (q := 318) rfl)) (E38 hp6) ?_
      refine rn_eg qm 0 (s2 := (22, [], [], N, sl, rn_hp S p6)) rfl ?_
      refine rn_eg qm 1 (s2 := (23, [], [.int (1 : Int32)], N, sl, rn_hp S p6)) rfl ?_
      cases h
      exact rn_er qm rfl rfl rn_rt1
def f40 (M : rn_T) (a1 : Int32) (a2 : Int32) : Option (Bool × rn_T) :=
  if a2 = (40 : Int32) then
    f40_J9 M a2
  else
    if a2 = (91 : Int32) then
      f40_J9 M a2
    else
      if a2 = (101 : Int32) then
        f40_J9 M a2
      else
        if (f37 M a2) = true then
          if a1 ≤ (a2 - (65 : Int32)) then
            some ((f39 a2), M)
          else
            Option.bind (f36 M (a2 - (65 : Int32))) fun p14 =>
              if p14 = true then
                Option.bind (f38 M (0 : Int32)) fun p16 =>
                  some (true, p16)
              else
                some (true, M)
        else
          some ((f39 a2), M)
set_option maxHeartbeats 4000000 in
theorem E40 {X : rn_X} {N sl : Nat} {S M : rn_T} {a1 : Int32} {a2 : Int32} {R : (Bool × rn_T)} (h : f40 M a1 a2 = some R) : rn_rv X 40 (0, [(0, .ref 318), (1, .int a1), (2, .int a2)], [], N, sl, rn_hp S M) (some (.int (rn_bi R.1)), N, sl, rn_hp S R.2) := by
  have qm := rn_m40
  unfold f40 at h
  refine rn_eg qm 3 (s2 := ((if a2 = (40 : Int32) then 9 else 3), [(0, .ref 318), (1, .int a1), (2, .int a2)], [], N, sl, rn_hp S M)) rfl ?_
  refine rn_ite (fun c1 => ?_) (fun c1 => ?_)
  · rw [if_pos c1] at h
    refine rn_kq qm (s2 := (9, [(0, .ref 318), (2, .int a2)], [], N, sl, rn_hp S M)) rfl rfl ?_
    exact E40_J9 h
  · rw [if_neg c1] at h
    refine rn_eg qm 3 (s2 := ((if a2 = (91 : Int32) then 9 else 6), [(0, .ref 318), (1, .int a1), (2, .int a2)], [], N, sl, rn_hp S M)) rfl ?_
    refine rn_ite (fun c7 => ?_) (fun c7 => ?_)
    · rw [if_pos c7] at h
      refine rn_kq qm (s2 := (9, [(0, .ref 318), (2, .int a2)], [], N, sl, rn_hp S M)) rfl rfl ?_
      exact E40_J9 h
    · rw [if_neg c7] at h
      refine rn_eg qm 3 (s2 := ((if a2 = (101 : Int32) then 9 else 24), [(0, .ref 318), (1, .int a1), (2, .int a2)], [], N, sl, rn_hp S M)) rfl ?_
      refine rn_ite (fun c8 => ?_) (fun c8 => ?_)
      · rw [if_pos c8] at h
        refine rn_kq qm (s2 := (9, [(0, .ref 318), (2, .int a2)], [], N, sl, rn_hp S M)) rfl rfl ?_
        exact E40_J9 h
      · rw [if_neg c8] at h
        refine rn_eg qm 1 (s2 := (25, [(0, .ref 318), (1, .int a1), (2, .int a2)], [.int a2], N, sl, rn_hp S M)) rfl ?_
        refine rn_ec qm rfl rfl rfl rfl rn_m37 rfl rfl rfl (fun h => by cases h) (E37 rfl) ?_
        refine rn_eg qm 0 (s2 := (26, [(0, .ref 318), (1, .int a1), (2, .int a2)], [.int (rn_bi (f37 M a2))], N, sl, rn_hp S M)) rfl ?_
        refine rn_eg qm 1 (s2 := ((if (rn_bi (f37 M a2)) = 0 then 43 else 27), [(0, .ref 318), (1, .int a1), (2, .int a2)], [], N, sl, rn_hp S M)) rfl ?_
        refine rn_iteb (fun c10 => ?_) (fun c10 => ?_)
        · rw [if_neg (rn_bf c10)] at h
          refine rn_eg qm 1 (s2 := (44, [(2, .int a2)], [.int a2], N, sl, rn_hp S M)) rfl ?_
          refine rn_ec qm rfl rfl rfl rfl rn_m39 rfl rfl rfl (fun h => by cases h) (E39 rfl) ?_
          refine rn_eg qm 0 (s2 := (45, [(2, .int a2)], [.int (rn_bi (f39 a2))], N, sl, rn_hp S M)) rfl ?_
          cases h
          exact rn_er qm rfl rfl (rn_rtb _)
        · rw [if_pos c10] at h
          refine rn_eg qm 5 (s2 := ((if a1 ≤ (a2 - (65 : Int32)) then 43 else 32), [(0, .ref 318), (1, .int a1), (2, .int a2)], [], N, sl, rn_hp S M)) rfl ?_
          refine rn_ite (fun c12 => ?_) (fun c12 => ?_)
          · rw [if_pos c12] at h
            refine rn_eg qm 1 (s2 := (44, [(2, .int a2)], [.int a2], N, sl, rn_hp S M)) rfl ?_
            refine rn_ec qm rfl rfl rfl rfl rn_m39 rfl rfl rfl (fun h => by cases h) (E39 rfl) ?_
            refine rn_eg qm 0 (s2 := (45, [(2, .int a2)], [.int (rn_bi (f39 a2))], N, sl, rn_hp S M)) rfl ?_
            cases h
            exact rn_er qm rfl rfl (rn_rtb _)
          · rw [if_neg c12] at h
            refine rn_eg qm 4 (s2 := (36, [(0, .ref 318), (1, .int a1), (2, .int a2)], [.int (a2 - (65 : Int32)), .ref 318], N, sl, rn_hp S M)) rfl ?_
            obtain ⟨p14, hp14, h⟩ := Option.bind_eq_some_iff.mp h
            refine rn_ec qm rfl rfl rfl rfl rn_m36 rfl rfl rfl (fun _ => rn_rc_of (en_9 (q := 318) rfl)) (E36 hp14) ?_
            refine rn_eg qm 0 (s2 := (37, [(0, .ref 318), (1, .int a1), (2, .int a2)], [.int (rn_bi p14)], N, sl, rn_hp S M)) rfl ?_
            refine rn_eg qm 1 (s2 := ((if (rn_bi p14) = 0 then 41 else 38), [(0, .ref 318), (1, .int a1), (2, .int a2)], [], N, sl, rn_hp S M)) rfl ?_
            refine rn_iteb (fun c15 => ?_) (fun c15 => ?_)
            · rw [if_neg (rn_bf c15)] at h
              refine rn_eg qm 1 (s2 := (42, [], [.int (1 : Int32)], N, sl, rn_hp S M)) rfl ?_
              cases h
              exact rn_er qm rfl rfl rn_rt1
            · rw [if_pos c15] at h
              refine rn_eg qm 2 (s2 := (40, [(0, .ref 318), (1, .int a1), (2, .int a2)], [.int (0 : Int32), .ref 318], N, sl, rn_hp S M)) rfl ?_
              obtain ⟨p16, hp16, h⟩ := Option.bind_eq_some_iff.mp h
              refine rn_ec qm rfl rfl rfl rfl rn_m38 rfl rfl rfl (fun _ => rn_rc_of (en_9 (q := 318) rfl)) (E38 hp16) ?_
              refine rn_eg qm 0 (s2 := (41, [(0, .ref 318), (1, .int a1), (2, .int a2)], [], N, sl, rn_hp S p16)) rfl ?_
              refine rn_eg qm 1 (s2 := (42, [], [.int (1 : Int32)], N, sl, rn_hp S p16)) rfl ?_
              cases h
              exact rn_er qm rfl rfl rn_rt1
/-! 41: RecordNichesModel.isWithin(III)Z -/
def f41_J23 (M : rn_T) (u1 : Int32) (u2 : Int32) (u3 : Int32) : Option (Bool × rn_T) :=
  if (u3 - u3 / (10 : Int32) * (10 : Int32)) = (6 : Int32) then
    some (false, M)
  else
    if rn_ob ((rI M 318 4) - (1 : Int32)) 60 then none else
      Option.bind (f40 (wA M 321 (Int32.toNatClampNeg ((rI M 318 4) - (1 : Int32))) (u3 + (1 : Int32))) u1 u2) fun p5 =>
        some (p5.1, p5.2)
set_option maxHeartbeats 4000000 in
theorem E41_J23 {X : rn_X} {N sl : Nat} {S : rn_T} {M : rn_T} {u1 : Int32} {u2 : Int32} {u3 : Int32} {R : (Bool × rn_T)} (h : f41_J23 M u1 u2 u3 = some R) : rn_rv X 41 (23, [(0, .ref 318), (1, .int u1), (2, .int u2), (3, .int u3)], [], N, sl, rn_hp S M) (some (.int (rn_bi R.1)), N, sl, rn_hp S R.2) := by
  have qm := rn_m41
  unfold f41_J23 at h
  refine rn_eg qm 2 (s2 := (25, [(0, .ref 318), (1, .int u1), (2, .int u2), (3, .int u3)], [.int (10 : Int32), .int u3], N, sl, rn_hp S M)) rfl ?_
  refine rn_e1 qm (s2 := (26, [(0, .ref 318), (1, .int u1), (2, .int u2), (3, .int u3)], [.int (u3 - u3 / (10 : Int32) * (10 : Int32))], N, sl, rn_hp S M)) (rn_g_irem rfl rfl (by decide)) ?_
  refine rn_eg qm 2 (s2 := ((if (u3 - u3 / (10 : Int32) * (10 : Int32)) = (6 : Int32) then 28 else 30), [(0, .ref 318), (1, .int u1), (2, .int u2), (3, .int u3)], [], N, sl, rn_hp S M)) rfl ?_
  refine rn_ite (fun c3 => ?_) (fun c3 => ?_)
  · rw [if_pos c3] at h
    refine rn_eg qm 1 (s2 := (29, [(0, .ref 318), (1, .int u1), (2, .int u2), (3, .int u3)], [.int (0 : Int32)], N, sl, rn_hp S M)) rfl ?_
    cases h
    exact rn_er qm rfl rfl rn_rt0
  · rw [if_neg c3] at h
    refine rn_eg qm 9 (s2 := (39, [(0, .ref 318), (1, .int u1), (2, .int u2), (3, .int u3)], [.int (u3 + (1 : Int32)), .int ((rI M 318 4) - (1 : Int32)), .ref 321], N, sl, rn_hp S M)) rfl ?_
    have c4 : ¬ (rn_ob ((rI M 318 4) - (1 : Int32)) 60) := fun c => by rw [if_pos c] at h; cases h
    rw [if_neg c4] at h
    refine rn_e1 qm (s2 := (40, [(0, .ref 318), (1, .int u1), (2, .int u2), (3, .int u3)], [], N, sl, rn_hp S (wA M 321 (Int32.toNatClampNeg ((rI M 318 4) - (1 : Int32))) (u3 + (1 : Int32))))) (rn_g_iast (n := 60) rfl rfl (ar_m10 rfl rfl (Nat.le_of_ble_eq_true rfl)) c4 (aw_m10 rfl rfl (Nat.le_of_ble_eq_true rfl))) ?_
    refine rn_eg qm 3 (s2 := (43, [(0, .ref 318), (1, .int u1), (2, .int u2), (3, .int u3)], [.int u2, .int u1, .ref 318], N, sl, rn_hp S (wA M 321 (Int32.toNatClampNeg ((rI M 318 4) - (1 : Int32))) (u3 + (1 : Int32))))) rfl ?_
    obtain ⟨p5, hp5, h⟩ := Option.bind_eq_some_iff.mp h
    refine rn_ec qm rfl rfl rfl rfl rn_m40 rfl rfl rfl (fun _ => rn_rc_of (en_9 (q := 318) rfl)) (E40 hp5) ?_
    refine rn_eg qm 0 (s2 := (44, [(0, .ref 318), (1, .int u1), (2, .int u2), (3, .int u3)], [.int (rn_bi p5.1)], N, sl, rn_hp S p5.2)) rfl ?_
    cases h
    exact rn_er qm rfl rfl (rn_rtb _)
def f41_J9 (M : rn_T) (u1 : Int32) (u2 : Int32) (u3 : Int32) : Option (Bool × rn_T) :=
  if u3 ≤ (20 : Int32) then
    f41_J23 M u1 u2 u3
  else
    if u2 = (93 : Int32) then
      some (true, wI M 318 4 ((rI M 318 4) - (1 : Int32)))
    else
      f41_J23 M u1 u2 u3
set_option maxHeartbeats 4000000 in
theorem E41_J9 {X : rn_X} {N sl : Nat} {S : rn_T} {M : rn_T} {u1 : Int32} {u2 : Int32} {u3 : Int32} {R : (Bool × rn_T)} (h : f41_J9 M u1 u2 u3 = some R) : rn_rv X 41 (9, [(0, .ref 318), (1, .int u1), (2, .int u2), (3, .int u3)], [], N, sl, rn_hp S M) (some (.int (rn_bi R.1)), N, sl, rn_hp S R.2) := by
  have qm := rn_m41
  unfold f41_J9 at h
  refine rn_eg qm 3 (s2 := ((if u3 ≤ (20 : Int32) then 23 else 12), [(0, .ref 318), (1, .int u1), (2, .int u2), (3, .int u3)], [], N, sl, rn_hp S M)) rfl ?_
  refine rn_ite (fun c2 => ?_) (fun c2 => ?_)
  · rw [if_pos c2] at h
    refine rn_kq qm (s2 := (23, [(0, .ref 318), (1, .int u1), (2, .int u2), (3, .int u3)], [], N, sl, rn_hp S M)) rfl rfl ?_
    exact E41_J23 h
  · rw [if_neg c2] at h
    refine rn_eg qm 3 (s2 := ((if u2 = (93 : Int32) then 15 else 23), [(0, .ref 318), (1, .int u1), (2, .int u2), (3, .int u3)], [], N, sl, rn_hp S M)) rfl ?_
    refine rn_ite (fun c6 => ?_) (fun c6 => ?_)
    · rw [if_pos c6] at h
      refine rn_eg qm 5 (s2 := (20, [(0, .ref 318)], [.int ((rI M 318 4) - (1 : Int32)), .ref 318], N, sl, rn_hp S M)) rfl ?_
      refine rn_e1 qm (s2 := (21, [(0, .ref 318)], [], N, sl, rn_hp S (wI M 318 4 ((rI M 318 4) - (1 : Int32))))) (rn_g_putf rfl rfl (en_9 rfl) rfl rfl rfl (wf_9_4 (v := ((rI M 318 4) - (1 : Int32))) rfl)) ?_
      refine rn_eg qm 1 (s2 := (22, [(0, .ref 318)], [.int (1 : Int32)], N, sl, rn_hp S (wI M 318 4 ((rI M 318 4) - (1 : Int32))))) rfl ?_
      cases h
      exact rn_er qm rfl rfl rn_rt1
    · rw [if_neg c6] at h
      refine rn_kq qm (s2 := (23, [(0, .ref 318), (1, .int u1), (2, .int u2), (3, .int u3)], [], N, sl, rn_hp S M)) rfl rfl ?_
      exact E41_J23 h
def f41 (M : rn_T) (a1 : Int32) (a2 : Int32) (a3 : Int32) : Option (Bool × rn_T) :=
  if a3 ≤ (10 : Int32) then
    f41_J9 M a1 a2 a3
  else
    if (20 : Int32) ≤ a3 then
      f41_J9 M a1 a2 a3
    else
      if a2 = (41 : Int32) then
        some (true, wI M 318 4 ((rI M 318 4) - (1 : Int32)))
      else
        f41_J9 M a1 a2 a3
set_option maxHeartbeats 4000000 in
theorem E41 {X : rn_X} {N sl : Nat} {S M : rn_T} {a1 : Int32} {a2 : Int32} {a3 : Int32} {R : (Bool × rn_T)} (h : f41 M a1 a2 a3 = some R) : rn_rv X 41 (0, [(0, .ref 318), (1, .int a1), (2, .int a2), (3, .int a3)], [], N, sl, rn_hp S M) (some (.int (rn_bi R.1)), N, sl, rn_hp S R.2) := by
  have qm := rn_m41
  unfold f41 at h
  refine rn_eg qm 3 (s2 := ((if a3 ≤ (10 : Int32) then 9 else 3), [(0, .ref 318), (1, .int a1), (2, .int a2), (3, .int a3)], [], N, sl, rn_hp S M)) rfl ?_
  refine rn_ite (fun c1 => ?_) (fun c1 => ?_)
  · rw [if_pos c1] at h
    refine rn_kq qm (s2 := (9, [(0, .ref 318), (1, .int a1), (2, .int a2), (3, .int a3)], [], N, sl, rn_hp S M)) rfl rfl ?_
    exact E41_J9 h
  · rw [if_neg c1] at h
    refine rn_eg qm 3 (s2 := ((if (20 : Int32) ≤ a3 then 9 else 6), [(0, .ref 318), (1, .int a1), (2, .int a2), (3, .int a3)], [], N, sl, rn_hp S M)) rfl ?_
    refine rn_ite (fun c7 => ?_) (fun c7 => ?_)
    · rw [if_pos c7] at h
      refine rn_kq qm (s2 := (9, [(0, .ref 318), (1, .int a1), (2, .int a2), (3, .int a3)], [], N, sl, rn_hp S M)) rfl rfl ?_
      exact E41_J9 h
    · rw [if_neg c7] at h
      refine rn_eg qm 3 (s2 := ((if a2 = (41 : Int32) then 15 else 9), [(0, .ref 318), (1, .int a1), (2, .int a2), (3, .int a3)], [], N, sl, rn_hp S M)) rfl ?_
      refine rn_ite (fun c8 => ?_) (fun c8 => ?_)
      · rw [if_pos c8] at h
        refine rn_eg qm 5 (s2 := (20, [(0, .ref 318)], [.int ((rI M 318 4) - (1 : Int32)), .ref 318], N, sl, rn_hp S M)) rfl ?_
        refine rn_e1 qm (s2 := (21, [(0, .ref 318)], [], N, sl, rn_hp S (wI M 318 4 ((rI M 318 4) - (1 : Int32))))) (rn_g_putf rfl rfl (en_9 rfl) rfl rfl rfl (wf_9_4 (v := ((rI M 318 4) - (1 : Int32))) rfl)) ?_
        refine rn_eg qm 1 (s2 := (22, [(0, .ref 318)], [.int (1 : Int32)], N, sl, rn_hp S (wI M 318 4 ((rI M 318 4) - (1 : Int32))))) rfl ?_
        cases h
        exact rn_er qm rfl rfl rn_rt1
      · rw [if_neg c8] at h
        refine rn_kq qm (s2 := (9, [(0, .ref 318), (1, .int a1), (2, .int a2), (3, .int a3)], [], N, sl, rn_hp S M)) rfl rfl ?_
        exact E41_J9 h
/-! 42: RecordNichesModel.canStand(II)Z -/
def f42_J24 (M : rn_T) (u1 : Int32) (u2 : Int32) (u3 : Int32) : Option (Bool × rn_T) :=
  if u3 = (30 : Int32) then
    some ((f29 (Int32.toInt64 u2) (50 : Int64) (57 : Int64)), wI M 318 4 ((rI M 318 4) - (1 : Int32)))
  else
    Option.bind (f40 (wI M 318 4 ((rI M 318 4) - (1 : Int32))) u1 u2) fun p6 =>
      some (p6.1, p6.2)
set_option maxHeartbeats 4000000 in
theorem E42_J24 {X : rn_X} {N sl : Nat} {S : rn_T} {M : rn_T} {u1 : Int32} {u2 : Int32} {u3 : Int32} {R : (Bool × rn_T)} (h : f42_J24 M u1 u2 u3 = some R) : rn_rv X 42 (24, [(0, .ref 318), (1, .int u1), (2, .int u2), (3, .int u3)], [], N, sl, rn_hp S M) (some (.int (rn_bi R.1)), N, sl, rn_hp S R.2) := by
  have qm := rn_m42
  unfold f42_J24 at h
  refine rn_eg qm 5 (s2 := (29, [(0, .ref 318), (1, .int u1), (2, .int u2), (3, .int u3)], [.int ((rI M 318 4) - (1 : Int32)), .ref 318], N, sl, rn_hp S M)) rfl ?_
  refine rn_e1 qm (s2 := (30, [(0, .ref 318), (1, .int u1), (2, .int u2), (3, .int u3)], [], N, sl, rn_hp S (wI M 318 4 ((rI M 318 4) - (1 : Int32))))) (rn_g_putf rfl rfl (en_9 rfl) rfl rfl rfl (wf_9_4 (v := ((rI M 318 4) - (1 : Int32))) rfl)) ?_
  refine rn_eg qm 3 (s2 := ((if u3 = (30 : Int32) then 33 else 39), [(0, .ref 318), (1, .int u1), (2, .int u2), (3, .int u3)], [], N, sl, rn_hp S (wI M 318 4 ((rI M 318 4) - (1 : Int32))))) rfl ?_
  refine rn_ite (fun c4 => ?_) (fun c4 => ?_)
  · rw [if_pos c4] at h
    refine rn_eg qm 4 (s2 := (37, [(0, .ref 318), (1, .int u1), (2, .int u2), (3, .int u3)], [.long (57 : Int64), .long (50 : Int64), .long (Int32.toInt64 u2)], N, sl, rn_hp S (wI M 318 4 ((rI M 318 4) - (1 : Int32))))) rfl ?_
    refine rn_ec qm rfl rfl rfl rfl rn_m29 rfl rfl rfl (fun h => by cases h) (E29 rfl) ?_
    refine rn_eg qm 0 (s2 := (38, [(0, .ref 318), (1, .int u1), (2, .int u2), (3, .int u3)], [.int (rn_bi (f29 (Int32.toInt64 u2) (50 : Int64) (57 : Int64)))], N, sl, rn_hp S (wI M 318 4 ((rI M 318 4) - (1 : Int32))))) rfl ?_
    refine rn_eg qm 1 (s2 := (43, [(0, .ref 318), (1, .int u1), (2, .int u2), (3, .int u3)], [.int (rn_bi (f29 (Int32.toInt64 u2) (50 : Int64) (57 : Int64)))], N, sl, rn_hp S (wI M 318 4 ((rI M 318 4) - (1 : Int32))))) rfl ?_
    cases h
    exact rn_er qm rfl rfl (rn_rtb _)
  · rw [if_neg c4] at h
    refine rn_eg qm 3 (s2 := (42, [(0, .ref 318), (1, .int u1), (2, .int u2), (3, .int u3)], [.int u2, .int u1, .ref 318], N, sl, rn_hp S (wI M 318 4 ((rI M 318 4) - (1 : Int32))))) rfl ?_
    obtain ⟨p6, hp6, h⟩ := Option.bind_eq_some_iff.mp h
    refine rn_ec qm rfl rfl rfl rfl rn_m40 rfl rfl rfl (fun _ => rn_rc_of (en_9 (q := 318) rfl)) (E40 hp6) ?_
    refine rn_eg qm 0 (s2 := (43, [(0, .ref 318), (1, .int u1), (2, .int u2), (3, .int u3)], [.int (rn_bi p6.1)], N, sl, rn_hp S p6.2)) rfl ?_
    cases h
    exact rn_er qm rfl rfl (rn_rtb _)
def f42 (M : rn_T) (a1 : Int32) (a2 : Int32) : Option (Bool × rn_T) :=
  if (rI M 318 4) = 0 then
    some (false, M)
  else
    if rn_ob ((rI M 318 4) - (1 : Int32)) 60 then none else
      if (rA M 321 (Int32.toNatClampNeg ((rI M 318 4) - (1 : Int32)))) ≤ 0 then
        f42_J24 M a1 a2 (rA M 321 (Int32.toNatClampNeg ((rI M 318 4) - (1 : Int32))))
      else
        if (30 : Int32) ≤ (rA M 321 (Int32.toNatClampNeg ((rI M 318 4) - (1 : Int32)))) then
          f42_J24 M a1 a2 (rA M 321 (Int32.toNatClampNeg ((rI M 318 4) - (1 : Int32))))
        else
          Option.bind (f41 M a1 a2 (rA M 321 (Int32.toNatClampNeg ((rI M 318 4) - (1 : Int32))))) fun p8 =>
            some (p8.1, p8.2)
set_option maxHeartbeats 4000000 in
theorem E42 {X : rn_X} {N sl : Nat} {S M : rn_T} {a1 : Int32} {a2 : Int32} {R : (Bool × rn_T)} (h : f42 M a1 a2 = some R) : rn_rv X 42 (0, [(0, .ref 318), (1, .int a1), (2, .int a2)], [], N, sl, rn_hp S M) (some (.int (rn_bi R.1)), N, sl, rn_hp S R.2) := by
  have qm := rn_m42
  unfold f42 at h
  refine rn_eg qm 3 (s2 := ((if (rI M 318 4) = 0 then 3 else 5), [(0, .ref 318), (1, .int a1), (2, .int a2)], [], N, sl, rn_hp S M)) rfl ?_
  refine rn_ite (fun c1 => ?_) (fun c1 => ?_)
  · rw [if_pos c1] at h
    refine rn_eg qm 1 (s2 := (4, [(0, .ref 318), (1, .int a1), (2, .int a2)], [.int (0 : Int32)], N, sl, rn_hp S M)) rfl ?_
    cases h
    exact rn_er qm rfl rfl rn_rt0
  · rw [if_neg c1] at h
    refine rn_eg qm 6 (s2 := (11, [(0, .ref 318), (1, .int a1), (2, .int a2)], [.int ((rI M 318 4) - (1 : Int32)), .ref 321], N, sl, rn_hp S M)) rfl ?_
    have c2 : ¬ (rn_ob ((rI M 318 4) - (1 : Int32)) 60) := fun c => by rw [if_pos c] at h; cases h
    rw [if_neg c2] at h
    refine rn_e1 qm (s2 := (12, [(0, .ref 318), (1, .int a1), (2, .int a2)], [.int (rA M 321 (Int32.toNatClampNeg ((rI M 318 4) - (1 : Int32))))], N, sl, rn_hp S M)) (rn_g_iald (n := 60) rfl rfl (ar_m10 rfl rfl (Nat.le_of_ble_eq_true rfl)) c2) ?_
    refine rn_eg qm 3 (s2 := ((if (rA M 321 (Int32.toNatClampNeg ((rI M 318 4) - (1 : Int32)))) ≤ 0 then 24 else 15), [(3, .int (rA M 321 (Int32.toNatClampNeg ((rI M 318 4) - (1 : Int32))))), (0, .ref 318), (1, .int a1), (2, .int a2)], [], N, sl, rn_hp S M)) rfl ?_
    refine rn_ite (fun c3 => ?_) (fun c3 => ?_)
    · rw [if_pos c3] at h
      refine rn_kq qm (s2 := (24, [(0, .ref 318), (1, .int a1), (2, .int a2), (3, .int (rA M 321 (Int32.toNatClampNeg ((rI M 318 4) - (1 : Int32)))))], [], N, sl, rn_hp S M)) rfl rfl ?_
      exact E42_J24 h
    · rw [if_neg c3] at h
      refine rn_eg qm 3 (s2 := ((if (30 : Int32) ≤ (rA M 321 (Int32.toNatClampNeg ((rI M 318 4) - (1 : Int32)))) then 24 else 18), [(3, .int (rA M 321 (Int32.toNatClampNeg ((rI M 318 4) - (1 : Int32))))), (0, .ref 318), (1, .int a1), (2, .int a2)], [], N, sl, rn_hp S M)) rfl ?_
      refine rn_ite (fun c7 => ?_) (fun c7 => ?_)
      · rw [if_pos c7] at h
        refine rn_kq qm (s2 := (24, [(0, .ref 318), (1, .int a1), (2, .int a2), (3, .int (rA M 321 (Int32.toNatClampNeg ((rI M 318 4) - (1 : Int32)))))], [], N, sl, rn_hp S M)) rfl rfl ?_
        exact E42_J24 h
      · rw [if_neg c7] at h
        refine rn_eg qm 4 (s2 := (22, [(3, .int (rA M 321 (Int32.toNatClampNeg ((rI M 318 4) - (1 : Int32))))), (0, .ref 318), (1, .int a1), (2, .int a2)], [.int (rA M 321 (Int32.toNatClampNeg ((rI M 318 4) - (1 : Int32)))), .int a2, .int a1, .ref 318], N, sl, rn_hp S M)) rfl ?_
        obtain ⟨p8, hp8, h⟩ := Option.bind_eq_some_iff.mp h
        refine rn_ec qm rfl rfl rfl rfl rn_m41 rfl rfl rfl (fun _ => rn_rc_of (en_9 (q := 318) rfl)) (E41 hp8) ?_
        refine rn_eg qm 0 (s2 := (23, [(3, .int (rA M 321 (Int32.toNatClampNeg ((rI M 318 4) - (1 : Int32))))), (0, .ref 318), (1, .int a1), (2, .int a2)], [.int (rn_bi p8.1)], N, sl, rn_hp S p8.2)) rfl ?_
        cases h
        exact rn_er qm rfl rfl (rn_rtb _)
/-! 43: RecordNichesModel.faultOf(I)I -/
def f43_L8 (b1 : Int32) : Nat → rn_T → Int32 → (rn_T → Option (Int32 × rn_T)) → Option (Int32 × rn_T)
  | 0, _, _, _ => none
  | fu + 1, M, v2, k =>
    if rn_ob b1 8 then none else
      if (rA M 320 (Int32.toNatClampNeg b1)) ≤ v2 then
        k M
      else
        Option.bind (f33 M b1 v2) fun p4 =>
          Option.bind (f42 M b1 p4) fun p5 =>
            if p5.1 = true then
              f43_L8 b1 fu p5.2 (v2 + (1 : Int32)) k
            else
              some (v2, p5.2)
set_option maxHeartbeats 4000000 in
theorem E43_L8 {X : rn_X} {N sl : Nat} {S : rn_T} {b1 : Int32} : ∀ (fu : Nat) (M : rn_T) (v2 : Int32) (k : (rn_T → Option (Int32 × rn_T))) (R : (Int32 × rn_T)), (∀ (M : rn_T), k M = some R → rn_rv X 43 (26, [(0, .ref 318), (1, .int b1)], [], N, sl, rn_hp S M) (some (.int R.1), N, sl, rn_hp S R.2)) → f43_L8 b1 fu M v2 k = some R → rn_rv X 43 (8, [(0, .ref 318), (1, .int b1), (2, .int v2)], [], N, sl, rn_hp S M) (some (.int R.1), N, sl, rn_hp S R.2) := by
  have qm := rn_m43
  intro fu
  induction fu with
  | zero => intro M v2 k R hk h; cases h
  | succ fu ih =>
    intro M v2 k R hk h
    unfold f43_L8 at h
    refine rn_eg qm 4 (s2 := (12, [(0, .ref 318), (1, .int b1), (2, .int v2)], [.int b1, .ref 320, .int v2], N, sl, rn_hp S M)) rfl ?_
    have c2 : ¬ (rn_ob b1 8) := fun c => by rw [if_pos c] at h; cases h
    rw [if_neg c2] at h
    refine rn_e1 qm (s2 := (13, [(0, .ref 318), (1, .int b1), (2, .int v2)], [.int (rA M 320 (Int32.toNatClampNeg b1)), .int v2], N, sl, rn_hp S M)) (rn_g_iald (n := 8) rfl rfl (ar_m10 rfl rfl (Nat.le_of_ble_eq_true rfl)) c2) ?_
    refine rn_eg qm 1 (s2 := ((if (rA M 320 (Int32.toNatClampNeg b1)) ≤ v2 then 26 else 14), [(0, .ref 318), (1, .int b1), (2, .int v2)], [], N, sl, rn_hp S M)) rfl ?_
    refine rn_ite (fun c3 => ?_) (fun c3 => ?_)
    · rw [if_pos c3] at h
      refine rn_kq qm (s2 := (26, [(0, .ref 318), (1, .int b1)], [], N, sl, rn_hp S M)) rfl rfl ?_
      exact hk _ h
    · rw [if_neg c3] at h
      refine rn_eg qm 5 (s2 := (19, [(0, .ref 318), (1, .int b1), (2, .int v2)], [.int v2, .int b1, .ref 318, .int b1, .ref 318], N, sl, rn_hp S M)) rfl ?_
      obtain ⟨p4, hp4, h⟩ := Option.bind_eq_some_iff.mp h
      refine rn_ec qm rfl rfl rfl rfl rn_m33 rfl rfl rfl (fun _ => rn_rc_of (en_9 (q := 318) rfl)) (E33 hp4) ?_
      refine rn_eg qm 0 (s2 := (20, [(0, .ref 318), (1, .int b1), (2, .int v2)], [.int p4, .int b1, .ref 318], N, sl, rn_hp S M)) rfl ?_
      obtain ⟨p5, hp5, h⟩ := Option.bind_eq_some_iff.mp h
      refine rn_ec qm rfl rfl rfl rfl rn_m42 rfl rfl rfl (fun _ => rn_rc_of (en_9 (q := 318) rfl)) (E42 hp5) ?_
      refine rn_eg qm 0 (s2 := (21, [(0, .ref 318), (1, .int b1), (2, .int v2)], [.int (rn_bi p5.1)], N, sl, rn_hp S p5.2)) rfl ?_
      refine rn_eg qm 1 (s2 := ((if (rn_bi p5.1) = 0 then 22 else 24), [(0, .ref 318), (1, .int b1), (2, .int v2)], [], N, sl, rn_hp S p5.2)) rfl ?_
      refine rn_iteb (fun c6 => ?_) (fun c6 => ?_)
      · rw [if_neg (rn_bf c6)] at h
        refine rn_eg qm 1 (s2 := (23, [(0, .ref 318), (1, .int b1), (2, .int v2)], [.int v2], N, sl, rn_hp S p5.2)) rfl ?_
        cases h
        exact rn_er qm rfl rfl rfl
      · rw [if_pos c6] at h
        refine rn_eg qm 2 (s2 := (8, [(2, .int (v2 + (1 : Int32))), (0, .ref 318), (1, .int b1)], [], N, sl, rn_hp S p5.2)) rfl ?_
        refine rn_kq qm (s2 := (8, [(0, .ref 318), (1, .int b1), (2, .int (v2 + (1 : Int32)))], [], N, sl, rn_hp S p5.2)) rfl rfl ?_
        exact ih _ _ k R hk h
def f43 (M : rn_T) (a1 : Int32) : Option (Int32 × rn_T) :=
  Option.bind (f38 (wI M 318 4 (0 : Int32)) (0 : Int32)) fun p1 =>
    f43_L8 a1 rn_FU p1 (0 : Int32) (fun M7 =>
      if (rI M7 318 4) = 0 then
        some ((-6 : Int32), M7)
      else
        if rn_ob a1 8 then none else
          some ((rA M7 320 (Int32.toNatClampNeg a1)), M7))
set_option maxHeartbeats 4000000 in
theorem E43 {X : rn_X} {N sl : Nat} {S M : rn_T} {a1 : Int32} {R : (Int32 × rn_T)} (h : f43 M a1 = some R) : rn_rv X 43 (0, [(0, .ref 318), (1, .int a1)], [], N, sl, rn_hp S M) (some (.int R.1), N, sl, rn_hp S R.2) := by
  have qm := rn_m43
  unfold f43 at h
  refine rn_eg qm 2 (s2 := (2, [(0, .ref 318), (1, .int a1)], [.int (0 : Int32), .ref 318], N, sl, rn_hp S M)) rfl ?_
  refine rn_e1 qm (s2 := (3, [(0, .ref 318), (1, .int a1)], [], N, sl, rn_hp S (wI M 318 4 (0 : Int32)))) (rn_g_putf rfl rfl (en_9 rfl) rfl rfl rfl (wf_9_4 (v := (0 : Int32)) rfl)) ?_
  refine rn_eg qm 2 (s2 := (5, [(0, .ref 318), (1, .int a1)], [.int (0 : Int32), .ref 318], N, sl, rn_hp S (wI M 318 4 (0 : Int32)))) rfl ?_
  obtain ⟨p1, hp1, h⟩ := Option.bind_eq_some_iff.mp h
  refine rn_ec qm rfl rfl rfl rfl rn_m38 rfl rfl rfl (fun _ => rn_rc_of (en_9 (q := 318) rfl)) (E38 hp1) ?_
  refine rn_eg qm 0 (s2 := (6, [(0, .ref 318), (1, .int a1)], [], N, sl, rn_hp S p1)) rfl ?_
  refine rn_eg qm 2 (s2 := (8, [(2, .int (0 : Int32)), (0, .ref 318), (1, .int a1)], [], N, sl, rn_hp S p1)) rfl ?_
  refine rn_kq qm (s2 := (8, [(0, .ref 318), (1, .int a1), (2, .int (0 : Int32))], [], N, sl, rn_hp S p1)) rfl rfl ?_
  refine E43_L8 rn_FU _ _ _ R ?_ h
  intro M7 h
  refine rn_eg qm 3 (s2 := ((if (rI M7 318 4) = 0 then 29 else 31), [(0, .ref 318), (1, .int a1)], [], N, sl, rn_hp S M7)) rfl ?_
  refine rn_ite (fun c8 => ?_) (fun c8 => ?_)
  · rw [if_pos c8] at h
    refine rn_eg qm 2 (s2 := (35, [(0, .ref 318), (1, .int a1)], [.int (-6 : Int32)], N, sl, rn_hp S M7)) rfl ?_
    cases h
    exact rn_er qm rfl rfl rfl
  · rw [if_neg c8] at h
    refine rn_eg qm 3 (s2 := (34, [(0, .ref 318), (1, .int a1)], [.int a1, .ref 320], N, sl, rn_hp S M7)) rfl ?_
    have c9 : ¬ (rn_ob a1 8) := fun c => by rw [if_pos c] at h; cases h
    rw [if_neg c9] at h
    refine rn_e1 qm (s2 := (35, [(0, .ref 318), (1, .int a1)], [.int (rA M7 320 (Int32.toNatClampNeg a1))], N, sl, rn_hp S M7)) (rn_g_iald (n := 8) rfl rfl (ar_m10 rfl rfl (Nat.le_of_ble_eq_true rfl)) c9) ?_
    cases h
    exact rn_er qm rfl rfl rfl
/-! 44: RecordNichesModel.fault(I)I -/
def f44 (M : rn_T) (a1 : Int32) : Option (Int32 × rn_T) :=
  if (f30 M a1) = true then
    Option.bind (f43 M a1) fun p3 =>
      some (p3.1, p3.2)
  else
    some ((-1 : Int32), M)
set_option maxHeartbeats 4000000 in
theorem E44 {X : rn_X} {N sl : Nat} {S M : rn_T} {a1 : Int32} {R : (Int32 × rn_T)} (h : f44 M a1 = some R) : rn_rv X 44 (0, [(0, .ref 318), (1, .int a1)], [], N, sl, rn_hp S M) (some (.int R.1), N, sl, rn_hp S R.2) := by
  have qm := rn_m44
  unfold f44 at h
  refine rn_eg qm 1 (s2 := (1, [(0, .ref 318), (1, .int a1)], [.int a1], N, sl, rn_hp S M)) rfl ?_
  refine rn_ec qm rfl rfl rfl rfl rn_m30 rfl rfl rfl (fun h => by cases h) (E30 rfl) ?_
  refine rn_eg qm 0 (s2 := (2, [(0, .ref 318), (1, .int a1)], [.int (rn_bi (f30 M a1))], N, sl, rn_hp S M)) rfl ?_
  refine rn_eg qm 1 (s2 := ((if (rn_bi (f30 M a1)) = 0 then 7 else 3), [(0, .ref 318), (1, .int a1)], [], N, sl, rn_hp S M)) rfl ?_
  refine rn_iteb (fun c2 => ?_) (fun c2 => ?_)
  · rw [if_neg (rn_bf c2)] at h
    refine rn_eg qm 1 (s2 := (8, [(0, .ref 318), (1, .int a1)], [.int (-1 : Int32)], N, sl, rn_hp S M)) rfl ?_
    cases h
    exact rn_er qm rfl rfl rfl
  · rw [if_pos c2] at h
    refine rn_eg qm 2 (s2 := (5, [(0, .ref 318), (1, .int a1)], [.int a1, .ref 318], N, sl, rn_hp S M)) rfl ?_
    obtain ⟨p3, hp3, h⟩ := Option.bind_eq_some_iff.mp h
    refine rn_ec qm rfl rfl rfl rfl rn_m43 rfl rfl rfl (fun _ => rn_rc_of (en_9 (q := 318) rfl)) (E43 hp3) ?_
    refine rn_eg qm 0 (s2 := (6, [(0, .ref 318), (1, .int a1)], [.int p3.1], N, sl, rn_hp S p3.2)) rfl ?_
    refine rn_eg qm 1 (s2 := (8, [(0, .ref 318), (1, .int a1)], [.int p3.1], N, sl, rn_hp S p3.2)) rfl ?_
    cases h
    exact rn_er qm rfl rfl rfl
/-! 45: RecordNichesModel.way(I)I -/
def f45 (M : rn_T) (a1 : Int32) : Option (Int32 × rn_T) :=
  if (f29 (Int32.toInt64 a1) (0 : Int64) (1 : Int64)) = true then
    some ((rI M 318 2), wI M 318 2 a1)
  else
    some ((-2 : Int32), M)
set_option maxHeartbeats 4000000 in
theorem E45 {X : rn_X} {N sl : Nat} {S M : rn_T} {a1 : Int32} {R : (Int32 × rn_T)} (h : f45 M a1 = some R) : rn_rv X 45 (0, [(0, .ref 318), (1, .int a1)], [], N, sl, rn_hp S M) (some (.int R.1), N, sl, rn_hp S R.2) := by
  have qm := rn_m45
  unfold f45 at h
  refine rn_eg qm 4 (s2 := (4, [(0, .ref 318), (1, .int a1)], [.long (1 : Int64), .long (0 : Int64), .long (Int32.toInt64 a1)], N, sl, rn_hp S M)) rfl ?_
  refine rn_ec qm rfl rfl rfl rfl rn_m29 rfl rfl rfl (fun h => by cases h) (E29 rfl) ?_
  refine rn_eg qm 0 (s2 := (5, [(0, .ref 318), (1, .int a1)], [.int (rn_bi (f29 (Int32.toInt64 a1) (0 : Int64) (1 : Int64)))], N, sl, rn_hp S M)) rfl ?_
  refine rn_eg qm 1 (s2 := ((if (rn_bi (f29 (Int32.toInt64 a1) (0 : Int64) (1 : Int64))) = 0 then 6 else 8), [(0, .ref 318), (1, .int a1)], [], N, sl, rn_hp S M)) rfl ?_
  refine rn_iteb (fun c2 => ?_) (fun c2 => ?_)
  · rw [if_neg (rn_bf c2)] at h
    refine rn_eg qm 1 (s2 := (7, [(0, .ref 318), (1, .int a1)], [.int (-2 : Int32)], N, sl, rn_hp S M)) rfl ?_
    cases h
    exact rn_er qm rfl rfl rfl
  · rw [if_pos c2] at h
    refine rn_eg qm 5 (s2 := (13, [(2, .int (rI M 318 2)), (0, .ref 318), (1, .int a1)], [.int a1, .ref 318], N, sl, rn_hp S M)) rfl ?_
    refine rn_e1 qm (s2 := (14, [(2, .int (rI M 318 2)), (0, .ref 318), (1, .int a1)], [], N, sl, rn_hp S (wI M 318 2 a1))) (rn_g_putf rfl rfl (en_9 rfl) rfl rfl rfl (wf_9_2 (v := a1) rfl)) ?_
    refine rn_eg qm 1 (s2 := (15, [(2, .int (rI M 318 2)), (0, .ref 318), (1, .int a1)], [.int (rI M 318 2)], N, sl, rn_hp S (wI M 318 2 a1))) rfl ?_
    cases h
    exact rn_er qm rfl rfl rfl
/-! 46: RecordNichesModel.isAsked(II)Z -/
def f46 (M : rn_T) (a1 : Int32) (a2 : Int32) : Option Bool :=
  if (f30 M a1) = true then
    if (f29 (Int32.toInt64 a2) (-1 : Int64) (7 : Int64)) = true then
      Option.bind (f36 M a1) fun p5 =>
        if p5 = true then
          if a2 < 0 then
            some false
          else
            Option.bind (f36 M a2) fun p9 =>
              if p9 = true then
                some false
              else
                some true
        else
          if a2 = (-1 : Int32) then
            some true
          else
            some false
    else
      some false
  else
    some false
set_option maxHeartbeats 4000000 in
theorem E46 {X : rn_X} {N sl : Nat} {S M : rn_T} {a1 : Int32} {a2 : Int32} {R : (Bool)} (h : f46 M a1 a2 = some R) : rn_rv X 46 (0, [(0, .ref 318), (1, .int a1), (2, .int a2)], [], N, sl, rn_hp S M) (some (.int (rn_bi R)), N, sl, rn_hp S M) := by
  have qm := rn_m46
  unfold f46 at h
  refine rn_eg qm 1 (s2 := (1, [(0, .ref 318), (1, .int a1), (2, .int a2)], [.int a1], N, sl, rn_hp S M)) rfl ?_
  refine rn_ec qm rfl rfl rfl rfl rn_m30 rfl rfl rfl (fun h => by cases h) (E30 rfl) ?_
  refine rn_eg qm 0 (s2 := (2, [(0, .ref 318), (1, .int a1), (2, .int a2)], [.int (rn_bi (f30 M a1))], N, sl, rn_hp S M)) rfl ?_
  refine rn_eg qm 1 (s2 := ((if (rn_bi (f30 M a1)) = 0 then 9 else 3), [(0, .ref 318), (1, .int a1), (2, .int a2)], [], N, sl, rn_hp S M)) rfl ?_
  refine rn_iteb (fun c2 => ?_) (fun c2 => ?_)
  · rw [if_neg (rn_bf c2)] at h
    refine rn_eg qm 1 (s2 := (10, [], [.int (0 : Int32)], N, sl, rn_hp S M)) rfl ?_
    cases h
    exact rn_er qm rfl rfl rn_rt0
  · rw [if_pos c2] at h
    refine rn_eg qm 4 (s2 := (7, [(0, .ref 318), (1, .int a1), (2, .int a2)], [.long (7 : Int64), .long (-1 : Int64), .long (Int32.toInt64 a2)], N, sl, rn_hp S M)) rfl ?_
    refine rn_ec qm rfl rfl rfl rfl rn_m29 rfl rfl rfl (fun h => by cases h) (E29 rfl) ?_
    refine rn_eg qm 0 (s2 := (8, [(0, .ref 318), (1, .int a1), (2, .int a2)], [.int (rn_bi (f29 (Int32.toInt64 a2) (-1 : Int64) (7 : Int64)))], N, sl, rn_hp S M)) rfl ?_
    refine rn_eg qm 1 (s2 := ((if (rn_bi (f29 (Int32.toInt64 a2) (-1 : Int64) (7 : Int64))) = 0 then 9 else 11), [(0, .ref 318), (1, .int a1), (2, .int a2)], [], N, sl, rn_hp S M)) rfl ?_
    refine rn_iteb (fun c4 => ?_) (fun c4 => ?_)
    · rw [if_neg (rn_bf c4)] at h
      refine rn_eg qm 1 (s2 := (10, [], [.int (0 : Int32)], N, sl, rn_hp S M)) rfl ?_
      cases h
      exact rn_er qm rfl rfl rn_rt0
    · rw [if_pos c4] at h
      refine rn_eg qm 2 (s2 := (13, [(0, .ref 318), (1, .int a1), (2, .int a2)], [.int a1, .ref 318], N, sl, rn_hp S M)) rfl ?_
      obtain ⟨p5, hp5, h⟩ := Option.bind_eq_some_iff.mp h
      refine rn_ec qm rfl rfl rfl rfl rn_m36 rfl rfl rfl (fun _ => rn_rc_of (en_9 (q := 318) rfl)) (E36 hp5) ?_
      refine rn_eg qm 0 (s2 := (14, [(0, .ref 318), (1, .int a1), (2, .int a2)], [.int (rn_bi p5)], N, sl, rn_hp S M)) rfl ?_
      refine rn_eg qm 1 (s2 := ((if (rn_bi p5) = 0 then 25 else 15), [(0, .ref 318), (1, .int a1), (2, .int a2)], [], N, sl, rn_hp S M)) rfl ?_
      refine rn_iteb (fun c6 => ?_) (fun c6 => ?_)
      · rw [if_neg (rn_bf c6)] at h
        refine rn_eg qm 3 (s2 := ((if a2 = (-1 : Int32) then 28 else 30), [(0, .ref 318), (1, .int a1), (2, .int a2)], [], N, sl, rn_hp S M)) rfl ?_
        refine rn_ite (fun c7 => ?_) (fun c7 => ?_)
        · rw [if_pos c7] at h
          refine rn_eg qm 2 (s2 := (31, [(0, .ref 318), (1, .int a1), (2, .int a2)], [.int (1 : Int32)], N, sl, rn_hp S M)) rfl ?_
          cases h
          exact rn_er qm rfl rfl rn_rt1
        · rw [if_neg c7] at h
          refine rn_eg qm 1 (s2 := (31, [(0, .ref 318), (1, .int a1), (2, .int a2)], [.int (0 : Int32)], N, sl, rn_hp S M)) rfl ?_
          cases h
          exact rn_er qm rfl rfl rn_rt0
      · rw [if_pos c6] at h
        refine rn_eg qm 2 (s2 := ((if a2 < 0 then 23 else 17), [(0, .ref 318), (1, .int a1), (2, .int a2)], [], N, sl, rn_hp S M)) rfl ?_
        refine rn_ite (fun c8 => ?_) (fun c8 => ?_)
        · rw [if_pos c8] at h
          refine rn_eg qm 2 (s2 := (31, [], [.int (0 : Int32)], N, sl, rn_hp S M)) rfl ?_
          cases h
          exact rn_er qm rfl rfl rn_rt0
        · rw [if_neg c8] at h
          refine rn_eg qm 2 (s2 := (19, [(0, .ref 318), (1, .int a1), (2, .int a2)], [.int a2, .ref 318], N, sl, rn_hp S M)) rfl ?_
          obtain ⟨p9, hp9, h⟩ := Option.bind_eq_some_iff.mp h
          refine rn_ec qm rfl rfl rfl rfl rn_m36 rfl rfl rfl (fun _ => rn_rc_of (en_9 (q := 318) rfl)) (E36 hp9) ?_
          refine rn_eg qm 0 (s2 := (20, [(0, .ref 318), (1, .int a1), (2, .int a2)], [.int (rn_bi p9)], N, sl, rn_hp S M)) rfl ?_
          refine rn_eg qm 1 (s2 := ((if (rn_bi p9) = 0 then 21 else 23), [(0, .ref 318), (1, .int a1), (2, .int a2)], [], N, sl, rn_hp S M)) rfl ?_
          refine rn_iteb (fun c10 => ?_) (fun c10 => ?_)
          · rw [if_neg (rn_bf c10)] at h
            refine rn_eg qm 2 (s2 := (31, [(0, .ref 318), (1, .int a1), (2, .int a2)], [.int (1 : Int32)], N, sl, rn_hp S M)) rfl ?_
            cases h
            exact rn_er qm rfl rfl rn_rt1
          · rw [if_pos c10] at h
            refine rn_eg qm 2 (s2 := (31, [], [.int (0 : Int32)], N, sl, rn_hp S M)) rfl ?_
            cases h
            exact rn_er qm rfl rfl rn_rt0
/-! 47: RecordNichesModel.lettersOf(I)I -/
def f47_L4 (b1 : Int32) : Nat → rn_T → Int32 → Int32 → (rn_T → Int32 → Option Int32) → Option Int32
  | 0, _, _, _, _ => none
  | fu + 1, M, v2, v3, k =>
    if rn_ob b1 8 then none else
      if (rA M 320 (Int32.toNatClampNeg b1)) ≤ v3 then
        k M v2
      else
        Option.bind (f33 M b1 v3) fun p3 =>
          if (f37 M p3) = true then
            f47_L4 b1 fu M (v2 ||| ((1 : Int32) <<< ((p3 - (65 : Int32)) &&& 31))) (v3 + (1 : Int32)) k
          else
            f47_L4 b1 fu M (v2 ||| (0 : Int32)) (v3 + (1 : Int32)) k
set_option maxHeartbeats 4000000 in
theorem E47_L4 {X : rn_X} {N sl : Nat} {S : rn_T} {b1 : Int32} : ∀ (fu : Nat) (M : rn_T) (v2 : Int32) (v3 : Int32) (k : (rn_T → Int32 → Option Int32)) (R : (Int32)), (∀ (M : rn_T) (w_2 : Int32), k M w_2 = some R → rn_rv X 47 (30, [(2, .int w_2)], [], N, sl, rn_hp S M) (some (.int R), N, sl, rn_hp S M)) → f47_L4 b1 fu M v2 v3 k = some R → rn_rv X 47 (4, [(0, .ref 318), (1, .int b1), (2, .int v2), (3, .int v3)], [], N, sl, rn_hp S M) (some (.int R), N, sl, rn_hp S M) := by
  have qm := rn_m47
  intro fu
  induction fu with
  | zero => intro M v2 v3 k R hk h; cases h
  | succ fu ih =>
    intro M v2 v3 k R hk h
    unfold f47_L4 at h
    refine rn_eg qm 4 (s2 := (8, [(0, .ref 318), (1, .int b1), (2, .int v2), (3, .int v3)], [.int b1, .ref 320, .int v3], N, sl, rn_hp S M)) rfl ?_
    have c1 : ¬ (rn_ob b1 8) := fun c => by rw [if_pos c] at h; cases h
    rw [if_neg c1] at h
    refine rn_e1 qm (s2 := (9, [(0, .ref 318), (1, .int b1), (2, .int v2), (3, .int v3)], [.int (rA M 320 (Int32.toNatClampNeg b1)), .int v3], N, sl, rn_hp S M)) (rn_g_iald (n := 8) rfl rfl (ar_m10 rfl rfl (Nat.le_of_ble_eq_true rfl)) c1) ?_
    refine rn_eg qm 1 (s2 := ((if (rA M 320 (Int32.toNatClampNeg b1)) ≤ v3 then 30 else 10), [(0, .ref 318), (1, .int b1), (2, .int v2), (3, .int v3)], [], N, sl, rn_hp S M)) rfl ?_
    refine rn_ite (fun c2 => ?_) (fun c2 => ?_)
    · rw [if_pos c2] at h
      refine rn_kq qm (s2 := (30, [(2, .int v2)], [], N, sl, rn_hp S M)) rfl rfl ?_
      exact hk _ _ h
    · rw [if_neg c2] at h
      refine rn_eg qm 3 (s2 := (13, [(0, .ref 318), (1, .int b1), (2, .int v2), (3, .int v3)], [.int v3, .int b1, .ref 318], N, sl, rn_hp S M)) rfl ?_
      obtain ⟨p3, hp3, h⟩ := Option.bind_eq_some_iff.mp h
      refine rn_ec qm rfl rfl rfl rfl rn_m33 rfl rfl rfl (fun _ => rn_rc_of (en_9 (q := 318) rfl)) (E33 hp3) ?_
      refine rn_eg qm 0 (s2 := (14, [(0, .ref 318), (1, .int b1), (2, .int v2), (3, .int v3)], [.int p3], N, sl, rn_hp S M)) rfl ?_
      refine rn_eg qm 3 (s2 := (17, [(4, .int p3), (0, .ref 318), (1, .int b1), (2, .int v2), (3, .int v3)], [.int p3, .int v2], N, sl, rn_hp S M)) rfl ?_
      refine rn_ec qm rfl rfl rfl rfl rn_m37 rfl rfl rfl (fun h => by cases h) (E37 rfl) ?_
      refine rn_eg qm 0 (s2 := (18, [(4, .int p3), (0, .ref 318), (1, .int b1), (2, .int v2), (3, .int v3)], [.int (rn_bi (f37 M p3)), .int v2], N, sl, rn_hp S M)) rfl ?_
      refine rn_eg qm 1 (s2 := ((if (rn_bi (f37 M p3)) = 0 then 25 else 19), [(4, .int p3), (0, .ref 318), (1, .int b1), (2, .int v2), (3, .int v3)], [.int v2], N, sl, rn_hp S M)) rfl ?_
      refine rn_iteb (fun c5 => ?_) (fun c5 => ?_)
      · rw [if_neg (rn_bf c5)] at h
        refine rn_eg qm 5 (s2 := (4, [(3, .int (v3 + (1 : Int32))), (2, .int (v2 ||| (0 : Int32))), (0, .ref 318), (1, .int b1)], [], N, sl, rn_hp S M)) rfl ?_
        refine rn_kq qm (s2 := (4, [(0, .ref 318), (1, .int b1), (2, .int (v2 ||| (0 : Int32))), (3, .int (v3 + (1 : Int32)))], [], N, sl, rn_hp S M)) rfl rfl ?_
        exact ih _ _ _ k R hk h
      · rw [if_pos c5] at h
        refine rn_eg qm 10 (s2 := (4, [(3, .int (v3 + (1 : Int32))), (2, .int (v2 ||| ((1 : Int32) <<< ((p3 - (65 : Int32)) &&& 31)))), (0, .ref 318), (1, .int b1)], [], N, sl, rn_hp S M)) rfl ?_
        refine rn_kq qm (s2 := (4, [(0, .ref 318), (1, .int b1), (2, .int (v2 ||| ((1 : Int32) <<< ((p3 - (65 : Int32)) &&& 31)))), (3, .int (v3 + (1 : Int32)))], [], N, sl, rn_hp S M)) rfl rfl ?_
        exact ih _ _ _ k R hk h
def f47 (M : rn_T) (a1 : Int32) : Option Int32 :=
  f47_L4 a1 rn_FU M (0 : Int32) (0 : Int32) (fun M6 w6_2 =>
    some w6_2)
set_option maxHeartbeats 4000000 in
theorem E47 {X : rn_X} {N sl : Nat} {S M : rn_T} {a1 : Int32} {R : (Int32)} (h : f47 M a1 = some R) : rn_rv X 47 (0, [(0, .ref 318), (1, .int a1)], [], N, sl, rn_hp S M) (some (.int R), N, sl, rn_hp S M) := by
  have qm := rn_m47
  unfold f47 at h
  refine rn_eg qm 4 (s2 := (4, [(3, .int (0 : Int32)), (2, .int (0 : Int32)), (0, .ref 318), (1, .int a1)], [], N, sl, rn_hp S M)) rfl ?_
  refine rn_kq qm (s2 := (4, [(0, .ref 318), (1, .int a1), (2, .int (0 : Int32)), (3, .int (0 : Int32))], [], N, sl, rn_hp S M)) rfl rfl ?_
  refine E47_L4 rn_FU _ _ _ _ R ?_ h
  intro M6 w6_2 h
  refine rn_eg qm 1 (s2 := (31, [(2, .int w6_2)], [.int w6_2], N, sl, rn_hp S M6)) rfl ?_
  cases h
  exact rn_er qm rfl rfl rfl
