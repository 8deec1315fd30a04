/-! 22: RecordNiches.isShape(I)Z -/
def f22 (a0 : Int32) : Bool :=
  if a0 < 0 then
    false
  else
    if (8 : Int32) ≤ a0 then
      false
    else
      true
set_option maxHeartbeats 4000000 in
theorem E22 {X : rn_X} {N sl : Nat} {S M : rn_T} {a0 : Int32} {R : Bool} (h : f22 a0 = R) : rn_rv X 22 (0, [(0, .int a0)], [], N, sl, rn_hp S M) (some (.int (rn_bi R)), N, sl, rn_hp S M) := by
  have qm := rn_m22
  unfold f22 at h
  refine rn_eg qm 2 (s2 := ((if a0 < 0 then 7 else 2), [(0, .int a0)], [], N, sl, rn_hp S M)) rfl ?_
  refine rn_ite (fun c1 => ?_) (fun c1 => ?_)
  · rw [if_pos c1] at h
    refine rn_eg qm 1 (s2 := (8, [], [.int (0 : Int32)], N, sl, rn_hp S M)) rfl ?_
    cases h
    exact rn_er qm rfl rfl rn_rt0
  · rw [if_neg c1] at h
    refine rn_eg qm 3 (s2 := ((if (8 : Int32) ≤ a0 then 7 else 5), [(0, .int a0)], [], N, sl, rn_hp S M)) rfl ?_
    refine rn_ite (fun c2 => ?_) (fun c2 => ?_)
    · rw [if_pos c2] at h
      refine rn_eg qm 1 (s2 := (8, [], [.int (0 : Int32)], N, sl, rn_hp S M)) rfl ?_
      cases h
      exact rn_er qm rfl rfl rn_rt0
    · rw [if_neg c2] at h
      refine rn_eg qm 2 (s2 := (8, [(0, .int a0)], [.int (1 : Int32)], N, sl, rn_hp S M)) rfl ?_
      cases h
      exact rn_er qm rfl rfl rn_rt1
/-! 140: RecordNiches$Text.append(I)V -/
def f140 (S : rn_T) (a0 : Nat) (a1 : Int32) : Option (rn_T) :=
  if rn_kd a0 = 5 then
    if (rI S a0 1) < (40 : Int32) then
      if rn_ob (rI S a0 1) 40 then none else
        some (wI (wA S (a0 + 1) (Int32.toNatClampNeg (rI S a0 1)) a1) a0 1 ((rI (wA S (a0 + 1) (Int32.toNatClampNeg (rI S a0 1)) a1) a0 1) + (1 : Int32)))
    else
      some (S)
  else none
set_option maxHeartbeats 4000000 in
theorem E140 {X : rn_X} {N sl : Nat} {S M : rn_T} {a0 : Nat} {a1 : Int32} {R : (rn_T)} (h : f140 S a0 a1 = some R) : rn_rv X 140 (0, [(0, .ref a0), (1, .int a1)], [], N, sl, rn_hp S M) (none, N, sl, rn_hp R M) := by
  have qm := rn_m140
  unfold f140 at h
  refine rn_eg qm 1 (s2 := (1, [(0, .ref a0), (1, .int a1)], [.ref a0], N, sl, rn_hp S M)) rfl ?_
  have k1 : rn_kd a0 = 5 := Decidable.byContradiction fun c => by rw [if_neg c] at h; cases h
  rw [if_pos k1] at h
  refine rn_e1 qm (s2 := (2, [(0, .ref a0), (1, .int a1)], [.int (rI S a0 1)], N, sl, rn_hp S M)) (rn_g_getf rfl rfl (en_5 k1) rfl) ?_
  refine rn_eg qm 2 (s2 := ((if (rI S a0 1) < (40 : Int32) then 5 else 4), [(0, .ref a0), (1, .int a1)], [], N, sl, rn_hp S M)) rfl ?_
  refine rn_ite (fun c2 => ?_) (fun c2 => ?_)
  · rw [if_pos c2] at h
    refine rn_eg qm 1 (s2 := (6, [(0, .ref a0), (1, .int a1)], [.ref a0], N, sl, rn_hp S M)) rfl ?_
    refine rn_e1 qm (s2 := (7, [(0, .ref a0), (1, .int a1)], [.ref (a0 + 1)], N, sl, rn_hp S M)) (rn_g_getf rfl rfl (en_5 k1) rfl) ?_
    refine rn_eg qm 1 (s2 := (8, [(0, .ref a0), (1, .int a1)], [.ref a0, .ref (a0 + 1)], N, sl, rn_hp S M)) rfl ?_
    refine rn_e1 qm (s2 := (9, [(0, .ref a0), (1, .int a1)], [.int (rI S a0 1), .ref (a0 + 1)], N, sl, rn_hp S M)) (rn_g_getf rfl rfl (en_5 k1) rfl) ?_
    refine rn_eg qm 1 (s2 := (10, [(0, .ref a0), (1, .int a1)], [.int a1, .int (rI S a0 1), .ref (a0 + 1)], N, sl, rn_hp S M)) rfl ?_
    have c3 : ¬ (rn_ob (rI S a0 1) 40) := fun c => by rw [if_pos c] at h; cases h
    rw [if_neg c3] at h
    refine rn_e1 qm (s2 := (11, [(0, .ref a0), (1, .int a1)], [], N, sl, rn_hp (wA S (a0 + 1) (Int32.toNatClampNeg (rI S a0 1)) a1) M)) (rn_g_iast (n := 40) rfl rfl (ar_x10 (ko_5_0 k1).1 (ko_5_0 k1).2.1 (ko_5_0 k1).2.2) c3 (aw_x10 (ko_5_0 k1).1 (ko_5_0 k1).2.1 (ko_5_0 k1).2.2)) ?_
    refine rn_eg qm 2 (s2 := (13, [(0, .ref a0), (1, .int a1)], [.ref a0, .ref a0], N, sl, rn_hp (wA S (a0 + 1) (Int32.toNatClampNeg (rI S a0 1)) a1) M)) rfl ?_
    refine rn_e1 qm (s2 := (14, [(0, .ref a0), (1, .int a1)], [.int (rI (wA S (a0 + 1) (Int32.toNatClampNeg (rI S a0 1)) a1) a0 1), .ref a0], N, sl, rn_hp (wA S (a0 + 1) (Int32.toNatClampNeg (rI S a0 1)) a1) M)) (rn_g_getf rfl rfl (en_5 k1) rfl) ?_
    refine rn_eg qm 2 (s2 := (16, [(0, .ref a0), (1, .int a1)], [.int ((rI (wA S (a0 + 1) (Int32.toNatClampNeg (rI S a0 1)) a1) a0 1) + (1 : Int32)), .ref a0], N, sl, rn_hp (wA S (a0 + 1) (Int32.toNatClampNeg (rI S a0 1)) a1) M)) rfl ?_
    refine rn_e1 qm (s2 := (17, [(0, .ref a0), (1, .int a1)], [], N, sl, rn_hp (wI (wA S (a0 + 1) (Int32.toNatClampNeg (rI S a0 1)) a1) a0 1 ((rI (wA S (a0 + 1) (Int32.toNatClampNeg (rI S a0 1)) a1) a0 1) + (1 : Int32))) M)) (rn_g_putf rfl rfl (en_5 k1) rfl rfl rfl (wf_5_1 (v := ((rI (wA S (a0 + 1) (Int32.toNatClampNeg (rI S a0 1)) a1) a0 1) + (1 : Int32))) k1)) ?_
    cases h
    exact rn_er qm rfl rfl rfl
  · rw [if_neg c2] at h
    cases h
    exact rn_er qm rfl rfl rfl
/-! 1: RecordNiches.say(II)I -/
def f1 (S : rn_T) (a1 : Int32) (a2 : Int32) : Option (Int32 × rn_T) :=
  if (f22 a1) = true then
    if a2 < (33 : Int32) then
      some ((-2 : Int32), S)
    else
      if a2 ≤ (126 : Int32) then
        if rn_ob a1 8 then none else
          if (rI S (5 + 2 * (Int32.toNatClampNeg a1)) 1) < (40 : Int32) then
            Option.bind (f140 S (5 + 2 * (Int32.toNatClampNeg a1)) a2) fun p7 =>
              some ((rI p7 (5 + 2 * (Int32.toNatClampNeg a1)) 1), p7)
          else
            some ((-4 : Int32), S)
      else
        some ((-2 : Int32), S)
  else
    some ((-1 : Int32), S)
set_option maxHeartbeats 4000000 in
theorem E1 {X : rn_X} {N sl : Nat} {S M : rn_T} {a1 : Int32} {a2 : Int32} {R : (Int32 × rn_T)} (h : f1 S a1 a2 = some R) : rn_rv X 1 (0, [(0, .ref 0), (1, .int a1), (2, .int a2)], [], N, sl, rn_hp S M) (some (.int R.1), N, sl, rn_hp R.2 M) := by
  have qm := rn_m1
  unfold f1 at h
  refine rn_eg qm 1 (s2 := (1, [(0, .ref 0), (1, .int a1), (2, .int a2)], [.int a1], N, sl, rn_hp S M)) rfl ?_
  refine rn_ec qm rfl rfl rfl rfl rn_m22 rfl rfl rfl (fun h => by cases h) (E22 rfl) ?_
  refine rn_eg qm 0 (s2 := (2, [(0, .ref 0), (1, .int a1), (2, .int a2)], [.int (rn_bi (f22 a1))], N, sl, rn_hp S M)) rfl ?_
  refine rn_eg qm 1 (s2 := ((if (rn_bi (f22 a1)) = 0 then 3 else 5), [(0, .ref 0), (1, .int a1), (2, .int a2)], [], N, sl, rn_hp S M)) rfl ?_
  refine rn_iteb (fun c2 => ?_) (fun c2 => ?_)
  · rw [if_neg (rn_bf c2)] at h
    refine rn_eg qm 1 (s2 := (4, [(0, .ref 0), (1, .int a1), (2, .int a2)], [.int (-1 : Int32)], N, sl, rn_hp S M)) rfl ?_
    cases h
    exact rn_er qm rfl rfl rfl
  · rw [if_pos c2] at h
    refine rn_eg qm 3 (s2 := ((if a2 < (33 : Int32) then 11 else 8), [(0, .ref 0), (1, .int a1), (2, .int a2)], [], N, sl, rn_hp S M)) rfl ?_
    refine rn_ite (fun c3 => ?_) (fun c3 => ?_)
    · rw [if_pos c3] at h
      refine rn_eg qm 1 (s2 := (12, [], [.int (-2 : Int32)], N, sl, rn_hp S M)) rfl ?_
      cases h
      exact rn_er qm rfl rfl rfl
    · rw [if_neg c3] at h
      refine rn_eg qm 3 (s2 := ((if a2 ≤ (126 : Int32) then 13 else 11), [(0, .ref 0), (1, .int a1), (2, .int a2)], [], N, sl, rn_hp S M)) rfl ?_
      refine rn_ite (fun c4 => ?_) (fun c4 => ?_)
      · rw [if_pos c4] at h
        refine rn_eg qm 4 (s2 := (17, [(0, .ref 0), (1, .int a1), (2, .int a2)], [.int a1, .ref 2], N, sl, rn_hp S M)) rfl ?_
        have c5 : ¬ (rn_ob a1 8) := fun c => by rw [if_pos c] at h; cases h
        rw [if_neg c5] at h
        refine rn_e1 qm (s2 := (18, [(0, .ref 0), (1, .int a1), (2, .int a2)], [.ref (5 + 2 * (Int32.toNatClampNeg a1))], N, sl, rn_hp S M)) (rn_g_aald (r := some (5 + 2 * (Int32.toNatClampNeg a1))) rfl rfl (ar_x20 (q := 2) rfl (Nat.le_of_ble_eq_true rfl)) c5 (rn_cr_at (rn_ob_lt c5))) ?_
        refine rn_eg qm 2 (s2 := (20, [(3, .ref (5 + 2 * (Int32.toNatClampNeg a1))), (0, .ref 0), (1, .int a1), (2, .int a2)], [.ref (5 + 2 * (Int32.toNatClampNeg a1))], N, sl, rn_hp S M)) rfl ?_
        refine rn_e1 qm (s2 := (21, [(3, .ref (5 + 2 * (Int32.toNatClampNeg a1))), (0, .ref 0), (1, .int a1), (2, .int a2)], [.int (rI S (5 + 2 * (Int32.toNatClampNeg a1)) 1)], N, sl, rn_hp S M)) (rn_g_getf rfl rfl (en_5 (show rn_kd (5 + 2 * (Int32.toNatClampNeg a1)) = 5 from ck_20 (q := 2) rfl (rn_ob_lt c5))) rfl) ?_
        refine rn_eg qm 2 (s2 := ((if (rI S (5 + 2 * (Int32.toNatClampNeg a1)) 1) < (40 : Int32) then 25 else 23), [(3, .ref (5 + 2 * (Int32.toNatClampNeg a1))), (0, .ref 0), (1, .int a1), (2, .int a2)], [], N, sl, rn_hp S M)) rfl ?_
        refine rn_ite (fun c6 => ?_) (fun c6 => ?_)
        · rw [if_pos c6] at h
          refine rn_eg qm 2 (s2 := (27, [(3, .ref (5 + 2 * (Int32.toNatClampNeg a1))), (0, .ref 0), (1, .int a1), (2, .int a2)], [.int a2, .ref (5 + 2 * (Int32.toNatClampNeg a1))], N, sl, rn_hp S M)) rfl ?_
          obtain ⟨p7, hp7, h⟩ := Option.bind_eq_some_iff.mp h
          refine rn_ec qm rfl rfl rfl rfl rn_m140 rfl rfl rfl (fun _ => rn_rc_of (en_5 (show rn_kd (5 + 2 * (Int32.toNatClampNeg a1)) = 5 from ck_20 (q := 2) rfl (rn_ob_lt c5)))) (E140 hp7) ?_
          refine rn_eg qm 0 (s2 := (28, [(3, .ref (5 + 2 * (Int32.toNatClampNeg a1))), (0, .ref 0), (1, .int a1), (2, .int a2)], [], N, sl, rn_hp p7 M)) rfl ?_
          refine rn_eg qm 1 (s2 := (29, [(3, .ref (5 + 2 * (Int32.toNatClampNeg a1))), (0, .ref 0), (1, .int a1), (2, .int a2)], [.ref (5 + 2 * (Int32.toNatClampNeg a1))], N, sl, rn_hp p7 M)) rfl ?_
          refine rn_e1 qm (s2 := (30, [(3, .ref (5 + 2 * (Int32.toNatClampNeg a1))), (0, .ref 0), (1, .int a1), (2, .int a2)], [.int (rI p7 (5 + 2 * (Int32.toNatClampNeg a1)) 1)], N, sl, rn_hp p7 M)) (rn_g_getf rfl rfl (en_5 (show rn_kd (5 + 2 * (Int32.toNatClampNeg a1)) = 5 from ck_20 (q := 2) rfl (rn_ob_lt c5))) rfl) ?_
          cases h
          exact rn_er qm rfl rfl rfl
        · rw [if_neg c6] at h
          refine rn_eg qm 1 (s2 := (24, [(3, .ref (5 + 2 * (Int32.toNatClampNeg a1))), (0, .ref 0), (1, .int a1), (2, .int a2)], [.int (-4 : Int32)], N, sl, rn_hp S M)) rfl ?_
          cases h
          exact rn_er qm rfl rfl rfl
      · rw [if_neg c4] at h
        refine rn_eg qm 1 (s2 := (12, [], [.int (-2 : Int32)], N, sl, rn_hp S M)) rfl ?_
        cases h
        exact rn_er qm rfl rfl rfl
/-! 2: RecordNiches.wipe(I)I -/
def f2 (S : rn_T) (a1 : Int32) : Option (Int32 × rn_T) :=
  if (f22 a1) = true then
    if rn_ob a1 8 then none else
      some ((rI S (5 + 2 * (Int32.toNatClampNeg a1)) 1), wI S (5 + 2 * (Int32.toNatClampNeg a1)) 1 (0 : Int32))
  else
    some ((-1 : Int32), S)
set_option maxHeartbeats 4000000 in
theorem E2 {X : rn_X} {N sl : Nat} {S M : rn_T} {a1 : Int32} {R : (Int32 × rn_T)} (h : f2 S a1 = some R) : rn_rv X 2 (0, [(0, .ref 0), (1, .int a1)], [], N, sl, rn_hp S M) (some (.int R.1), N, sl, rn_hp R.2 M) := by
  have qm := rn_m2
  unfold f2 at h
  refine rn_eg qm 1 (s2 := (1, [(0, .ref 0), (1, .int a1)], [.int a1], N, sl, rn_hp S M)) rfl ?_
  refine rn_ec qm rfl rfl rfl rfl rn_m22 rfl rfl rfl (fun h => by cases h) (E22 rfl) ?_
  refine rn_eg qm 0 (s2 := (2, [(0, .ref 0), (1, .int a1)], [.int (rn_bi (f22 a1))], N, sl, rn_hp S M)) rfl ?_
  refine rn_eg qm 1 (s2 := ((if (rn_bi (f22 a1)) = 0 then 3 else 5), [(0, .ref 0), (1, .int a1)], [], N, sl, rn_hp S M)) rfl ?_
  refine rn_iteb (fun c2 => ?_) (fun c2 => ?_)
  · rw [if_neg (rn_bf c2)] at h
    refine rn_eg qm 1 (s2 := (4, [(0, .ref 0), (1, .int a1)], [.int (-1 : Int32)], N, sl, rn_hp S M)) rfl ?_
    cases h
    exact rn_er qm rfl rfl rfl
  · rw [if_pos c2] at h
    refine rn_eg qm 4 (s2 := (9, [(0, .ref 0), (1, .int a1)], [.int a1, .ref 2], N, sl, rn_hp S M)) rfl ?_
    have c3 : ¬ (rn_ob a1 8) := fun c => by rw [if_pos c] at h; cases h
    rw [if_neg c3] at h
    refine rn_e1 qm (s2 := (10, [(0, .ref 0), (1, .int a1)], [.ref (5 + 2 * (Int32.toNatClampNeg a1))], N, sl, rn_hp S M)) (rn_g_aald (r := some (5 + 2 * (Int32.toNatClampNeg a1))) rfl rfl (ar_x20 (q := 2) rfl (Nat.le_of_ble_eq_true rfl)) c3 (rn_cr_at (rn_ob_lt c3))) ?_
    refine rn_e1 qm (s2 := (11, [(0, .ref 0), (1, .int a1)], [.int (rI S (5 + 2 * (Int32.toNatClampNeg a1)) 1)], N, sl, rn_hp S M)) (rn_g_getf rfl rfl (en_5 (show rn_kd (5 + 2 * (Int32.toNatClampNeg a1)) = 5 from ck_20 (q := 2) rfl (rn_ob_lt c3))) rfl) ?_
    refine rn_eg qm 5 (s2 := (16, [(2, .int (rI S (5 + 2 * (Int32.toNatClampNeg a1)) 1)), (0, .ref 0), (1, .int a1)], [.int a1, .ref 2], N, sl, rn_hp S M)) rfl ?_
    refine rn_e1 qm (s2 := (17, [(2, .int (rI S (5 + 2 * (Int32.toNatClampNeg a1)) 1)), (0, .ref 0), (1, .int a1)], [.ref (5 + 2 * (Int32.toNatClampNeg a1))], N, sl, rn_hp S M)) (rn_g_aald (r := some (5 + 2 * (Int32.toNatClampNeg a1))) rfl rfl (ar_x20 (q := 2) rfl (Nat.le_of_ble_eq_true rfl)) c3 (rn_cr_at (rn_ob_lt c3))) ?_
    refine rn_eg qm 1 (s2 := (18, [(2, .int (rI S (5 + 2 * (Int32.toNatClampNeg a1)) 1)), (0, .ref 0), (1, .int a1)], [.int (0 : Int32), .ref (5 + 2 * (Int32.toNatClampNeg a1))], N, sl, rn_hp S M)) rfl ?_
    refine rn_e1 qm (s2 := (19, [(2, .int (rI S (5 + 2 * (Int32.toNatClampNeg a1)) 1)), (0, .ref 0), (1, .int a1)], [], N, sl, rn_hp (wI S (5 + 2 * (Int32.toNatClampNeg a1)) 1 (0 : Int32)) M)) (rn_g_putf rfl rfl (en_5 (show rn_kd (5 + 2 * (Int32.toNatClampNeg a1)) = 5 from ck_20 (q := 2) rfl (rn_ob_lt c3))) rfl rfl rfl (wf_5_1 (v := (0 : Int32)) (show rn_kd (5 + 2 * (Int32.toNatClampNeg a1)) = 5 from ck_20 (q := 2) rfl (rn_ob_lt c3)))) ?_
    refine rn_eg qm 1 (s2 := (20, [(2, .int (rI S (5 + 2 * (Int32.toNatClampNeg a1)) 1)), (0, .ref 0), (1, .int a1)], [.int (rI S (5 + 2 * (Int32.toNatClampNeg a1)) 1)], N, sl, rn_hp (wI S (5 + 2 * (Int32.toNatClampNeg a1)) 1 (0 : Int32)) M)) rfl ?_
    cases h
    exact rn_er qm rfl rfl rfl
/-! 27: RecordNiches.isLetter(I)Z -/
def f27 (a0 : Int32) : Bool :=
  if a0 < (65 : Int32) then
    false
  else
    if (73 : Int32) ≤ a0 then
      false
    else
      true
set_option maxHeartbeats 4000000 in
theorem E27 {X : rn_X} {N sl : Nat} {S M : rn_T} {a0 : Int32} {R : Bool} (h : f27 a0 = R) : rn_rv X 27 (0, [(0, .int a0)], [], N, sl, rn_hp S M) (some (.int (rn_bi R)), N, sl, rn_hp S M) := by
  have qm := rn_m27
  unfold f27 at h
  refine rn_eg qm 3 (s2 := ((if a0 < (65 : Int32) then 8 else 3), [(0, .int a0)], [], N, sl, rn_hp S M)) rfl ?_
  refine rn_ite (fun c1 => ?_) (fun c1 => ?_)
  · rw [if_pos c1] at h
    refine rn_eg qm 1 (s2 := (9, [], [.int (0 : Int32)], N, sl, rn_hp S M)) rfl ?_
    cases h
    exact rn_er qm rfl rfl rn_rt0
  · rw [if_neg c1] at h
    refine rn_eg qm 3 (s2 := ((if (73 : Int32) ≤ a0 then 8 else 6), [(0, .int a0)], [], N, sl, rn_hp S M)) rfl ?_
    refine rn_ite (fun c2 => ?_) (fun c2 => ?_)
    · rw [if_pos c2] at h
      refine rn_eg qm 1 (s2 := (9, [], [.int (0 : Int32)], N, sl, rn_hp S M)) rfl ?_
      cases h
      exact rn_er qm rfl rfl rn_rt0
    · rw [if_neg c2] at h
      refine rn_eg qm 2 (s2 := (9, [(0, .int a0)], [.int (1 : Int32)], N, sl, rn_hp S M)) rfl ?_
      cases h
      exact rn_er qm rfl rfl rn_rt1
/-! 142: RecordNiches$Text.holds(I)Z -/
def f142_L2 (b0 : Nat) (b1 : Int32) : Nat → rn_T → Int32 → (rn_T → Option Bool) → Option Bool
  | 0, _, _, _ => none
  | fu + 1, S, v2, k =>
    if rn_kd b0 = 5 then
      if (rI S b0 1) ≤ v2 then
        k S
      else
        if rn_ob v2 40 then none else
          if (rA S (b0 + 1) (Int32.toNatClampNeg v2)) = b1 then
            some true
          else
            f142_L2 b0 b1 fu S (v2 + (1 : Int32)) k
    else none
set_option maxHeartbeats 4000000 in
theorem E142_L2 {X : rn_X} {N sl : Nat} {M : rn_T} {b0 : Nat} {b1 : Int32} : ∀ (fu : Nat) (S : rn_T) (v2 : Int32) (k : (rn_T → Option Bool)) (R : (Bool)), (∀ (S : rn_T), k S = some R → rn_rv X 142 (16, [], [], N, sl, rn_hp S M) (some (.int (rn_bi R)), N, sl, rn_hp S M)) → f142_L2 b0 b1 fu S v2 k = some R → rn_rv X 142 (2, [(0, .ref b0), (1, .int b1), (2, .int v2)], [], N, sl, rn_hp S M) (some (.int (rn_bi R)), N, sl, rn_hp S M) := by
  have qm := rn_m142
  intro fu
  induction fu with
  | zero => intro S v2 k R hk h; cases h
  | succ fu ih =>
    intro S v2 k R hk h
    unfold f142_L2 at h
    refine rn_eg qm 2 (s2 := (4, [(0, .ref b0), (1, .int b1), (2, .int v2)], [.ref b0, .int v2], N, sl, rn_hp S M)) rfl ?_
    have k1 : rn_kd b0 = 5 := Decidable.byContradiction fun c => by rw [if_neg c] at h; cases h
    rw [if_pos k1] at h
    refine rn_e1 qm (s2 := (5, [(0, .ref b0), (1, .int b1), (2, .int v2)], [.int (rI S b0 1), .int v2], N, sl, rn_hp S M)) (rn_g_getf rfl rfl (en_5 k1) rfl) ?_
    refine rn_eg qm 1 (s2 := ((if (rI S b0 1) ≤ v2 then 16 else 6), [(0, .ref b0), (1, .int b1), (2, .int v2)], [], N, sl, rn_hp S M)) rfl ?_
    refine rn_ite (fun c2 => ?_) (fun c2 => ?_)
    · rw [if_pos c2] at h
      refine rn_kq qm (s2 := (16, [], [], N, sl, rn_hp S M)) rfl rfl ?_
      exact hk _ h
    · rw [if_neg c2] at h
      refine rn_eg qm 1 (s2 := (7, [(0, .ref b0), (1, .int b1), (2, .int v2)], [.ref b0], N, sl, rn_hp S M)) rfl ?_
      refine rn_e1 qm (s2 := (8, [(0, .ref b0), (1, .int b1), (2, .int v2)], [.ref (b0 + 1)], N, sl, rn_hp S M)) (rn_g_getf rfl rfl (en_5 k1) rfl) ?_
      refine rn_eg qm 1 (s2 := (9, [(0, .ref b0), (1, .int b1), (2, .int v2)], [.int v2, .ref (b0 + 1)], N, sl, rn_hp S M)) rfl ?_
      have c3 : ¬ (rn_ob v2 40) := fun c => by rw [if_pos c] at h; cases h
      rw [if_neg c3] at h
      refine rn_e1 qm (s2 := (10, [(0, .ref b0), (1, .int b1), (2, .int v2)], [.int (rA S (b0 + 1) (Int32.toNatClampNeg v2))], N, sl, rn_hp S M)) (rn_g_iald (n := 40) rfl rfl (ar_x10 (ko_5_0 k1).1 (ko_5_0 k1).2.1 (ko_5_0 k1).2.2) c3) ?_
      refine rn_eg qm 2 (s2 := ((if (rA S (b0 + 1) (Int32.toNatClampNeg v2)) = b1 then 12 else 14), [(0, .ref b0), (1, .int b1), (2, .int v2)], [], N, sl, rn_hp S M)) rfl ?_
      refine rn_ite (fun c4 => ?_) (fun c4 => ?_)
      · rw [if_pos c4] at h
        refine rn_eg qm 1 (s2 := (13, [(0, .ref b0), (1, .int b1), (2, .int v2)], [.int (1 : Int32)], N, sl, rn_hp S M)) rfl ?_
        cases h
        exact rn_er qm rfl rfl rn_rt1
      · rw [if_neg c4] at h
        refine rn_eg qm 2 (s2 := (2, [(2, .int (v2 + (1 : Int32))), (0, .ref b0), (1, .int b1)], [], N, sl, rn_hp S M)) rfl ?_
        refine rn_kq qm (s2 := (2, [(0, .ref b0), (1, .int b1), (2, .int (v2 + (1 : Int32)))], [], N, sl, rn_hp S M)) rfl rfl ?_
        exact ih _ _ k R hk h
def f142 (S : rn_T) (a0 : Nat) (a1 : Int32) : Option Bool :=
  f142_L2 a0 a1 rn_FU S (0 : Int32) (fun S5 =>
    some false)
set_option maxHeartbeats 4000000 in
theorem E142 {X : rn_X} {N sl : Nat} {S M : rn_T} {a0 : Nat} {a1 : Int32} {R : (Bool)} (h : f142 S a0 a1 = some R) : rn_rv X 142 (0, [(0, .ref a0), (1, .int a1)], [], N, sl, rn_hp S M) (some (.int (rn_bi R)), N, sl, rn_hp S M) := by
  have qm := rn_m142
  unfold f142 at h
  refine rn_eg qm 2 (s2 := (2, [(2, .int (0 : Int32)), (0, .ref a0), (1, .int a1)], [], N, sl, rn_hp S M)) rfl ?_
  refine rn_kq qm (s2 := (2, [(0, .ref a0), (1, .int a1), (2, .int (0 : Int32))], [], N, sl, rn_hp S M)) rfl rfl ?_
  refine E142_L2 rn_FU _ _ _ R ?_ h
  intro S5 h
  refine rn_eg qm 1 (s2 := (17, [], [.int (0 : Int32)], N, sl, rn_hp S5 M)) rfl ?_
  cases h
  exact rn_er qm rfl rfl rn_rt0
/-! 137: RecordNiches$Scan.begin(LRecordNiches$Holding;III)I -/
def f137 (S : rn_T) (a0 : Nat) (a1 : Nat) (a2 : Int32) (a3 : Int32) (a4 : Int32) : Option (Int32 × rn_T) :=
  if rn_kd a0 = 4 then
    if (rI S a0 5) < (40 : Int32) then
      if rn_ob (rI S a0 5) 40 then none else
        if rn_ob (rI (wA S (a0 + 2) (Int32.toNatClampNeg (rI S a0 5)) a4) a0 5) 40 then none else
          if rn_ob (rI (wA (wA S (a0 + 2) (Int32.toNatClampNeg (rI S a0 5)) a4) (a0 + 3) (Int32.toNatClampNeg (rI (wA S (a0 + 2) (Int32.toNatClampNeg (rI S a0 5)) a4) a0 5)) a3) a0 5) 40 then none else
            if a4 = (40 : Int32) then
              some ((1 : Int32), wI (wA (wA (wA S (a0 + 2) (Int32.toNatClampNeg (rI S a0 5)) a4) (a0 + 3) (Int32.toNatClampNeg (rI (wA S (a0 + 2) (Int32.toNatClampNeg (rI S a0 5)) a4) a0 5)) a3) (a0 + 4) (Int32.toNatClampNeg (rI (wA (wA S (a0 + 2) (Int32.toNatClampNeg (rI S a0 5)) a4) (a0 + 3) (Int32.toNatClampNeg (rI (wA S (a0 + 2) (Int32.toNatClampNeg (rI S a0 5)) a4) a0 5)) a3) a0 5)) (0 : Int32)) a0 5 ((rI (wA (wA (wA S (a0 + 2) (Int32.toNatClampNeg (rI S a0 5)) a4) (a0 + 3) (Int32.toNatClampNeg (rI (wA S (a0 + 2) (Int32.toNatClampNeg (rI S a0 5)) a4) a0 5)) a3) (a0 + 4) (Int32.toNatClampNeg (rI (wA (wA S (a0 + 2) (Int32.toNatClampNeg (rI S a0 5)) a4) (a0 + 3) (Int32.toNatClampNeg (rI (wA S (a0 + 2) (Int32.toNatClampNeg (rI S a0 5)) a4) a0 5)) a3) a0 5)) (0 : Int32)) a0 5) + (1 : Int32)))
            else
              if a4 = (48 : Int32) then
                some ((2 : Int32), wI (wA (wA (wA S (a0 + 2) (Int32.toNatClampNeg (rI S a0 5)) a4) (a0 + 3) (Int32.toNatClampNeg (rI (wA S (a0 + 2) (Int32.toNatClampNeg (rI S a0 5)) a4) a0 5)) a3) (a0 + 4) (Int32.toNatClampNeg (rI (wA (wA S (a0 + 2) (Int32.toNatClampNeg (rI S a0 5)) a4) (a0 + 3) (Int32.toNatClampNeg (rI (wA S (a0 + 2) (Int32.toNatClampNeg (rI S a0 5)) a4) a0 5)) a3) a0 5)) (0 : Int32)) a0 5 ((rI (wA (wA (wA S (a0 + 2) (Int32.toNatClampNeg (rI S a0 5)) a4) (a0 + 3) (Int32.toNatClampNeg (rI (wA S (a0 + 2) (Int32.toNatClampNeg (rI S a0 5)) a4) a0 5)) a3) (a0 + 4) (Int32.toNatClampNeg (rI (wA (wA S (a0 + 2) (Int32.toNatClampNeg (rI S a0 5)) a4) (a0 + 3) (Int32.toNatClampNeg (rI (wA S (a0 + 2) (Int32.toNatClampNeg (rI S a0 5)) a4) a0 5)) a3) a0 5)) (0 : Int32)) a0 5) + (1 : Int32)))
              else
                if a4 = (49 : Int32) then
                  some ((2 : Int32), wI (wA (wA (wA S (a0 + 2) (Int32.toNatClampNeg (rI S a0 5)) a4) (a0 + 3) (Int32.toNatClampNeg (rI (wA S (a0 + 2) (Int32.toNatClampNeg (rI S a0 5)) a4) a0 5)) a3) (a0 + 4) (Int32.toNatClampNeg (rI (wA (wA S (a0 + 2) (Int32.toNatClampNeg (rI S a0 5)) a4) (a0 + 3) (Int32.toNatClampNeg (rI (wA S (a0 + 2) (Int32.toNatClampNeg (rI S a0 5)) a4) a0 5)) a3) a0 5)) (0 : Int32)) a0 5 ((rI (wA (wA (wA S (a0 + 2) (Int32.toNatClampNeg (rI S a0 5)) a4) (a0 + 3) (Int32.toNatClampNeg (rI (wA S (a0 + 2) (Int32.toNatClampNeg (rI S a0 5)) a4) a0 5)) a3) (a0 + 4) (Int32.toNatClampNeg (rI (wA (wA S (a0 + 2) (Int32.toNatClampNeg (rI S a0 5)) a4) (a0 + 3) (Int32.toNatClampNeg (rI (wA S (a0 + 2) (Int32.toNatClampNeg (rI S a0 5)) a4) a0 5)) a3) a0 5)) (0 : Int32)) a0 5) + (1 : Int32)))
                else
                  if a4 = (50 : Int32) then
                    some ((2 : Int32), wI (wA (wA (wA S (a0 + 2) (Int32.toNatClampNeg (rI S a0 5)) a4) (a0 + 3) (Int32.toNatClampNeg (rI (wA S (a0 + 2) (Int32.toNatClampNeg (rI S a0 5)) a4) a0 5)) a3) (a0 + 4) (Int32.toNatClampNeg (rI (wA (wA S (a0 + 2) (Int32.toNatClampNeg (rI S a0 5)) a4) (a0 + 3) (Int32.toNatClampNeg (rI (wA S (a0 + 2) (Int32.toNatClampNeg (rI S a0 5)) a4) a0 5)) a3) a0 5)) (0 : Int32)) a0 5 ((rI (wA (wA (wA S (a0 + 2) (Int32.toNatClampNeg (rI S a0 5)) a4) (a0 + 3) (Int32.toNatClampNeg (rI (wA S (a0 + 2) (Int32.toNatClampNeg (rI S a0 5)) a4) a0 5)) a3) (a0 + 4) (Int32.toNatClampNeg (rI (wA (wA S (a0 + 2) (Int32.toNatClampNeg (rI S a0 5)) a4) (a0 + 3) (Int32.toNatClampNeg (rI (wA S (a0 + 2) (Int32.toNatClampNeg (rI S a0 5)) a4) a0 5)) a3) a0 5)) (0 : Int32)) a0 5) + (1 : Int32)))
                  else
                    if a4 = (52 : Int32) then
                      some ((2 : Int32), wI (wA (wA (wA S (a0 + 2) (Int32.toNatClampNeg (rI S a0 5)) a4) (a0 + 3) (Int32.toNatClampNeg (rI (wA S (a0 + 2) (Int32.toNatClampNeg (rI S a0 5)) a4) a0 5)) a3) (a0 + 4) (Int32.toNatClampNeg (rI (wA (wA S (a0 + 2) (Int32.toNatClampNeg (rI S a0 5)) a4) (a0 + 3) (Int32.toNatClampNeg (rI (wA S (a0 + 2) (Int32.toNatClampNeg (rI S a0 5)) a4) a0 5)) a3) a0 5)) (0 : Int32)) a0 5 ((rI (wA (wA (wA S (a0 + 2) (Int32.toNatClampNeg (rI S a0 5)) a4) (a0 + 3) (Int32.toNatClampNeg (rI (wA S (a0 + 2) (Int32.toNatClampNeg (rI S a0 5)) a4) a0 5)) a3) (a0 + 4) (Int32.toNatClampNeg (rI (wA (wA S (a0 + 2) (Int32.toNatClampNeg (rI S a0 5)) a4) (a0 + 3) (Int32.toNatClampNeg (rI (wA S (a0 + 2) (Int32.toNatClampNeg (rI S a0 5)) a4) a0 5)) a3) a0 5)) (0 : Int32)) a0 5) + (1 : Int32)))
                    else
                      if a4 = (91 : Int32) then
                        some ((1 : Int32), wI (wA (wA (wA S (a0 + 2) (Int32.toNatClampNeg (rI S a0 5)) a4) (a0 + 3) (Int32.toNatClampNeg (rI (wA S (a0 + 2) (Int32.toNatClampNeg (rI S a0 5)) a4) a0 5)) a3) (a0 + 4) (Int32.toNatClampNeg (rI (wA (wA S (a0 + 2) (Int32.toNatClampNeg (rI S a0 5)) a4) (a0 + 3) (Int32.toNatClampNeg (rI (wA S (a0 + 2) (Int32.toNatClampNeg (rI S a0 5)) a4) a0 5)) a3) a0 5)) (0 : Int32)) a0 5 ((rI (wA (wA (wA S (a0 + 2) (Int32.toNatClampNeg (rI S a0 5)) a4) (a0 + 3) (Int32.toNatClampNeg (rI (wA S (a0 + 2) (Int32.toNatClampNeg (rI S a0 5)) a4) a0 5)) a3) (a0 + 4) (Int32.toNatClampNeg (rI (wA (wA S (a0 + 2) (Int32.toNatClampNeg (rI S a0 5)) a4) (a0 + 3) (Int32.toNatClampNeg (rI (wA S (a0 + 2) (Int32.toNatClampNeg (rI S a0 5)) a4) a0 5)) a3) a0 5)) (0 : Int32)) a0 5) + (1 : Int32)))
                      else
                        if a4 = (98 : Int32) then
                          some ((2 : Int32), wI (wA (wA (wA S (a0 + 2) (Int32.toNatClampNeg (rI S a0 5)) a4) (a0 + 3) (Int32.toNatClampNeg (rI (wA S (a0 + 2) (Int32.toNatClampNeg (rI S a0 5)) a4) a0 5)) a3) (a0 + 4) (Int32.toNatClampNeg (rI (wA (wA S (a0 + 2) (Int32.toNatClampNeg (rI S a0 5)) a4) (a0 + 3) (Int32.toNatClampNeg (rI (wA S (a0 + 2) (Int32.toNatClampNeg (rI S a0 5)) a4) a0 5)) a3) a0 5)) (0 : Int32)) a0 5 ((rI (wA (wA (wA S (a0 + 2) (Int32.toNatClampNeg (rI S a0 5)) a4) (a0 + 3) (Int32.toNatClampNeg (rI (wA S (a0 + 2) (Int32.toNatClampNeg (rI S a0 5)) a4) a0 5)) a3) (a0 + 4) (Int32.toNatClampNeg (rI (wA (wA S (a0 + 2) (Int32.toNatClampNeg (rI S a0 5)) a4) (a0 + 3) (Int32.toNatClampNeg (rI (wA S (a0 + 2) (Int32.toNatClampNeg (rI S a0 5)) a4) a0 5)) a3) a0 5)) (0 : Int32)) a0 5) + (1 : Int32)))
                        else
                          if a4 = (101 : Int32) then
                            some ((1 : Int32), wI (wA (wA (wA S (a0 + 2) (Int32.toNatClampNeg (rI S a0 5)) a4) (a0 + 3) (Int32.toNatClampNeg (rI (wA S (a0 + 2) (Int32.toNatClampNeg (rI S a0 5)) a4) a0 5)) a3) (a0 + 4) (Int32.toNatClampNeg (rI (wA (wA S (a0 + 2) (Int32.toNatClampNeg (rI S a0 5)) a4) (a0 + 3) (Int32.toNatClampNeg (rI (wA S (a0 + 2) (Int32.toNatClampNeg (rI S a0 5)) a4) a0 5)) a3) a0 5)) (0 : Int32)) a0 5 ((rI (wA (wA (wA S (a0 + 2) (Int32.toNatClampNeg (rI S a0 5)) a4) (a0 + 3) (Int32.toNatClampNeg (rI (wA S (a0 + 2) (Int32.toNatClampNeg (rI S a0 5)) a4) a0 5)) a3) (a0 + 4) (Int32.toNatClampNeg (rI (wA (wA S (a0 + 2) (Int32.toNatClampNeg (rI S a0 5)) a4) (a0 + 3) (Int32.toNatClampNeg (rI (wA S (a0 + 2) (Int32.toNatClampNeg (rI S a0 5)) a4) a0 5)) a3) a0 5)) (0 : Int32)) a0 5) + (1 : Int32)))
                          else
                            if a4 = (112 : Int32) then
                              some ((2 : Int32), wI (wA (wA (wA S (a0 + 2) (Int32.toNatClampNeg (rI S a0 5)) a4) (a0 + 3) (Int32.toNatClampNeg (rI (wA S (a0 + 2) (Int32.toNatClampNeg (rI S a0 5)) a4) a0 5)) a3) (a0 + 4) (Int32.toNatClampNeg (rI (wA (wA S (a0 + 2) (Int32.toNatClampNeg (rI S a0 5)) a4) (a0 + 3) (Int32.toNatClampNeg (rI (wA S (a0 + 2) (Int32.toNatClampNeg (rI S a0 5)) a4) a0 5)) a3) a0 5)) (0 : Int32)) a0 5 ((rI (wA (wA (wA S (a0 + 2) (Int32.toNatClampNeg (rI S a0 5)) a4) (a0 + 3) (Int32.toNatClampNeg (rI (wA S (a0 + 2) (Int32.toNatClampNeg (rI S a0 5)) a4) a0 5)) a3) (a0 + 4) (Int32.toNatClampNeg (rI (wA (wA S (a0 + 2) (Int32.toNatClampNeg (rI S a0 5)) a4) (a0 + 3) (Int32.toNatClampNeg (rI (wA S (a0 + 2) (Int32.toNatClampNeg (rI S a0 5)) a4) a0 5)) a3) a0 5)) (0 : Int32)) a0 5) + (1 : Int32)))
                            else
                              if a4 = (120 : Int32) then
                                some ((2 : Int32), wI (wA (wA (wA S (a0 + 2) (Int32.toNatClampNeg (rI S a0 5)) a4) (a0 + 3) (Int32.toNatClampNeg (rI (wA S (a0 + 2) (Int32.toNatClampNeg (rI S a0 5)) a4) a0 5)) a3) (a0 + 4) (Int32.toNatClampNeg (rI (wA (wA S (a0 + 2) (Int32.toNatClampNeg (rI S a0 5)) a4) (a0 + 3) (Int32.toNatClampNeg (rI (wA S (a0 + 2) (Int32.toNatClampNeg (rI S a0 5)) a4) a0 5)) a3) a0 5)) (0 : Int32)) a0 5 ((rI (wA (wA (wA S (a0 + 2) (Int32.toNatClampNeg (rI S a0 5)) a4) (a0 + 3) (Int32.toNatClampNeg (rI (wA S (a0 + 2) (Int32.toNatClampNeg (rI S a0 5)) a4) a0 5)) a3) (a0 + 4) (Int32.toNatClampNeg (rI (wA (wA S (a0 + 2) (Int32.toNatClampNeg (rI S a0 5)) a4) (a0 + 3) (Int32.toNatClampNeg (rI (wA S (a0 + 2) (Int32.toNatClampNeg (rI S a0 5)) a4) a0 5)) a3) a0 5)) (0 : Int32)) a0 5) + (1 : Int32)))
                              else
                                if (f27 a4) = true then
                                  if (a4 - (65 : Int32)) < a2 then
                                    if rn_kd a1 = 1 then
                                      if rn_ob (a4 - (65 : Int32)) 8 then none else
                                        Option.bind (f142 (wI (wA (wA (wA S (a0 + 2) (Int32.toNatClampNeg (rI S a0 5)) a4) (a0 + 3) (Int32.toNatClampNeg (rI (wA S (a0 + 2) (Int32.toNatClampNeg (rI S a0 5)) a4) a0 5)) a3) (a0 + 4) (Int32.toNatClampNeg (rI (wA (wA S (a0 + 2) (Int32.toNatClampNeg (rI S a0 5)) a4) (a0 + 3) (Int32.toNatClampNeg (rI (wA S (a0 + 2) (Int32.toNatClampNeg (rI S a0 5)) a4) a0 5)) a3) a0 5)) (0 : Int32)) a0 5 ((rI (wA (wA (wA S (a0 + 2) (Int32.toNatClampNeg (rI S a0 5)) a4) (a0 + 3) (Int32.toNatClampNeg (rI (wA S (a0 + 2) (Int32.toNatClampNeg (rI S a0 5)) a4) a0 5)) a3) (a0 + 4) (Int32.toNatClampNeg (rI (wA (wA S (a0 + 2) (Int32.toNatClampNeg (rI S a0 5)) a4) (a0 + 3) (Int32.toNatClampNeg (rI (wA S (a0 + 2) (Int32.toNatClampNeg (rI S a0 5)) a4) a0 5)) a3) a0 5)) (0 : Int32)) a0 5) + (1 : Int32))) (a1 + 4 + 2 * (Int32.toNatClampNeg (a4 - (65 : Int32)))) (120 : Int32)) fun p21 =>
                                          if p21 = true then
                                            some ((1 : Int32), wI (wA (wA (wA S (a0 + 2) (Int32.toNatClampNeg (rI S a0 5)) a4) (a0 + 3) (Int32.toNatClampNeg (rI (wA S (a0 + 2) (Int32.toNatClampNeg (rI S a0 5)) a4) a0 5)) a3) (a0 + 4) (Int32.toNatClampNeg (rI (wA (wA S (a0 + 2) (Int32.toNatClampNeg (rI S a0 5)) a4) (a0 + 3) (Int32.toNatClampNeg (rI (wA S (a0 + 2) (Int32.toNatClampNeg (rI S a0 5)) a4) a0 5)) a3) a0 5)) (0 : Int32)) a0 5 ((rI (wA (wA (wA S (a0 + 2) (Int32.toNatClampNeg (rI S a0 5)) a4) (a0 + 3) (Int32.toNatClampNeg (rI (wA S (a0 + 2) (Int32.toNatClampNeg (rI S a0 5)) a4) a0 5)) a3) (a0 + 4) (Int32.toNatClampNeg (rI (wA (wA S (a0 + 2) (Int32.toNatClampNeg (rI S a0 5)) a4) (a0 + 3) (Int32.toNatClampNeg (rI (wA S (a0 + 2) (Int32.toNatClampNeg (rI S a0 5)) a4) a0 5)) a3) a0 5)) (0 : Int32)) a0 5) + (1 : Int32)))
                                          else
                                            some ((2 : Int32), wI (wA (wA (wA S (a0 + 2) (Int32.toNatClampNeg (rI S a0 5)) a4) (a0 + 3) (Int32.toNatClampNeg (rI (wA S (a0 + 2) (Int32.toNatClampNeg (rI S a0 5)) a4) a0 5)) a3) (a0 + 4) (Int32.toNatClampNeg (rI (wA (wA S (a0 + 2) (Int32.toNatClampNeg (rI S a0 5)) a4) (a0 + 3) (Int32.toNatClampNeg (rI (wA S (a0 + 2) (Int32.toNatClampNeg (rI S a0 5)) a4) a0 5)) a3) a0 5)) (0 : Int32)) a0 5 ((rI (wA (wA (wA S (a0 + 2) (Int32.toNatClampNeg (rI S a0 5)) a4) (a0 + 3) (Int32.toNatClampNeg (rI (wA S (a0 + 2) (Int32.toNatClampNeg (rI S a0 5)) a4) a0 5)) a3) (a0 + 4) (Int32.toNatClampNeg (rI (wA (wA S (a0 + 2) (Int32.toNatClampNeg (rI S a0 5)) a4) (a0 + 3) (Int32.toNatClampNeg (rI (wA S (a0 + 2) (Int32.toNatClampNeg (rI S a0 5)) a4) a0 5)) a3) a0 5)) (0 : Int32)) a0 5) + (1 : Int32)))
                                    else none
                                  else
                                    some ((0 : Int32), wI (wA (wA (wA S (a0 + 2) (Int32.toNatClampNeg (rI S a0 5)) a4) (a0 + 3) (Int32.toNatClampNeg (rI (wA S (a0 + 2) (Int32.toNatClampNeg (rI S a0 5)) a4) a0 5)) a3) (a0 + 4) (Int32.toNatClampNeg (rI (wA (wA S (a0 + 2) (Int32.toNatClampNeg (rI S a0 5)) a4) (a0 + 3) (Int32.toNatClampNeg (rI (wA S (a0 + 2) (Int32.toNatClampNeg (rI S a0 5)) a4) a0 5)) a3) a0 5)) (0 : Int32)) a0 5 ((rI (wA (wA (wA S (a0 + 2) (Int32.toNatClampNeg (rI S a0 5)) a4) (a0 + 3) (Int32.toNatClampNeg (rI (wA S (a0 + 2) (Int32.toNatClampNeg (rI S a0 5)) a4) a0 5)) a3) (a0 + 4) (Int32.toNatClampNeg (rI (wA (wA S (a0 + 2) (Int32.toNatClampNeg (rI S a0 5)) a4) (a0 + 3) (Int32.toNatClampNeg (rI (wA S (a0 + 2) (Int32.toNatClampNeg (rI S a0 5)) a4) a0 5)) a3) a0 5)) (0 : Int32)) a0 5) + (1 : Int32)))
                                else
                                  some ((0 : Int32), wI (wA (wA (wA S (a0 + 2) (Int32.toNatClampNeg (rI S a0 5)) a4) (a0 + 3) (Int32.toNatClampNeg (rI (wA S (a0 + 2) (Int32.toNatClampNeg (rI S a0 5)) a4) a0 5)) a3) (a0 + 4) (Int32.toNatClampNeg (rI (wA (wA S (a0 + 2) (Int32.toNatClampNeg (rI S a0 5)) a4) (a0 + 3) (Int32.toNatClampNeg (rI (wA S (a0 + 2) (Int32.toNatClampNeg (rI S a0 5)) a4) a0 5)) a3) a0 5)) (0 : Int32)) a0 5 ((rI (wA (wA (wA S (a0 + 2) (Int32.toNatClampNeg (rI S a0 5)) a4) (a0 + 3) (Int32.toNatClampNeg (rI (wA S (a0 + 2) (Int32.toNatClampNeg (rI S a0 5)) a4) a0 5)) a3) (a0 + 4) (Int32.toNatClampNeg (rI (wA (wA S (a0 + 2) (Int32.toNatClampNeg (rI S a0 5)) a4) (a0 + 3) (Int32.toNatClampNeg (rI (wA S (a0 + 2) (Int32.toNatClampNeg (rI S a0 5)) a4) a0 5)) a3) a0 5)) (0 : Int32)) a0 5) + (1 : Int32)))
    else
      some ((0 : Int32), S)
  else none
set_option maxHeartbeats 4000000 in
theorem E137 {X : rn_X} {N sl : Nat} {S M : rn_T} {a0 : Nat} {a1 : Nat} {a2 : Int32} {a3 : Int32} {a4 : Int32} {R : (Int32 × rn_T)} (h : f137 S a0 a1 a2 a3 a4 = some R) : rn_rv X 137 (0, [(0, .ref a0), (1, .ref a1), (2, .int a2), (3, .int a3), (4, .int a4)], [], N, sl, rn_hp S M) (some (.int R.1), N, sl, rn_hp R.2 M) := by
  have qm := rn_m137
  unfold f137 at h
  refine rn_eg qm 1 (s2 := (1, [(0, .ref a0), (1, .ref a1), (2, .int a2), (3, .int a3), (4, .int a4)], [.ref a0], N, sl, rn_hp S M)) rfl ?_
  have k1 : rn_kd a0 = 4 := Decidable.byContradiction fun c => by rw [if_neg c] at h; cases h
  rw [if_pos k1] at h
  refine rn_e1 qm (s2 := (2, [(0, .ref a0), (1, .ref a1), (2, .int a2), (3, .int a3), (4, .int a4)], [.int (rI S a0 5)], N, sl, rn_hp S M)) (rn_g_getf rfl rfl (en_4 k1) rfl) ?_
  refine rn_eg qm 2 (s2 := ((if (rI S a0 5) < (40 : Int32) then 6 else 4), [(0, .ref a0), (1, .ref a1), (2, .int a2), (3, .int a3), (4, .int a4)], [], N, sl, rn_hp S M)) rfl ?_
  refine rn_ite (fun c2 => ?_) (fun c2 => ?_)
  · rw [if_pos c2] at h
    refine rn_eg qm 1 (s2 := (7, [(0, .ref a0), (1, .ref a1), (2, .int a2), (3, .int a3), (4, .int a4)], [.ref a0], N, sl, rn_hp S M)) rfl ?_
    refine rn_e1 qm (s2 := (8, [(0, .ref a0), (1, .ref a1), (2, .int a2), (3, .int a3), (4, .int a4)], [.ref (a0 + 2)], N, sl, rn_hp S M)) (rn_g_getf rfl rfl (en_4 k1) rfl) ?_
    refine rn_eg qm 1 (s2 := (9, [(0, .ref a0), (1, .ref a1), (2, .int a2), (3, .int a3), (4, .int a4)], [.ref a0, .ref (a0 + 2)], N, sl, rn_hp S M)) rfl ?_
    refine rn_e1 qm (s2 := (10, [(0, .ref a0), (1, .ref a1), (2, .int a2), (3, .int a3), (4, .int a4)], [.int (rI S a0 5), .ref (a0 + 2)], N, sl, rn_hp S M)) (rn_g_getf rfl rfl (en_4 k1) rfl) ?_
    refine rn_eg qm 1 (s2 := (11, [(0, .ref a0), (1, .ref a1), (2, .int a2), (3, .int a3), (4, .int a4)], [.int a4, .int (rI S a0 5), .ref (a0 + 2)], N, sl, rn_hp S M)) rfl ?_
    have c3 : ¬ (rn_ob (rI S a0 5) 40) := fun c => by rw [if_pos c] at h; cases h
    rw [if_neg c3] at h
    refine rn_e1 qm (s2 := (12, [(0, .ref a0), (1, .ref a1), (2, .int a2), (3, .int a3), (4, .int a4)], [], N, sl, rn_hp (wA S (a0 + 2) (Int32.toNatClampNeg (rI S a0 5)) a4) M)) (rn_g_iast (n := 40) rfl rfl (ar_x10 (ko_4_2 k1).1 (ko_4_2 k1).2.1 (ko_4_2 k1).2.2) c3 (aw_x10 (ko_4_2 k1).1 (ko_4_2 k1).2.1 (ko_4_2 k1).2.2)) ?_
    refine rn_eg qm 1 (s2 := (13, [(0, .ref a0), (1, .ref a1), (2, .int a2), (3, .int a3), (4, .int a4)], [.ref a0], N, sl, rn_hp (wA S (a0 + 2) (Int32.toNatClampNeg (rI S a0 5)) a4) M)) rfl ?_
    refine rn_e1 qm (s2 := (14, [(0, .ref a0), (1, .ref a1), (2, .int a2), (3, .int a3), (4, .int a4)], [.ref (a0 + 3)], N, sl, rn_hp (wA S (a0 + 2) (Int32.toNatClampNeg (rI S a0 5)) a4) M)) (rn_g_getf rfl rfl (en_4 k1) rfl) ?_
    refine rn_eg qm 1 (s2 := (15, [(0, .ref a0), (1, .ref a1), (2, .int a2), (3, .int a3), (4, .int a4)], [.ref a0, .ref (a0 + 3)], N, sl, rn_hp (wA S (a0 + 2) (Int32.toNatClampNeg (rI S a0 5)) a4) M)) rfl ?_
    refine rn_e1 qm (s2 := (16, [(0, .ref a0), (1, .ref a1), (2, .int a2), (3, .int a3), (4, .int a4)], [.int (rI (wA S (a0 + 2) (Int32.toNatClampNeg (rI S a0 5)) a4) a0 5), .ref (a0 + 3)], N, sl, rn_hp (wA S (a0 + 2) (Int32.toNatClampNeg (rI S a0 5)) a4) M)) (rn_g_getf rfl rfl (en_4 k1) rfl) ?_
    refine rn_eg qm 1 (s2 := (17, [(0, .ref a0), (1, .ref a1), (2, .int a2), (3, .int a3), (4, .int a4)], [.int a3, .int (rI (wA S (a0 + 2) (Int32.toNatClampNeg (rI S a0 5)) a4) a0 5), .ref (a0 + 3)], N, sl, rn_hp (wA S (a0 + 2) (Int32.toNatClampNeg (rI S a0 5)) a4) M)) rfl ?_
    have c4 : ¬ (rn_ob (rI (wA S (a0 + 2) (Int32.toNatClampNeg (rI S a0 5)) a4) a0 5) 40) := fun c => by rw [if_pos c] at h; cases h
    rw [if_neg c4] at h
    refine rn_e1 qm (s2 := (18, [(0, .ref a0), (1, .ref a1), (2, .int a2), (3, .int a3), (4, .int a4)], [], N, sl, rn_hp (wA (wA S (a0 + 2) (Int32.toNatClampNeg (rI S a0 5)) a4) (a0 + 3) (Int32.toNatClampNeg (rI (wA S (a0 + 2) (Int32.toNatClampNeg (rI S a0 5)) a4) a0 5)) a3) M)) (rn_g_iast (n := 40) rfl rfl (ar_x10 (ko_4_3 k1).1 (ko_4_3 k1).2.1 (ko_4_3 k1).2.2) c4 (aw_x10 (ko_4_3 k1).1 (ko_4_3 k1).2.1 (ko_4_3 k1).2.2)) ?_
    refine rn_eg qm 1 (s2 := (19, [(0, .ref a0), (1, .ref a1), (2, .int a2), (3, .int a3), (4, .int a4)], [.ref a0], N, sl, rn_hp (wA (wA S (a0 + 2) (Int32.toNatClampNeg (rI S a0 5)) a4) (a0 + 3) (Int32.toNatClampNeg (rI (wA S (a0 + 2) (Int32.toNatClampNeg (rI S a0 5)) a4) a0 5)) a3) M)) rfl ?_
    refine rn_e1 qm (s2 := (20, [(0, .ref a0), (1, .ref a1), (2, .int a2), (3, .int a3), (4, .int a4)], [.ref (a0 + 4)], N, sl, rn_hp (wA (wA S (a0 + 2) (Int32.toNatClampNeg (rI S a0 5)) a4) (a0 + 3) (Int32.toNatClampNeg (rI (wA S (a0 + 2) (Int32.toNatClampNeg (rI S a0 5)) a4) a0 5)) a3) M)) (rn_g_getf rfl rfl (en_4 k1) rfl) ?_
    refine rn_eg qm 1 (s2 := (21, [(0, .ref a0), (1, .ref a1), (2, .int a2), (3, .int a3), (4, .int a4)], [.ref a0, .ref (a0 + 4)], N, sl, rn_hp (wA (wA S (a0 + 2) (Int32.toNatClampNeg (rI S a0 5)) a4) (a0 + 3) (Int32.toNatClampNeg (rI (wA S (a0 + 2) (Int32.toNatClampNeg (rI S a0 5)) a4) a0 5)) a3) M)) rfl ?_
    refine rn_e1 qm (s2 := (22, [(0, .ref a0), (1, .ref a1), (2, .int a2), (3, .int a3), (4, .int a4)], [.int (rI (wA (wA S (a0 + 2) (Int32.toNatClampNeg (rI S a0 5)) a4) (a0 + 3) (Int32.toNatClampNeg (rI (wA S (a0 + 2) (Int32.toNatClampNeg (rI S a0 5)) a4) a0 5)) a3) a0 5), .ref (a0 + 4)], N, sl, rn_hp (wA (wA S (a0 + 2) (Int32.toNatClampNeg (rI S a0 5)) a4) (a0 + 3) (Int32.toNatClampNeg (rI (wA S (a0 + 2) (Int32.toNatClampNeg (rI S a0 5)) a4) a0 5)) a3) M)) (rn_g_getf rfl rfl (en_4 k1) rfl) ?_
    refine rn_eg qm 1 (s2 := (23, [(0, .ref a0), (1, .ref a1), (2, .int a2), (3, .int a3), (4, .int a4)], [.int (0 : Int32), .int (rI (wA (wA S (a0 + 2) (Int32.toNatClampNeg (rI S a0 5)) a4) (a0 + 3) (Int32.toNatClampNeg (rI (wA S (a0 + 2) (Int32.toNatClampNeg (rI S a0 5)) a4) a0 5)) a3) a0 5), .ref (a0 + 4)], N, sl, rn_hp (wA (wA S (a0 + 2) (Int32.toNatClampNeg (rI S a0 5)) a4) (a0 + 3) (Int32.toNatClampNeg (rI (wA S (a0 + 2) (Int32.toNatClampNeg (rI S a0 5)) a4) a0 5)) a3) M)) rfl ?_
    have c5 : ¬ (rn_ob (rI (wA (wA S (a0 + 2) (Int32.toNatClampNeg (rI S a0 5)) a4) (a0 + 3) (Int32.toNatClampNeg (rI (wA S (a0 + 2) (Int32.toNatClampNeg (rI S a0 5)) a4) a0 5)) a3) a0 5) 40) := fun c => by rw [if_pos c] at h; cases h
    rw [if_neg c5] at h
    refine rn_e1 qm (s2 := (24, [(0, .ref a0), (1, .ref a1), (2, .int a2), (3, .int a3), (4, .int a4)], [], N, sl, rn_hp (wA (wA (wA S (a0 + 2) (Int32.toNatClampNeg (rI S a0 5)) a4) (a0 + 3) (Int32.toNatClampNeg (rI (wA S (a0 + 2) (Int32.toNatClampNeg (rI S a0 5)) a4) a0 5)) a3) (a0 + 4) (Int32.toNatClampNeg (rI (wA (wA S (a0 + 2) (Int32.toNatClampNeg (rI S a0 5)) a4) (a0 + 3) (Int32.toNatClampNeg (rI (wA S (a0 + 2) (Int32.toNatClampNeg (rI S a0 5)) a4) a0 5)) a3) a0 5)) (0 : Int32)) M)) (rn_g_iast (n := 40) rfl rfl (ar_x10 (ko_4_4 k1).1 (ko_4_4 k1).2.1 (ko_4_4 k1).2.2) c5 (aw_x10 (ko_4_4 k1).1 (ko_4_4 k1).2.1 (ko_4_4 k1).2.2)) ?_
    refine rn_eg qm 2 (s2 := (26, [(0, .ref a0), (1, .ref a1), (2, .int a2), (3, .int a3), (4, .int a4)], [.ref a0, .ref a0], N, sl, rn_hp (wA (wA (wA S (a0 + 2) (Int32.toNatClampNeg (rI S a0 5)) a4) (a0 + 3) (Int32.toNatClampNeg (rI (wA S (a0 + 2) (Int32.toNatClampNeg (rI S a0 5)) a4) a0 5)) a3) (a0 + 4) (Int32.toNatClampNeg (rI (wA (wA S (a0 + 2) (Int32.toNatClampNeg (rI S a0 5)) a4) (a0 + 3) (Int32.toNatClampNeg (rI (wA S (a0 + 2) (Int32.toNatClampNeg (rI S a0 5)) a4) a0 5)) a3) a0 5)) (0 : Int32)) M)) rfl ?_
    refine rn_e1 qm (s2 := (27, [(0, .ref a0), (1, .ref a1), (2, .int a2), (3, .int a3), (4, .int a4)], [.int (rI (wA (wA (wA S (a0 + 2) (Int32.toNatClampNeg (rI S a0 5)) a4) (a0 + 3) (Int32.toNatClampNeg (rI (wA S (a0 + 2) (Int32.toNatClampNeg (rI S a0 5)) a4) a0 5)) a3) (a0 + 4) (Int32.toNatClampNeg (rI (wA (wA S (a0 + 2) (Int32.toNatClampNeg (rI S a0 5)) a4) (a0 + 3) (Int32.toNatClampNeg (rI (wA S (a0 + 2) (Int32.toNatClampNeg (rI S a0 5)) a4) a0 5)) a3) a0 5)) (0 : Int32)) a0 5), .ref a0], N, sl, rn_hp (wA (wA (wA S (a0 + 2) (Int32.toNatClampNeg (rI S a0 5)) a4) (a0 + 3) (Int32.toNatClampNeg (rI (wA S (a0 + 2) (Int32.toNatClampNeg (rI S a0 5)) a4) a0 5)) a3) (a0 + 4) (Int32.toNatClampNeg (rI (wA (wA S (a0 + 2) (Int32.toNatClampNeg (rI S a0 5)) a4) (a0 + 3) (Int32.toNatClampNeg (rI (wA S (a0 + 2) (Int32.toNatClampNeg (rI S a0 5)) a4) a0 5)) a3) a0 5)) (0 : Int32)) M)) (rn_g_getf rfl rfl (en_4 k1) rfl) ?_
    refine rn_eg qm 2 (s2 := (29, [(0, .ref a0), (1, .ref a1), (2, .int a2), (3, .int a3), (4, .int a4)], [.int ((rI (wA (wA (wA S (a0 + 2) (Int32.toNatClampNeg (rI S a0 5)) a4) (a0 + 3) (Int32.toNatClampNeg (rI (wA S (a0 + 2) (Int32.toNatClampNeg (rI S a0 5)) a4) a0 5)) a3) (a0 + 4) (Int32.toNatClampNeg (rI (wA (wA S (a0 + 2) (Int32.toNatClampNeg (rI S a0 5)) a4) (a0 + 3) (Int32.toNatClampNeg (rI (wA S (a0 + 2) (Int32.toNatClampNeg (rI S a0 5)) a4) a0 5)) a3) a0 5)) (0 : Int32)) a0 5) + (1 : Int32)), .ref a0], N, sl, rn_hp (wA (wA (wA S (a0 + 2) (Int32.toNatClampNeg (rI S a0 5)) a4) (a0 + 3) (Int32.toNatClampNeg (rI (wA S (a0 + 2) (Int32.toNatClampNeg (rI S a0 5)) a4) a0 5)) a3) (a0 + 4) (Int32.toNatClampNeg (rI (wA (wA S (a0 + 2) (Int32.toNatClampNeg (rI S a0 5)) a4) (a0 + 3) (Int32.toNatClampNeg (rI (wA S (a0 + 2) (Int32.toNatClampNeg (rI S a0 5)) a4) a0 5)) a3) a0 5)) (0 : Int32)) M)) rfl ?_
    refine rn_e1 qm (s2 := (30, [(0, .ref a0), (1, .ref a1), (2, .int a2), (3, .int a3), (4, .int a4)], [], N, sl, rn_hp (wI (wA (wA (wA S (a0 + 2) (Int32.toNatClampNeg (rI S a0 5)) a4) (a0 + 3) (Int32.toNatClampNeg (rI (wA S (a0 + 2) (Int32.toNatClampNeg (rI S a0 5)) a4) a0 5)) a3) (a0 + 4) (Int32.toNatClampNeg (rI (wA (wA S (a0 + 2) (Int32.toNatClampNeg (rI S a0 5)) a4) (a0 + 3) (Int32.toNatClampNeg (rI (wA S (a0 + 2) (Int32.toNatClampNeg (rI S a0 5)) a4) a0 5)) a3) a0 5)) (0 : Int32)) a0 5 ((rI (wA (wA (wA S (a0 + 2) (Int32.toNatClampNeg (rI S a0 5)) a4) (a0 + 3) (Int32.toNatClampNeg (rI (wA S (a0 + 2) (Int32.toNatClampNeg (rI S a0 5)) a4) a0 5)) a3) (a0 + 4) (Int32.toNatClampNeg (rI (wA (wA S (a0 + 2) (Int32.toNatClampNeg (rI S a0 5)) a4) (a0 + 3) (Int32.toNatClampNeg (rI (wA S (a0 + 2) (Int32.toNatClampNeg (rI S a0 5)) a4) a0 5)) a3) a0 5)) (0 : Int32)) a0 5) + (1 : Int32))) M)) (rn_g_putf rfl rfl (en_4 k1) rfl rfl rfl (wf_4_5 (v := ((rI (wA (wA (wA S (a0 + 2) (Int32.toNatClampNeg (rI S a0 5)) a4) (a0 + 3) (Int32.toNatClampNeg (rI (wA S (a0 + 2) (Int32.toNatClampNeg (rI S a0 5)) a4) a0 5)) a3) (a0 + 4) (Int32.toNatClampNeg (rI (wA (wA S (a0 + 2) (Int32.toNatClampNeg (rI S a0 5)) a4) (a0 + 3) (Int32.toNatClampNeg (rI (wA S (a0 + 2) (Int32.toNatClampNeg (rI S a0 5)) a4) a0 5)) a3) a0 5)) (0 : Int32)) a0 5) + (1 : Int32))) k1)) ?_
    refine rn_eg qm 2 (s2 := ((if a4 = (40 : Int32) then 34 else (if a4 = (48 : Int32) then 32 else (if a4 = (49 : Int32) then 32 else (if a4 = (50 : Int32) then 32 else (if a4 = (52 : Int32) then 32 else (if a4 = (91 : Int32) then 34 else (if a4 = (98 : Int32) then 32 else (if a4 = (101 : Int32) then 34 else (if a4 = (112 : Int32) then 32 else (if a4 = (120 : Int32) then 32 else 36)))))))))), [(0, .ref a0), (1, .ref a1), (2, .int a2), (3, .int a3), (4, .int a4)], [], N, sl, rn_hp (wI (wA (wA (wA S (a0 + 2) (Int32.toNatClampNeg (rI S a0 5)) a4) (a0 + 3) (Int32.toNatClampNeg (rI (wA S (a0 + 2) (Int32.toNatClampNeg (rI S a0 5)) a4) a0 5)) a3) (a0 + 4) (Int32.toNatClampNeg (rI (wA (wA S (a0 + 2) (Int32.toNatClampNeg (rI S a0 5)) a4) (a0 + 3) (Int32.toNatClampNeg (rI (wA S (a0 + 2) (Int32.toNatClampNeg (rI S a0 5)) a4) a0 5)) a3) a0 5)) (0 : Int32)) a0 5 ((rI (wA (wA (wA S (a0 + 2) (Int32.toNatClampNeg (rI S a0 5)) a4) (a0 + 3) (Int32.toNatClampNeg (rI (wA S (a0 + 2) (Int32.toNatClampNeg (rI S a0 5)) a4) a0 5)) a3) (a0 + 4) (Int32.toNatClampNeg (rI (wA (wA S (a0 + 2) (Int32.toNatClampNeg (rI S a0 5)) a4) (a0 + 3) (Int32.toNatClampNeg (rI (wA S (a0 + 2) (Int32.toNatClampNeg (rI S a0 5)) a4) a0 5)) a3) a0 5)) (0 : Int32)) a0 5) + (1 : Int32))) M)) rfl ?_
    refine rn_ite (fun c6 => ?_) (fun c6 => ?_)
    · rw [if_pos c6] at h
      refine rn_eg qm 1 (s2 := (35, [(0, .ref a0), (1, .ref a1), (2, .int a2), (3, .int a3), (4, .int a4)], [.int (1 : Int32)], N, sl, rn_hp (wI (wA (wA (wA S (a0 + 2) (Int32.toNatClampNeg (rI S a0 5)) a4) (a0 + 3) (Int32.toNatClampNeg (rI (wA S (a0 + 2) (Int32.toNatClampNeg (rI S a0 5)) a4) a0 5)) a3) (a0 + 4) (Int32.toNatClampNeg (rI (wA (wA S (a0 + 2) (Int32.toNatClampNeg (rI S a0 5)) a4) (a0 + 3) (Int32.toNatClampNeg (rI (wA S (a0 + 2) (Int32.toNatClampNeg (rI S a0 5)) a4) a0 5)) a3) a0 5)) (0 : Int32)) a0 5 ((rI (wA (wA (wA S (a0 + 2) (Int32.toNatClampNeg (rI S a0 5)) a4) (a0 + 3) (Int32.toNatClampNeg (rI (wA S (a0 + 2) (Int32.toNatClampNeg (rI S a0 5)) a4) a0 5)) a3) (a0 + 4) (Int32.toNatClampNeg (rI (wA (wA S (a0 + 2) (Int32.toNatClampNeg (rI S a0 5)) a4) (a0 + 3) (Int32.toNatClampNeg (rI (wA S (a0 + 2) (Int32.toNatClampNeg (rI S a0 5)) a4) a0 5)) a3) a0 5)) (0 : Int32)) a0 5) + (1 : Int32))) M)) rfl ?_
      cases h
      exact rn_er qm rfl rfl rfl
    · rw [if_neg c6] at h
      refine rn_ite (fun c7 => ?_) (fun c7 => ?_)
      · rw [if_pos c7] at h
        refine rn_eg qm 1 (s2 := (33, [(0, .ref a0), (1, .ref a1), (2, .int a2), (3, .int a3), (4, .int a4)], [.int (2 : Int32)], N, sl, rn_hp (wI (wA (wA (wA S (a0 + 2) (Int32.toNatClampNeg (rI S a0 5)) a4) (a0 + 3) (Int32.toNatClampNeg (rI (wA S (a0 + 2) (Int32.toNatClampNeg (rI S a0 5)) a4) a0 5)) a3) (a0 + 4) (Int32.toNatClampNeg (rI (wA (wA S (a0 + 2) (Int32.toNatClampNeg (rI S a0 5)) a4) (a0 + 3) (Int32.toNatClampNeg (rI (wA S (a0 + 2) (Int32.toNatClampNeg (rI S a0 5)) a4) a0 5)) a3) a0 5)) (0 : Int32)) a0 5 ((rI (wA (wA (wA S (a0 + 2) (Int32.toNatClampNeg (rI S a0 5)) a4) (a0 + 3) (Int32.toNatClampNeg (rI (wA S (a0 + 2) (Int32.toNatClampNeg (rI S a0 5)) a4) a0 5)) a3) (a0 + 4) (Int32.toNatClampNeg (rI (wA (wA S (a0 + 2) (Int32.toNatClampNeg (rI S a0 5)) a4) (a0 + 3) (Int32.toNatClampNeg (rI (wA S (a0 + 2) (Int32.toNatClampNeg (rI S a0 5)) a4) a0 5)) a3) a0 5)) (0 : Int32)) a0 5) + (1 : Int32))) M)) rfl ?_
        cases h
        exact rn_er qm rfl rfl rfl
      · rw [if_neg c7] at h
        refine rn_ite (fun c8 => ?_) (fun c8 => ?_)
        · rw [if_pos c8] at h
          refine rn_eg qm 1 (s2 := (33, [(0, .ref a0), (1, .ref a1), (2, .int a2), (3, .int a3), (4, .int a4)], [.int (2 : Int32)], N, sl, rn_hp (wI (wA (wA (wA S (a0 + 2) (Int32.toNatClampNeg (rI S a0 5)) a4) (a0 + 3) (Int32.toNatClampNeg (rI (wA S (a0 + 2) (Int32.toNatClampNeg (rI S a0 5)) a4) a0 5)) a3) (a0 + 4) (Int32.toNatClampNeg (rI (wA (wA S (a0 + 2) (Int32.toNatClampNeg (rI S a0 5)) a4) (a0 + 3) (Int32.toNatClampNeg (rI (wA S (a0 + 2) (Int32.toNatClampNeg (rI S a0 5)) a4) a0 5)) a3) a0 5)) (0 : Int32)) a0 5 ((rI (wA (wA (wA S (a0 + 2) (Int32.toNatClampNeg (rI S a0 5)) a4) (a0 + 3) (Int32.toNatClampNeg (rI (wA S (a0 + 2) (Int32.toNatClampNeg (rI S a0 5)) a4) a0 5)) a3) (a0 + 4) (Int32.toNatClampNeg (rI (wA (wA S (a0 + 2) (Int32.toNatClampNeg (rI S a0 5)) a4) (a0 + 3) (Int32.toNatClampNeg (rI (wA S (a0 + 2) (Int32.toNatClampNeg (rI S a0 5)) a4) a0 5)) a3) a0 5)) (0 : Int32)) a0 5) + (1 : Int32))) M)) rfl ?_
          cases h
          exact rn_er qm rfl rfl rfl
        · rw [if_neg c8] at h
          refine rn_ite (fun c9 => ?_) (fun c9 => ?_)
          · rw [if_pos c9] at h
            refine rn_eg qm 1 (s2 := (33, [(0, .ref a0), (1, .ref a1), (2, .int a2), (3, .int a3), (4, .int a4)], [.int (2 : Int32)], N, sl, rn_hp (wI (wA (wA (wA S (a0 + 2) (Int32.toNatClampNeg (rI S a0 5)) a4) (a0 + 3) (Int32.toNatClampNeg (rI (wA S (a0 + 2) (Int32.toNatClampNeg (rI S a0 5)) a4) a0 5)) a3) (a0 + 4) (Int32.toNatClampNeg (rI (wA (wA S (a0 + 2) (Int32.toNatClampNeg (rI S a0 5)) a4) (a0 + 3) (Int32.toNatClampNeg (rI (wA S (a0 + 2) (Int32.toNatClampNeg (rI S a0 5)) a4) a0 5)) a3) a0 5)) (0 : Int32)) a0 5 ((rI (wA (wA (wA S (a0 + 2) (Int32.toNatClampNeg (rI S a0 5)) a4) (a0 + 3) (Int32.toNatClampNeg (rI (wA S (a0 + 2) (Int32.toNatClampNeg (rI S a0 5)) a4) a0 5)) a3) (a0 + 4) (Int32.toNatClampNeg (rI (wA (wA S (a0 + 2) (Int32.toNatClampNeg (rI S a0 5)) a4) (a0 + 3) (Int32.toNatClampNeg (rI (wA S (a0 + 2) (Int32.toNatClampNeg (rI S a0 5)) a4) a0 5)) a3) a0 5)) (0 : Int32)) a0 5) + (1 : Int32))) M)) rfl ?_
            cases h
            exact rn_er qm rfl rfl rfl
          · rw [if_neg c9] at h
            refine rn_ite (fun c10 => ?_) (fun c10 => ?_)
            · rw [if_pos c10] at h
              refine rn_eg qm 1 (s2 := (33, [(0, .ref a0), (1, .ref a1), (2, .int a2), (3, .int a3), (4, .int a4)], [.int (2 : Int32)], N, sl, rn_hp (wI (wA (wA (wA S (a0 + 2) (Int32.toNatClampNeg (rI S a0 5)) a4) (a0 + 3) (Int32.toNatClampNeg (rI (wA S (a0 + 2) (Int32.toNatClampNeg (rI S a0 5)) a4) a0 5)) a3) (a0 + 4) (Int32.toNatClampNeg (rI (wA (wA S (a0 + 2) (Int32.toNatClampNeg (rI S a0 5)) a4) (a0 + 3) (Int32.toNatClampNeg (rI (wA S (a0 + 2) (Int32.toNatClampNeg (rI S a0 5)) a4) a0 5)) a3) a0 5)) (0 : Int32)) a0 5 ((rI (wA (wA (wA S (a0 + 2) (Int32.toNatClampNeg (rI S a0 5)) a4) (a0 + 3) (Int32.toNatClampNeg (rI (wA S (a0 + 2) (Int32.toNatClampNeg (rI S a0 5)) a4) a0 5)) a3) (a0 + 4) (Int32.toNatClampNeg (rI (wA (wA S (a0 + 2) (Int32.toNatClampNeg (rI S a0 5)) a4) (a0 + 3) (Int32.toNatClampNeg (rI (wA S (a0 + 2) (Int32.toNatClampNeg (rI S a0 5)) a4) a0 5)) a3) a0 5)) (0 : Int32)) a0 5) + (1 : Int32))) M)) rfl ?_
              cases h
              exact rn_er qm rfl rfl rfl
            · rw [if_neg c10] at h
              refine rn_ite (fun c11 => ?_) (fun c11 => ?_)
              · rw [if_pos c11] at h
                refine rn_eg qm 1 (s2 := (35, [(0, .ref a0), (1, .ref a1), (2, .int a2), (3, .int a3), (4, .int a4)], [.int (1 : Int32)], N, sl, rn_hp (wI (wA (wA (wA S (a0 + 2) (Int32.toNatClampNeg (rI S a0 5)) a4) (a0 + 3) (Int32.toNatClampNeg (rI (wA S (a0 + 2) (Int32.toNatClampNeg (rI S a0 5)) a4) a0 5)) a3) (a0 + 4) (Int32.toNatClampNeg (rI (wA (wA S (a0 + 2) (Int32.toNatClampNeg (rI S a0 5)) a4) (a0 + 3) (Int32.toNatClampNeg (rI (wA S (a0 + 2) (Int32.toNatClampNeg (rI S a0 5)) a4) a0 5)) a3) a0 5)) (0 : Int32)) a0 5 ((rI (wA (wA (wA S (a0 + 2) (Int32.toNatClampNeg (rI S a0 5)) a4) (a0 + 3) (Int32.toNatClampNeg (rI (wA S (a0 + 2) (Int32.toNatClampNeg (rI S a0 5)) a4) a0 5)) a3) (a0 + 4) (Int32.toNatClampNeg (rI (wA (wA S (a0 + 2) (Int32.toNatClampNeg (rI S a0 5)) a4) (a0 + 3) (Int32.toNatClampNeg (rI (wA S (a0 + 2) (Int32.toNatClampNeg (rI S a0 5)) a4) a0 5)) a3) a0 5)) (0 : Int32)) a0 5) + (1 : Int32))) M)) rfl ?_
                cases h
                exact rn_er qm rfl rfl rfl
              · rw [if_neg c11] at h
                refine rn_ite (fun c12 => ?_) (fun c12 => ?_)
                · rw [if_pos c12] at h
                  refine rn_eg qm 1 (s2 := (33, [(0, .ref a0), (1, .ref a1), (2, .int a2), (3, .int a3), (4, .int a4)], [.int (2 : Int32)], N, sl, rn_hp (wI (wA (wA (wA S (a0 + 2) (Int32.toNatClampNeg (rI S a0 5)) a4) (a0 + 3) (Int32.toNatClampNeg (rI (wA S (a0 + 2) (Int32.toNatClampNeg (rI S a0 5)) a4) a0 5)) a3) (a0 + 4) (Int32.toNatClampNeg (rI (wA (wA S (a0 + 2) (Int32.toNatClampNeg (rI S a0 5)) a4) (a0 + 3) (Int32.toNatClampNeg (rI (wA S (a0 + 2) (Int32.toNatClampNeg (rI S a0 5)) a4) a0 5)) a3) a0 5)) (0 : Int32)) a0 5 ((rI (wA (wA (wA S (a0 + 2) (Int32.toNatClampNeg (rI S a0 5)) a4) (a0 + 3) (Int32.toNatClampNeg (rI (wA S (a0 + 2) (Int32.toNatClampNeg (rI S a0 5)) a4) a0 5)) a3) (a0 + 4) (Int32.toNatClampNeg (rI (wA (wA S (a0 + 2) (Int32.toNatClampNeg (rI S a0 5)) a4) (a0 + 3) (Int32.toNatClampNeg (rI (wA S (a0 + 2) (Int32.toNatClampNeg (rI S a0 5)) a4) a0 5)) a3) a0 5)) (0 : Int32)) a0 5) + (1 : Int32))) M)) rfl ?_
                  cases h
                  exact rn_er qm rfl rfl rfl
                · rw [if_neg c12] at h
                  refine rn_ite (fun c13 => ?_) (fun c13 => ?_)
                  · rw [if_pos c13] at h
                    refine rn_eg qm 1 (s2 := (35, [(0, .ref a0), (1, .ref a1), (2, .int a2), (3, .int a3), (4, .int a4)], [.int (1 : Int32)], N, sl, rn_hp (wI (wA (wA (wA S (a0 + 2) (Int32.toNatClampNeg (rI S a0 5)) a4) (a0 + 3) (Int32.toNatClampNeg (rI (wA S (a0 + 2) (Int32.toNatClampNeg (rI S a0 5)) a4) a0 5)) a3) (a0 + 4) (Int32.toNatClampNeg (rI (wA (wA S (a0 + 2) (Int32.toNatClampNeg (rI S a0 5)) a4) (a0 + 3) (Int32.toNatClampNeg (rI (wA S (a0 + 2) (Int32.toNatClampNeg (rI S a0 5)) a4) a0 5)) a3) a0 5)) (0 : Int32)) a0 5 ((rI (wA (wA (wA S (a0 + 2) (Int32.toNatClampNeg (rI S a0 5)) a4) (a0 + 3) (Int32.toNatClampNeg (rI (wA S (a0 + 2) (Int32.toNatClampNeg (rI S a0 5)) a4) a0 5)) a3) (a0 + 4) (Int32.toNatClampNeg (rI (wA (wA S (a0 + 2) (Int32.toNatClampNeg (rI S a0 5)) a4) (a0 + 3) (Int32.toNatClampNeg (rI (wA S (a0 + 2) (Int32.toNatClampNeg (rI S a0 5)) a4) a0 5)) a3) a0 5)) (0 : Int32)) a0 5) + (1 : Int32))) M)) rfl ?_
                    cases h
                    exact rn_er qm rfl rfl rfl
                  · rw [if_neg c13] at h
                    refine rn_ite (fun c14 => ?_) (fun c14 => ?_)
                    · rw [if_pos c14] at h
                      refine rn_eg qm 1 (s2 := (33, [(0, .ref a0), (1, .ref a1), (2, .int a2), (3, .int a3), (4, .int a4)], [.int (2 : Int32)], N, sl, rn_hp (wI (wA (wA (wA S (a0 + 2) (Int32.toNatClampNeg (rI S a0 5)) a4) (a0 + 3) (Int32.toNatClampNeg (rI (wA S (a0 + 2) (Int32.toNatClampNeg (rI S a0 5)) a4) a0 5)) a3) (a0 + 4) (Int32.toNatClampNeg (rI (wA (wA S (a0 + 2) (Int32.toNatClampNeg (rI S a0 5)) a4) (a0 + 3) (Int32.toNatClampNeg (rI (wA S (a0 + 2) (Int32.toNatClampNeg (rI S a0 5)) a4) a0 5)) a3) a0 5)) (0 : Int32)) a0 5 ((rI (wA (wA (wA S (a0 + 2) (Int32.toNatClampNeg (rI S a0 5)) a4) (a0 + 3) (Int32.toNatClampNeg (rI (wA S (a0 + 2) (Int32.toNatClampNeg (rI S a0 5)) a4) a0 5)) a3) (a0 + 4) (Int32.toNatClampNeg (rI (wA (wA S (a0 + 2) (Int32.toNatClampNeg (rI S a0 5)) a4) (a0 + 3) (Int32.toNatClampNeg (rI (wA S (a0 + 2) (Int32.toNatClampNeg (rI S a0 5)) a4) a0 5)) a3) a0 5)) (0 : Int32)) a0 5) + (1 : Int32))) M)) rfl ?_
                      cases h
                      exact rn_er qm rfl rfl rfl
                    · rw [if_neg c14] at h
                      refine rn_ite (fun c15 => ?_) (fun c15 => ?_)
                      · rw [if_pos c15] at h
                        refine rn_eg qm 1 (s2 := (33, [(0, .ref a0), (1, .ref a1), (2, .int a2), (3, .int a3), (4, .int a4)], [.int (2 : Int32)], N, sl, rn_hp (wI (wA (wA (wA S (a0 + 2) (Int32.toNatClampNeg (rI S a0 5)) a4) (a0 + 3) (Int32.toNatClampNeg (rI (wA S (a0 + 2) (Int32.toNatClampNeg (rI S a0 5)) a4) a0 5)) a3) (a0 + 4) (Int32.toNatClampNeg (rI (wA (wA S (a0 + 2) (Int32.toNatClampNeg (rI S a0 5)) a4) (a0 + 3) (Int32.toNatClampNeg (rI (wA S (a0 + 2) (Int32.toNatClampNeg (rI S a0 5)) a4) a0 5)) a3) a0 5)) (0 : Int32)) a0 5 ((rI (wA (wA (wA S (a0 + 2) (Int32.toNatClampNeg (rI S a0 5)) a4) (a0 + 3) (Int32.toNatClampNeg (rI (wA S (a0 + 2) (Int32.toNatClampNeg (rI S a0 5)) a4) a0 5)) a3) (a0 + 4) (Int32.toNatClampNeg (rI (wA (wA S (a0 + 2) (Int32.toNatClampNeg (rI S a0 5)) a4) (a0 + 3) (Int32.toNatClampNeg (rI (wA S (a0 + 2) (Int32.toNatClampNeg (rI S a0 5)) a4) a0 5)) a3) a0 5)) (0 : Int32)) a0 5) + (1 : Int32))) M)) rfl ?_
                        cases h
                        exact rn_er qm rfl rfl rfl
                      · rw [if_neg c15] at h
                        refine rn_eg qm 1 (s2 := (37, [(0, .ref a0), (1, .ref a1), (2, .int a2), (3, .int a3), (4, .int a4)], [.int a4], N, sl, rn_hp (wI (wA (wA (wA S (a0 + 2) (Int32.toNatClampNeg (rI S a0 5)) a4) (a0 + 3) (Int32.toNatClampNeg (rI (wA S (a0 + 2) (Int32.toNatClampNeg (rI S a0 5)) a4) a0 5)) a3) (a0 + 4) (Int32.toNatClampNeg (rI (wA (wA S (a0 + 2) (Int32.toNatClampNeg (rI S a0 5)) a4) (a0 + 3) (Int32.toNatClampNeg (rI (wA S (a0 + 2) (Int32.toNatClampNeg (rI S a0 5)) a4) a0 5)) a3) a0 5)) (0 : Int32)) a0 5 ((rI (wA (wA (wA S (a0 + 2) (Int32.toNatClampNeg (rI S a0 5)) a4) (a0 + 3) (Int32.toNatClampNeg (rI (wA S (a0 + 2) (Int32.toNatClampNeg (rI S a0 5)) a4) a0 5)) a3) (a0 + 4) (Int32.toNatClampNeg (rI (wA (wA S (a0 + 2) (Int32.toNatClampNeg (rI S a0 5)) a4) (a0 + 3) (Int32.toNatClampNeg (rI (wA S (a0 + 2) (Int32.toNatClampNeg (rI S a0 5)) a4) a0 5)) a3) a0 5)) (0 : Int32)) a0 5) + (1 : Int32))) M)) rfl ?_
                        refine rn_ec qm rfl rfl rfl rfl rn_m27 rfl rfl rfl (fun h => by cases h) (E27 rfl) ?_
                        refine rn_eg qm 0 (s2 := (38, [(0, .ref a0), (1, .ref a1), (2, .int a2), (3, .int a3), (4, .int a4)], [.int (rn_bi (f27 a4))], N, sl, rn_hp (wI (wA (wA (wA S (a0 + 2) (Int32.toNatClampNeg (rI S a0 5)) a4) (a0 + 3) (Int32.toNatClampNeg (rI (wA S (a0 + 2) (Int32.toNatClampNeg (rI S a0 5)) a4) a0 5)) a3) (a0 + 4) (Int32.toNatClampNeg (rI (wA (wA S (a0 + 2) (Int32.toNatClampNeg (rI S a0 5)) a4) (a0 + 3) (Int32.toNatClampNeg (rI (wA S (a0 + 2) (Int32.toNatClampNeg (rI S a0 5)) a4) a0 5)) a3) a0 5)) (0 : Int32)) a0 5 ((rI (wA (wA (wA S (a0 + 2) (Int32.toNatClampNeg (rI S a0 5)) a4) (a0 + 3) (Int32.toNatClampNeg (rI (wA S (a0 + 2) (Int32.toNatClampNeg (rI S a0 5)) a4) a0 5)) a3) (a0 + 4) (Int32.toNatClampNeg (rI (wA (wA S (a0 + 2) (Int32.toNatClampNeg (rI S a0 5)) a4) (a0 + 3) (Int32.toNatClampNeg (rI (wA S (a0 + 2) (Int32.toNatClampNeg (rI S a0 5)) a4) a0 5)) a3) a0 5)) (0 : Int32)) a0 5) + (1 : Int32))) M)) rfl ?_
                        refine rn_eg qm 1 (s2 := ((if (rn_bi (f27 a4)) = 0 then 44 else 39), [(0, .ref a0), (1, .ref a1), (2, .int a2), (3, .int a3), (4, .int a4)], [], N, sl, rn_hp (wI (wA (wA (wA S (a0 + 2) (Int32.toNatClampNeg (rI S a0 5)) a4) (a0 + 3) (Int32.toNatClampNeg (rI (wA S (a0 + 2) (Int32.toNatClampNeg (rI S a0 5)) a4) a0 5)) a3) (a0 + 4) (Int32.toNatClampNeg (rI (wA (wA S (a0 + 2) (Int32.toNatClampNeg (rI S a0 5)) a4) (a0 + 3) (Int32.toNatClampNeg (rI (wA S (a0 + 2) (Int32.toNatClampNeg (rI S a0 5)) a4) a0 5)) a3) a0 5)) (0 : Int32)) a0 5 ((rI (wA (wA (wA S (a0 + 2) (Int32.toNatClampNeg (rI S a0 5)) a4) (a0 + 3) (Int32.toNatClampNeg (rI (wA S (a0 + 2) (Int32.toNatClampNeg (rI S a0 5)) a4) a0 5)) a3) (a0 + 4) (Int32.toNatClampNeg (rI (wA (wA S (a0 + 2) (Int32.toNatClampNeg (rI S a0 5)) a4) (a0 + 3) (Int32.toNatClampNeg (rI (wA S (a0 + 2) (Int32.toNatClampNeg (rI S a0 5)) a4) a0 5)) a3) a0 5)) (0 : Int32)) a0 5) + (1 : Int32))) M)) rfl ?_
                        refine rn_iteb (fun c17 => ?_) (fun c17 => ?_)
                        · rw [if_neg (rn_bf c17)] at h
                          refine rn_eg qm 1 (s2 := (45, [], [.int (0 : Int32)], N, sl, rn_hp (wI (wA (wA (wA S (a0 + 2) (Int32.toNatClampNeg (rI S a0 5)) a4) (a0 + 3) (Int32.toNatClampNeg (rI (wA S (a0 + 2) (Int32.toNatClampNeg (rI S a0 5)) a4) a0 5)) a3) (a0 + 4) (Int32.toNatClampNeg (rI (wA (wA S (a0 + 2) (Int32.toNatClampNeg (rI S a0 5)) a4) (a0 + 3) (Int32.toNatClampNeg (rI (wA S (a0 + 2) (Int32.toNatClampNeg (rI S a0 5)) a4) a0 5)) a3) a0 5)) (0 : Int32)) a0 5 ((rI (wA (wA (wA S (a0 + 2) (Int32.toNatClampNeg (rI S a0 5)) a4) (a0 + 3) (Int32.toNatClampNeg (rI (wA S (a0 + 2) (Int32.toNatClampNeg (rI S a0 5)) a4) a0 5)) a3) (a0 + 4) (Int32.toNatClampNeg (rI (wA (wA S (a0 + 2) (Int32.toNatClampNeg (rI S a0 5)) a4) (a0 + 3) (Int32.toNatClampNeg (rI (wA S (a0 + 2) (Int32.toNatClampNeg (rI S a0 5)) a4) a0 5)) a3) a0 5)) (0 : Int32)) a0 5) + (1 : Int32))) M)) rfl ?_
                          cases h
                          exact rn_er qm rfl rfl rfl
                        · rw [if_pos c17] at h
                          refine rn_eg qm 5 (s2 := ((if (a4 - (65 : Int32)) < a2 then 46 else 44), [(0, .ref a0), (1, .ref a1), (2, .int a2), (3, .int a3), (4, .int a4)], [], N, sl, rn_hp (wI (wA (wA (wA S (a0 + 2) (Int32.toNatClampNeg (rI S a0 5)) a4) (a0 + 3) (Int32.toNatClampNeg (rI (wA S (a0 + 2) (Int32.toNatClampNeg (rI S a0 5)) a4) a0 5)) a3) (a0 + 4) (Int32.toNatClampNeg (rI (wA (wA S (a0 + 2) (Int32.toNatClampNeg (rI S a0 5)) a4) (a0 + 3) (Int32.toNatClampNeg (rI (wA S (a0 + 2) (Int32.toNatClampNeg (rI S a0 5)) a4) a0 5)) a3) a0 5)) (0 : Int32)) a0 5 ((rI (wA (wA (wA S (a0 + 2) (Int32.toNatClampNeg (rI S a0 5)) a4) (a0 + 3) (Int32.toNatClampNeg (rI (wA S (a0 + 2) (Int32.toNatClampNeg (rI S a0 5)) a4) a0 5)) a3) (a0 + 4) (Int32.toNatClampNeg (rI (wA (wA S (a0 + 2) (Int32.toNatClampNeg (rI S a0 5)) a4) (a0 + 3) (Int32.toNatClampNeg (rI (wA S (a0 + 2) (Int32.toNatClampNeg (rI S a0 5)) a4) a0 5)) a3) a0 5)) (0 : Int32)) a0 5) + (1 : Int32))) M)) rfl ?_
                          refine rn_ite (fun c18 => ?_) (fun c18 => ?_)
                          · rw [if_pos c18] at h
                            refine rn_eg qm 1 (s2 := (47, [(0, .ref a0), (1, .ref a1), (2, .int a2), (3, .int a3), (4, .int a4)], [.ref a1], N, sl, rn_hp (wI (wA (wA (wA S (a0 + 2) (Int32.toNatClampNeg (rI S a0 5)) a4) (a0 + 3) (Int32.toNatClampNeg (rI (wA S (a0 + 2) (Int32.toNatClampNeg (rI S a0 5)) a4) a0 5)) a3) (a0 + 4) (Int32.toNatClampNeg (rI (wA (wA S (a0 + 2) (Int32.toNatClampNeg (rI S a0 5)) a4) (a0 + 3) (Int32.toNatClampNeg (rI (wA S (a0 + 2) (Int32.toNatClampNeg (rI S a0 5)) a4) a0 5)) a3) a0 5)) (0 : Int32)) a0 5 ((rI (wA (wA (wA S (a0 + 2) (Int32.toNatClampNeg (rI S a0 5)) a4) (a0 + 3) (Int32.toNatClampNeg (rI (wA S (a0 + 2) (Int32.toNatClampNeg (rI S a0 5)) a4) a0 5)) a3) (a0 + 4) (Int32.toNatClampNeg (rI (wA (wA S (a0 + 2) (Int32.toNatClampNeg (rI S a0 5)) a4) (a0 + 3) (Int32.toNatClampNeg (rI (wA S (a0 + 2) (Int32.toNatClampNeg (rI S a0 5)) a4) a0 5)) a3) a0 5)) (0 : Int32)) a0 5) + (1 : Int32))) M)) rfl ?_
                            have k19 : rn_kd a1 = 1 := Decidable.byContradiction fun c => by rw [if_neg c] at h; cases h
                            rw [if_pos k19] at h
                            refine rn_e1 qm (s2 := (48, [(0, .ref a0), (1, .ref a1), (2, .int a2), (3, .int a3), (4, .int a4)], [.ref (a1 + 1)], N, sl, rn_hp (wI (wA (wA (wA S (a0 + 2) (Int32.toNatClampNeg (rI S a0 5)) a4) (a0 + 3) (Int32.toNatClampNeg (rI (wA S (a0 + 2) (Int32.toNatClampNeg (rI S a0 5)) a4) a0 5)) a3) (a0 + 4) (Int32.toNatClampNeg (rI (wA (wA S (a0 + 2) (Int32.toNatClampNeg (rI S a0 5)) a4) (a0 + 3) (Int32.toNatClampNeg (rI (wA S (a0 + 2) (Int32.toNatClampNeg (rI S a0 5)) a4) a0 5)) a3) a0 5)) (0 : Int32)) a0 5 ((rI (wA (wA (wA S (a0 + 2) (Int32.toNatClampNeg (rI S a0 5)) a4) (a0 + 3) (Int32.toNatClampNeg (rI (wA S (a0 + 2) (Int32.toNatClampNeg (rI S a0 5)) a4) a0 5)) a3) (a0 + 4) (Int32.toNatClampNeg (rI (wA (wA S (a0 + 2) (Int32.toNatClampNeg (rI S a0 5)) a4) (a0 + 3) (Int32.toNatClampNeg (rI (wA S (a0 + 2) (Int32.toNatClampNeg (rI S a0 5)) a4) a0 5)) a3) a0 5)) (0 : Int32)) a0 5) + (1 : Int32))) M)) (rn_g_getf rfl rfl (en_1 k19) rfl) ?_
                            refine rn_eg qm 3 (s2 := (51, [(0, .ref a0), (1, .ref a1), (2, .int a2), (3, .int a3), (4, .int a4)], [.int (a4 - (65 : Int32)), .ref (a1 + 1)], N, sl, rn_hp (wI (wA (wA (wA S (a0 + 2) (Int32.toNatClampNeg (rI S a0 5)) a4) (a0 + 3) (Int32.toNatClampNeg (rI (wA S (a0 + 2) (Int32.toNatClampNeg (rI S a0 5)) a4) a0 5)) a3) (a0 + 4) (Int32.toNatClampNeg (rI (wA (wA S (a0 + 2) (Int32.toNatClampNeg (rI S a0 5)) a4) (a0 + 3) (Int32.toNatClampNeg (rI (wA S (a0 + 2) (Int32.toNatClampNeg (rI S a0 5)) a4) a0 5)) a3) a0 5)) (0 : Int32)) a0 5 ((rI (wA (wA (wA S (a0 + 2) (Int32.toNatClampNeg (rI S a0 5)) a4) (a0 + 3) (Int32.toNatClampNeg (rI (wA S (a0 + 2) (Int32.toNatClampNeg (rI S a0 5)) a4) a0 5)) a3) (a0 + 4) (Int32.toNatClampNeg (rI (wA (wA S (a0 + 2) (Int32.toNatClampNeg (rI S a0 5)) a4) (a0 + 3) (Int32.toNatClampNeg (rI (wA S (a0 + 2) (Int32.toNatClampNeg (rI S a0 5)) a4) a0 5)) a3) a0 5)) (0 : Int32)) a0 5) + (1 : Int32))) M)) rfl ?_
                            have c20 : ¬ (rn_ob (a4 - (65 : Int32)) 8) := fun c => by rw [if_pos c] at h; cases h
                            rw [if_neg c20] at h
                            refine rn_e1 qm (s2 := (52, [(0, .ref a0), (1, .ref a1), (2, .int a2), (3, .int a3), (4, .int a4)], [.ref (a1 + 4 + 2 * (Int32.toNatClampNeg (a4 - (65 : Int32))))], N, sl, rn_hp (wI (wA (wA (wA S (a0 + 2) (Int32.toNatClampNeg (rI S a0 5)) a4) (a0 + 3) (Int32.toNatClampNeg (rI (wA S (a0 + 2) (Int32.toNatClampNeg (rI S a0 5)) a4) a0 5)) a3) (a0 + 4) (Int32.toNatClampNeg (rI (wA (wA S (a0 + 2) (Int32.toNatClampNeg (rI S a0 5)) a4) (a0 + 3) (Int32.toNatClampNeg (rI (wA S (a0 + 2) (Int32.toNatClampNeg (rI S a0 5)) a4) a0 5)) a3) a0 5)) (0 : Int32)) a0 5 ((rI (wA (wA (wA S (a0 + 2) (Int32.toNatClampNeg (rI S a0 5)) a4) (a0 + 3) (Int32.toNatClampNeg (rI (wA S (a0 + 2) (Int32.toNatClampNeg (rI S a0 5)) a4) a0 5)) a3) (a0 + 4) (Int32.toNatClampNeg (rI (wA (wA S (a0 + 2) (Int32.toNatClampNeg (rI S a0 5)) a4) (a0 + 3) (Int32.toNatClampNeg (rI (wA S (a0 + 2) (Int32.toNatClampNeg (rI S a0 5)) a4) a0 5)) a3) a0 5)) (0 : Int32)) a0 5) + (1 : Int32))) M)) (rn_g_aald (r := some (a1 + 4 + 2 * (Int32.toNatClampNeg (a4 - (65 : Int32))))) rfl rfl (ar_x20 (ko_1_0 k19).1 (ko_1_0 k19).2.2) c20 (rn_cr_at (rn_ob_lt c20))) ?_
                            refine rn_eg qm 1 (s2 := (53, [(0, .ref a0), (1, .ref a1), (2, .int a2), (3, .int a3), (4, .int a4)], [.int (120 : Int32), .ref (a1 + 4 + 2 * (Int32.toNatClampNeg (a4 - (65 : Int32))))], N, sl, rn_hp (wI (wA (wA (wA S (a0 + 2) (Int32.toNatClampNeg (rI S a0 5)) a4) (a0 + 3) (Int32.toNatClampNeg (rI (wA S (a0 + 2) (Int32.toNatClampNeg (rI S a0 5)) a4) a0 5)) a3) (a0 + 4) (Int32.toNatClampNeg (rI (wA (wA S (a0 + 2) (Int32.toNatClampNeg (rI S a0 5)) a4) (a0 + 3) (Int32.toNatClampNeg (rI (wA S (a0 + 2) (Int32.toNatClampNeg (rI S a0 5)) a4) a0 5)) a3) a0 5)) (0 : Int32)) a0 5 ((rI (wA (wA (wA S (a0 + 2) (Int32.toNatClampNeg (rI S a0 5)) a4) (a0 + 3) (Int32.toNatClampNeg (rI (wA S (a0 + 2) (Int32.toNatClampNeg (rI S a0 5)) a4) a0 5)) a3) (a0 + 4) (Int32.toNatClampNeg (rI (wA (wA S (a0 + 2) (Int32.toNatClampNeg (rI S a0 5)) a4) (a0 + 3) (Int32.toNatClampNeg (rI (wA S (a0 + 2) (Int32.toNatClampNeg (rI S a0 5)) a4) a0 5)) a3) a0 5)) (0 : Int32)) a0 5) + (1 : Int32))) M)) rfl ?_
                            obtain ⟨p21, hp21, h⟩ := Option.bind_eq_some_iff.mp h
                            refine rn_ec qm rfl rfl rfl rfl rn_m142 rfl rfl rfl (fun _ => rn_rc_of (en_5 (show rn_kd (a1 + 4 + 2 * (Int32.toNatClampNeg (a4 - (65 : Int32)))) = 5 from ck_20 (ko_1_0 k19).1 (rn_ob_lt c20)))) (E142 hp21) ?_
                            refine rn_eg qm 0 (s2 := (54, [(0, .ref a0), (1, .ref a1), (2, .int a2), (3, .int a3), (4, .int a4)], [.int (rn_bi p21)], N, sl, rn_hp (wI (wA (wA (wA S (a0 + 2) (Int32.toNatClampNeg (rI S a0 5)) a4) (a0 + 3) (Int32.toNatClampNeg (rI (wA S (a0 + 2) (Int32.toNatClampNeg (rI S a0 5)) a4) a0 5)) a3) (a0 + 4) (Int32.toNatClampNeg (rI (wA (wA S (a0 + 2) (Int32.toNatClampNeg (rI S a0 5)) a4) (a0 + 3) (Int32.toNatClampNeg (rI (wA S (a0 + 2) (Int32.toNatClampNeg (rI S a0 5)) a4) a0 5)) a3) a0 5)) (0 : Int32)) a0 5 ((rI (wA (wA (wA S (a0 + 2) (Int32.toNatClampNeg (rI S a0 5)) a4) (a0 + 3) (Int32.toNatClampNeg (rI (wA S (a0 + 2) (Int32.toNatClampNeg (rI S a0 5)) a4) a0 5)) a3) (a0 + 4) (Int32.toNatClampNeg (rI (wA (wA S (a0 + 2) (Int32.toNatClampNeg (rI S a0 5)) a4) (a0 + 3) (Int32.toNatClampNeg (rI (wA S (a0 + 2) (Int32.toNatClampNeg (rI S a0 5)) a4) a0 5)) a3) a0 5)) (0 : Int32)) a0 5) + (1 : Int32))) M)) rfl ?_
                            refine rn_eg qm 1 (s2 := ((if (rn_bi p21) = 0 then 57 else 55), [(0, .ref a0), (1, .ref a1), (2, .int a2), (3, .int a3), (4, .int a4)], [], N, sl, rn_hp (wI (wA (wA (wA S (a0 + 2) (Int32.toNatClampNeg (rI S a0 5)) a4) (a0 + 3) (Int32.toNatClampNeg (rI (wA S (a0 + 2) (Int32.toNatClampNeg (rI S a0 5)) a4) a0 5)) a3) (a0 + 4) (Int32.toNatClampNeg (rI (wA (wA S (a0 + 2) (Int32.toNatClampNeg (rI S a0 5)) a4) (a0 + 3) (Int32.toNatClampNeg (rI (wA S (a0 + 2) (Int32.toNatClampNeg (rI S a0 5)) a4) a0 5)) a3) a0 5)) (0 : Int32)) a0 5 ((rI (wA (wA (wA S (a0 + 2) (Int32.toNatClampNeg (rI S a0 5)) a4) (a0 + 3) (Int32.toNatClampNeg (rI (wA S (a0 + 2) (Int32.toNatClampNeg (rI S a0 5)) a4) a0 5)) a3) (a0 + 4) (Int32.toNatClampNeg (rI (wA (wA S (a0 + 2) (Int32.toNatClampNeg (rI S a0 5)) a4) (a0 + 3) (Int32.toNatClampNeg (rI (wA S (a0 + 2) (Int32.toNatClampNeg (rI S a0 5)) a4) a0 5)) a3) a0 5)) (0 : Int32)) a0 5) + (1 : Int32))) M)) rfl ?_
                            refine rn_iteb (fun c22 => ?_) (fun c22 => ?_)
                            · rw [if_neg (rn_bf c22)] at h
                              refine rn_eg qm 1 (s2 := (58, [(0, .ref a0), (1, .ref a1), (2, .int a2), (3, .int a3), (4, .int a4)], [.int (2 : Int32)], N, sl, rn_hp (wI (wA (wA (wA S (a0 + 2) (Int32.toNatClampNeg (rI S a0 5)) a4) (a0 + 3) (Int32.toNatClampNeg (rI (wA S (a0 + 2) (Int32.toNatClampNeg (rI S a0 5)) a4) a0 5)) a3) (a0 + 4) (Int32.toNatClampNeg (rI (wA (wA S (a0 + 2) (Int32.toNatClampNeg (rI S a0 5)) a4) (a0 + 3) (Int32.toNatClampNeg (rI (wA S (a0 + 2) (Int32.toNatClampNeg (rI S a0 5)) a4) a0 5)) a3) a0 5)) (0 : Int32)) a0 5 ((rI (wA (wA (wA S (a0 + 2) (Int32.toNatClampNeg (rI S a0 5)) a4) (a0 + 3) (Int32.toNatClampNeg (rI (wA S (a0 + 2) (Int32.toNatClampNeg (rI S a0 5)) a4) a0 5)) a3) (a0 + 4) (Int32.toNatClampNeg (rI (wA (wA S (a0 + 2) (Int32.toNatClampNeg (rI S a0 5)) a4) (a0 + 3) (Int32.toNatClampNeg (rI (wA S (a0 + 2) (Int32.toNatClampNeg (rI S a0 5)) a4) a0 5)) a3) a0 5)) (0 : Int32)) a0 5) + (1 : Int32))) M)) rfl ?_
                              cases h
                              exact rn_er qm rfl rfl rfl
                            · rw [if_pos c22] at h
                              refine rn_eg qm 2 (s2 := (58, [(0, .ref a0), (1, .ref a1), (2, .int a2), (3, .int a3), (4, .int a4)], [.int (1 : Int32)], N, sl, rn_hp (wI (wA (wA (wA S (a0 + 2) (Int32.toNatClampNeg (rI S a0 5)) a4) (a0 + 3) (Int32.toNatClampNeg (rI (wA S (a0 + 2) (Int32.toNatClampNeg (rI S a0 5)) a4) a0 5)) a3) (a0 + 4) (Int32.toNatClampNeg (rI (wA (wA S (a0 + 2) (Int32.toNatClampNeg (rI S a0 5)) a4) (a0 + 3) (Int32.toNatClampNeg (rI (wA S (a0 + 2) (Int32.toNatClampNeg (rI S a0 5)) a4) a0 5)) a3) a0 5)) (0 : Int32)) a0 5 ((rI (wA (wA (wA S (a0 + 2) (Int32.toNatClampNeg (rI S a0 5)) a4) (a0 + 3) (Int32.toNatClampNeg (rI (wA S (a0 + 2) (Int32.toNatClampNeg (rI S a0 5)) a4) a0 5)) a3) (a0 + 4) (Int32.toNatClampNeg (rI (wA (wA S (a0 + 2) (Int32.toNatClampNeg (rI S a0 5)) a4) (a0 + 3) (Int32.toNatClampNeg (rI (wA S (a0 + 2) (Int32.toNatClampNeg (rI S a0 5)) a4) a0 5)) a3) a0 5)) (0 : Int32)) a0 5) + (1 : Int32))) M)) rfl ?_
                              cases h
                              exact rn_er qm rfl rfl rfl
                          · rw [if_neg c18] at h
                            refine rn_eg qm 1 (s2 := (45, [], [.int (0 : Int32)], N, sl, rn_hp (wI (wA (wA (wA S (a0 + 2) (Int32.toNatClampNeg (rI S a0 5)) a4) (a0 + 3) (Int32.toNatClampNeg (rI (wA S (a0 + 2) (Int32.toNatClampNeg (rI S a0 5)) a4) a0 5)) a3) (a0 + 4) (Int32.toNatClampNeg (rI (wA (wA S (a0 + 2) (Int32.toNatClampNeg (rI S a0 5)) a4) (a0 + 3) (Int32.toNatClampNeg (rI (wA S (a0 + 2) (Int32.toNatClampNeg (rI S a0 5)) a4) a0 5)) a3) a0 5)) (0 : Int32)) a0 5 ((rI (wA (wA (wA S (a0 + 2) (Int32.toNatClampNeg (rI S a0 5)) a4) (a0 + 3) (Int32.toNatClampNeg (rI (wA S (a0 + 2) (Int32.toNatClampNeg (rI S a0 5)) a4) a0 5)) a3) (a0 + 4) (Int32.toNatClampNeg (rI (wA (wA S (a0 + 2) (Int32.toNatClampNeg (rI S a0 5)) a4) (a0 + 3) (Int32.toNatClampNeg (rI (wA S (a0 + 2) (Int32.toNatClampNeg (rI S a0 5)) a4) a0 5)) a3) a0 5)) (0 : Int32)) a0 5) + (1 : Int32))) M)) rfl ?_
                            cases h
                            exact rn_er qm rfl rfl rfl
  · rw [if_neg c2] at h
    refine rn_eg qm 1 (s2 := (5, [(0, .ref a0), (1, .ref a1), (2, .int a2), (3, .int a3), (4, .int a4)], [.int (0 : Int32)], N, sl, rn_hp S M)) rfl ?_
    cases h
    exact rn_er qm rfl rfl rfl
/-! 136: RecordNiches$Scan.take(LRecordNiches$Holding;III)I -/
def f136_J52 (S : rn_T) (u0 : Nat) (u1 : Nat) (u2 : Int32) (u3 : Int32) (u4 : Int32) (t0 : Int32) (t1 : Int32) : Option (Int32 × rn_T) :=
  if t0 = t1 then
    if rn_ob ((rI S u0 5) - (1 : Int32)) 40 then none else
      if (rA S (u0 + 4) (Int32.toNatClampNeg ((rI S u0 5) - (1 : Int32)))) ≤ 0 then
        some ((0 : Int32), S)
      else
        some ((2 : Int32), S)
  else
    if rn_ob ((rI S u0 5) - (1 : Int32)) 40 then none else
      if (6 : Int32) ≤ (rA S (u0 + 4) (Int32.toNatClampNeg ((rI S u0 5) - (1 : Int32)))) then
        some ((0 : Int32), S)
      else
        Option.bind (f137 S u0 u1 u2 u3 u4) fun p17 =>
          some (p17.1, p17.2)
set_option maxHeartbeats 4000000 in
theorem E136_J52 {X : rn_X} {N sl : Nat} {M : rn_T} {S : rn_T} {u0 : Nat} {u1 : Nat} {u2 : Int32} {u3 : Int32} {u4 : Int32} {t0 : Int32} {t1 : Int32} {R : (Int32 × rn_T)} (hu0 : rn_kd u0 = 4) (h : f136_J52 S u0 u1 u2 u3 u4 t0 t1 = some R) : rn_rv X 136 (52, [(0, .ref u0), (1, .ref u1), (2, .int u2), (3, .int u3), (4, .int u4)], [.int t1, .int t0], N, sl, rn_hp S M) (some (.int R.1), N, sl, rn_hp R.2 M) := by
  have qm := rn_m136
  unfold f136_J52 at h
  refine rn_eg qm 1 (s2 := ((if t0 = t1 then 53 else 65), [(0, .ref u0), (1, .ref u1), (2, .int u2), (3, .int u3), (4, .int u4)], [], N, sl, rn_hp S M)) rfl ?_
  refine rn_ite (fun c12 => ?_) (fun c12 => ?_)
  · rw [if_pos c12] at h
    refine rn_eg qm 1 (s2 := (54, [(0, .ref u0), (1, .ref u1), (2, .int u2), (3, .int u3), (4, .int u4)], [.ref u0], N, sl, rn_hp S M)) rfl ?_
    refine rn_e1 qm (s2 := (55, [(0, .ref u0), (1, .ref u1), (2, .int u2), (3, .int u3), (4, .int u4)], [.ref (u0 + 4)], N, sl, rn_hp S M)) (rn_g_getf rfl rfl (en_4 hu0) rfl) ?_
    refine rn_eg qm 1 (s2 := (56, [(0, .ref u0), (1, .ref u1), (2, .int u2), (3, .int u3), (4, .int u4)], [.ref u0, .ref (u0 + 4)], N, sl, rn_hp S M)) rfl ?_
    refine rn_e1 qm (s2 := (57, [(0, .ref u0), (1, .ref u1), (2, .int u2), (3, .int u3), (4, .int u4)], [.int (rI S u0 5), .ref (u0 + 4)], N, sl, rn_hp S M)) (rn_g_getf rfl rfl (en_4 hu0) rfl) ?_
    refine rn_eg qm 2 (s2 := (59, [(0, .ref u0), (1, .ref u1), (2, .int u2), (3, .int u3), (4, .int u4)], [.int ((rI S u0 5) - (1 : Int32)), .ref (u0 + 4)], N, sl, rn_hp S M)) rfl ?_
    have c13 : ¬ (rn_ob ((rI S u0 5) - (1 : Int32)) 40) := fun c => by rw [if_pos c] at h; cases h
    rw [if_neg c13] at h
    refine rn_e1 qm (s2 := (60, [(0, .ref u0), (1, .ref u1), (2, .int u2), (3, .int u3), (4, .int u4)], [.int (rA S (u0 + 4) (Int32.toNatClampNeg ((rI S u0 5) - (1 : Int32))))], N, sl, rn_hp S M)) (rn_g_iald (n := 40) rfl rfl (ar_x10 (ko_4_4 hu0).1 (ko_4_4 hu0).2.1 (ko_4_4 hu0).2.2) c13) ?_
    refine rn_eg qm 1 (s2 := ((if (rA S (u0 + 4) (Int32.toNatClampNeg ((rI S u0 5) - (1 : Int32)))) ≤ 0 then 63 else 61), [(0, .ref u0), (1, .ref u1), (2, .int u2), (3, .int u3), (4, .int u4)], [], N, sl, rn_hp S M)) rfl ?_
    refine rn_ite (fun c14 => ?_) (fun c14 => ?_)
    · rw [if_pos c14] at h
      refine rn_eg qm 1 (s2 := (64, [(0, .ref u0), (1, .ref u1), (2, .int u2), (3, .int u3), (4, .int u4)], [.int (0 : Int32)], N, sl, rn_hp S M)) rfl ?_
      cases h
      exact rn_er qm rfl rfl rfl
    · rw [if_neg c14] at h
      refine rn_eg qm 2 (s2 := (64, [(0, .ref u0), (1, .ref u1), (2, .int u2), (3, .int u3), (4, .int u4)], [.int (2 : Int32)], N, sl, rn_hp S M)) rfl ?_
      cases h
      exact rn_er qm rfl rfl rfl
  · rw [if_neg c12] at h
    refine rn_eg qm 1 (s2 := (66, [(0, .ref u0), (1, .ref u1), (2, .int u2), (3, .int u3), (4, .int u4)], [.ref u0], N, sl, rn_hp S M)) rfl ?_
    refine rn_e1 qm (s2 := (67, [(0, .ref u0), (1, .ref u1), (2, .int u2), (3, .int u3), (4, .int u4)], [.ref (u0 + 4)], N, sl, rn_hp S M)) (rn_g_getf rfl rfl (en_4 hu0) rfl) ?_
    refine rn_eg qm 1 (s2 := (68, [(0, .ref u0), (1, .ref u1), (2, .int u2), (3, .int u3), (4, .int u4)], [.ref u0, .ref (u0 + 4)], N, sl, rn_hp S M)) rfl ?_
    refine rn_e1 qm (s2 := (69, [(0, .ref u0), (1, .ref u1), (2, .int u2), (3, .int u3), (4, .int u4)], [.int (rI S u0 5), .ref (u0 + 4)], N, sl, rn_hp S M)) (rn_g_getf rfl rfl (en_4 hu0) rfl) ?_
    refine rn_eg qm 2 (s2 := (71, [(0, .ref u0), (1, .ref u1), (2, .int u2), (3, .int u3), (4, .int u4)], [.int ((rI S u0 5) - (1 : Int32)), .ref (u0 + 4)], N, sl, rn_hp S M)) rfl ?_
    have c15 : ¬ (rn_ob ((rI S u0 5) - (1 : Int32)) 40) := fun c => by rw [if_pos c] at h; cases h
    rw [if_neg c15] at h
    refine rn_e1 qm (s2 := (72, [(0, .ref u0), (1, .ref u1), (2, .int u2), (3, .int u3), (4, .int u4)], [.int (rA S (u0 + 4) (Int32.toNatClampNeg ((rI S u0 5) - (1 : Int32))))], N, sl, rn_hp S M)) (rn_g_iald (n := 40) rfl rfl (ar_x10 (ko_4_4 hu0).1 (ko_4_4 hu0).2.1 (ko_4_4 hu0).2.2) c15) ?_
    refine rn_eg qm 2 (s2 := ((if (6 : Int32) ≤ (rA S (u0 + 4) (Int32.toNatClampNeg ((rI S u0 5) - (1 : Int32)))) then 81 else 74), [(0, .ref u0), (1, .ref u1), (2, .int u2), (3, .int u3), (4, .int u4)], [], N, sl, rn_hp S M)) rfl ?_
    refine rn_ite (fun c16 => ?_) (fun c16 => ?_)
    · rw [if_pos c16] at h
      refine rn_eg qm 1 (s2 := (82, [(0, .ref u0), (1, .ref u1), (2, .int u2), (3, .int u3), (4, .int u4)], [.int (0 : Int32)], N, sl, rn_hp S M)) rfl ?_
      cases h
      exact rn_er qm rfl rfl rfl
    · rw [if_neg c16] at h
      refine rn_eg qm 5 (s2 := (79, [(0, .ref u0), (1, .ref u1), (2, .int u2), (3, .int u3), (4, .int u4)], [.int u4, .int u3, .int u2, .ref u1, .ref u0], N, sl, rn_hp S M)) rfl ?_
      obtain ⟨p17, hp17, h⟩ := Option.bind_eq_some_iff.mp h
      refine rn_ec qm rfl rfl rfl rfl rn_m137 rfl rfl rfl (fun _ => rn_rc_of (en_4 hu0)) (E137 hp17) ?_
      refine rn_eg qm 0 (s2 := (80, [(0, .ref u0), (1, .ref u1), (2, .int u2), (3, .int u3), (4, .int u4)], [.int p17.1], N, sl, rn_hp p17.2 M)) rfl ?_
      refine rn_eg qm 1 (s2 := (82, [(0, .ref u0), (1, .ref u1), (2, .int u2), (3, .int u3), (4, .int u4)], [.int p17.1], N, sl, rn_hp p17.2 M)) rfl ?_
      cases h
      exact rn_er qm rfl rfl rfl
def f136 (S : rn_T) (a0 : Nat) (a1 : Nat) (a2 : Int32) (a3 : Int32) (a4 : Int32) : Option (Int32 × rn_T) :=
  if rn_kd a0 = 4 then
    if (rI S a0 5) = 0 then
      if a3 = 0 then
        Option.bind (f137 S a0 a1 a2 a3 a4) fun p4 =>
          some (p4.1, p4.2)
      else
        some ((0 : Int32), S)
    else
      if rn_ob ((rI S a0 5) - (1 : Int32)) 40 then none else
        if (rA S (a0 + 2) (Int32.toNatClampNeg ((rI S a0 5) - (1 : Int32)))) = (101 : Int32) then
          if a4 < (50 : Int32) then
            some ((0 : Int32), S)
          else
            if (57 : Int32) < a4 then
              some ((0 : Int32), S)
            else
              some ((2 : Int32), S)
        else
          if (f27 (rA S (a0 + 2) (Int32.toNatClampNeg ((rI S a0 5) - (1 : Int32))))) = true then
            Option.bind (f137 S a0 a1 a2 a3 a4) fun p18 =>
              some (p18.1, p18.2)
          else
            if (rA S (a0 + 2) (Int32.toNatClampNeg ((rI S a0 5) - (1 : Int32)))) = (40 : Int32) then
              f136_J52 S a0 a1 a2 a3 a4 a4 (41 : Int32)
            else
              f136_J52 S a0 a1 a2 a3 a4 a4 (93 : Int32)
  else none
set_option maxHeartbeats 4000000 in
theorem E136 {X : rn_X} {N sl : Nat} {S M : rn_T} {a0 : Nat} {a1 : Nat} {a2 : Int32} {a3 : Int32} {a4 : Int32} {R : (Int32 × rn_T)} (h : f136 S a0 a1 a2 a3 a4 = some R) : rn_rv X 136 (0, [(0, .ref a0), (1, .ref a1), (2, .int a2), (3, .int a3), (4, .int a4)], [], N, sl, rn_hp S M) (some (.int R.1), N, sl, rn_hp R.2 M) := by
  have qm := rn_m136
  unfold f136 at h
  refine rn_eg qm 1 (s2 := (1, [(0, .ref a0), (1, .ref a1), (2, .int a2), (3, .int a3), (4, .int a4)], [.ref a0], N, sl, rn_hp S M)) rfl ?_
  have k1 : rn_kd a0 = 4 := Decidable.byContradiction fun c => by rw [if_neg c] at h; cases h
  rw [if_pos k1] at h
  refine rn_e1 qm (s2 := (2, [(0, .ref a0), (1, .ref a1), (2, .int a2), (3, .int a3), (4, .int a4)], [.int (rI S a0 5)], N, sl, rn_hp S M)) (rn_g_getf rfl rfl (en_4 k1) rfl) ?_
  refine rn_eg qm 1 (s2 := ((if (rI S a0 5) = 0 then 3 else 14), [(0, .ref a0), (1, .ref a1), (2, .int a2), (3, .int a3), (4, .int a4)], [], N, sl, rn_hp S M)) rfl ?_
  refine rn_ite (fun c2 => ?_) (fun c2 => ?_)
  · rw [if_pos c2] at h
    refine rn_eg qm 2 (s2 := ((if a3 = 0 then 5 else 12), [(0, .ref a0), (1, .ref a1), (2, .int a2), (3, .int a3), (4, .int a4)], [], N, sl, rn_hp S M)) rfl ?_
    refine rn_ite (fun c3 => ?_) (fun c3 => ?_)
    · rw [if_pos c3] at h
      refine rn_eg qm 5 (s2 := (10, [(0, .ref a0), (1, .ref a1), (2, .int a2), (3, .int a3), (4, .int a4)], [.int a4, .int a3, .int a2, .ref a1, .ref a0], N, sl, rn_hp S M)) rfl ?_
      obtain ⟨p4, hp4, h⟩ := Option.bind_eq_some_iff.mp h
      refine rn_ec qm rfl rfl rfl rfl rn_m137 rfl rfl rfl (fun _ => rn_rc_of (en_4 k1)) (E137 hp4) ?_
      refine rn_eg qm 0 (s2 := (11, [(0, .ref a0), (1, .ref a1), (2, .int a2), (3, .int a3), (4, .int a4)], [.int p4.1], N, sl, rn_hp p4.2 M)) rfl ?_
      refine rn_eg qm 1 (s2 := (13, [(0, .ref a0), (1, .ref a1), (2, .int a2), (3, .int a3), (4, .int a4)], [.int p4.1], N, sl, rn_hp p4.2 M)) rfl ?_
      cases h
      exact rn_er qm rfl rfl rfl
    · rw [if_neg c3] at h
      refine rn_eg qm 1 (s2 := (13, [(0, .ref a0), (1, .ref a1), (2, .int a2), (3, .int a3), (4, .int a4)], [.int (0 : Int32)], N, sl, rn_hp S M)) rfl ?_
      cases h
      exact rn_er qm rfl rfl rfl
  · rw [if_neg c2] at h
    refine rn_eg qm 1 (s2 := (15, [(0, .ref a0), (1, .ref a1), (2, .int a2), (3, .int a3), (4, .int a4)], [.ref a0], N, sl, rn_hp S M)) rfl ?_
    refine rn_e1 qm (s2 := (16, [(0, .ref a0), (1, .ref a1), (2, .int a2), (3, .int a3), (4, .int a4)], [.ref (a0 + 2)], N, sl, rn_hp S M)) (rn_g_getf rfl rfl (en_4 k1) rfl) ?_
    refine rn_eg qm 1 (s2 := (17, [(0, .ref a0), (1, .ref a1), (2, .int a2), (3, .int a3), (4, .int a4)], [.ref a0, .ref (a0 + 2)], N, sl, rn_hp S M)) rfl ?_
    refine rn_e1 qm (s2 := (18, [(0, .ref a0), (1, .ref a1), (2, .int a2), (3, .int a3), (4, .int a4)], [.int (rI S a0 5), .ref (a0 + 2)], N, sl, rn_hp S M)) (rn_g_getf rfl rfl (en_4 k1) rfl) ?_
    refine rn_eg qm 2 (s2 := (20, [(0, .ref a0), (1, .ref a1), (2, .int a2), (3, .int a3), (4, .int a4)], [.int ((rI S a0 5) - (1 : Int32)), .ref (a0 + 2)], N, sl, rn_hp S M)) rfl ?_
    have c5 : ¬ (rn_ob ((rI S a0 5) - (1 : Int32)) 40) := fun c => by rw [if_pos c] at h; cases h
    rw [if_neg c5] at h
    refine rn_e1 qm (s2 := (21, [(0, .ref a0), (1, .ref a1), (2, .int a2), (3, .int a3), (4, .int a4)], [.int (rA S (a0 + 2) (Int32.toNatClampNeg ((rI S a0 5) - (1 : Int32))))], N, sl, rn_hp S M)) (rn_g_iald (n := 40) rfl rfl (ar_x10 (ko_4_2 k1).1 (ko_4_2 k1).2.1 (ko_4_2 k1).2.2) c5) ?_
    refine rn_eg qm 4 (s2 := ((if (rA S (a0 + 2) (Int32.toNatClampNeg ((rI S a0 5) - (1 : Int32)))) = (101 : Int32) then 25 else 35), [(5, .int (rA S (a0 + 2) (Int32.toNatClampNeg ((rI S a0 5) - (1 : Int32))))), (0, .ref a0), (1, .ref a1), (2, .int a2), (3, .int a3), (4, .int a4)], [], N, sl, rn_hp S M)) rfl ?_
    refine rn_ite (fun c6 => ?_) (fun c6 => ?_)
    · rw [if_pos c6] at h
      refine rn_eg qm 3 (s2 := ((if a4 < (50 : Int32) then 33 else 28), [(5, .int (rA S (a0 + 2) (Int32.toNatClampNeg ((rI S a0 5) - (1 : Int32))))), (0, .ref a0), (1, .ref a1), (2, .int a2), (3, .int a3), (4, .int a4)], [], N, sl, rn_hp S M)) rfl ?_
      refine rn_ite (fun c7 => ?_) (fun c7 => ?_)
      · rw [if_pos c7] at h
        refine rn_eg qm 1 (s2 := (34, [], [.int (0 : Int32)], N, sl, rn_hp S M)) rfl ?_
        cases h
        exact rn_er qm rfl rfl rfl
      · rw [if_neg c7] at h
        refine rn_eg qm 3 (s2 := ((if (57 : Int32) < a4 then 33 else 31), [(5, .int (rA S (a0 + 2) (Int32.toNatClampNeg ((rI S a0 5) - (1 : Int32))))), (0, .ref a0), (1, .ref a1), (2, .int a2), (3, .int a3), (4, .int a4)], [], N, sl, rn_hp S M)) rfl ?_
        refine rn_ite (fun c8 => ?_) (fun c8 => ?_)
        · rw [if_pos c8] at h
          refine rn_eg qm 1 (s2 := (34, [], [.int (0 : Int32)], N, sl, rn_hp S M)) rfl ?_
          cases h
          exact rn_er qm rfl rfl rfl
        · rw [if_neg c8] at h
          refine rn_eg qm 2 (s2 := (34, [(5, .int (rA S (a0 + 2) (Int32.toNatClampNeg ((rI S a0 5) - (1 : Int32))))), (0, .ref a0), (1, .ref a1), (2, .int a2), (3, .int a3), (4, .int a4)], [.int (2 : Int32)], N, sl, rn_hp S M)) rfl ?_
          cases h
          exact rn_er qm rfl rfl rfl
    · rw [if_neg c6] at h
      refine rn_eg qm 1 (s2 := (36, [(5, .int (rA S (a0 + 2) (Int32.toNatClampNeg ((rI S a0 5) - (1 : Int32))))), (0, .ref a0), (1, .ref a1), (2, .int a2), (3, .int a3), (4, .int a4)], [.int (rA S (a0 + 2) (Int32.toNatClampNeg ((rI S a0 5) - (1 : Int32))))], N, sl, rn_hp S M)) rfl ?_
      refine rn_ec qm rfl rfl rfl rfl rn_m27 rfl rfl rfl (fun h => by cases h) (E27 rfl) ?_
      refine rn_eg qm 0 (s2 := (37, [(5, .int (rA S (a0 + 2) (Int32.toNatClampNeg ((rI S a0 5) - (1 : Int32))))), (0, .ref a0), (1, .ref a1), (2, .int a2), (3, .int a3), (4, .int a4)], [.int (rn_bi (f27 (rA S (a0 + 2) (Int32.toNatClampNeg ((rI S a0 5) - (1 : Int32))))))], N, sl, rn_hp S M)) rfl ?_
      refine rn_eg qm 1 (s2 := ((if (rn_bi (f27 (rA S (a0 + 2) (Int32.toNatClampNeg ((rI S a0 5) - (1 : Int32)))))) = 0 then 45 else 38), [(5, .int (rA S (a0 + 2) (Int32.toNatClampNeg ((rI S a0 5) - (1 : Int32))))), (0, .ref a0), (1, .ref a1), (2, .int a2), (3, .int a3), (4, .int a4)], [], N, sl, rn_hp S M)) rfl ?_
      refine rn_iteb (fun c10 => ?_) (fun c10 => ?_)
      · rw [if_neg (rn_bf c10)] at h
        refine rn_eg qm 4 (s2 := ((if (rA S (a0 + 2) (Int32.toNatClampNeg ((rI S a0 5) - (1 : Int32)))) = (40 : Int32) then 49 else 51), [(5, .int (rA S (a0 + 2) (Int32.toNatClampNeg ((rI S a0 5) - (1 : Int32))))), (0, .ref a0), (1, .ref a1), (2, .int a2), (3, .int a3), (4, .int a4)], [.int a4], N, sl, rn_hp S M)) rfl ?_
        refine rn_ite (fun c11 => ?_) (fun c11 => ?_)
        · rw [if_pos c11] at h
          refine rn_eg qm 2 (s2 := (52, [(5, .int (rA S (a0 + 2) (Int32.toNatClampNeg ((rI S a0 5) - (1 : Int32))))), (0, .ref a0), (1, .ref a1), (2, .int a2), (3, .int a3), (4, .int a4)], [.int (41 : Int32), .int a4], N, sl, rn_hp S M)) rfl ?_
          refine rn_kq qm (s2 := (52, [(0, .ref a0), (1, .ref a1), (2, .int a2), (3, .int a3), (4, .int a4)], [.int (41 : Int32), .int a4], N, sl, rn_hp S M)) rfl rfl ?_
          exact E136_J52 k1 h
        · rw [if_neg c11] at h
          refine rn_eg qm 1 (s2 := (52, [(5, .int (rA S (a0 + 2) (Int32.toNatClampNeg ((rI S a0 5) - (1 : Int32))))), (0, .ref a0), (1, .ref a1), (2, .int a2), (3, .int a3), (4, .int a4)], [.int (93 : Int32), .int a4], N, sl, rn_hp S M)) rfl ?_
          refine rn_kq qm (s2 := (52, [(0, .ref a0), (1, .ref a1), (2, .int a2), (3, .int a3), (4, .int a4)], [.int (93 : Int32), .int a4], N, sl, rn_hp S M)) rfl rfl ?_
          exact E136_J52 k1 h
      · rw [if_pos c10] at h
        refine rn_eg qm 5 (s2 := (43, [(5, .int (rA S (a0 + 2) (Int32.toNatClampNeg ((rI S a0 5) - (1 : Int32))))), (0, .ref a0), (1, .ref a1), (2, .int a2), (3, .int a3), (4, .int a4)], [.int a4, .int a3, .int a2, .ref a1, .ref a0], N, sl, rn_hp S M)) rfl ?_
        obtain ⟨p18, hp18, h⟩ := Option.bind_eq_some_iff.mp h
        refine rn_ec qm rfl rfl rfl rfl rn_m137 rfl rfl rfl (fun _ => rn_rc_of (en_4 k1)) (E137 hp18) ?_
        refine rn_eg qm 0 (s2 := (44, [(5, .int (rA S (a0 + 2) (Int32.toNatClampNeg ((rI S a0 5) - (1 : Int32))))), (0, .ref a0), (1, .ref a1), (2, .int a2), (3, .int a3), (4, .int a4)], [.int p18.1], N, sl, rn_hp p18.2 M)) rfl ?_
        cases h
        exact rn_er qm rfl rfl rfl
/-! 138: RecordNiches$Scan.endTerms(I)V -/
def f138_L19 (b0 : Nat) (b1 : Int32) : Nat → rn_T → (rn_T → Option (rn_T)) → Option (rn_T)
  | 0, _, _ => none
  | fu + 1, S, k =>
    if (rI S b0 5) ≤ 0 then
      k S
    else
      if rn_ob ((rI S b0 5) - (1 : Int32)) 40 then none else
        if (f27 (rA S (b0 + 2) (Int32.toNatClampNeg ((rI S b0 5) - (1 : Int32))))) = true then
          if rn_ob (rI (wI S b0 5 ((rI S b0 5) - (1 : Int32))) b0 5) 40 then none else
            if rn_ob (rA (wI S b0 5 ((rI S b0 5) - (1 : Int32))) (b0 + 3) (Int32.toNatClampNeg (rI (wI S b0 5 ((rI S b0 5) - (1 : Int32))) b0 5))) 40 then none else
              f138_L19 b0 b1 fu (wA (wI S b0 5 ((rI S b0 5) - (1 : Int32))) (b0 + 1) (Int32.toNatClampNeg (rA (wI S b0 5 ((rI S b0 5) - (1 : Int32))) (b0 + 3) (Int32.toNatClampNeg (rI (wI S b0 5 ((rI S b0 5) - (1 : Int32))) b0 5)))) b1) k
        else
          k S
set_option maxHeartbeats 4000000 in
theorem E138_L19 {X : rn_X} {N sl : Nat} {M : rn_T} {b0 : Nat} {b1 : Int32} (hb0 : rn_kd b0 = 4) : ∀ (fu : Nat) (S : rn_T) (k : (rn_T → Option (rn_T))) (R : (rn_T)), (∀ (S : rn_T), k S = some R → rn_rv X 138 (47, [(0, .ref b0)], [], N, sl, rn_hp S M) (none, N, sl, rn_hp R M)) → f138_L19 b0 b1 fu S k = some R → rn_rv X 138 (19, [(0, .ref b0), (1, .int b1)], [], N, sl, rn_hp S M) (none, N, sl, rn_hp R M) := by
  have qm := rn_m138
  intro fu
  induction fu with
  | zero => intro S k R hk h; cases h
  | succ fu ih =>
    intro S k R hk h
    unfold f138_L19 at h
    refine rn_eg qm 1 (s2 := (20, [(0, .ref b0), (1, .int b1)], [.ref b0], N, sl, rn_hp S M)) rfl ?_
    refine rn_e1 qm (s2 := (21, [(0, .ref b0), (1, .int b1)], [.int (rI S b0 5)], N, sl, rn_hp S M)) (rn_g_getf rfl rfl (en_4 hb0) rfl) ?_
    refine rn_eg qm 1 (s2 := ((if (rI S b0 5) ≤ 0 then 47 else 22), [(0, .ref b0), (1, .int b1)], [], N, sl, rn_hp S M)) rfl ?_
    refine rn_ite (fun c5 => ?_) (fun c5 => ?_)
    · rw [if_pos c5] at h
      refine rn_kq qm (s2 := (47, [(0, .ref b0)], [], N, sl, rn_hp S M)) rfl rfl ?_
      exact hk _ h
    · rw [if_neg c5] at h
      refine rn_eg qm 1 (s2 := (23, [(0, .ref b0), (1, .int b1)], [.ref b0], N, sl, rn_hp S M)) rfl ?_
      refine rn_e1 qm (s2 := (24, [(0, .ref b0), (1, .int b1)], [.ref (b0 + 2)], N, sl, rn_hp S M)) (rn_g_getf rfl rfl (en_4 hb0) rfl) ?_
      refine rn_eg qm 1 (s2 := (25, [(0, .ref b0), (1, .int b1)], [.ref b0, .ref (b0 + 2)], N, sl, rn_hp S M)) rfl ?_
      refine rn_e1 qm (s2 := (26, [(0, .ref b0), (1, .int b1)], [.int (rI S b0 5), .ref (b0 + 2)], N, sl, rn_hp S M)) (rn_g_getf rfl rfl (en_4 hb0) rfl) ?_
      refine rn_eg qm 2 (s2 := (28, [(0, .ref b0), (1, .int b1)], [.int ((rI S b0 5) - (1 : Int32)), .ref (b0 + 2)], N, sl, rn_hp S M)) rfl ?_
      have c6 : ¬ (rn_ob ((rI S b0 5) - (1 : Int32)) 40) := fun c => by rw [if_pos c] at h; cases h
      rw [if_neg c6] at h
      refine rn_e1 qm (s2 := (29, [(0, .ref b0), (1, .int b1)], [.int (rA S (b0 + 2) (Int32.toNatClampNeg ((rI S b0 5) - (1 : Int32))))], N, sl, rn_hp S M)) (rn_g_iald (n := 40) rfl rfl (ar_x10 (ko_4_2 hb0).1 (ko_4_2 hb0).2.1 (ko_4_2 hb0).2.2) c6) ?_
      refine rn_ec qm rfl rfl rfl rfl rn_m27 rfl rfl rfl (fun h => by cases h) (E27 rfl) ?_
      refine rn_eg qm 0 (s2 := (30, [(0, .ref b0), (1, .int b1)], [.int (rn_bi (f27 (rA S (b0 + 2) (Int32.toNatClampNeg ((rI S b0 5) - (1 : Int32))))))], N, sl, rn_hp S M)) rfl ?_
      refine rn_eg qm 1 (s2 := ((if (rn_bi (f27 (rA S (b0 + 2) (Int32.toNatClampNeg ((rI S b0 5) - (1 : Int32)))))) = 0 then 47 else 31), [(0, .ref b0), (1, .int b1)], [], N, sl, rn_hp S M)) rfl ?_
      refine rn_iteb (fun c8 => ?_) (fun c8 => ?_)
      · rw [if_neg (rn_bf c8)] at h
        refine rn_kq qm (s2 := (47, [(0, .ref b0)], [], N, sl, rn_hp S M)) rfl rfl ?_
        exact hk _ h
      · rw [if_pos c8] at h
        refine rn_eg qm 2 (s2 := (33, [(0, .ref b0), (1, .int b1)], [.ref b0, .ref b0], N, sl, rn_hp S M)) rfl ?_
        refine rn_e1 qm (s2 := (34, [(0, .ref b0), (1, .int b1)], [.int (rI S b0 5), .ref b0], N, sl, rn_hp S M)) (rn_g_getf rfl rfl (en_4 hb0) rfl) ?_
        refine rn_eg qm 2 (s2 := (36, [(0, .ref b0), (1, .int b1)], [.int ((rI S b0 5) - (1 : Int32)), .ref b0], N, sl, rn_hp S M)) rfl ?_
        refine rn_e1 qm (s2 := (37, [(0, .ref b0), (1, .int b1)], [], N, sl, rn_hp (wI S b0 5 ((rI S b0 5) - (1 : Int32))) M)) (rn_g_putf rfl rfl (en_4 hb0) rfl rfl rfl (wf_4_5 (v := ((rI S b0 5) - (1 : Int32))) hb0)) ?_
        refine rn_eg qm 1 (s2 := (38, [(0, .ref b0), (1, .int b1)], [.ref b0], N, sl, rn_hp (wI S b0 5 ((rI S b0 5) - (1 : Int32))) M)) rfl ?_
        refine rn_e1 qm (s2 := (39, [(0, .ref b0), (1, .int b1)], [.ref (b0 + 1)], N, sl, rn_hp (wI S b0 5 ((rI S b0 5) - (1 : Int32))) M)) (rn_g_getf rfl rfl (en_4 hb0) rfl) ?_
        refine rn_eg qm 1 (s2 := (40, [(0, .ref b0), (1, .int b1)], [.ref b0, .ref (b0 + 1)], N, sl, rn_hp (wI S b0 5 ((rI S b0 5) - (1 : Int32))) M)) rfl ?_
        refine rn_e1 qm (s2 := (41, [(0, .ref b0), (1, .int b1)], [.ref (b0 + 3), .ref (b0 + 1)], N, sl, rn_hp (wI S b0 5 ((rI S b0 5) - (1 : Int32))) M)) (rn_g_getf rfl rfl (en_4 hb0) rfl) ?_
        refine rn_eg qm 1 (s2 := (42, [(0, .ref b0), (1, .int b1)], [.ref b0, .ref (b0 + 3), .ref (b0 + 1)], N, sl, rn_hp (wI S b0 5 ((rI S b0 5) - (1 : Int32))) M)) rfl ?_
        refine rn_e1 qm (s2 := (43, [(0, .ref b0), (1, .int b1)], [.int (rI (wI S b0 5 ((rI S b0 5) - (1 : Int32))) b0 5), .ref (b0 + 3), .ref (b0 + 1)], N, sl, rn_hp (wI S b0 5 ((rI S b0 5) - (1 : Int32))) M)) (rn_g_getf rfl rfl (en_4 hb0) rfl) ?_
        have c9 : ¬ (rn_ob (rI (wI S b0 5 ((rI S b0 5) - (1 : Int32))) b0 5) 40) := fun c => by rw [if_pos c] at h; cases h
        rw [if_neg c9] at h
        refine rn_e1 qm (s2 := (44, [(0, .ref b0), (1, .int b1)], [.int (rA (wI S b0 5 ((rI S b0 5) - (1 : Int32))) (b0 + 3) (Int32.toNatClampNeg (rI (wI S b0 5 ((rI S b0 5) - (1 : Int32))) b0 5))), .ref (b0 + 1)], N, sl, rn_hp (wI S b0 5 ((rI S b0 5) - (1 : Int32))) M)) (rn_g_iald (n := 40) rfl rfl (ar_x10 (ko_4_3 hb0).1 (ko_4_3 hb0).2.1 (ko_4_3 hb0).2.2) c9) ?_
        refine rn_eg qm 1 (s2 := (45, [(0, .ref b0), (1, .int b1)], [.int b1, .int (rA (wI S b0 5 ((rI S b0 5) - (1 : Int32))) (b0 + 3) (Int32.toNatClampNeg (rI (wI S b0 5 ((rI S b0 5) - (1 : Int32))) b0 5))), .ref (b0 + 1)], N, sl, rn_hp (wI S b0 5 ((rI S b0 5) - (1 : Int32))) M)) rfl ?_
        have c10 : ¬ (rn_ob (rA (wI S b0 5 ((rI S b0 5) - (1 : Int32))) (b0 + 3) (Int32.toNatClampNeg (rI (wI S b0 5 ((rI S b0 5) - (1 : Int32))) b0 5))) 40) := fun c => by rw [if_pos c] at h; cases h
        rw [if_neg c10] at h
        refine rn_e1 qm (s2 := (46, [(0, .ref b0), (1, .int b1)], [], N, sl, rn_hp (wA (wI S b0 5 ((rI S b0 5) - (1 : Int32))) (b0 + 1) (Int32.toNatClampNeg (rA (wI S b0 5 ((rI S b0 5) - (1 : Int32))) (b0 + 3) (Int32.toNatClampNeg (rI (wI S b0 5 ((rI S b0 5) - (1 : Int32))) b0 5)))) b1) M)) (rn_g_iast (n := 40) rfl rfl (ar_x10 (ko_4_1 hb0).1 (ko_4_1 hb0).2.1 (ko_4_1 hb0).2.2) c10 (aw_x10 (ko_4_1 hb0).1 (ko_4_1 hb0).2.1 (ko_4_1 hb0).2.2)) ?_
        refine rn_eg qm 1 (s2 := (19, [(0, .ref b0), (1, .int b1)], [], N, sl, rn_hp (wA (wI S b0 5 ((rI S b0 5) - (1 : Int32))) (b0 + 1) (Int32.toNatClampNeg (rA (wI S b0 5 ((rI S b0 5) - (1 : Int32))) (b0 + 3) (Int32.toNatClampNeg (rI (wI S b0 5 ((rI S b0 5) - (1 : Int32))) b0 5)))) b1) M)) rfl ?_
        refine rn_kq qm (s2 := (19, [(0, .ref b0), (1, .int b1)], [], N, sl, rn_hp (wA (wI S b0 5 ((rI S b0 5) - (1 : Int32))) (b0 + 1) (Int32.toNatClampNeg (rA (wI S b0 5 ((rI S b0 5) - (1 : Int32))) (b0 + 3) (Int32.toNatClampNeg (rI (wI S b0 5 ((rI S b0 5) - (1 : Int32))) b0 5)))) b1) M)) rfl rfl ?_
        exact ih _ k R hk h
def f138_J47 (S : rn_T) (u0 : Nat) : Option (rn_T) :=
  if (rI S u0 5) ≤ 0 then
    some (S)
  else
    if rn_ob ((rI S u0 5) - (1 : Int32)) 40 then none else
      some (wA S (u0 + 4) (Int32.toNatClampNeg ((rI S u0 5) - (1 : Int32))) ((rA S (u0 + 4) (Int32.toNatClampNeg ((rI S u0 5) - (1 : Int32)))) + (1 : Int32)))
set_option maxHeartbeats 4000000 in
theorem E138_J47 {X : rn_X} {N sl : Nat} {M : rn_T} {S : rn_T} {u0 : Nat} {R : (rn_T)} (hu0 : rn_kd u0 = 4) (h : f138_J47 S u0 = some R) : rn_rv X 138 (47, [(0, .ref u0)], [], N, sl, rn_hp S M) (none, N, sl, rn_hp R M) := by
  have qm := rn_m138
  unfold f138_J47 at h
  refine rn_eg qm 1 (s2 := (48, [(0, .ref u0)], [.ref u0], N, sl, rn_hp S M)) rfl ?_
  refine rn_e1 qm (s2 := (49, [(0, .ref u0)], [.int (rI S u0 5)], N, sl, rn_hp S M)) (rn_g_getf rfl rfl (en_4 hu0) rfl) ?_
  refine rn_eg qm 1 (s2 := ((if (rI S u0 5) ≤ 0 then 61 else 50), [(0, .ref u0)], [], N, sl, rn_hp S M)) rfl ?_
  refine rn_ite (fun c12 => ?_) (fun c12 => ?_)
  · rw [if_pos c12] at h
    cases h
    exact rn_er qm rfl rfl rfl
  · rw [if_neg c12] at h
    refine rn_eg qm 1 (s2 := (51, [(0, .ref u0)], [.ref u0], N, sl, rn_hp S M)) rfl ?_
    refine rn_e1 qm (s2 := (52, [(0, .ref u0)], [.ref (u0 + 4)], N, sl, rn_hp S M)) (rn_g_getf rfl rfl (en_4 hu0) rfl) ?_
    refine rn_eg qm 1 (s2 := (53, [(0, .ref u0)], [.ref u0, .ref (u0 + 4)], N, sl, rn_hp S M)) rfl ?_
    refine rn_e1 qm (s2 := (54, [(0, .ref u0)], [.int (rI S u0 5), .ref (u0 + 4)], N, sl, rn_hp S M)) (rn_g_getf rfl rfl (en_4 hu0) rfl) ?_
    refine rn_eg qm 3 (s2 := (57, [(0, .ref u0)], [.int ((rI S u0 5) - (1 : Int32)), .ref (u0 + 4), .int ((rI S u0 5) - (1 : Int32)), .ref (u0 + 4)], N, sl, rn_hp S M)) rfl ?_
    have c13 : ¬ (rn_ob ((rI S u0 5) - (1 : Int32)) 40) := fun c => by rw [if_pos c] at h; cases h
    rw [if_neg c13] at h
    refine rn_e1 qm (s2 := (58, [(0, .ref u0)], [.int (rA S (u0 + 4) (Int32.toNatClampNeg ((rI S u0 5) - (1 : Int32)))), .int ((rI S u0 5) - (1 : Int32)), .ref (u0 + 4)], N, sl, rn_hp S M)) (rn_g_iald (n := 40) rfl rfl (ar_x10 (ko_4_4 hu0).1 (ko_4_4 hu0).2.1 (ko_4_4 hu0).2.2) c13) ?_
    refine rn_eg qm 2 (s2 := (60, [(0, .ref u0)], [.int ((rA S (u0 + 4) (Int32.toNatClampNeg ((rI S u0 5) - (1 : Int32)))) + (1 : Int32)), .int ((rI S u0 5) - (1 : Int32)), .ref (u0 + 4)], N, sl, rn_hp S M)) rfl ?_
    refine rn_e1 qm (s2 := (61, [(0, .ref u0)], [], N, sl, rn_hp (wA S (u0 + 4) (Int32.toNatClampNeg ((rI S u0 5) - (1 : Int32))) ((rA S (u0 + 4) (Int32.toNatClampNeg ((rI S u0 5) - (1 : Int32)))) + (1 : Int32))) M)) (rn_g_iast (n := 40) rfl rfl (ar_x10 (ko_4_4 hu0).1 (ko_4_4 hu0).2.1 (ko_4_4 hu0).2.2) c13 (aw_x10 (ko_4_4 hu0).1 (ko_4_4 hu0).2.1 (ko_4_4 hu0).2.2)) ?_
    cases h
    exact rn_er qm rfl rfl rfl
def f138 (S : rn_T) (a0 : Nat) (a1 : Int32) : Option (rn_T) :=
  if rn_kd a0 = 4 then
    if (rI S a0 5) = 0 then
      some (S)
    else
      if rn_ob (rI (wI S a0 5 ((rI S a0 5) - (1 : Int32))) a0 5) 40 then none else
        if rn_ob (rA (wI S a0 5 ((rI S a0 5) - (1 : Int32))) (a0 + 3) (Int32.toNatClampNeg (rI (wI S a0 5 ((rI S a0 5) - (1 : Int32))) a0 5))) 40 then none else
          f138_L19 a0 a1 rn_FU (wA (wI S a0 5 ((rI S a0 5) - (1 : Int32))) (a0 + 1) (Int32.toNatClampNeg (rA (wI S a0 5 ((rI S a0 5) - (1 : Int32))) (a0 + 3) (Int32.toNatClampNeg (rI (wI S a0 5 ((rI S a0 5) - (1 : Int32))) a0 5)))) a1) (fun S11 =>
            f138_J47 S11 a0)
  else none
set_option maxHeartbeats 4000000 in
theorem E138 {X : rn_X} {N sl : Nat} {S M : rn_T} {a0 : Nat} {a1 : Int32} {R : (rn_T)} (h : f138 S a0 a1 = some R) : rn_rv X 138 (0, [(0, .ref a0), (1, .int a1)], [], N, sl, rn_hp S M) (none, N, sl, rn_hp R M) := by
  have qm := rn_m138
  unfold f138 at h
  refine rn_eg qm 1 (s2 := (1, [(0, .ref a0), (1, .int a1)], [.ref a0], N, sl, rn_hp S M)) rfl ?_
  have k1 : rn_kd a0 = 4 := Decidable.byContradiction fun c => by rw [if_neg c] at h; cases h
  rw [if_pos k1] at h
  refine rn_e1 qm (s2 := (2, [(0, .ref a0), (1, .int a1)], [.int (rI S a0 5)], N, sl, rn_hp S M)) (rn_g_getf rfl rfl (en_4 k1) rfl) ?_
  refine rn_eg qm 1 (s2 := ((if (rI S a0 5) = 0 then 3 else 4), [(0, .ref a0), (1, .int a1)], [], N, sl, rn_hp S M)) rfl ?_
  refine rn_ite (fun c2 => ?_) (fun c2 => ?_)
  · rw [if_pos c2] at h
    cases h
    exact rn_er qm rfl rfl rfl
  · rw [if_neg c2] at h
    refine rn_eg qm 2 (s2 := (6, [(0, .ref a0), (1, .int a1)], [.ref a0, .ref a0], N, sl, rn_hp S M)) rfl ?_
    refine rn_e1 qm (s2 := (7, [(0, .ref a0), (1, .int a1)], [.int (rI S a0 5), .ref a0], N, sl, rn_hp S M)) (rn_g_getf rfl rfl (en_4 k1) rfl) ?_
    refine rn_eg qm 2 (s2 := (9, [(0, .ref a0), (1, .int a1)], [.int ((rI S a0 5) - (1 : Int32)), .ref a0], N, sl, rn_hp S M)) rfl ?_
    refine rn_e1 qm (s2 := (10, [(0, .ref a0), (1, .int a1)], [], N, sl, rn_hp (wI S a0 5 ((rI S a0 5) - (1 : Int32))) M)) (rn_g_putf rfl rfl (en_4 k1) rfl rfl rfl (wf_4_5 (v := ((rI S a0 5) - (1 : Int32))) k1)) ?_
    refine rn_eg qm 1 (s2 := (11, [(0, .ref a0), (1, .int a1)], [.ref a0], N, sl, rn_hp (wI S a0 5 ((rI S a0 5) - (1 : Int32))) M)) rfl ?_
    refine rn_e1 qm (s2 := (12, [(0, .ref a0), (1, .int a1)], [.ref (a0 + 1)], N, sl, rn_hp (wI S a0 5 ((rI S a0 5) - (1 : Int32))) M)) (rn_g_getf rfl rfl (en_4 k1) rfl) ?_
    refine rn_eg qm 1 (s2 := (13, [(0, .ref a0), (1, .int a1)], [.ref a0, .ref (a0 + 1)], N, sl, rn_hp (wI S a0 5 ((rI S a0 5) - (1 : Int32))) M)) rfl ?_
    refine rn_e1 qm (s2 := (14, [(0, .ref a0), (1, .int a1)], [.ref (a0 + 3), .ref (a0 + 1)], N, sl, rn_hp (wI S a0 5 ((rI S a0 5) - (1 : Int32))) M)) (rn_g_getf rfl rfl (en_4 k1) rfl) ?_
    refine rn_eg qm 1 (s2 := (15, [(0, .ref a0), (1, .int a1)], [.ref a0, .ref (a0 + 3), .ref (a0 + 1)], N, sl, rn_hp (wI S a0 5 ((rI S a0 5) - (1 : Int32))) M)) rfl ?_
    refine rn_e1 qm (s2 := (16, [(0, .ref a0), (1, .int a1)], [.int (rI (wI S a0 5 ((rI S a0 5) - (1 : Int32))) a0 5), .ref (a0 + 3), .ref (a0 + 1)], N, sl, rn_hp (wI S a0 5 ((rI S a0 5) - (1 : Int32))) M)) (rn_g_getf rfl rfl (en_4 k1) rfl) ?_
    have c3 : ¬ (rn_ob (rI (wI S a0 5 ((rI S a0 5) - (1 : Int32))) a0 5) 40) := fun c => by rw [if_pos c] at h; cases h
    rw [if_neg c3] at h
    refine rn_e1 qm (s2 := (17, [(0, .ref a0), (1, .int a1)], [.int (rA (wI S a0 5 ((rI S a0 5) - (1 : Int32))) (a0 + 3) (Int32.toNatClampNeg (rI (wI S a0 5 ((rI S a0 5) - (1 : Int32))) a0 5))), .ref (a0 + 1)], N, sl, rn_hp (wI S a0 5 ((rI S a0 5) - (1 : Int32))) M)) (rn_g_iald (n := 40) rfl rfl (ar_x10 (ko_4_3 k1).1 (ko_4_3 k1).2.1 (ko_4_3 k1).2.2) c3) ?_
    refine rn_eg qm 1 (s2 := (18, [(0, .ref a0), (1, .int a1)], [.int a1, .int (rA (wI S a0 5 ((rI S a0 5) - (1 : Int32))) (a0 + 3) (Int32.toNatClampNeg (rI (wI S a0 5 ((rI S a0 5) - (1 : Int32))) a0 5))), .ref (a0 + 1)], N, sl, rn_hp (wI S a0 5 ((rI S a0 5) - (1 : Int32))) M)) rfl ?_
    have c4 : ¬ (rn_ob (rA (wI S a0 5 ((rI S a0 5) - (1 : Int32))) (a0 + 3) (Int32.toNatClampNeg (rI (wI S a0 5 ((rI S a0 5) - (1 : Int32))) a0 5))) 40) := fun c => by rw [if_pos c] at h; cases h
    rw [if_neg c4] at h
    refine rn_e1 qm (s2 := (19, [(0, .ref a0), (1, .int a1)], [], N, sl, rn_hp (wA (wI S a0 5 ((rI S a0 5) - (1 : Int32))) (a0 + 1) (Int32.toNatClampNeg (rA (wI S a0 5 ((rI S a0 5) - (1 : Int32))) (a0 + 3) (Int32.toNatClampNeg (rI (wI S a0 5 ((rI S a0 5) - (1 : Int32))) a0 5)))) a1) M)) (rn_g_iast (n := 40) rfl rfl (ar_x10 (ko_4_1 k1).1 (ko_4_1 k1).2.1 (ko_4_1 k1).2.2) c4 (aw_x10 (ko_4_1 k1).1 (ko_4_1 k1).2.1 (ko_4_1 k1).2.2)) ?_
    refine rn_kq qm (s2 := (19, [(0, .ref a0), (1, .int a1)], [], N, sl, rn_hp (wA (wI S a0 5 ((rI S a0 5) - (1 : Int32))) (a0 + 1) (Int32.toNatClampNeg (rA (wI S a0 5 ((rI S a0 5) - (1 : Int32))) (a0 + 3) (Int32.toNatClampNeg (rI (wI S a0 5 ((rI S a0 5) - (1 : Int32))) a0 5)))) a1) M)) rfl rfl ?_
    refine E138_L19 k1 rn_FU _ _ R ?_ h
    intro S11 h
    refine rn_kq qm (s2 := (47, [(0, .ref a0)], [], N, sl, rn_hp S11 M)) rfl rfl ?_
    exact E138_J47 k1 h
/-! 134: RecordNiches$Scan.run(LRecordNiches$Holding;I)V -/
def f134_L10 (b0 : Nat) (b1 : Nat) (b2 : Int32) (b3 : Nat) : Nat → rn_T → Int32 → (rn_T → Option (rn_T)) → Option (rn_T)
  | 0, _, _, _ => none
  | fu + 1, S, v4, k =>
    if (rI S b3 1) ≤ v4 then
      k S
    else
      if rn_ob v4 40 then none else
        Option.bind (f136 S b0 b1 b2 v4 (rA S (b3 + 1) (Int32.toNatClampNeg v4))) fun p6 =>
          if p6.1 = 0 then
            some (wI p6.2 b0 0 v4)
          else
            if p6.1 = (2 : Int32) then
              Option.bind (f138 p6.2 b0 (v4 + (1 : Int32))) fun p9 =>
                f134_L10 b0 b1 b2 b3 fu p9 (v4 + (1 : Int32)) k
            else
              f134_L10 b0 b1 b2 b3 fu p6.2 (v4 + (1 : Int32)) k
set_option maxHeartbeats 4000000 in
theorem E134_L10 {X : rn_X} {N sl : Nat} {M : rn_T} {b0 : Nat} {b1 : Nat} {b2 : Int32} {b3 : Nat} (hb0 : rn_kd b0 = 4) (hb1 : rn_kd b1 = 1) (hb3 : rn_kd b3 = 5) : ∀ (fu : Nat) (S : rn_T) (v4 : Int32) (k : (rn_T → Option (rn_T))) (R : (rn_T)), (∀ (S : rn_T), k S = some R → rn_rv X 134 (40, [(0, .ref b0), (3, .ref b3)], [], N, sl, rn_hp S M) (none, N, sl, rn_hp R M)) → f134_L10 b0 b1 b2 b3 fu S v4 k = some R → rn_rv X 134 (10, [(0, .ref b0), (1, .ref b1), (2, .int b2), (3, .ref b3), (4, .int v4)], [], N, sl, rn_hp S M) (none, N, sl, rn_hp R M) := by
  have qm := rn_m134
  intro fu
  induction fu with
  | zero => intro S v4 k R hk h; cases h
  | succ fu ih =>
    intro S v4 k R hk h
    unfold f134_L10 at h
    refine rn_eg qm 2 (s2 := (12, [(0, .ref b0), (1, .ref b1), (2, .int b2), (3, .ref b3), (4, .int v4)], [.ref b3, .int v4], N, sl, rn_hp S M)) rfl ?_
    refine rn_e1 qm (s2 := (13, [(0, .ref b0), (1, .ref b1), (2, .int b2), (3, .ref b3), (4, .int v4)], [.int (rI S b3 1), .int v4], N, sl, rn_hp S M)) (rn_g_getf rfl rfl (en_5 hb3) rfl) ?_
    refine rn_eg qm 1 (s2 := ((if (rI S b3 1) ≤ v4 then 40 else 14), [(0, .ref b0), (1, .ref b1), (2, .int b2), (3, .ref b3), (4, .int v4)], [], N, sl, rn_hp S M)) rfl ?_
    refine rn_ite (fun c4 => ?_) (fun c4 => ?_)
    · rw [if_pos c4] at h
      refine rn_kq qm (s2 := (40, [(0, .ref b0), (3, .ref b3)], [], N, sl, rn_hp S M)) rfl rfl ?_
      exact hk _ h
    · rw [if_neg c4] at h
      refine rn_eg qm 5 (s2 := (19, [(0, .ref b0), (1, .ref b1), (2, .int b2), (3, .ref b3), (4, .int v4)], [.ref b3, .int v4, .int b2, .ref b1, .ref b0], N, sl, rn_hp S M)) rfl ?_
      refine rn_e1 qm (s2 := (20, [(0, .ref b0), (1, .ref b1), (2, .int b2), (3, .ref b3), (4, .int v4)], [.ref (b3 + 1), .int v4, .int b2, .ref b1, .ref b0], N, sl, rn_hp S M)) (rn_g_getf rfl rfl (en_5 hb3) rfl) ?_
      refine rn_eg qm 1 (s2 := (21, [(0, .ref b0), (1, .ref b1), (2, .int b2), (3, .ref b3), (4, .int v4)], [.int v4, .ref (b3 + 1), .int v4, .int b2, .ref b1, .ref b0], N, sl, rn_hp S M)) rfl ?_
      have c5 : ¬ (rn_ob v4 40) := fun c => by rw [if_pos c] at h; cases h
      rw [if_neg c5] at h
      refine rn_e1 qm (s2 := (22, [(0, .ref b0), (1, .ref b1), (2, .int b2), (3, .ref b3), (4, .int v4)], [.int (rA S (b3 + 1) (Int32.toNatClampNeg v4)), .int v4, .int b2, .ref b1, .ref b0], N, sl, rn_hp S M)) (rn_g_iald (n := 40) rfl rfl (ar_x10 (ko_5_0 hb3).1 (ko_5_0 hb3).2.1 (ko_5_0 hb3).2.2) c5) ?_
      obtain ⟨p6, hp6, h⟩ := Option.bind_eq_some_iff.mp h
      refine rn_ec qm rfl rfl rfl rfl rn_m136 rfl rfl rfl (fun _ => rn_rc_of (en_4 hb0)) (E136 hp6) ?_
      refine rn_eg qm 0 (s2 := (23, [(0, .ref b0), (1, .ref b1), (2, .int b2), (3, .ref b3), (4, .int v4)], [.int p6.1], N, sl, rn_hp p6.2 M)) rfl ?_
      refine rn_eg qm 3 (s2 := ((if p6.1 = 0 then 26 else 30), [(5, .int p6.1), (0, .ref b0), (1, .ref b1), (2, .int b2), (3, .ref b3), (4, .int v4)], [], N, sl, rn_hp p6.2 M)) rfl ?_
      refine rn_ite (fun c7 => ?_) (fun c7 => ?_)
      · rw [if_pos c7] at h
        refine rn_eg qm 2 (s2 := (28, [(5, .int p6.1), (0, .ref b0), (1, .ref b1), (2, .int b2), (3, .ref b3), (4, .int v4)], [.int v4, .ref b0], N, sl, rn_hp p6.2 M)) rfl ?_
        refine rn_e1 qm (s2 := (29, [(5, .int p6.1), (0, .ref b0), (1, .ref b1), (2, .int b2), (3, .ref b3), (4, .int v4)], [], N, sl, rn_hp (wI p6.2 b0 0 v4) M)) (rn_g_putf rfl rfl (en_4 hb0) rfl rfl rfl (wf_4_0 (v := v4) hb0)) ?_
        cases h
        exact rn_er qm rfl rfl rfl
      · rw [if_neg c7] at h
        refine rn_eg qm 3 (s2 := ((if p6.1 = (2 : Int32) then 33 else 38), [(5, .int p6.1), (0, .ref b0), (1, .ref b1), (2, .int b2), (3, .ref b3), (4, .int v4)], [], N, sl, rn_hp p6.2 M)) rfl ?_
        refine rn_ite (fun c8 => ?_) (fun c8 => ?_)
        · rw [if_pos c8] at h
          refine rn_eg qm 4 (s2 := (37, [(5, .int p6.1), (0, .ref b0), (1, .ref b1), (2, .int b2), (3, .ref b3), (4, .int v4)], [.int (v4 + (1 : Int32)), .ref b0], N, sl, rn_hp p6.2 M)) rfl ?_
          obtain ⟨p9, hp9, h⟩ := Option.bind_eq_some_iff.mp h
          refine rn_ec qm rfl rfl rfl rfl rn_m138 rfl rfl rfl (fun _ => rn_rc_of (en_4 hb0)) (E138 hp9) ?_
          refine rn_eg qm 0 (s2 := (38, [(5, .int p6.1), (0, .ref b0), (1, .ref b1), (2, .int b2), (3, .ref b3), (4, .int v4)], [], N, sl, rn_hp p9 M)) rfl ?_
          refine rn_eg qm 2 (s2 := (10, [(4, .int (v4 + (1 : Int32))), (0, .ref b0), (1, .ref b1), (2, .int b2), (3, .ref b3)], [], N, sl, rn_hp p9 M)) rfl ?_
          refine rn_kq qm (s2 := (10, [(0, .ref b0), (1, .ref b1), (2, .int b2), (3, .ref b3), (4, .int (v4 + (1 : Int32)))], [], N, sl, rn_hp p9 M)) rfl rfl ?_
          exact ih _ _ k R hk h
        · rw [if_neg c8] at h
          refine rn_eg qm 2 (s2 := (10, [(4, .int (v4 + (1 : Int32))), (0, .ref b0), (1, .ref b1), (2, .int b2), (3, .ref b3)], [], N, sl, rn_hp p6.2 M)) rfl ?_
          refine rn_kq qm (s2 := (10, [(0, .ref b0), (1, .ref b1), (2, .int b2), (3, .ref b3), (4, .int (v4 + (1 : Int32)))], [], N, sl, rn_hp p6.2 M)) rfl rfl ?_
          exact ih _ _ k R hk h
def f134 (S : rn_T) (a0 : Nat) (a1 : Nat) (a2 : Int32) : Option (rn_T) :=
  if rn_kd a1 = 1 then
    if rn_ob a2 8 then none else
      if rn_kd a0 = 4 then
        f134_L10 a0 a1 a2 (a1 + 4 + 2 * (Int32.toNatClampNeg a2)) rn_FU (wI S a0 5 (0 : Int32)) (0 : Int32) (fun S10 =>
          if (rI S10 (a1 + 4 + 2 * (Int32.toNatClampNeg a2)) 1) ≤ 0 then
            some (wI S10 a0 0 (rI S10 (a1 + 4 + 2 * (Int32.toNatClampNeg a2)) 1))
          else
            if (rI S10 a0 5) = 0 then
              some (wI S10 a0 0 (-6 : Int32))
            else
              some (wI S10 a0 0 (rI S10 (a1 + 4 + 2 * (Int32.toNatClampNeg a2)) 1)))
      else none
  else none
set_option maxHeartbeats 4000000 in
theorem E134 {X : rn_X} {N sl : Nat} {S M : rn_T} {a0 : Nat} {a1 : Nat} {a2 : Int32} {R : (rn_T)} (h : f134 S a0 a1 a2 = some R) : rn_rv X 134 (0, [(0, .ref a0), (1, .ref a1), (2, .int a2)], [], N, sl, rn_hp S M) (none, N, sl, rn_hp R M) := by
  have qm := rn_m134
  unfold f134 at h
  refine rn_eg qm 1 (s2 := (1, [(0, .ref a0), (1, .ref a1), (2, .int a2)], [.ref a1], N, sl, rn_hp S M)) rfl ?_
  have k1 : rn_kd a1 = 1 := Decidable.byContradiction fun c => by rw [if_neg c] at h; cases h
  rw [if_pos k1] at h
  refine rn_e1 qm (s2 := (2, [(0, .ref a0), (1, .ref a1), (2, .int a2)], [.ref (a1 + 1)], N, sl, rn_hp S M)) (rn_g_getf rfl rfl (en_1 k1) rfl) ?_
  refine rn_eg qm 1 (s2 := (3, [(0, .ref a0), (1, .ref a1), (2, .int a2)], [.int a2, .ref (a1 + 1)], N, sl, rn_hp S M)) rfl ?_
  have c2 : ¬ (rn_ob a2 8) := fun c => by rw [if_pos c] at h; cases h
  rw [if_neg c2] at h
  refine rn_e1 qm (s2 := (4, [(0, .ref a0), (1, .ref a1), (2, .int a2)], [.ref (a1 + 4 + 2 * (Int32.toNatClampNeg a2))], N, sl, rn_hp S M)) (rn_g_aald (r := some (a1 + 4 + 2 * (Int32.toNatClampNeg a2))) rfl rfl (ar_x20 (ko_1_0 k1).1 (ko_1_0 k1).2.2) c2 (rn_cr_at (rn_ob_lt c2))) ?_
  refine rn_eg qm 3 (s2 := (7, [(3, .ref (a1 + 4 + 2 * (Int32.toNatClampNeg a2))), (0, .ref a0), (1, .ref a1), (2, .int a2)], [.int (0 : Int32), .ref a0], N, sl, rn_hp S M)) rfl ?_
  have k3 : rn_kd a0 = 4 := Decidable.byContradiction fun c => by rw [if_neg c] at h; cases h
  rw [if_pos k3] at h
  refine rn_e1 qm (s2 := (8, [(3, .ref (a1 + 4 + 2 * (Int32.toNatClampNeg a2))), (0, .ref a0), (1, .ref a1), (2, .int a2)], [], N, sl, rn_hp (wI S a0 5 (0 : Int32)) M)) (rn_g_putf rfl rfl (en_4 k3) rfl rfl rfl (wf_4_5 (v := (0 : Int32)) k3)) ?_
  refine rn_eg qm 2 (s2 := (10, [(4, .int (0 : Int32)), (3, .ref (a1 + 4 + 2 * (Int32.toNatClampNeg a2))), (0, .ref a0), (1, .ref a1), (2, .int a2)], [], N, sl, rn_hp (wI S a0 5 (0 : Int32)) M)) rfl ?_
  refine rn_kq qm (s2 := (10, [(0, .ref a0), (1, .ref a1), (2, .int a2), (3, .ref (a1 + 4 + 2 * (Int32.toNatClampNeg a2))), (4, .int (0 : Int32))], [], N, sl, rn_hp (wI S a0 5 (0 : Int32)) M)) rfl rfl ?_
  refine E134_L10 k3 k1 (show rn_kd (a1 + 4 + 2 * (Int32.toNatClampNeg a2)) = 5 from ck_20 (ko_1_0 k1).1 (rn_ob_lt c2)) rn_FU _ _ _ R ?_ h
  intro S10 h
  refine rn_eg qm 2 (s2 := (42, [(0, .ref a0), (3, .ref (a1 + 4 + 2 * (Int32.toNatClampNeg a2)))], [.ref (a1 + 4 + 2 * (Int32.toNatClampNeg a2)), .ref a0], N, sl, rn_hp S10 M)) rfl ?_
  refine rn_e1 qm (s2 := (43, [(0, .ref a0), (3, .ref (a1 + 4 + 2 * (Int32.toNatClampNeg a2)))], [.int (rI S10 (a1 + 4 + 2 * (Int32.toNatClampNeg a2)) 1), .ref a0], N, sl, rn_hp S10 M)) (rn_g_getf rfl rfl (en_5 (show rn_kd (a1 + 4 + 2 * (Int32.toNatClampNeg a2)) = 5 from ck_20 (ko_1_0 k1).1 (rn_ob_lt c2))) rfl) ?_
  refine rn_eg qm 1 (s2 := ((if (rI S10 (a1 + 4 + 2 * (Int32.toNatClampNeg a2)) 1) ≤ 0 then 49 else 44), [(0, .ref a0), (3, .ref (a1 + 4 + 2 * (Int32.toNatClampNeg a2)))], [.ref a0], N, sl, rn_hp S10 M)) rfl ?_
  refine rn_ite (fun c11 => ?_) (fun c11 => ?_)
  · rw [if_pos c11] at h
    refine rn_eg qm 1 (s2 := (50, [(3, .ref (a1 + 4 + 2 * (Int32.toNatClampNeg a2)))], [.ref (a1 + 4 + 2 * (Int32.toNatClampNeg a2)), .ref a0], N, sl, rn_hp S10 M)) rfl ?_
    refine rn_e1 qm (s2 := (51, [(3, .ref (a1 + 4 + 2 * (Int32.toNatClampNeg a2)))], [.int (rI S10 (a1 + 4 + 2 * (Int32.toNatClampNeg a2)) 1), .ref a0], N, sl, rn_hp S10 M)) (rn_g_getf rfl rfl (en_5 (show rn_kd (a1 + 4 + 2 * (Int32.toNatClampNeg a2)) = 5 from ck_20 (ko_1_0 k1).1 (rn_ob_lt c2))) rfl) ?_
    refine rn_e1 qm (s2 := (52, [], [], N, sl, rn_hp (wI S10 a0 0 (rI S10 (a1 + 4 + 2 * (Int32.toNatClampNeg a2)) 1)) M)) (rn_g_putf rfl rfl (en_4 k3) rfl rfl rfl (wf_4_0 (v := (rI S10 (a1 + 4 + 2 * (Int32.toNatClampNeg a2)) 1)) k3)) ?_
    cases h
    exact rn_er qm rfl rfl rfl
  · rw [if_neg c11] at h
    refine rn_eg qm 1 (s2 := (45, [(0, .ref a0), (3, .ref (a1 + 4 + 2 * (Int32.toNatClampNeg a2)))], [.ref a0, .ref a0], N, sl, rn_hp S10 M)) rfl ?_
    refine rn_e1 qm (s2 := (46, [(0, .ref a0), (3, .ref (a1 + 4 + 2 * (Int32.toNatClampNeg a2)))], [.int (rI S10 a0 5), .ref a0], N, sl, rn_hp S10 M)) (rn_g_getf rfl rfl (en_4 k3) rfl) ?_
    refine rn_eg qm 1 (s2 := ((if (rI S10 a0 5) = 0 then 47 else 49), [(0, .ref a0), (3, .ref (a1 + 4 + 2 * (Int32.toNatClampNeg a2)))], [.ref a0], N, sl, rn_hp S10 M)) rfl ?_
    refine rn_ite (fun c12 => ?_) (fun c12 => ?_)
    · rw [if_pos c12] at h
      refine rn_eg qm 2 (s2 := (51, [(0, .ref a0), (3, .ref (a1 + 4 + 2 * (Int32.toNatClampNeg a2)))], [.int (-6 : Int32), .ref a0], N, sl, rn_hp S10 M)) rfl ?_
      refine rn_e1 qm (s2 := (52, [], [], N, sl, rn_hp (wI S10 a0 0 (-6 : Int32)) M)) (rn_g_putf rfl rfl (en_4 k3) rfl rfl rfl (wf_4_0 (v := (-6 : Int32)) k3)) ?_
      cases h
      exact rn_er qm rfl rfl rfl
    · rw [if_neg c12] at h
      refine rn_eg qm 1 (s2 := (50, [(3, .ref (a1 + 4 + 2 * (Int32.toNatClampNeg a2)))], [.ref (a1 + 4 + 2 * (Int32.toNatClampNeg a2)), .ref a0], N, sl, rn_hp S10 M)) rfl ?_
      refine rn_e1 qm (s2 := (51, [(3, .ref (a1 + 4 + 2 * (Int32.toNatClampNeg a2)))], [.int (rI S10 (a1 + 4 + 2 * (Int32.toNatClampNeg a2)) 1), .ref a0], N, sl, rn_hp S10 M)) (rn_g_getf rfl rfl (en_5 (show rn_kd (a1 + 4 + 2 * (Int32.toNatClampNeg a2)) = 5 from ck_20 (ko_1_0 k1).1 (rn_ob_lt c2))) rfl) ?_
      refine rn_e1 qm (s2 := (52, [], [], N, sl, rn_hp (wI S10 a0 0 (rI S10 (a1 + 4 + 2 * (Int32.toNatClampNeg a2)) 1)) M)) (rn_g_putf rfl rfl (en_4 k3) rfl rfl rfl (wf_4_0 (v := (rI S10 (a1 + 4 + 2 * (Int32.toNatClampNeg a2)) 1)) k3)) ?_
      cases h
      exact rn_er qm rfl rfl rfl
/-! 3: RecordNiches.fault(I)I -/
def f3 (S : rn_T) (a1 : Int32) : Option (Int32 × rn_T) :=
  if (f22 a1) = true then
    if rn_ob a1 8 then none else
      Option.bind (f134 S (26 + 5 * (Int32.toNatClampNeg a1)) 1 a1) fun p4 =>
        some ((rI p4 (26 + 5 * (Int32.toNatClampNeg a1)) 0), p4)
  else
    some ((-1 : Int32), S)
set_option maxHeartbeats 4000000 in
theorem E3 {X : rn_X} {N sl : Nat} {S M : rn_T} {a1 : Int32} {R : (Int32 × rn_T)} (h : f3 S a1 = some R) : rn_rv X 3 (0, [(0, .ref 0), (1, .int a1)], [], N, sl, rn_hp S M) (some (.int R.1), N, sl, rn_hp R.2 M) := by
  have qm := rn_m3
  unfold f3 at h
  refine rn_eg qm 1 (s2 := (1, [(0, .ref 0), (1, .int a1)], [.int a1], N, sl, rn_hp S M)) rfl ?_
  refine rn_ec qm rfl rfl rfl rfl rn_m22 rfl rfl rfl (fun h => by cases h) (E22 rfl) ?_
  refine rn_eg qm 0 (s2 := (2, [(0, .ref 0), (1, .int a1)], [.int (rn_bi (f22 a1))], N, sl, rn_hp S M)) rfl ?_
  refine rn_eg qm 1 (s2 := ((if (rn_bi (f22 a1)) = 0 then 3 else 5), [(0, .ref 0), (1, .int a1)], [], N, sl, rn_hp S M)) rfl ?_
  refine rn_iteb (fun c2 => ?_) (fun c2 => ?_)
  · rw [if_neg (rn_bf c2)] at h
    refine rn_eg qm 1 (s2 := (4, [(0, .ref 0), (1, .int a1)], [.int (-1 : Int32)], N, sl, rn_hp S M)) rfl ?_
    cases h
    exact rn_er qm rfl rfl rfl
  · rw [if_pos c2] at h
    refine rn_eg qm 4 (s2 := (9, [(0, .ref 0), (1, .int a1)], [.int a1, .ref 24], N, sl, rn_hp S M)) rfl ?_
    have c3 : ¬ (rn_ob a1 8) := fun c => by rw [if_pos c] at h; cases h
    rw [if_neg c3] at h
    refine rn_e1 qm (s2 := (10, [(0, .ref 0), (1, .int a1)], [.ref (26 + 5 * (Int32.toNatClampNeg a1))], N, sl, rn_hp S M)) (rn_g_aald (r := some (26 + 5 * (Int32.toNatClampNeg a1))) rfl rfl (ar_x22 (q := 24) rfl (Nat.le_of_ble_eq_true rfl)) c3 (rn_cr_at (rn_ob_lt c3))) ?_
    refine rn_eg qm 5 (s2 := (15, [(2, .ref (26 + 5 * (Int32.toNatClampNeg a1))), (0, .ref 0), (1, .int a1)], [.int a1, .ref 1, .ref (26 + 5 * (Int32.toNatClampNeg a1))], N, sl, rn_hp S M)) rfl ?_
    obtain ⟨p4, hp4, h⟩ := Option.bind_eq_some_iff.mp h
    refine rn_ec qm rfl rfl rfl rfl rn_m134 rfl rfl rfl (fun _ => rn_rc_of (en_4 (show rn_kd (26 + 5 * (Int32.toNatClampNeg a1)) = 4 from ck_22 (q := 24) rfl (rn_ob_lt c3)))) (E134 hp4) ?_
    refine rn_eg qm 0 (s2 := (16, [(2, .ref (26 + 5 * (Int32.toNatClampNeg a1))), (0, .ref 0), (1, .int a1)], [], N, sl, rn_hp p4 M)) rfl ?_
    refine rn_eg qm 1 (s2 := (17, [(2, .ref (26 + 5 * (Int32.toNatClampNeg a1))), (0, .ref 0), (1, .int a1)], [.ref (26 + 5 * (Int32.toNatClampNeg a1))], N, sl, rn_hp p4 M)) rfl ?_
    refine rn_e1 qm (s2 := (18, [(2, .ref (26 + 5 * (Int32.toNatClampNeg a1))), (0, .ref 0), (1, .int a1)], [.int (rI p4 (26 + 5 * (Int32.toNatClampNeg a1)) 0)], N, sl, rn_hp p4 M)) (rn_g_getf rfl rfl (en_4 (show rn_kd (26 + 5 * (Int32.toNatClampNeg a1)) = 4 from ck_22 (q := 24) rfl (rn_ob_lt c3))) rfl) ?_
    cases h
    exact rn_er qm rfl rfl rfl
/-! 4: RecordNiches.way(I)I -/
def f4 (S : rn_T) (a1 : Int32) : Option (Int32 × rn_T) :=
  if a1 < 0 then
    some ((-2 : Int32), S)
  else
    if a1 ≤ (1 : Int32) then
      some ((rI S 1 4), wI S 1 4 a1)
    else
      some ((-2 : Int32), S)
set_option maxHeartbeats 4000000 in
theorem E4 {X : rn_X} {N sl : Nat} {S M : rn_T} {a1 : Int32} {R : (Int32 × rn_T)} (h : f4 S a1 = some R) : rn_rv X 4 (0, [(0, .ref 0), (1, .int a1)], [], N, sl, rn_hp S M) (some (.int R.1), N, sl, rn_hp R.2 M) := by
  have qm := rn_m4
  unfold f4 at h
  refine rn_eg qm 2 (s2 := ((if a1 < 0 then 5 else 2), [(0, .ref 0), (1, .int a1)], [], N, sl, rn_hp S M)) rfl ?_
  refine rn_ite (fun c1 => ?_) (fun c1 => ?_)
  · rw [if_pos c1] at h
    refine rn_eg qm 1 (s2 := (6, [], [.int (-2 : Int32)], N, sl, rn_hp S M)) rfl ?_
    cases h
    exact rn_er qm rfl rfl rfl
  · rw [if_neg c1] at h
    refine rn_eg qm 3 (s2 := ((if a1 ≤ (1 : Int32) then 7 else 5), [(0, .ref 0), (1, .int a1)], [], N, sl, rn_hp S M)) rfl ?_
    refine rn_ite (fun c2 => ?_) (fun c2 => ?_)
    · rw [if_pos c2] at h
      refine rn_eg qm 7 (s2 := (14, [(2, .int (rI S 1 4)), (0, .ref 0), (1, .int a1)], [.int a1, .ref 1], N, sl, rn_hp S M)) rfl ?_
      refine rn_e1 qm (s2 := (15, [(2, .int (rI S 1 4)), (0, .ref 0), (1, .int a1)], [], N, sl, rn_hp (wI S 1 4 a1) M)) (rn_g_putf rfl rfl (en_1 rfl) rfl rfl rfl (wf_1_4 (v := a1) rfl)) ?_
      refine rn_eg qm 1 (s2 := (16, [(2, .int (rI S 1 4)), (0, .ref 0), (1, .int a1)], [.int (rI S 1 4)], N, sl, rn_hp (wI S 1 4 a1) M)) rfl ?_
      cases h
      exact rn_er qm rfl rfl rfl
    · rw [if_neg c2] at h
      refine rn_eg qm 1 (s2 := (6, [], [.int (-2 : Int32)], N, sl, rn_hp S M)) rfl ?_
      cases h
      exact rn_er qm rfl rfl rfl
/-! 114: RecordNiches$Holding.isOpen(I)Z -/
def f114 (S : rn_T) (a0 : Nat) (a1 : Int32) : Option Bool :=
  if (f22 a1) = true then
    if rn_kd a0 = 1 then
      if rn_ob a1 8 then none else
        Option.bind (f142 S (a0 + 4 + 2 * (Int32.toNatClampNeg a1)) (120 : Int32)) fun p5 =>
          if p5 = true then
            some true
          else
            some false
    else none
  else
    some false
set_option maxHeartbeats 4000000 in
theorem E114 {X : rn_X} {N sl : Nat} {S M : rn_T} {a0 : Nat} {a1 : Int32} {R : (Bool)} (h : f114 S a0 a1 = some R) : rn_rv X 114 (0, [(0, .ref a0), (1, .int a1)], [], N, sl, rn_hp S M) (some (.int (rn_bi R)), N, sl, rn_hp S M) := by
  have qm := rn_m114
  unfold f114 at h
  refine rn_eg qm 1 (s2 := (1, [(0, .ref a0), (1, .int a1)], [.int a1], N, sl, rn_hp S M)) rfl ?_
  refine rn_ec qm rfl rfl rfl rfl rn_m22 rfl rfl rfl (fun h => by cases h) (E22 rfl) ?_
  refine rn_eg qm 0 (s2 := (2, [(0, .ref a0), (1, .int a1)], [.int (rn_bi (f22 a1))], N, sl, rn_hp S M)) rfl ?_
  refine rn_eg qm 1 (s2 := ((if (rn_bi (f22 a1)) = 0 then 12 else 3), [(0, .ref a0), (1, .int a1)], [], N, sl, rn_hp S M)) rfl ?_
  refine rn_iteb (fun c2 => ?_) (fun c2 => ?_)
  · rw [if_neg (rn_bf c2)] at h
    refine rn_eg qm 1 (s2 := (13, [], [.int (0 : Int32)], N, sl, rn_hp S M)) rfl ?_
    cases h
    exact rn_er qm rfl rfl rn_rt0
  · rw [if_pos c2] at h
    refine rn_eg qm 1 (s2 := (4, [(0, .ref a0), (1, .int a1)], [.ref a0], N, sl, rn_hp S M)) rfl ?_
    have k3 : rn_kd a0 = 1 := Decidable.byContradiction fun c => by rw [if_neg c] at h; cases h
    rw [if_pos k3] at h
    refine rn_e1 qm (s2 := (5, [(0, .ref a0), (1, .int a1)], [.ref (a0 + 1)], N, sl, rn_hp S M)) (rn_g_getf rfl rfl (en_1 k3) rfl) ?_
    refine rn_eg qm 1 (s2 := (6, [(0, .ref a0), (1, .int a1)], [.int a1, .ref (a0 + 1)], N, sl, rn_hp S M)) rfl ?_
    have c4 : ¬ (rn_ob a1 8) := fun c => by rw [if_pos c] at h; cases h
    rw [if_neg c4] at h
    refine rn_e1 qm (s2 := (7, [(0, .ref a0), (1, .int a1)], [.ref (a0 + 4 + 2 * (Int32.toNatClampNeg a1))], N, sl, rn_hp S M)) (rn_g_aald (r := some (a0 + 4 + 2 * (Int32.toNatClampNeg a1))) rfl rfl (ar_x20 (ko_1_0 k3).1 (ko_1_0 k3).2.2) c4 (rn_cr_at (rn_ob_lt c4))) ?_
    refine rn_eg qm 1 (s2 := (8, [(0, .ref a0), (1, .int a1)], [.int (120 : Int32), .ref (a0 + 4 + 2 * (Int32.toNatClampNeg a1))], N, sl, rn_hp S M)) rfl ?_
    obtain ⟨p5, hp5, h⟩ := Option.bind_eq_some_iff.mp h
    refine rn_ec qm rfl rfl rfl rfl rn_m142 rfl rfl rfl (fun _ => rn_rc_of (en_5 (show rn_kd (a0 + 4 + 2 * (Int32.toNatClampNeg a1)) = 5 from ck_20 (ko_1_0 k3).1 (rn_ob_lt c4)))) (E142 hp5) ?_
    refine rn_eg qm 0 (s2 := (9, [(0, .ref a0), (1, .int a1)], [.int (rn_bi p5)], N, sl, rn_hp S M)) rfl ?_
    refine rn_eg qm 1 (s2 := ((if (rn_bi p5) = 0 then 12 else 10), [(0, .ref a0), (1, .int a1)], [], N, sl, rn_hp S M)) rfl ?_
    refine rn_iteb (fun c6 => ?_) (fun c6 => ?_)
    · rw [if_neg (rn_bf c6)] at h
      refine rn_eg qm 1 (s2 := (13, [], [.int (0 : Int32)], N, sl, rn_hp S M)) rfl ?_
      cases h
      exact rn_er qm rfl rfl rn_rt0
    · rw [if_pos c6] at h
      refine rn_eg qm 2 (s2 := (13, [(0, .ref a0), (1, .int a1)], [.int (1 : Int32)], N, sl, rn_hp S M)) rfl ?_
      cases h
      exact rn_er qm rfl rfl rn_rt1
/-! 23: RecordNiches.isKnown(II)Z -/
def f23 (S : rn_T) (a1 : Int32) (a2 : Int32) : Option Bool :=
  if (f22 a1) = true then
    Option.bind (f114 S 1 a1) fun p3 =>
      if p3 = true then
        if (f22 a2) = true then
          Option.bind (f114 S 1 a2) fun p8 =>
            if p8 = true then
              some false
            else
              some true
        else
          some false
      else
        if a2 = (-1 : Int32) then
          some true
        else
          some false
  else
    some false
set_option maxHeartbeats 4000000 in
theorem E23 {X : rn_X} {N sl : Nat} {S M : rn_T} {a1 : Int32} {a2 : Int32} {R : (Bool)} (h : f23 S a1 a2 = some R) : rn_rv X 23 (0, [(0, .ref 0), (1, .int a1), (2, .int a2)], [], N, sl, rn_hp S M) (some (.int (rn_bi R)), N, sl, rn_hp S M) := by
  have qm := rn_m23
  unfold f23 at h
  refine rn_eg qm 1 (s2 := (1, [(0, .ref 0), (1, .int a1), (2, .int a2)], [.int a1], N, sl, rn_hp S M)) rfl ?_
  refine rn_ec qm rfl rfl rfl rfl rn_m22 rfl rfl rfl (fun h => by cases h) (E22 rfl) ?_
  refine rn_eg qm 0 (s2 := (2, [(0, .ref 0), (1, .int a1), (2, .int a2)], [.int (rn_bi (f22 a1))], N, sl, rn_hp S M)) rfl ?_
  refine rn_eg qm 1 (s2 := ((if (rn_bi (f22 a1)) = 0 then 3 else 5), [(0, .ref 0), (1, .int a1), (2, .int a2)], [], N, sl, rn_hp S M)) rfl ?_
  refine rn_iteb (fun c2 => ?_) (fun c2 => ?_)
  · rw [if_neg (rn_bf c2)] at h
    refine rn_eg qm 1 (s2 := (4, [(0, .ref 0), (1, .int a1), (2, .int a2)], [.int (0 : Int32)], N, sl, rn_hp S M)) rfl ?_
    cases h
    exact rn_er qm rfl rfl rn_rt0
  · rw [if_pos c2] at h
    refine rn_eg qm 3 (s2 := (8, [(0, .ref 0), (1, .int a1), (2, .int a2)], [.int a1, .ref 1], N, sl, rn_hp S M)) rfl ?_
    obtain ⟨p3, hp3, h⟩ := Option.bind_eq_some_iff.mp h
    refine rn_ec qm rfl rfl rfl rfl rn_m114 rfl rfl rfl (fun _ => rn_rc_of (en_1 (q := 1) rfl)) (E114 hp3) ?_
    refine rn_eg qm 0 (s2 := (9, [(0, .ref 0), (1, .int a1), (2, .int a2)], [.int (rn_bi p3)], N, sl, rn_hp S M)) rfl ?_
    refine rn_eg qm 1 (s2 := ((if (rn_bi p3) = 0 then 10 else 17), [(0, .ref 0), (1, .int a1), (2, .int a2)], [], N, sl, rn_hp S M)) rfl ?_
    refine rn_iteb (fun c4 => ?_) (fun c4 => ?_)
    · rw [if_neg (rn_bf c4)] at h
      refine rn_eg qm 3 (s2 := ((if a2 = (-1 : Int32) then 13 else 15), [(0, .ref 0), (1, .int a1), (2, .int a2)], [], N, sl, rn_hp S M)) rfl ?_
      refine rn_ite (fun c5 => ?_) (fun c5 => ?_)
      · rw [if_pos c5] at h
        refine rn_eg qm 2 (s2 := (16, [(0, .ref 0), (1, .int a1), (2, .int a2)], [.int (1 : Int32)], N, sl, rn_hp S M)) rfl ?_
        cases h
        exact rn_er qm rfl rfl rn_rt1
      · rw [if_neg c5] at h
        refine rn_eg qm 1 (s2 := (16, [(0, .ref 0), (1, .int a1), (2, .int a2)], [.int (0 : Int32)], N, sl, rn_hp S M)) rfl ?_
        cases h
        exact rn_er qm rfl rfl rn_rt0
    · rw [if_pos c4] at h
      refine rn_eg qm 1 (s2 := (18, [(0, .ref 0), (1, .int a1), (2, .int a2)], [.int a2], N, sl, rn_hp S M)) rfl ?_
      refine rn_ec qm rfl rfl rfl rfl rn_m22 rfl rfl rfl (fun h => by cases h) (E22 rfl) ?_
      refine rn_eg qm 0 (s2 := (19, [(0, .ref 0), (1, .int a1), (2, .int a2)], [.int (rn_bi (f22 a2))], N, sl, rn_hp S M)) rfl ?_
      refine rn_eg qm 1 (s2 := ((if (rn_bi (f22 a2)) = 0 then 27 else 20), [(0, .ref 0), (1, .int a1), (2, .int a2)], [], N, sl, rn_hp S M)) rfl ?_
      refine rn_iteb (fun c7 => ?_) (fun c7 => ?_)
      · rw [if_neg (rn_bf c7)] at h
        refine rn_eg qm 1 (s2 := (28, [], [.int (0 : Int32)], N, sl, rn_hp S M)) rfl ?_
        cases h
        exact rn_er qm rfl rfl rn_rt0
      · rw [if_pos c7] at h
        refine rn_eg qm 3 (s2 := (23, [(0, .ref 0), (1, .int a1), (2, .int a2)], [.int a2, .ref 1], N, sl, rn_hp S M)) rfl ?_
        obtain ⟨p8, hp8, h⟩ := Option.bind_eq_some_iff.mp h
        refine rn_ec qm rfl rfl rfl rfl rn_m114 rfl rfl rfl (fun _ => rn_rc_of (en_1 (q := 1) rfl)) (E114 hp8) ?_
        refine rn_eg qm 0 (s2 := (24, [(0, .ref 0), (1, .int a1), (2, .int a2)], [.int (rn_bi p8)], N, sl, rn_hp S M)) rfl ?_
        refine rn_eg qm 1 (s2 := ((if (rn_bi p8) = 0 then 25 else 27), [(0, .ref 0), (1, .int a1), (2, .int a2)], [], N, sl, rn_hp S M)) rfl ?_
        refine rn_iteb (fun c9 => ?_) (fun c9 => ?_)
        · rw [if_neg (rn_bf c9)] at h
          refine rn_eg qm 2 (s2 := (28, [(0, .ref 0), (1, .int a1), (2, .int a2)], [.int (1 : Int32)], N, sl, rn_hp S M)) rfl ?_
          cases h
          exact rn_er qm rfl rfl rn_rt1
        · rw [if_pos c9] at h
          refine rn_eg qm 1 (s2 := (28, [], [.int (0 : Int32)], N, sl, rn_hp S M)) rfl ?_
          cases h
          exact rn_er qm rfl rfl rn_rt0
