/-! 57: RecordNichesModel.child(II)I -/
def f57_L4 (b1 : Int32) (b2 : Int32) : Nat → rn_T → Int32 → (rn_T → Option Int32) → Option Int32
  | 0, _, _, _ => none
  | fu + 1, M, v3, k =>
    if (rI M 318 10) ≤ v3 then
      k M
    else
      if rn_ob v3 101 then none else
        if (rA M 324 (Int32.toNatClampNeg v3)) = b1 then
          if (rA M 325 (Int32.toNatClampNeg v3)) = b2 then
            some v3
          else
            f57_L4 b1 b2 fu M (v3 + (1 : Int32)) k
        else
          f57_L4 b1 b2 fu M (v3 + (1 : Int32)) k
set_option maxHeartbeats 4000000 in
theorem E57_L4 {X : rn_X} {N sl : Nat} {S : rn_T} {b1 : Int32} {b2 : Int32} : ∀ (fu : Nat) (M : rn_T) (v3 : Int32) (k : (rn_T → Option Int32)) (R : (Int32)), (∀ (M : rn_T), k M = some R → rn_rv X 57 (24, [], [], N, sl, rn_hp S M) (some (.int R), N, sl, rn_hp S M)) → f57_L4 b1 b2 fu M v3 k = some R → rn_rv X 57 (4, [(0, .ref 318), (1, .int b1), (2, .int b2), (3, .int v3)], [], N, sl, rn_hp S M) (some (.int R), N, sl, rn_hp S M) := by
  have qm := rn_m57
  intro fu
  induction fu with
  | zero => intro M v3 k R hk h; cases h
  | succ fu ih =>
    intro M v3 k R hk h
    unfold f57_L4 at h
    refine rn_eg qm 4 (s2 := ((if (rI M 318 10) ≤ v3 then 24 else 8), [(0, .ref 318), (1, .int b1), (2, .int b2), (3, .int v3)], [], N, sl, rn_hp S M)) rfl ?_
    refine rn_ite (fun c1 => ?_) (fun c1 => ?_)
    · rw [if_pos c1] at h
      refine rn_kq qm (s2 := (24, [], [], N, sl, rn_hp S M)) rfl rfl ?_
      exact hk _ h
    · rw [if_neg c1] at h
      refine rn_eg qm 3 (s2 := (11, [(0, .ref 318), (1, .int b1), (2, .int b2), (3, .int v3)], [.int v3, .ref 324], N, sl, rn_hp S M)) rfl ?_
      have c2 : ¬ (rn_ob v3 101) := fun c => by rw [if_pos c] at h; cases h
      rw [if_neg c2] at h
      refine rn_e1 qm (s2 := (12, [(0, .ref 318), (1, .int b1), (2, .int b2), (3, .int v3)], [.int (rA M 324 (Int32.toNatClampNeg v3))], N, sl, rn_hp S M)) (rn_g_iald (n := 101) rfl rfl (ar_m10 rfl rfl (Nat.le_of_ble_eq_true rfl)) c2) ?_
      refine rn_eg qm 2 (s2 := ((if (rA M 324 (Int32.toNatClampNeg v3)) = b1 then 14 else 22), [(0, .ref 318), (1, .int b1), (2, .int b2), (3, .int v3)], [], N, sl, rn_hp S M)) rfl ?_
      refine rn_ite (fun c3 => ?_) (fun c3 => ?_)
      · rw [if_pos c3] at h
        refine rn_eg qm 3 (s2 := (17, [(0, .ref 318), (1, .int b1), (2, .int b2), (3, .int v3)], [.int v3, .ref 325], N, sl, rn_hp S M)) rfl ?_
        refine rn_e1 qm (s2 := (18, [(0, .ref 318), (1, .int b1), (2, .int b2), (3, .int v3)], [.int (rA M 325 (Int32.toNatClampNeg v3))], N, sl, rn_hp S M)) (rn_g_iald (n := 101) rfl rfl (ar_m10 rfl rfl (Nat.le_of_ble_eq_true rfl)) c2) ?_
        refine rn_eg qm 2 (s2 := ((if (rA M 325 (Int32.toNatClampNeg v3)) = b2 then 20 else 22), [(0, .ref 318), (1, .int b1), (2, .int b2), (3, .int v3)], [], N, sl, rn_hp S M)) rfl ?_
        refine rn_ite (fun c4 => ?_) (fun c4 => ?_)
        · rw [if_pos c4] at h
          refine rn_eg qm 1 (s2 := (21, [(0, .ref 318), (1, .int b1), (2, .int b2), (3, .int v3)], [.int v3], N, sl, rn_hp S M)) rfl ?_
          cases h
          exact rn_er qm rfl rfl rfl
        · rw [if_neg c4] at h
          refine rn_eg qm 2 (s2 := (4, [(3, .int (v3 + (1 : Int32))), (0, .ref 318), (1, .int b1), (2, .int b2)], [], N, sl, rn_hp S M)) rfl ?_
          refine rn_kq qm (s2 := (4, [(0, .ref 318), (1, .int b1), (2, .int b2), (3, .int (v3 + (1 : Int32)))], [], N, sl, rn_hp S M)) rfl rfl ?_
          exact ih _ _ k R hk h
      · rw [if_neg c3] at h
        refine rn_eg qm 2 (s2 := (4, [(3, .int (v3 + (1 : Int32))), (0, .ref 318), (1, .int b1), (2, .int b2)], [], N, sl, rn_hp S M)) rfl ?_
        refine rn_kq qm (s2 := (4, [(0, .ref 318), (1, .int b1), (2, .int b2), (3, .int (v3 + (1 : Int32)))], [], N, sl, rn_hp S M)) rfl rfl ?_
        exact ih _ _ k R hk h
def f57 (M : rn_T) (a1 : Int32) (a2 : Int32) : Option Int32 :=
  f57_L4 a1 a2 rn_FU M (a1 + (1 : Int32)) (fun M5 =>
    some (-6 : Int32))
set_option maxHeartbeats 4000000 in
theorem E57 {X : rn_X} {N sl : Nat} {S M : rn_T} {a1 : Int32} {a2 : Int32} {R : (Int32)} (h : f57 M a1 a2 = some R) : rn_rv X 57 (0, [(0, .ref 318), (1, .int a1), (2, .int a2)], [], N, sl, rn_hp S M) (some (.int R), N, sl, rn_hp S M) := by
  have qm := rn_m57
  unfold f57 at h
  refine rn_eg qm 4 (s2 := (4, [(3, .int (a1 + (1 : Int32))), (0, .ref 318), (1, .int a1), (2, .int a2)], [], N, sl, rn_hp S M)) rfl ?_
  refine rn_kq qm (s2 := (4, [(0, .ref 318), (1, .int a1), (2, .int a2), (3, .int (a1 + (1 : Int32)))], [], N, sl, rn_hp S M)) rfl rfl ?_
  refine E57_L4 rn_FU _ _ _ R ?_ h
  intro M5 h
  refine rn_eg qm 1 (s2 := (25, [], [.int (-6 : Int32)], N, sl, rn_hp S M5)) rfl ?_
  cases h
  exact rn_er qm rfl rfl rfl
/-! 58: RecordNichesModel.gap(IIIII)V -/
def f58 (M : rn_T) (a1 : Int32) (a2 : Int32) (a3 : Int32) (a4 : Int32) (a5 : Int32) : Option (rn_T) :=
  if rn_ob a1 101 then none else
    some (wA (wA (wA (wA M 337 (Int32.toNatClampNeg a1) a2) 338 (Int32.toNatClampNeg a1) a3) 339 (Int32.toNatClampNeg a1) a4) 340 (Int32.toNatClampNeg a1) a5)
set_option maxHeartbeats 4000000 in
theorem E58 {X : rn_X} {N sl : Nat} {S M : rn_T} {a1 : Int32} {a2 : Int32} {a3 : Int32} {a4 : Int32} {a5 : Int32} {R : (rn_T)} (h : f58 M a1 a2 a3 a4 a5 = some R) : rn_rv X 58 (0, [(0, .ref 318), (1, .int a1), (2, .int a2), (3, .int a3), (4, .int a4), (5, .int a5)], [], N, sl, rn_hp S M) (none, N, sl, rn_hp S R) := by
  have qm := rn_m58
  unfold f58 at h
  refine rn_eg qm 4 (s2 := (4, [(0, .ref 318), (1, .int a1), (2, .int a2), (3, .int a3), (4, .int a4), (5, .int a5)], [.int a2, .int a1, .ref 337], N, sl, rn_hp S M)) rfl ?_
  have c1 : ¬ (rn_ob a1 101) := fun c => by rw [if_pos c] at h; cases h
  rw [if_neg c1] at h
  refine rn_e1 qm (s2 := (5, [(0, .ref 318), (1, .int a1), (2, .int a2), (3, .int a3), (4, .int a4), (5, .int a5)], [], N, sl, rn_hp S (wA M 337 (Int32.toNatClampNeg a1) a2))) (rn_g_iast (n := 101) rfl rfl (ar_m10 rfl rfl (Nat.le_of_ble_eq_true rfl)) c1 (aw_m10 rfl rfl (Nat.le_of_ble_eq_true rfl))) ?_
  refine rn_eg qm 4 (s2 := (9, [(0, .ref 318), (1, .int a1), (2, .int a2), (3, .int a3), (4, .int a4), (5, .int a5)], [.int a3, .int a1, .ref 338], N, sl, rn_hp S (wA M 337 (Int32.toNatClampNeg a1) a2))) rfl ?_
  refine rn_e1 qm (s2 := (10, [(0, .ref 318), (1, .int a1), (2, .int a2), (3, .int a3), (4, .int a4), (5, .int a5)], [], N, sl, rn_hp S (wA (wA M 337 (Int32.toNatClampNeg a1) a2) 338 (Int32.toNatClampNeg a1) a3))) (rn_g_iast (n := 101) rfl rfl (ar_m10 rfl rfl (Nat.le_of_ble_eq_true rfl)) c1 (aw_m10 rfl rfl (Nat.le_of_ble_eq_true rfl))) ?_
  refine rn_eg qm 4 (s2 := (14, [(0, .ref 318), (1, .int a1), (2, .int a2), (3, .int a3), (4, .int a4), (5, .int a5)], [.int a4, .int a1, .ref 339], N, sl, rn_hp S (wA (wA M 337 (Int32.toNatClampNeg a1) a2) 338 (Int32.toNatClampNeg a1) a3))) rfl ?_
  refine rn_e1 qm (s2 := (15, [(0, .ref 318), (1, .int a1), (2, .int a2), (3, .int a3), (4, .int a4), (5, .int a5)], [], N, sl, rn_hp S (wA (wA (wA M 337 (Int32.toNatClampNeg a1) a2) 338 (Int32.toNatClampNeg a1) a3) 339 (Int32.toNatClampNeg a1) a4))) (rn_g_iast (n := 101) rfl rfl (ar_m10 rfl rfl (Nat.le_of_ble_eq_true rfl)) c1 (aw_m10 rfl rfl (Nat.le_of_ble_eq_true rfl))) ?_
  refine rn_eg qm 4 (s2 := (19, [(0, .ref 318), (1, .int a1), (2, .int a2), (3, .int a3), (4, .int a4), (5, .int a5)], [.int a5, .int a1, .ref 340], N, sl, rn_hp S (wA (wA (wA M 337 (Int32.toNatClampNeg a1) a2) 338 (Int32.toNatClampNeg a1) a3) 339 (Int32.toNatClampNeg a1) a4))) rfl ?_
  refine rn_e1 qm (s2 := (20, [(0, .ref 318), (1, .int a1), (2, .int a2), (3, .int a3), (4, .int a4), (5, .int a5)], [], N, sl, rn_hp S (wA (wA (wA (wA M 337 (Int32.toNatClampNeg a1) a2) 338 (Int32.toNatClampNeg a1) a3) 339 (Int32.toNatClampNeg a1) a4) 340 (Int32.toNatClampNeg a1) a5))) (rn_g_iast (n := 101) rfl rfl (ar_m10 rfl rfl (Nat.le_of_ble_eq_true rfl)) c1 (aw_m10 rfl rfl (Nat.le_of_ble_eq_true rfl))) ?_
  cases h
  exact rn_er qm rfl rfl rfl
/-! 59: RecordNichesModel.layLeaf(I)V -/
def f59_J81 (M : rn_T) (u1 : Int32) : Option (rn_T) :=
  if rn_ob u1 101 then none else
    if (rA M 322 (Int32.toNatClampNeg u1)) = (4 : Int32) then
      Option.bind (f58 M u1 (0 : Int32) (4 : Int32) (0 : Int32) (1 : Int32)) fun p13 =>
        some (p13)
    else
      some (M)
set_option maxHeartbeats 4000000 in
theorem E59_J81 {X : rn_X} {N sl : Nat} {S : rn_T} {M : rn_T} {u1 : Int32} {R : (rn_T)} (h : f59_J81 M u1 = some R) : rn_rv X 59 (81, [(0, .ref 318), (1, .int u1)], [], N, sl, rn_hp S M) (none, N, sl, rn_hp S R) := by
  have qm := rn_m59
  unfold f59_J81 at h
  refine rn_eg qm 3 (s2 := (84, [(0, .ref 318), (1, .int u1)], [.int u1, .ref 322], N, sl, rn_hp S M)) rfl ?_
  have c11 : ¬ (rn_ob u1 101) := fun c => by rw [if_pos c] at h; cases h
  rw [if_neg c11] at h
  refine rn_e1 qm (s2 := (85, [(0, .ref 318), (1, .int u1)], [.int (rA M 322 (Int32.toNatClampNeg u1))], N, sl, rn_hp S M)) (rn_g_iald (n := 101) rfl rfl (ar_m10 rfl rfl (Nat.le_of_ble_eq_true rfl)) c11) ?_
  refine rn_eg qm 2 (s2 := ((if (rA M 322 (Int32.toNatClampNeg u1)) = (4 : Int32) then 87 else 94), [(0, .ref 318), (1, .int u1)], [], N, sl, rn_hp S M)) rfl ?_
  refine rn_ite (fun c12 => ?_) (fun c12 => ?_)
  · rw [if_pos c12] at h
    refine rn_eg qm 6 (s2 := (93, [(0, .ref 318), (1, .int u1)], [.int (1 : Int32), .int (0 : Int32), .int (4 : Int32), .int (0 : Int32), .int u1, .ref 318], N, sl, rn_hp S M)) rfl ?_
    obtain ⟨p13, hp13, h⟩ := Option.bind_eq_some_iff.mp h
    refine rn_ec qm rfl rfl rfl rfl rn_m58 rfl rfl rfl (fun _ => rn_rc_of (en_9 (q := 318) rfl)) (E58 hp13) ?_
    refine rn_eg qm 0 (s2 := (94, [(0, .ref 318), (1, .int u1)], [], N, sl, rn_hp S p13)) rfl ?_
    cases h
    exact rn_er qm rfl rfl rfl
  · rw [if_neg c12] at h
    cases h
    exact rn_er qm rfl rfl rfl
def f59_J60 (M : rn_T) (u1 : Int32) : Option (rn_T) :=
  if rn_ob u1 101 then none else
    if (rA M 322 (Int32.toNatClampNeg u1)) = (3 : Int32) then
      Option.bind (f58 M u1 (0 : Int32) (1 : Int32) (rA M 323 (Int32.toNatClampNeg u1)) ((256 : Int32) - (rA M 323 (Int32.toNatClampNeg u1)))) fun p10 =>
        f59_J81 p10 u1
    else
      f59_J81 M u1
set_option maxHeartbeats 4000000 in
theorem E59_J60 {X : rn_X} {N sl : Nat} {S : rn_T} {M : rn_T} {u1 : Int32} {R : (rn_T)} (h : f59_J60 M u1 = some R) : rn_rv X 59 (60, [(0, .ref 318), (1, .int u1)], [], N, sl, rn_hp S M) (none, N, sl, rn_hp S R) := by
  have qm := rn_m59
  unfold f59_J60 at h
  refine rn_eg qm 3 (s2 := (63, [(0, .ref 318), (1, .int u1)], [.int u1, .ref 322], N, sl, rn_hp S M)) rfl ?_
  have c8 : ¬ (rn_ob u1 101) := fun c => by rw [if_pos c] at h; cases h
  rw [if_neg c8] at h
  refine rn_e1 qm (s2 := (64, [(0, .ref 318), (1, .int u1)], [.int (rA M 322 (Int32.toNatClampNeg u1))], N, sl, rn_hp S M)) (rn_g_iald (n := 101) rfl rfl (ar_m10 rfl rfl (Nat.le_of_ble_eq_true rfl)) c8) ?_
  refine rn_eg qm 2 (s2 := ((if (rA M 322 (Int32.toNatClampNeg u1)) = (3 : Int32) then 66 else 81), [(0, .ref 318), (1, .int u1)], [], N, sl, rn_hp S M)) rfl ?_
  refine rn_ite (fun c9 => ?_) (fun c9 => ?_)
  · rw [if_pos c9] at h
    refine rn_eg qm 7 (s2 := (73, [(0, .ref 318), (1, .int u1)], [.int u1, .ref 323, .int (1 : Int32), .int (0 : Int32), .int u1, .ref 318], N, sl, rn_hp S M)) rfl ?_
    refine rn_e1 qm (s2 := (74, [(0, .ref 318), (1, .int u1)], [.int (rA M 323 (Int32.toNatClampNeg u1)), .int (1 : Int32), .int (0 : Int32), .int u1, .ref 318], N, sl, rn_hp S M)) (rn_g_iald (n := 101) rfl rfl (ar_m10 rfl rfl (Nat.le_of_ble_eq_true rfl)) c8) ?_
    refine rn_eg qm 4 (s2 := (78, [(0, .ref 318), (1, .int u1)], [.int u1, .ref 323, .int (256 : Int32), .int (rA M 323 (Int32.toNatClampNeg u1)), .int (1 : Int32), .int (0 : Int32), .int u1, .ref 318], N, sl, rn_hp S M)) rfl ?_
    refine rn_e1 qm (s2 := (79, [(0, .ref 318), (1, .int u1)], [.int (rA M 323 (Int32.toNatClampNeg u1)), .int (256 : Int32), .int (rA M 323 (Int32.toNatClampNeg u1)), .int (1 : Int32), .int (0 : Int32), .int u1, .ref 318], N, sl, rn_hp S M)) (rn_g_iald (n := 101) rfl rfl (ar_m10 rfl rfl (Nat.le_of_ble_eq_true rfl)) c8) ?_
    refine rn_eg qm 1 (s2 := (80, [(0, .ref 318), (1, .int u1)], [.int ((256 : Int32) - (rA M 323 (Int32.toNatClampNeg u1))), .int (rA M 323 (Int32.toNatClampNeg u1)), .int (1 : Int32), .int (0 : Int32), .int u1, .ref 318], N, sl, rn_hp S M)) rfl ?_
    obtain ⟨p10, hp10, h⟩ := Option.bind_eq_some_iff.mp h
    refine rn_ec qm rfl rfl rfl rfl rn_m58 rfl rfl rfl (fun _ => rn_rc_of (en_9 (q := 318) rfl)) (E58 hp10) ?_
    refine rn_eg qm 0 (s2 := (81, [(0, .ref 318), (1, .int u1)], [], N, sl, rn_hp S p10)) rfl ?_
    refine rn_kq qm (s2 := (81, [(0, .ref 318), (1, .int u1)], [], N, sl, rn_hp S p10)) rfl rfl ?_
    exact E59_J81 h
  · rw [if_neg c9] at h
    refine rn_kq qm (s2 := (81, [(0, .ref 318), (1, .int u1)], [], N, sl, rn_hp S M)) rfl rfl ?_
    exact E59_J81 h
def f59_J27 (M : rn_T) (u1 : Int32) (t0 : Int32) : Option (rn_T) :=
  if rn_ob u1 101 then none else
    Option.bind (f58 (wA (wA M 334 (Int32.toNatClampNeg u1) t0) 335 (Int32.toNatClampNeg u1) (f31 (1 : Int32) t0)) u1 (0 : Int32) (0 : Int32) (0 : Int32) (0 : Int32)) fun p5 =>
      if (rA p5 322 (Int32.toNatClampNeg u1)) = (2 : Int32) then
        Option.bind (f58 p5 u1 (0 : Int32) (1 : Int32) (2 : Int32) (254 : Int32)) fun p7 =>
          f59_J60 p7 u1
      else
        f59_J60 p5 u1
set_option maxHeartbeats 4000000 in
theorem E59_J27 {X : rn_X} {N sl : Nat} {S : rn_T} {M : rn_T} {u1 : Int32} {t0 : Int32} {R : (rn_T)} (h : f59_J27 M u1 t0 = some R) : rn_rv X 59 (27, [(0, .ref 318), (1, .int u1)], [.int t0], N, sl, rn_hp S M) (none, N, sl, rn_hp S R) := by
  have qm := rn_m59
  unfold f59_J27 at h
  refine rn_eg qm 5 (s2 := (32, [(2, .int t0), (0, .ref 318), (1, .int u1)], [.int t0, .int u1, .ref 334], N, sl, rn_hp S M)) rfl ?_
  have c3 : ¬ (rn_ob u1 101) := fun c => by rw [if_pos c] at h; cases h
  rw [if_neg c3] at h
  refine rn_e1 qm (s2 := (33, [(2, .int t0), (0, .ref 318), (1, .int u1)], [], N, sl, rn_hp S (wA M 334 (Int32.toNatClampNeg u1) t0))) (rn_g_iast (n := 101) rfl rfl (ar_m10 rfl rfl (Nat.le_of_ble_eq_true rfl)) c3 (aw_m10 rfl rfl (Nat.le_of_ble_eq_true rfl))) ?_
  refine rn_eg qm 5 (s2 := (38, [(2, .int t0), (0, .ref 318), (1, .int u1)], [.int t0, .int (1 : Int32), .int u1, .ref 335], N, sl, rn_hp S (wA M 334 (Int32.toNatClampNeg u1) t0))) rfl ?_
  refine rn_ec qm rfl rfl rfl rfl rn_m31 rfl rfl rfl (fun h => by cases h) (E31 rfl) ?_
  refine rn_eg qm 0 (s2 := (39, [(2, .int t0), (0, .ref 318), (1, .int u1)], [.int (f31 (1 : Int32) t0), .int u1, .ref 335], N, sl, rn_hp S (wA M 334 (Int32.toNatClampNeg u1) t0))) rfl ?_
  refine rn_e1 qm (s2 := (40, [(2, .int t0), (0, .ref 318), (1, .int u1)], [], N, sl, rn_hp S (wA (wA M 334 (Int32.toNatClampNeg u1) t0) 335 (Int32.toNatClampNeg u1) (f31 (1 : Int32) t0)))) (rn_g_iast (n := 101) rfl rfl (ar_m10 rfl rfl (Nat.le_of_ble_eq_true rfl)) c3 (aw_m10 rfl rfl (Nat.le_of_ble_eq_true rfl))) ?_
  refine rn_eg qm 6 (s2 := (46, [(2, .int t0), (0, .ref 318), (1, .int u1)], [.int (0 : Int32), .int (0 : Int32), .int (0 : Int32), .int (0 : Int32), .int u1, .ref 318], N, sl, rn_hp S (wA (wA M 334 (Int32.toNatClampNeg u1) t0) 335 (Int32.toNatClampNeg u1) (f31 (1 : Int32) t0)))) rfl ?_
  obtain ⟨p5, hp5, h⟩ := Option.bind_eq_some_iff.mp h
  refine rn_ec qm rfl rfl rfl rfl rn_m58 rfl rfl rfl (fun _ => rn_rc_of (en_9 (q := 318) rfl)) (E58 hp5) ?_
  refine rn_eg qm 0 (s2 := (47, [(2, .int t0), (0, .ref 318), (1, .int u1)], [], N, sl, rn_hp S p5)) rfl ?_
  refine rn_eg qm 3 (s2 := (50, [(2, .int t0), (0, .ref 318), (1, .int u1)], [.int u1, .ref 322], N, sl, rn_hp S p5)) rfl ?_
  refine rn_e1 qm (s2 := (51, [(2, .int t0), (0, .ref 318), (1, .int u1)], [.int (rA p5 322 (Int32.toNatClampNeg u1))], N, sl, rn_hp S p5)) (rn_g_iald (n := 101) rfl rfl (ar_m10 rfl rfl (Nat.le_of_ble_eq_true rfl)) c3) ?_
  refine rn_eg qm 2 (s2 := ((if (rA p5 322 (Int32.toNatClampNeg u1)) = (2 : Int32) then 53 else 60), [(2, .int t0), (0, .ref 318), (1, .int u1)], [], N, sl, rn_hp S p5)) rfl ?_
  refine rn_ite (fun c6 => ?_) (fun c6 => ?_)
  · rw [if_pos c6] at h
    refine rn_eg qm 6 (s2 := (59, [(2, .int t0), (0, .ref 318), (1, .int u1)], [.int (254 : Int32), .int (2 : Int32), .int (1 : Int32), .int (0 : Int32), .int u1, .ref 318], N, sl, rn_hp S p5)) rfl ?_
    obtain ⟨p7, hp7, h⟩ := Option.bind_eq_some_iff.mp h
    refine rn_ec qm rfl rfl rfl rfl rn_m58 rfl rfl rfl (fun _ => rn_rc_of (en_9 (q := 318) rfl)) (E58 hp7) ?_
    refine rn_eg qm 0 (s2 := (60, [(2, .int t0), (0, .ref 318), (1, .int u1)], [], N, sl, rn_hp S p7)) rfl ?_
    refine rn_kq qm (s2 := (60, [(0, .ref 318), (1, .int u1)], [], N, sl, rn_hp S p7)) rfl rfl ?_
    exact E59_J60 h
  · rw [if_neg c6] at h
    refine rn_kq qm (s2 := (60, [(0, .ref 318), (1, .int u1)], [], N, sl, rn_hp S p5)) rfl rfl ?_
    exact E59_J60 h
def f59 (M : rn_T) (a1 : Int32) : Option (rn_T) :=
  if rn_ob a1 101 then none else
    if (rA M 322 (Int32.toNatClampNeg a1)) = 0 then
      f59_J27 M a1 (0 : Int32)
    else
      if (rA M 322 (Int32.toNatClampNeg a1)) = (1 : Int32) then
        f59_J27 M a1 (rA M 323 (Int32.toNatClampNeg a1))
      else
        if (rA M 322 (Int32.toNatClampNeg a1)) = (4 : Int32) then
          f59_J27 M a1 (4 : Int32)
        else
          f59_J27 M a1 (1 : Int32)
set_option maxHeartbeats 4000000 in
theorem E59 {X : rn_X} {N sl : Nat} {S M : rn_T} {a1 : Int32} {R : (rn_T)} (h : f59 M a1 = some R) : rn_rv X 59 (0, [(0, .ref 318), (1, .int a1)], [], N, sl, rn_hp S M) (none, N, sl, rn_hp S R) := by
  have qm := rn_m59
  unfold f59 at h
  refine rn_eg qm 3 (s2 := (3, [(0, .ref 318), (1, .int a1)], [.int a1, .ref 322], N, sl, rn_hp S M)) rfl ?_
  have c1 : ¬ (rn_ob a1 101) := fun c => by rw [if_pos c] at h; cases h
  rw [if_neg c1] at h
  refine rn_e1 qm (s2 := (4, [(0, .ref 318), (1, .int a1)], [.int (rA M 322 (Int32.toNatClampNeg a1))], N, sl, rn_hp S M)) (rn_g_iald (n := 101) rfl rfl (ar_m10 rfl rfl (Nat.le_of_ble_eq_true rfl)) c1) ?_
  refine rn_eg qm 1 (s2 := ((if (rA M 322 (Int32.toNatClampNeg a1)) = 0 then 5 else 7), [(0, .ref 318), (1, .int a1)], [], N, sl, rn_hp S M)) rfl ?_
  refine rn_ite (fun c2 => ?_) (fun c2 => ?_)
  · rw [if_pos c2] at h
    refine rn_eg qm 2 (s2 := (27, [(0, .ref 318), (1, .int a1)], [.int (0 : Int32)], N, sl, rn_hp S M)) rfl ?_
    refine rn_kq qm (s2 := (27, [(0, .ref 318), (1, .int a1)], [.int (0 : Int32)], N, sl, rn_hp S M)) rfl rfl ?_
    exact E59_J27 h
  · rw [if_neg c2] at h
    refine rn_eg qm 3 (s2 := (10, [(0, .ref 318), (1, .int a1)], [.int a1, .ref 322], N, sl, rn_hp S M)) rfl ?_
    refine rn_e1 qm (s2 := (11, [(0, .ref 318), (1, .int a1)], [.int (rA M 322 (Int32.toNatClampNeg a1))], N, sl, rn_hp S M)) (rn_g_iald (n := 101) rfl rfl (ar_m10 rfl rfl (Nat.le_of_ble_eq_true rfl)) c1) ?_
    refine rn_eg qm 2 (s2 := ((if (rA M 322 (Int32.toNatClampNeg a1)) = (1 : Int32) then 13 else 18), [(0, .ref 318), (1, .int a1)], [], N, sl, rn_hp S M)) rfl ?_
    refine rn_ite (fun c14 => ?_) (fun c14 => ?_)
    · rw [if_pos c14] at h
      refine rn_eg qm 3 (s2 := (16, [(0, .ref 318), (1, .int a1)], [.int a1, .ref 323], N, sl, rn_hp S M)) rfl ?_
      refine rn_e1 qm (s2 := (17, [(0, .ref 318), (1, .int a1)], [.int (rA M 323 (Int32.toNatClampNeg a1))], N, sl, rn_hp S M)) (rn_g_iald (n := 101) rfl rfl (ar_m10 rfl rfl (Nat.le_of_ble_eq_true rfl)) c1) ?_
      refine rn_eg qm 1 (s2 := (27, [(0, .ref 318), (1, .int a1)], [.int (rA M 323 (Int32.toNatClampNeg a1))], N, sl, rn_hp S M)) rfl ?_
      refine rn_kq qm (s2 := (27, [(0, .ref 318), (1, .int a1)], [.int (rA M 323 (Int32.toNatClampNeg a1))], N, sl, rn_hp S M)) rfl rfl ?_
      exact E59_J27 h
    · rw [if_neg c14] at h
      refine rn_eg qm 3 (s2 := (21, [(0, .ref 318), (1, .int a1)], [.int a1, .ref 322], N, sl, rn_hp S M)) rfl ?_
      refine rn_e1 qm (s2 := (22, [(0, .ref 318), (1, .int a1)], [.int (rA M 322 (Int32.toNatClampNeg a1))], N, sl, rn_hp S M)) (rn_g_iald (n := 101) rfl rfl (ar_m10 rfl rfl (Nat.le_of_ble_eq_true rfl)) c1) ?_
      refine rn_eg qm 2 (s2 := ((if (rA M 322 (Int32.toNatClampNeg a1)) = (4 : Int32) then 24 else 26), [(0, .ref 318), (1, .int a1)], [], N, sl, rn_hp S M)) rfl ?_
      refine rn_ite (fun c15 => ?_) (fun c15 => ?_)
      · rw [if_pos c15] at h
        refine rn_eg qm 2 (s2 := (27, [(0, .ref 318), (1, .int a1)], [.int (4 : Int32)], N, sl, rn_hp S M)) rfl ?_
        refine rn_kq qm (s2 := (27, [(0, .ref 318), (1, .int a1)], [.int (4 : Int32)], N, sl, rn_hp S M)) rfl rfl ?_
        exact E59_J27 h
      · rw [if_neg c15] at h
        refine rn_eg qm 1 (s2 := (27, [(0, .ref 318), (1, .int a1)], [.int (1 : Int32)], N, sl, rn_hp S M)) rfl ?_
        refine rn_kq qm (s2 := (27, [(0, .ref 318), (1, .int a1)], [.int (1 : Int32)], N, sl, rn_hp S M)) rfl rfl ?_
        exact E59_J27 h
/-! 60: RecordNichesModel.greatestAlign(I)I -/
def f60_L4 (b1 : Int32) : Nat → rn_T → Int32 → Int32 → (rn_T → Int32 → Option Int32) → Option Int32
  | 0, _, _, _, _ => none
  | fu + 1, M, v2, v3, k =>
    if rn_ob b1 101 then none else
      if (rA M 326 (Int32.toNatClampNeg b1)) ≤ v3 then
        k M v2
      else
        Option.bind (f57 M b1 v3) fun p3 =>
          if rn_ob p3 101 then none else
            f60_L4 b1 fu M (f31 v2 (rA M 335 (Int32.toNatClampNeg p3))) (v3 + (1 : Int32)) k
set_option maxHeartbeats 4000000 in
theorem E60_L4 {X : rn_X} {N sl : Nat} {S : rn_T} {b1 : Int32} : ∀ (fu : Nat) (M : rn_T) (v2 : Int32) (v3 : Int32) (k : (rn_T → Int32 → Option Int32)) (R : (Int32)), (∀ (M : rn_T) (w_2 : Int32), k M w_2 = some R → rn_rv X 60 (22, [(2, .int w_2)], [], N, sl, rn_hp S M) (some (.int R), N, sl, rn_hp S M)) → f60_L4 b1 fu M v2 v3 k = some R → rn_rv X 60 (4, [(0, .ref 318), (1, .int b1), (2, .int v2), (3, .int v3)], [], N, sl, rn_hp S M) (some (.int R), N, sl, rn_hp S M) := by
  have qm := rn_m60
  intro fu
  induction fu with
  | zero => intro M v2 v3 k R hk h; cases h
  | succ fu ih =>
    intro M v2 v3 k R hk h
    unfold f60_L4 at h
    refine rn_eg qm 4 (s2 := (8, [(0, .ref 318), (1, .int b1), (2, .int v2), (3, .int v3)], [.int b1, .ref 326, .int v3], N, sl, rn_hp S M)) rfl ?_
    have c1 : ¬ (rn_ob b1 101) := fun c => by rw [if_pos c] at h; cases h
    rw [if_neg c1] at h
    refine rn_e1 qm (s2 := (9, [(0, .ref 318), (1, .int b1), (2, .int v2), (3, .int v3)], [.int (rA M 326 (Int32.toNatClampNeg b1)), .int v3], N, sl, rn_hp S M)) (rn_g_iald (n := 101) rfl rfl (ar_m10 rfl rfl (Nat.le_of_ble_eq_true rfl)) c1) ?_
    refine rn_eg qm 1 (s2 := ((if (rA M 326 (Int32.toNatClampNeg b1)) ≤ v3 then 22 else 10), [(0, .ref 318), (1, .int b1), (2, .int v2), (3, .int v3)], [], N, sl, rn_hp S M)) rfl ?_
    refine rn_ite (fun c2 => ?_) (fun c2 => ?_)
    · rw [if_pos c2] at h
      refine rn_kq qm (s2 := (22, [(2, .int v2)], [], N, sl, rn_hp S M)) rfl rfl ?_
      exact hk _ _ h
    · rw [if_neg c2] at h
      refine rn_eg qm 6 (s2 := (16, [(0, .ref 318), (1, .int b1), (2, .int v2), (3, .int v3)], [.int v3, .int b1, .ref 318, .ref 335, .int v2], N, sl, rn_hp S M)) rfl ?_
      obtain ⟨p3, hp3, h⟩ := Option.bind_eq_some_iff.mp h
      refine rn_ec qm rfl rfl rfl rfl rn_m57 rfl rfl rfl (fun _ => rn_rc_of (en_9 (q := 318) rfl)) (E57 hp3) ?_
      refine rn_eg qm 0 (s2 := (17, [(0, .ref 318), (1, .int b1), (2, .int v2), (3, .int v3)], [.int p3, .ref 335, .int v2], N, sl, rn_hp S M)) rfl ?_
      have c4 : ¬ (rn_ob p3 101) := fun c => by rw [if_pos c] at h; cases h
      rw [if_neg c4] at h
      refine rn_e1 qm (s2 := (18, [(0, .ref 318), (1, .int b1), (2, .int v2), (3, .int v3)], [.int (rA M 335 (Int32.toNatClampNeg p3)), .int v2], N, sl, rn_hp S M)) (rn_g_iald (n := 101) rfl rfl (ar_m10 rfl rfl (Nat.le_of_ble_eq_true rfl)) c4) ?_
      refine rn_ec qm rfl rfl rfl rfl rn_m31 rfl rfl rfl (fun h => by cases h) (E31 rfl) ?_
      refine rn_eg qm 0 (s2 := (19, [(0, .ref 318), (1, .int b1), (2, .int v2), (3, .int v3)], [.int (f31 v2 (rA M 335 (Int32.toNatClampNeg p3)))], N, sl, rn_hp S M)) rfl ?_
      refine rn_eg qm 3 (s2 := (4, [(3, .int (v3 + (1 : Int32))), (2, .int (f31 v2 (rA M 335 (Int32.toNatClampNeg p3)))), (0, .ref 318), (1, .int b1)], [], N, sl, rn_hp S M)) rfl ?_
      refine rn_kq qm (s2 := (4, [(0, .ref 318), (1, .int b1), (2, .int (f31 v2 (rA M 335 (Int32.toNatClampNeg p3)))), (3, .int (v3 + (1 : Int32)))], [], N, sl, rn_hp S M)) rfl rfl ?_
      exact ih _ _ _ k R hk h
def f60 (M : rn_T) (a1 : Int32) : Option Int32 :=
  f60_L4 a1 rn_FU M (1 : Int32) (0 : Int32) (fun M6 w6_2 =>
    some w6_2)
set_option maxHeartbeats 4000000 in
theorem E60 {X : rn_X} {N sl : Nat} {S M : rn_T} {a1 : Int32} {R : (Int32)} (h : f60 M a1 = some R) : rn_rv X 60 (0, [(0, .ref 318), (1, .int a1)], [], N, sl, rn_hp S M) (some (.int R), N, sl, rn_hp S M) := by
  have qm := rn_m60
  unfold f60 at h
  refine rn_eg qm 4 (s2 := (4, [(3, .int (0 : Int32)), (2, .int (1 : Int32)), (0, .ref 318), (1, .int a1)], [], N, sl, rn_hp S M)) rfl ?_
  refine rn_kq qm (s2 := (4, [(0, .ref 318), (1, .int a1), (2, .int (1 : Int32)), (3, .int (0 : Int32))], [], N, sl, rn_hp S M)) rfl rfl ?_
  refine E60_L4 rn_FU _ _ _ _ R ?_ h
  intro M6 w6_2 h
  refine rn_eg qm 1 (s2 := (23, [(2, .int w6_2)], [.int w6_2], N, sl, rn_hp S M6)) rfl ?_
  cases h
  exact rn_er qm rfl rfl rfl
/-! 61: RecordNichesModel.layFields(III)I -/
def f61_J23_4 (M : rn_T) (u1 : Int32) (u2 : Int32) (u4 : Int32) (u5 : Int32) (u6 : Int32) (rc : (rn_T → Int32 → Int32 → Option (Int32 × rn_T))) (k : (rn_T → Int32 → Option (Int32 × rn_T))) : Option (Int32 × rn_T) :=
  if rn_ob u6 101 then none else
    Option.bind (f32 u4 (rA M 335 (Int32.toNatClampNeg u6))) fun p6 =>
      rc (wA M 336 (Int32.toNatClampNeg u6) p6) ((rA (wA M 336 (Int32.toNatClampNeg u6) p6) 336 (Int32.toNatClampNeg u6)) + (rA (wA M 336 (Int32.toNatClampNeg u6) p6) 334 (Int32.toNatClampNeg u6))) (u5 + (1 : Int32))
set_option maxHeartbeats 4000000 in
theorem E61_J23_4 {X : rn_X} {N sl : Nat} {S : rn_T} {M : rn_T} {u1 : Int32} {u2 : Int32} {u4 : Int32} {u5 : Int32} {u6 : Int32} {R : (Int32 × rn_T)} {rc : (rn_T → Int32 → Int32 → Option (Int32 × rn_T))} (hrc : ∀ (M : rn_T) (v4 : Int32) (v5 : Int32), rc M v4 v5 = some R → rn_rv X 61 (4, [(0, .ref 318), (1, .int u1), (2, .int u2), (4, .int v4), (5, .int v5)], [], N, sl, rn_hp S M) (some (.int R.1), N, sl, rn_hp S R.2)) {k : (rn_T → Int32 → Option (Int32 × rn_T))} (hk : ∀ (M : rn_T) (w_4 : Int32), k M w_4 = some R → rn_rv X 61 (45, [(4, .int w_4)], [], N, sl, rn_hp S M) (some (.int R.1), N, sl, rn_hp S R.2)) (h : f61_J23_4 M u1 u2 u4 u5 u6 rc k = some R) : rn_rv X 61 (23, [(0, .ref 318), (1, .int u1), (2, .int u2), (4, .int u4), (5, .int u5), (6, .int u6)], [], N, sl, rn_hp S M) (some (.int R.1), N, sl, rn_hp S R.2) := by
  have qm := rn_m61
  unfold f61_J23_4 at h
  refine rn_eg qm 7 (s2 := (30, [(0, .ref 318), (1, .int u1), (2, .int u2), (4, .int u4), (5, .int u5), (6, .int u6)], [.int u6, .ref 335, .int u4, .int u6, .ref 336], N, sl, rn_hp S M)) rfl ?_
  have c5 : ¬ (rn_ob u6 101) := fun c => by rw [if_pos c] at h; cases h
  rw [if_neg c5] at h
  refine rn_e1 qm (s2 := (31, [(0, .ref 318), (1, .int u1), (2, .int u2), (4, .int u4), (5, .int u5), (6, .int u6)], [.int (rA M 335 (Int32.toNatClampNeg u6)), .int u4, .int u6, .ref 336], N, sl, rn_hp S M)) (rn_g_iald (n := 101) rfl rfl (ar_m10 rfl rfl (Nat.le_of_ble_eq_true rfl)) c5) ?_
  obtain ⟨p6, hp6, h⟩ := Option.bind_eq_some_iff.mp h
  refine rn_ec qm rfl rfl rfl rfl rn_m32 rfl rfl rfl (fun h => by cases h) (E32 hp6) ?_
  refine rn_eg qm 0 (s2 := (32, [(0, .ref 318), (1, .int u1), (2, .int u2), (4, .int u4), (5, .int u5), (6, .int u6)], [.int p6, .int u6, .ref 336], N, sl, rn_hp S M)) rfl ?_
  refine rn_e1 qm (s2 := (33, [(0, .ref 318), (1, .int u1), (2, .int u2), (4, .int u4), (5, .int u5), (6, .int u6)], [], N, sl, rn_hp S (wA M 336 (Int32.toNatClampNeg u6) p6))) (rn_g_iast (n := 101) rfl rfl (ar_m10 rfl rfl (Nat.le_of_ble_eq_true rfl)) c5 (aw_m10 rfl rfl (Nat.le_of_ble_eq_true rfl))) ?_
  refine rn_eg qm 3 (s2 := (36, [(0, .ref 318), (1, .int u1), (2, .int u2), (4, .int u4), (5, .int u5), (6, .int u6)], [.int u6, .ref 336], N, sl, rn_hp S (wA M 336 (Int32.toNatClampNeg u6) p6))) rfl ?_
  refine rn_e1 qm (s2 := (37, [(0, .ref 318), (1, .int u1), (2, .int u2), (4, .int u4), (5, .int u5), (6, .int u6)], [.int (rA (wA M 336 (Int32.toNatClampNeg u6) p6) 336 (Int32.toNatClampNeg u6))], N, sl, rn_hp S (wA M 336 (Int32.toNatClampNeg u6) p6))) (rn_g_iald (n := 101) rfl rfl (ar_m10 rfl rfl (Nat.le_of_ble_eq_true rfl)) c5) ?_
  refine rn_eg qm 3 (s2 := (40, [(0, .ref 318), (1, .int u1), (2, .int u2), (4, .int u4), (5, .int u5), (6, .int u6)], [.int u6, .ref 334, .int (rA (wA M 336 (Int32.toNatClampNeg u6) p6) 336 (Int32.toNatClampNeg u6))], N, sl, rn_hp S (wA M 336 (Int32.toNatClampNeg u6) p6))) rfl ?_
  refine rn_e1 qm (s2 := (41, [(0, .ref 318), (1, .int u1), (2, .int u2), (4, .int u4), (5, .int u5), (6, .int u6)], [.int (rA (wA M 336 (Int32.toNatClampNeg u6) p6) 334 (Int32.toNatClampNeg u6)), .int (rA (wA M 336 (Int32.toNatClampNeg u6) p6) 336 (Int32.toNatClampNeg u6))], N, sl, rn_hp S (wA M 336 (Int32.toNatClampNeg u6) p6))) (rn_g_iald (n := 101) rfl rfl (ar_m10 rfl rfl (Nat.le_of_ble_eq_true rfl)) c5) ?_
  refine rn_eg qm 4 (s2 := (4, [(5, .int (u5 + (1 : Int32))), (0, .ref 318), (1, .int u1), (2, .int u2), (4, .int ((rA (wA M 336 (Int32.toNatClampNeg u6) p6) 336 (Int32.toNatClampNeg u6)) + (rA (wA M 336 (Int32.toNatClampNeg u6) p6) 334 (Int32.toNatClampNeg u6))))], [], N, sl, rn_hp S (wA M 336 (Int32.toNatClampNeg u6) p6))) rfl ?_
  refine rn_kq qm (s2 := (4, [(0, .ref 318), (1, .int u1), (2, .int u2), (4, .int ((rA (wA M 336 (Int32.toNatClampNeg u6) p6) 336 (Int32.toNatClampNeg u6)) + (rA (wA M 336 (Int32.toNatClampNeg u6) p6) 334 (Int32.toNatClampNeg u6)))), (5, .int (u5 + (1 : Int32)))], [], N, sl, rn_hp S (wA M 336 (Int32.toNatClampNeg u6) p6))) rfl rfl ?_
  exact hrc _ _ _ h
def f61_L4 (b1 : Int32) (b2 : Int32) : Nat → rn_T → Int32 → Int32 → (rn_T → Int32 → Option (Int32 × rn_T)) → Option (Int32 × rn_T)
  | 0, _, _, _, _ => none
  | fu + 1, M, v4, v5, k =>
    if rn_ob b1 101 then none else
      if (rA M 326 (Int32.toNatClampNeg b1)) ≤ v5 then
        k M v4
      else
        Option.bind (f57 M b1 v5) fun p3 =>
          if b2 = 0 then
            f61_J23_4 M b1 b2 v4 v5 p3 (fun M v4 v5 => f61_L4 b1 b2 fu M v4 v5 k) k
          else
            if rn_ob p3 101 then none else
              if (rA M 335 (Int32.toNatClampNeg p3)) = b2 then
                f61_J23_4 M b1 b2 v4 v5 p3 (fun M v4 v5 => f61_L4 b1 b2 fu M v4 v5 k) k
              else
                f61_L4 b1 b2 fu M v4 (v5 + (1 : Int32)) k
set_option maxHeartbeats 4000000 in
theorem E61_L4 {X : rn_X} {N sl : Nat} {S : rn_T} {b1 : Int32} {b2 : Int32} : ∀ (fu : Nat) (M : rn_T) (v4 : Int32) (v5 : Int32) (k : (rn_T → Int32 → Option (Int32 × rn_T))) (R : (Int32 × rn_T)), (∀ (M : rn_T) (w_4 : Int32), k M w_4 = some R → rn_rv X 61 (45, [(4, .int w_4)], [], N, sl, rn_hp S M) (some (.int R.1), N, sl, rn_hp S R.2)) → f61_L4 b1 b2 fu M v4 v5 k = some R → rn_rv X 61 (4, [(0, .ref 318), (1, .int b1), (2, .int b2), (4, .int v4), (5, .int v5)], [], N, sl, rn_hp S M) (some (.int R.1), N, sl, rn_hp S R.2) := by
  have qm := rn_m61
  intro fu
  induction fu with
  | zero => intro M v4 v5 k R hk h; cases h
  | succ fu ih =>
    intro M v4 v5 k R hk h
    unfold f61_L4 at h
    refine rn_eg qm 4 (s2 := (8, [(0, .ref 318), (1, .int b1), (2, .int b2), (4, .int v4), (5, .int v5)], [.int b1, .ref 326, .int v5], N, sl, rn_hp S M)) rfl ?_
    have c1 : ¬ (rn_ob b1 101) := fun c => by rw [if_pos c] at h; cases h
    rw [if_neg c1] at h
    refine rn_e1 qm (s2 := (9, [(0, .ref 318), (1, .int b1), (2, .int b2), (4, .int v4), (5, .int v5)], [.int (rA M 326 (Int32.toNatClampNeg b1)), .int v5], N, sl, rn_hp S M)) (rn_g_iald (n := 101) rfl rfl (ar_m10 rfl rfl (Nat.le_of_ble_eq_true rfl)) c1) ?_
    refine rn_eg qm 1 (s2 := ((if (rA M 326 (Int32.toNatClampNeg b1)) ≤ v5 then 45 else 10), [(0, .ref 318), (1, .int b1), (2, .int b2), (4, .int v4), (5, .int v5)], [], N, sl, rn_hp S M)) rfl ?_
    refine rn_ite (fun c2 => ?_) (fun c2 => ?_)
    · rw [if_pos c2] at h
      refine rn_kq qm (s2 := (45, [(4, .int v4)], [], N, sl, rn_hp S M)) rfl rfl ?_
      exact hk _ _ h
    · rw [if_neg c2] at h
      refine rn_eg qm 3 (s2 := (13, [(0, .ref 318), (1, .int b1), (2, .int b2), (4, .int v4), (5, .int v5)], [.int v5, .int b1, .ref 318], N, sl, rn_hp S M)) rfl ?_
      obtain ⟨p3, hp3, h⟩ := Option.bind_eq_some_iff.mp h
      refine rn_ec qm rfl rfl rfl rfl rn_m57 rfl rfl rfl (fun _ => rn_rc_of (en_9 (q := 318) rfl)) (E57 hp3) ?_
      refine rn_eg qm 0 (s2 := (14, [(0, .ref 318), (1, .int b1), (2, .int b2), (4, .int v4), (5, .int v5)], [.int p3], N, sl, rn_hp S M)) rfl ?_
      refine rn_eg qm 3 (s2 := ((if b2 = 0 then 23 else 17), [(6, .int p3), (0, .ref 318), (1, .int b1), (2, .int b2), (4, .int v4), (5, .int v5)], [], N, sl, rn_hp S M)) rfl ?_
      refine rn_ite (fun c4 => ?_) (fun c4 => ?_)
      · rw [if_pos c4] at h
        refine rn_kq qm (s2 := (23, [(0, .ref 318), (1, .int b1), (2, .int b2), (4, .int v4), (5, .int v5), (6, .int p3)], [], N, sl, rn_hp S M)) rfl rfl ?_
        exact E61_J23_4 (fun M v4 v5 h => ih M v4 v5 k R hk h) hk h
      · rw [if_neg c4] at h
        refine rn_eg qm 3 (s2 := (20, [(6, .int p3), (0, .ref 318), (1, .int b1), (2, .int b2), (4, .int v4), (5, .int v5)], [.int p3, .ref 335], N, sl, rn_hp S M)) rfl ?_
        have c7 : ¬ (rn_ob p3 101) := fun c => by rw [if_pos c] at h; cases h
        rw [if_neg c7] at h
        refine rn_e1 qm (s2 := (21, [(6, .int p3), (0, .ref 318), (1, .int b1), (2, .int b2), (4, .int v4), (5, .int v5)], [.int (rA M 335 (Int32.toNatClampNeg p3))], N, sl, rn_hp S M)) (rn_g_iald (n := 101) rfl rfl (ar_m10 rfl rfl (Nat.le_of_ble_eq_true rfl)) c7) ?_
        refine rn_eg qm 2 (s2 := ((if (rA M 335 (Int32.toNatClampNeg p3)) = b2 then 23 else 43), [(6, .int p3), (0, .ref 318), (1, .int b1), (2, .int b2), (4, .int v4), (5, .int v5)], [], N, sl, rn_hp S M)) rfl ?_
        refine rn_ite (fun c8 => ?_) (fun c8 => ?_)
        · rw [if_pos c8] at h
          refine rn_kq qm (s2 := (23, [(0, .ref 318), (1, .int b1), (2, .int b2), (4, .int v4), (5, .int v5), (6, .int p3)], [], N, sl, rn_hp S M)) rfl rfl ?_
          exact E61_J23_4 (fun M v4 v5 h => ih M v4 v5 k R hk h) hk h
        · rw [if_neg c8] at h
          refine rn_eg qm 2 (s2 := (4, [(5, .int (v5 + (1 : Int32))), (0, .ref 318), (1, .int b1), (2, .int b2), (4, .int v4)], [], N, sl, rn_hp S M)) rfl ?_
          refine rn_kq qm (s2 := (4, [(0, .ref 318), (1, .int b1), (2, .int b2), (4, .int v4), (5, .int (v5 + (1 : Int32)))], [], N, sl, rn_hp S M)) rfl rfl ?_
          exact ih _ _ _ k R hk h
def f61 (M : rn_T) (a1 : Int32) (a2 : Int32) (a3 : Int32) : Option (Int32 × rn_T) :=
  f61_L4 a1 a2 rn_FU M a3 (0 : Int32) (fun M9 w9_4 =>
    some (w9_4, M9))
set_option maxHeartbeats 4000000 in
theorem E61 {X : rn_X} {N sl : Nat} {S M : rn_T} {a1 : Int32} {a2 : Int32} {a3 : Int32} {R : (Int32 × rn_T)} (h : f61 M a1 a2 a3 = some R) : rn_rv X 61 (0, [(0, .ref 318), (1, .int a1), (2, .int a2), (3, .int a3)], [], N, sl, rn_hp S M) (some (.int R.1), N, sl, rn_hp S R.2) := by
  have qm := rn_m61
  unfold f61 at h
  refine rn_eg qm 4 (s2 := (4, [(5, .int (0 : Int32)), (4, .int a3), (0, .ref 318), (1, .int a1), (2, .int a2), (3, .int a3)], [], N, sl, rn_hp S M)) rfl ?_
  refine rn_kq qm (s2 := (4, [(0, .ref 318), (1, .int a1), (2, .int a2), (4, .int a3), (5, .int (0 : Int32))], [], N, sl, rn_hp S M)) rfl rfl ?_
  refine E61_L4 rn_FU _ _ _ _ R ?_ h
  intro M9 w9_4 h
  refine rn_eg qm 1 (s2 := (46, [(4, .int w9_4)], [.int w9_4], N, sl, rn_hp S M9)) rfl ?_
  cases h
  exact rn_er qm rfl rfl rfl
/-! 62: RecordNichesModel.layRecord(I)V -/
def f62_J102_49 (M : rn_T) (u1 : Int32) (u3 : Int32) (u4 : Int32) (u5 : Int32) (t0 : Int32) (rc : (rn_T → Int32 → Option (rn_T))) (k : (rn_T → Option (rn_T))) : Option (rn_T) :=
  if t0 = 0 then
    rc M (u3 + (1 : Int32))
  else
    if rn_ob u4 101 then none else
      Option.bind (f58 M u1 u5 (rA M 338 (Int32.toNatClampNeg u4)) (rA M 339 (Int32.toNatClampNeg u4)) (rA M 340 (Int32.toNatClampNeg u4))) fun p14 =>
        rc p14 (u3 + (1 : Int32))
set_option maxHeartbeats 4000000 in
theorem E62_J102_49 {X : rn_X} {N sl : Nat} {S : rn_T} {M : rn_T} {u1 : Int32} {u3 : Int32} {u4 : Int32} {u5 : Int32} {t0 : Int32} {R : (rn_T)} {rc : (rn_T → Int32 → Option (rn_T))} (hrc : ∀ (M : rn_T) (v3 : Int32), rc M v3 = some R → rn_rv X 62 (49, [(0, .ref 318), (1, .int u1), (3, .int v3)], [], N, sl, rn_hp S M) (none, N, sl, rn_hp S R)) {k : (rn_T → Option (rn_T))} (hk : ∀ (M : rn_T), k M = some R → rn_rv X 62 (123, [], [], N, sl, rn_hp S M) (none, N, sl, rn_hp S R)) (h : f62_J102_49 M u1 u3 u4 u5 t0 rc k = some R) : rn_rv X 62 (102, [(0, .ref 318), (1, .int u1), (3, .int u3), (4, .int u4), (5, .int u5)], [.int t0], N, sl, rn_hp S M) (none, N, sl, rn_hp S R) := by
  have qm := rn_m62
  unfold f62_J102_49 at h
  refine rn_eg qm 3 (s2 := ((if t0 = 0 then 121 else 105), [(6, .int t0), (0, .ref 318), (1, .int u1), (3, .int u3), (4, .int u4), (5, .int u5)], [], N, sl, rn_hp S M)) rfl ?_
  refine rn_ite (fun c12 => ?_) (fun c12 => ?_)
  · rw [if_pos c12] at h
    refine rn_eg qm 2 (s2 := (49, [(3, .int (u3 + (1 : Int32))), (0, .ref 318), (1, .int u1)], [], N, sl, rn_hp S M)) rfl ?_
    refine rn_kq qm (s2 := (49, [(0, .ref 318), (1, .int u1), (3, .int (u3 + (1 : Int32)))], [], N, sl, rn_hp S M)) rfl rfl ?_
    exact hrc _ _ h
  · rw [if_neg c12] at h
    refine rn_eg qm 6 (s2 := (111, [(6, .int t0), (0, .ref 318), (1, .int u1), (3, .int u3), (4, .int u4), (5, .int u5)], [.int u4, .ref 338, .int u5, .int u1, .ref 318], N, sl, rn_hp S M)) rfl ?_
    have c13 : ¬ (rn_ob u4 101) := fun c => by rw [if_pos c] at h; cases h
    rw [if_neg c13] at h
    refine rn_e1 qm (s2 := (112, [(6, .int t0), (0, .ref 318), (1, .int u1), (3, .int u3), (4, .int u4), (5, .int u5)], [.int (rA M 338 (Int32.toNatClampNeg u4)), .int u5, .int u1, .ref 318], N, sl, rn_hp S M)) (rn_g_iald (n := 101) rfl rfl (ar_m10 rfl rfl (Nat.le_of_ble_eq_true rfl)) c13) ?_
    refine rn_eg qm 3 (s2 := (115, [(6, .int t0), (0, .ref 318), (1, .int u1), (3, .int u3), (4, .int u4), (5, .int u5)], [.int u4, .ref 339, .int (rA M 338 (Int32.toNatClampNeg u4)), .int u5, .int u1, .ref 318], N, sl, rn_hp S M)) rfl ?_
    refine rn_e1 qm (s2 := (116, [(6, .int t0), (0, .ref 318), (1, .int u1), (3, .int u3), (4, .int u4), (5, .int u5)], [.int (rA M 339 (Int32.toNatClampNeg u4)), .int (rA M 338 (Int32.toNatClampNeg u4)), .int u5, .int u1, .ref 318], N, sl, rn_hp S M)) (rn_g_iald (n := 101) rfl rfl (ar_m10 rfl rfl (Nat.le_of_ble_eq_true rfl)) c13) ?_
    refine rn_eg qm 3 (s2 := (119, [(6, .int t0), (0, .ref 318), (1, .int u1), (3, .int u3), (4, .int u4), (5, .int u5)], [.int u4, .ref 340, .int (rA M 339 (Int32.toNatClampNeg u4)), .int (rA M 338 (Int32.toNatClampNeg u4)), .int u5, .int u1, .ref 318], N, sl, rn_hp S M)) rfl ?_
    refine rn_e1 qm (s2 := (120, [(6, .int t0), (0, .ref 318), (1, .int u1), (3, .int u3), (4, .int u4), (5, .int u5)], [.int (rA M 340 (Int32.toNatClampNeg u4)), .int (rA M 339 (Int32.toNatClampNeg u4)), .int (rA M 338 (Int32.toNatClampNeg u4)), .int u5, .int u1, .ref 318], N, sl, rn_hp S M)) (rn_g_iald (n := 101) rfl rfl (ar_m10 rfl rfl (Nat.le_of_ble_eq_true rfl)) c13) ?_
    obtain ⟨p14, hp14, h⟩ := Option.bind_eq_some_iff.mp h
    refine rn_ec qm rfl rfl rfl rfl rn_m58 rfl rfl rfl (fun _ => rn_rc_of (en_9 (q := 318) rfl)) (E58 hp14) ?_
    refine rn_eg qm 0 (s2 := (121, [(6, .int t0), (0, .ref 318), (1, .int u1), (3, .int u3), (4, .int u4), (5, .int u5)], [], N, sl, rn_hp S p14)) rfl ?_
    refine rn_eg qm 2 (s2 := (49, [(3, .int (u3 + (1 : Int32))), (0, .ref 318), (1, .int u1)], [], N, sl, rn_hp S p14)) rfl ?_
    refine rn_kq qm (s2 := (49, [(0, .ref 318), (1, .int u1), (3, .int (u3 + (1 : Int32)))], [], N, sl, rn_hp S p14)) rfl rfl ?_
    exact hrc _ _ h
def f62_J99_49 (M : rn_T) (u1 : Int32) (u3 : Int32) (u4 : Int32) (u5 : Int32) (rc : (rn_T → Int32 → Option (rn_T))) (k : (rn_T → Option (rn_T))) : Option (rn_T) :=
  f62_J102_49 M u1 u3 u4 u5 (1 : Int32) rc k
set_option maxHeartbeats 4000000 in
theorem E62_J99_49 {X : rn_X} {N sl : Nat} {S : rn_T} {M : rn_T} {u1 : Int32} {u3 : Int32} {u4 : Int32} {u5 : Int32} {R : (rn_T)} {rc : (rn_T → Int32 → Option (rn_T))} (hrc : ∀ (M : rn_T) (v3 : Int32), rc M v3 = some R → rn_rv X 62 (49, [(0, .ref 318), (1, .int u1), (3, .int v3)], [], N, sl, rn_hp S M) (none, N, sl, rn_hp S R)) {k : (rn_T → Option (rn_T))} (hk : ∀ (M : rn_T), k M = some R → rn_rv X 62 (123, [], [], N, sl, rn_hp S M) (none, N, sl, rn_hp S R)) (h : f62_J99_49 M u1 u3 u4 u5 rc k = some R) : rn_rv X 62 (99, [(0, .ref 318), (1, .int u1), (3, .int u3), (4, .int u4), (5, .int u5)], [], N, sl, rn_hp S M) (none, N, sl, rn_hp S R) := by
  have qm := rn_m62
  unfold f62_J99_49 at h
  refine rn_eg qm 2 (s2 := (102, [(0, .ref 318), (1, .int u1), (3, .int u3), (4, .int u4), (5, .int u5)], [.int (1 : Int32)], N, sl, rn_hp S M)) rfl ?_
  refine rn_kq qm (s2 := (102, [(0, .ref 318), (1, .int u1), (3, .int u3), (4, .int u4), (5, .int u5)], [.int (1 : Int32)], N, sl, rn_hp S M)) rfl rfl ?_
  exact E62_J102_49 hrc hk h
def f62_J101_49 (M : rn_T) (u1 : Int32) (u3 : Int32) (u4 : Int32) (u5 : Int32) (rc : (rn_T → Int32 → Option (rn_T))) (k : (rn_T → Option (rn_T))) : Option (rn_T) :=
  f62_J102_49 M u1 u3 u4 u5 (0 : Int32) rc k
set_option maxHeartbeats 4000000 in
theorem E62_J101_49 {X : rn_X} {N sl : Nat} {S : rn_T} {M : rn_T} {u1 : Int32} {u3 : Int32} {u4 : Int32} {u5 : Int32} {R : (rn_T)} {rc : (rn_T → Int32 → Option (rn_T))} (hrc : ∀ (M : rn_T) (v3 : Int32), rc M v3 = some R → rn_rv X 62 (49, [(0, .ref 318), (1, .int u1), (3, .int v3)], [], N, sl, rn_hp S M) (none, N, sl, rn_hp S R)) {k : (rn_T → Option (rn_T))} (hk : ∀ (M : rn_T), k M = some R → rn_rv X 62 (123, [], [], N, sl, rn_hp S M) (none, N, sl, rn_hp S R)) (h : f62_J101_49 M u1 u3 u4 u5 rc k = some R) : rn_rv X 62 (101, [(0, .ref 318), (1, .int u1), (3, .int u3), (4, .int u4), (5, .int u5)], [], N, sl, rn_hp S M) (none, N, sl, rn_hp S R) := by
  have qm := rn_m62
  unfold f62_J101_49 at h
  refine rn_eg qm 1 (s2 := (102, [(0, .ref 318), (1, .int u1), (3, .int u3), (4, .int u4), (5, .int u5)], [.int (0 : Int32)], N, sl, rn_hp S M)) rfl ?_
  refine rn_kq qm (s2 := (102, [(0, .ref 318), (1, .int u1), (3, .int u3), (4, .int u4), (5, .int u5)], [.int (0 : Int32)], N, sl, rn_hp S M)) rfl rfl ?_
  exact E62_J102_49 hrc hk h
def f62_L49 (b1 : Int32) : Nat → rn_T → Int32 → (rn_T → Option (rn_T)) → Option (rn_T)
  | 0, _, _, _ => none
  | fu + 1, M, v3, k =>
    if rn_ob b1 101 then none else
      if (rA M 326 (Int32.toNatClampNeg b1)) ≤ v3 then
        k M
      else
        Option.bind (f57 M b1 v3) fun p9 =>
          if rn_ob p9 101 then none else
            if (rA M 340 (Int32.toNatClampNeg b1)) < (rA M 340 (Int32.toNatClampNeg p9)) then
              f62_J99_49 M b1 v3 p9 ((rA M 336 (Int32.toNatClampNeg p9)) + (rA M 337 (Int32.toNatClampNeg p9))) (fun M v3 => f62_L49 b1 fu M v3 k) k
            else
              if (rA M 340 (Int32.toNatClampNeg p9)) = (rA M 340 (Int32.toNatClampNeg b1)) then
                if (rA M 340 (Int32.toNatClampNeg p9)) ≤ 0 then
                  f62_J101_49 M b1 v3 p9 ((rA M 336 (Int32.toNatClampNeg p9)) + (rA M 337 (Int32.toNatClampNeg p9))) (fun M v3 => f62_L49 b1 fu M v3 k) k
                else
                  if (rA M 337 (Int32.toNatClampNeg b1)) ≤ ((rA M 336 (Int32.toNatClampNeg p9)) + (rA M 337 (Int32.toNatClampNeg p9))) then
                    f62_J101_49 M b1 v3 p9 ((rA M 336 (Int32.toNatClampNeg p9)) + (rA M 337 (Int32.toNatClampNeg p9))) (fun M v3 => f62_L49 b1 fu M v3 k) k
                  else
                    f62_J99_49 M b1 v3 p9 ((rA M 336 (Int32.toNatClampNeg p9)) + (rA M 337 (Int32.toNatClampNeg p9))) (fun M v3 => f62_L49 b1 fu M v3 k) k
              else
                f62_J101_49 M b1 v3 p9 ((rA M 336 (Int32.toNatClampNeg p9)) + (rA M 337 (Int32.toNatClampNeg p9))) (fun M v3 => f62_L49 b1 fu M v3 k) k
set_option maxHeartbeats 4000000 in
theorem E62_L49 {X : rn_X} {N sl : Nat} {S : rn_T} {b1 : Int32} : ∀ (fu : Nat) (M : rn_T) (v3 : Int32) (k : (rn_T → Option (rn_T))) (R : (rn_T)), (∀ (M : rn_T), k M = some R → rn_rv X 62 (123, [], [], N, sl, rn_hp S M) (none, N, sl, rn_hp S R)) → f62_L49 b1 fu M v3 k = some R → rn_rv X 62 (49, [(0, .ref 318), (1, .int b1), (3, .int v3)], [], N, sl, rn_hp S M) (none, N, sl, rn_hp S R) := by
  have qm := rn_m62
  intro fu
  induction fu with
  | zero => intro M v3 k R hk h; cases h
  | succ fu ih =>
    intro M v3 k R hk h
    unfold f62_L49 at h
    refine rn_eg qm 4 (s2 := (53, [(0, .ref 318), (1, .int b1), (3, .int v3)], [.int b1, .ref 326, .int v3], N, sl, rn_hp S M)) rfl ?_
    have c7 : ¬ (rn_ob b1 101) := fun c => by rw [if_pos c] at h; cases h
    rw [if_neg c7] at h
    refine rn_e1 qm (s2 := (54, [(0, .ref 318), (1, .int b1), (3, .int v3)], [.int (rA M 326 (Int32.toNatClampNeg b1)), .int v3], N, sl, rn_hp S M)) (rn_g_iald (n := 101) rfl rfl (ar_m10 rfl rfl (Nat.le_of_ble_eq_true rfl)) c7) ?_
    refine rn_eg qm 1 (s2 := ((if (rA M 326 (Int32.toNatClampNeg b1)) ≤ v3 then 123 else 55), [(0, .ref 318), (1, .int b1), (3, .int v3)], [], N, sl, rn_hp S M)) rfl ?_
    refine rn_ite (fun c8 => ?_) (fun c8 => ?_)
    · rw [if_pos c8] at h
      refine rn_kq qm (s2 := (123, [], [], N, sl, rn_hp S M)) rfl rfl ?_
      exact hk _ h
    · rw [if_neg c8] at h
      refine rn_eg qm 3 (s2 := (58, [(0, .ref 318), (1, .int b1), (3, .int v3)], [.int v3, .int b1, .ref 318], N, sl, rn_hp S M)) rfl ?_
      obtain ⟨p9, hp9, h⟩ := Option.bind_eq_some_iff.mp h
      refine rn_ec qm rfl rfl rfl rfl rn_m57 rfl rfl rfl (fun _ => rn_rc_of (en_9 (q := 318) rfl)) (E57 hp9) ?_
      refine rn_eg qm 0 (s2 := (59, [(0, .ref 318), (1, .int b1), (3, .int v3)], [.int p9], N, sl, rn_hp S M)) rfl ?_
      refine rn_eg qm 4 (s2 := (63, [(4, .int p9), (0, .ref 318), (1, .int b1), (3, .int v3)], [.int p9, .ref 336], N, sl, rn_hp S M)) rfl ?_
      have c10 : ¬ (rn_ob p9 101) := fun c => by rw [if_pos c] at h; cases h
      rw [if_neg c10] at h
      refine rn_e1 qm (s2 := (64, [(4, .int p9), (0, .ref 318), (1, .int b1), (3, .int v3)], [.int (rA M 336 (Int32.toNatClampNeg p9))], N, sl, rn_hp S M)) (rn_g_iald (n := 101) rfl rfl (ar_m10 rfl rfl (Nat.le_of_ble_eq_true rfl)) c10) ?_
      refine rn_eg qm 3 (s2 := (67, [(4, .int p9), (0, .ref 318), (1, .int b1), (3, .int v3)], [.int p9, .ref 337, .int (rA M 336 (Int32.toNatClampNeg p9))], N, sl, rn_hp S M)) rfl ?_
      refine rn_e1 qm (s2 := (68, [(4, .int p9), (0, .ref 318), (1, .int b1), (3, .int v3)], [.int (rA M 337 (Int32.toNatClampNeg p9)), .int (rA M 336 (Int32.toNatClampNeg p9))], N, sl, rn_hp S M)) (rn_g_iald (n := 101) rfl rfl (ar_m10 rfl rfl (Nat.le_of_ble_eq_true rfl)) c10) ?_
      refine rn_eg qm 5 (s2 := (73, [(5, .int ((rA M 336 (Int32.toNatClampNeg p9)) + (rA M 337 (Int32.toNatClampNeg p9)))), (4, .int p9), (0, .ref 318), (1, .int b1), (3, .int v3)], [.int p9, .ref 340], N, sl, rn_hp S M)) rfl ?_
      refine rn_e1 qm (s2 := (74, [(5, .int ((rA M 336 (Int32.toNatClampNeg p9)) + (rA M 337 (Int32.toNatClampNeg p9)))), (4, .int p9), (0, .ref 318), (1, .int b1), (3, .int v3)], [.int (rA M 340 (Int32.toNatClampNeg p9))], N, sl, rn_hp S M)) (rn_g_iald (n := 101) rfl rfl (ar_m10 rfl rfl (Nat.le_of_ble_eq_true rfl)) c10) ?_
      refine rn_eg qm 3 (s2 := (77, [(5, .int ((rA M 336 (Int32.toNatClampNeg p9)) + (rA M 337 (Int32.toNatClampNeg p9)))), (4, .int p9), (0, .ref 318), (1, .int b1), (3, .int v3)], [.int b1, .ref 340, .int (rA M 340 (Int32.toNatClampNeg p9))], N, sl, rn_hp S M)) rfl ?_
      refine rn_e1 qm (s2 := (78, [(5, .int ((rA M 336 (Int32.toNatClampNeg p9)) + (rA M 337 (Int32.toNatClampNeg p9)))), (4, .int p9), (0, .ref 318), (1, .int b1), (3, .int v3)], [.int (rA M 340 (Int32.toNatClampNeg b1)), .int (rA M 340 (Int32.toNatClampNeg p9))], N, sl, rn_hp S M)) (rn_g_iald (n := 101) rfl rfl (ar_m10 rfl rfl (Nat.le_of_ble_eq_true rfl)) c7) ?_
      refine rn_eg qm 1 (s2 := ((if (rA M 340 (Int32.toNatClampNeg b1)) < (rA M 340 (Int32.toNatClampNeg p9)) then 99 else 79), [(5, .int ((rA M 336 (Int32.toNatClampNeg p9)) + (rA M 337 (Int32.toNatClampNeg p9)))), (4, .int p9), (0, .ref 318), (1, .int b1), (3, .int v3)], [], N, sl, rn_hp S M)) rfl ?_
      refine rn_ite (fun c11 => ?_) (fun c11 => ?_)
      · rw [if_pos c11] at h
        refine rn_kq qm (s2 := (99, [(0, .ref 318), (1, .int b1), (3, .int v3), (4, .int p9), (5, .int ((rA M 336 (Int32.toNatClampNeg p9)) + (rA M 337 (Int32.toNatClampNeg p9))))], [], N, sl, rn_hp S M)) rfl rfl ?_
        exact E62_J99_49 (fun M v3 h => ih M v3 k R hk h) hk h
      · rw [if_neg c11] at h
        refine rn_eg qm 3 (s2 := (82, [(5, .int ((rA M 336 (Int32.toNatClampNeg p9)) + (rA M 337 (Int32.toNatClampNeg p9)))), (4, .int p9), (0, .ref 318), (1, .int b1), (3, .int v3)], [.int p9, .ref 340], N, sl, rn_hp S M)) rfl ?_
        refine rn_e1 qm (s2 := (83, [(5, .int ((rA M 336 (Int32.toNatClampNeg p9)) + (rA M 337 (Int32.toNatClampNeg p9)))), (4, .int p9), (0, .ref 318), (1, .int b1), (3, .int v3)], [.int (rA M 340 (Int32.toNatClampNeg p9))], N, sl, rn_hp S M)) (rn_g_iald (n := 101) rfl rfl (ar_m10 rfl rfl (Nat.le_of_ble_eq_true rfl)) c10) ?_
        refine rn_eg qm 3 (s2 := (86, [(5, .int ((rA M 336 (Int32.toNatClampNeg p9)) + (rA M 337 (Int32.toNatClampNeg p9)))), (4, .int p9), (0, .ref 318), (1, .int b1), (3, .int v3)], [.int b1, .ref 340, .int (rA M 340 (Int32.toNatClampNeg p9))], N, sl, rn_hp S M)) rfl ?_
        refine rn_e1 qm (s2 := (87, [(5, .int ((rA M 336 (Int32.toNatClampNeg p9)) + (rA M 337 (Int32.toNatClampNeg p9)))), (4, .int p9), (0, .ref 318), (1, .int b1), (3, .int v3)], [.int (rA M 340 (Int32.toNatClampNeg b1)), .int (rA M 340 (Int32.toNatClampNeg p9))], N, sl, rn_hp S M)) (rn_g_iald (n := 101) rfl rfl (ar_m10 rfl rfl (Nat.le_of_ble_eq_true rfl)) c7) ?_
        refine rn_eg qm 1 (s2 := ((if (rA M 340 (Int32.toNatClampNeg p9)) = (rA M 340 (Int32.toNatClampNeg b1)) then 88 else 101), [(5, .int ((rA M 336 (Int32.toNatClampNeg p9)) + (rA M 337 (Int32.toNatClampNeg p9)))), (4, .int p9), (0, .ref 318), (1, .int b1), (3, .int v3)], [], N, sl, rn_hp S M)) rfl ?_
        refine rn_ite (fun c15 => ?_) (fun c15 => ?_)
        · rw [if_pos c15] at h
          refine rn_eg qm 3 (s2 := (91, [(5, .int ((rA M 336 (Int32.toNatClampNeg p9)) + (rA M 337 (Int32.toNatClampNeg p9)))), (4, .int p9), (0, .ref 318), (1, .int b1), (3, .int v3)], [.int p9, .ref 340], N, sl, rn_hp S M)) rfl ?_
          refine rn_e1 qm (s2 := (92, [(5, .int ((rA M 336 (Int32.toNatClampNeg p9)) + (rA M 337 (Int32.toNatClampNeg p9)))), (4, .int p9), (0, .ref 318), (1, .int b1), (3, .int v3)], [.int (rA M 340 (Int32.toNatClampNeg p9))], N, sl, rn_hp S M)) (rn_g_iald (n := 101) rfl rfl (ar_m10 rfl rfl (Nat.le_of_ble_eq_true rfl)) c10) ?_
          refine rn_eg qm 1 (s2 := ((if (rA M 340 (Int32.toNatClampNeg p9)) ≤ 0 then 101 else 93), [(5, .int ((rA M 336 (Int32.toNatClampNeg p9)) + (rA M 337 (Int32.toNatClampNeg p9)))), (4, .int p9), (0, .ref 318), (1, .int b1), (3, .int v3)], [], N, sl, rn_hp S M)) rfl ?_
          refine rn_ite (fun c16 => ?_) (fun c16 => ?_)
          · rw [if_pos c16] at h
            refine rn_kq qm (s2 := (101, [(0, .ref 318), (1, .int b1), (3, .int v3), (4, .int p9), (5, .int ((rA M 336 (Int32.toNatClampNeg p9)) + (rA M 337 (Int32.toNatClampNeg p9))))], [], N, sl, rn_hp S M)) rfl rfl ?_
            exact E62_J101_49 (fun M v3 h => ih M v3 k R hk h) hk h
          · rw [if_neg c16] at h
            refine rn_eg qm 4 (s2 := (97, [(5, .int ((rA M 336 (Int32.toNatClampNeg p9)) + (rA M 337 (Int32.toNatClampNeg p9)))), (4, .int p9), (0, .ref 318), (1, .int b1), (3, .int v3)], [.int b1, .ref 337, .int ((rA M 336 (Int32.toNatClampNeg p9)) + (rA M 337 (Int32.toNatClampNeg p9)))], N, sl, rn_hp S M)) rfl ?_
            refine rn_e1 qm (s2 := (98, [(5, .int ((rA M 336 (Int32.toNatClampNeg p9)) + (rA M 337 (Int32.toNatClampNeg p9)))), (4, .int p9), (0, .ref 318), (1, .int b1), (3, .int v3)], [.int (rA M 337 (Int32.toNatClampNeg b1)), .int ((rA M 336 (Int32.toNatClampNeg p9)) + (rA M 337 (Int32.toNatClampNeg p9)))], N, sl, rn_hp S M)) (rn_g_iald (n := 101) rfl rfl (ar_m10 rfl rfl (Nat.le_of_ble_eq_true rfl)) c7) ?_
            refine rn_eg qm 1 (s2 := ((if (rA M 337 (Int32.toNatClampNeg b1)) ≤ ((rA M 336 (Int32.toNatClampNeg p9)) + (rA M 337 (Int32.toNatClampNeg p9))) then 101 else 99), [(5, .int ((rA M 336 (Int32.toNatClampNeg p9)) + (rA M 337 (Int32.toNatClampNeg p9)))), (4, .int p9), (0, .ref 318), (1, .int b1), (3, .int v3)], [], N, sl, rn_hp S M)) rfl ?_
            refine rn_ite (fun c17 => ?_) (fun c17 => ?_)
            · rw [if_pos c17] at h
              refine rn_kq qm (s2 := (101, [(0, .ref 318), (1, .int b1), (3, .int v3), (4, .int p9), (5, .int ((rA M 336 (Int32.toNatClampNeg p9)) + (rA M 337 (Int32.toNatClampNeg p9))))], [], N, sl, rn_hp S M)) rfl rfl ?_
              exact E62_J101_49 (fun M v3 h => ih M v3 k R hk h) hk h
            · rw [if_neg c17] at h
              refine rn_kq qm (s2 := (99, [(0, .ref 318), (1, .int b1), (3, .int v3), (4, .int p9), (5, .int ((rA M 336 (Int32.toNatClampNeg p9)) + (rA M 337 (Int32.toNatClampNeg p9))))], [], N, sl, rn_hp S M)) rfl rfl ?_
              exact E62_J99_49 (fun M v3 h => ih M v3 k R hk h) hk h
        · rw [if_neg c15] at h
          refine rn_kq qm (s2 := (101, [(0, .ref 318), (1, .int b1), (3, .int v3), (4, .int p9), (5, .int ((rA M 336 (Int32.toNatClampNeg p9)) + (rA M 337 (Int32.toNatClampNeg p9))))], [], N, sl, rn_hp S M)) rfl rfl ?_
          exact E62_J101_49 (fun M v3 h => ih M v3 k R hk h) hk h
def f62_J22 (M : rn_T) (u1 : Int32) (t0 : Int32) : Option (rn_T) :=
  Option.bind (f60 M u1) fun p3 =>
    if rn_ob u1 101 then none else
      Option.bind (f32 t0 (rA (wA M 335 (Int32.toNatClampNeg u1) p3) 335 (Int32.toNatClampNeg u1))) fun p5 =>
        Option.bind (f58 (wA (wA M 335 (Int32.toNatClampNeg u1) p3) 334 (Int32.toNatClampNeg u1) p5) u1 (0 : Int32) (0 : Int32) (0 : Int32) (0 : Int32)) fun p6 =>
          f62_L49 u1 rn_FU p6 (0 : Int32) (fun M18 =>
            some (M18))
set_option maxHeartbeats 4000000 in
theorem E62_J22 {X : rn_X} {N sl : Nat} {S : rn_T} {M : rn_T} {u1 : Int32} {t0 : Int32} {R : (rn_T)} (h : f62_J22 M u1 t0 = some R) : rn_rv X 62 (22, [(0, .ref 318), (1, .int u1)], [.int t0], N, sl, rn_hp S M) (none, N, sl, rn_hp S R) := by
  have qm := rn_m62
  unfold f62_J22 at h
  refine rn_eg qm 6 (s2 := (28, [(2, .int t0), (0, .ref 318), (1, .int u1)], [.int u1, .ref 318, .int u1, .ref 335], N, sl, rn_hp S M)) rfl ?_
  obtain ⟨p3, hp3, h⟩ := Option.bind_eq_some_iff.mp h
  refine rn_ec qm rfl rfl rfl rfl rn_m60 rfl rfl rfl (fun _ => rn_rc_of (en_9 (q := 318) rfl)) (E60 hp3) ?_
  refine rn_eg qm 0 (s2 := (29, [(2, .int t0), (0, .ref 318), (1, .int u1)], [.int p3, .int u1, .ref 335], N, sl, rn_hp S M)) rfl ?_
  have c4 : ¬ (rn_ob u1 101) := fun c => by rw [if_pos c] at h; cases h
  rw [if_neg c4] at h
  refine rn_e1 qm (s2 := (30, [(2, .int t0), (0, .ref 318), (1, .int u1)], [], N, sl, rn_hp S (wA M 335 (Int32.toNatClampNeg u1) p3))) (rn_g_iast (n := 101) rfl rfl (ar_m10 rfl rfl (Nat.le_of_ble_eq_true rfl)) c4 (aw_m10 rfl rfl (Nat.le_of_ble_eq_true rfl))) ?_
  refine rn_eg qm 7 (s2 := (37, [(2, .int t0), (0, .ref 318), (1, .int u1)], [.int u1, .ref 335, .int t0, .int u1, .ref 334], N, sl, rn_hp S (wA M 335 (Int32.toNatClampNeg u1) p3))) rfl ?_
  refine rn_e1 qm (s2 := (38, [(2, .int t0), (0, .ref 318), (1, .int u1)], [.int (rA (wA M 335 (Int32.toNatClampNeg u1) p3) 335 (Int32.toNatClampNeg u1)), .int t0, .int u1, .ref 334], N, sl, rn_hp S (wA M 335 (Int32.toNatClampNeg u1) p3))) (rn_g_iald (n := 101) rfl rfl (ar_m10 rfl rfl (Nat.le_of_ble_eq_true rfl)) c4) ?_
  obtain ⟨p5, hp5, h⟩ := Option.bind_eq_some_iff.mp h
  refine rn_ec qm rfl rfl rfl rfl rn_m32 rfl rfl rfl (fun h => by cases h) (E32 hp5) ?_
  refine rn_eg qm 0 (s2 := (39, [(2, .int t0), (0, .ref 318), (1, .int u1)], [.int p5, .int u1, .ref 334], N, sl, rn_hp S (wA M 335 (Int32.toNatClampNeg u1) p3))) rfl ?_
  refine rn_e1 qm (s2 := (40, [(2, .int t0), (0, .ref 318), (1, .int u1)], [], N, sl, rn_hp S (wA (wA M 335 (Int32.toNatClampNeg u1) p3) 334 (Int32.toNatClampNeg u1) p5))) (rn_g_iast (n := 101) rfl rfl (ar_m10 rfl rfl (Nat.le_of_ble_eq_true rfl)) c4 (aw_m10 rfl rfl (Nat.le_of_ble_eq_true rfl))) ?_
  refine rn_eg qm 6 (s2 := (46, [(2, .int t0), (0, .ref 318), (1, .int u1)], [.int (0 : Int32), .int (0 : Int32), .int (0 : Int32), .int (0 : Int32), .int u1, .ref 318], N, sl, rn_hp S (wA (wA M 335 (Int32.toNatClampNeg u1) p3) 334 (Int32.toNatClampNeg u1) p5))) rfl ?_
  obtain ⟨p6, hp6, h⟩ := Option.bind_eq_some_iff.mp h
  refine rn_ec qm rfl rfl rfl rfl rn_m58 rfl rfl rfl (fun _ => rn_rc_of (en_9 (q := 318) rfl)) (E58 hp6) ?_
  refine rn_eg qm 0 (s2 := (47, [(2, .int t0), (0, .ref 318), (1, .int u1)], [], N, sl, rn_hp S p6)) rfl ?_
  refine rn_eg qm 2 (s2 := (49, [(3, .int (0 : Int32)), (2, .int t0), (0, .ref 318), (1, .int u1)], [], N, sl, rn_hp S p6)) rfl ?_
  refine rn_kq qm (s2 := (49, [(0, .ref 318), (1, .int u1), (3, .int (0 : Int32))], [], N, sl, rn_hp S p6)) rfl rfl ?_
  refine E62_L49 rn_FU _ _ _ R ?_ h
  intro M18 h
  cases h
  exact rn_er qm rfl rfl rfl
def f62 (M : rn_T) (a1 : Int32) : Option (rn_T) :=
  if (rI M 318 2) = 0 then
    Option.bind (f61 M a1 (0 : Int32) (0 : Int32)) fun p2 =>
      f62_J22 p2.2 a1 p2.1
  else
    Option.bind (f61 M a1 (4 : Int32) (0 : Int32)) fun p19 =>
      Option.bind (f61 p19.2 a1 (2 : Int32) p19.1) fun p20 =>
        Option.bind (f61 p20.2 a1 (1 : Int32) p20.1) fun p21 =>
          f62_J22 p21.2 a1 p21.1
set_option maxHeartbeats 4000000 in
theorem E62 {X : rn_X} {N sl : Nat} {S M : rn_T} {a1 : Int32} {R : (rn_T)} (h : f62 M a1 = some R) : rn_rv X 62 (0, [(0, .ref 318), (1, .int a1)], [], N, sl, rn_hp S M) (none, N, sl, rn_hp S R) := by
  have qm := rn_m62
  unfold f62 at h
  refine rn_eg qm 3 (s2 := ((if (rI M 318 2) = 0 then 3 else 9), [(0, .ref 318), (1, .int a1)], [], N, sl, rn_hp S M)) rfl ?_
  refine rn_ite (fun c1 => ?_) (fun c1 => ?_)
  · rw [if_pos c1] at h
    refine rn_eg qm 4 (s2 := (7, [(0, .ref 318), (1, .int a1)], [.int (0 : Int32), .int (0 : Int32), .int a1, .ref 318], N, sl, rn_hp S M)) rfl ?_
    obtain ⟨p2, hp2, h⟩ := Option.bind_eq_some_iff.mp h
    refine rn_ec qm rfl rfl rfl rfl rn_m61 rfl rfl rfl (fun _ => rn_rc_of (en_9 (q := 318) rfl)) (E61 hp2) ?_
    refine rn_eg qm 0 (s2 := (8, [(0, .ref 318), (1, .int a1)], [.int p2.1], N, sl, rn_hp S p2.2)) rfl ?_
    refine rn_eg qm 1 (s2 := (22, [(0, .ref 318), (1, .int a1)], [.int p2.1], N, sl, rn_hp S p2.2)) rfl ?_
    refine rn_kq qm (s2 := (22, [(0, .ref 318), (1, .int a1)], [.int p2.1], N, sl, rn_hp S p2.2)) rfl rfl ?_
    exact E62_J22 h
  · rw [if_neg c1] at h
    refine rn_eg qm 10 (s2 := (19, [(0, .ref 318), (1, .int a1)], [.int (0 : Int32), .int (4 : Int32), .int a1, .ref 318, .int (2 : Int32), .int a1, .ref 318, .int (1 : Int32), .int a1, .ref 318], N, sl, rn_hp S M)) rfl ?_
    obtain ⟨p19, hp19, h⟩ := Option.bind_eq_some_iff.mp h
    refine rn_ec qm rfl rfl rfl rfl rn_m61 rfl rfl rfl (fun _ => rn_rc_of (en_9 (q := 318) rfl)) (E61 hp19) ?_
    refine rn_eg qm 0 (s2 := (20, [(0, .ref 318), (1, .int a1)], [.int p19.1, .int (2 : Int32), .int a1, .ref 318, .int (1 : Int32), .int a1, .ref 318], N, sl, rn_hp S p19.2)) rfl ?_
    obtain ⟨p20, hp20, h⟩ := Option.bind_eq_some_iff.mp h
    refine rn_ec qm rfl rfl rfl rfl rn_m61 rfl rfl rfl (fun _ => rn_rc_of (en_9 (q := 318) rfl)) (E61 hp20) ?_
    refine rn_eg qm 0 (s2 := (21, [(0, .ref 318), (1, .int a1)], [.int p20.1, .int (1 : Int32), .int a1, .ref 318], N, sl, rn_hp S p20.2)) rfl ?_
    obtain ⟨p21, hp21, h⟩ := Option.bind_eq_some_iff.mp h
    refine rn_ec qm rfl rfl rfl rfl rn_m61 rfl rfl rfl (fun _ => rn_rc_of (en_9 (q := 318) rfl)) (E61 hp21) ?_
    refine rn_eg qm 0 (s2 := (22, [(0, .ref 318), (1, .int a1)], [.int p21.1], N, sl, rn_hp S p21.2)) rfl ?_
    refine rn_kq qm (s2 := (22, [(0, .ref 318), (1, .int a1)], [.int p21.1], N, sl, rn_hp S p21.2)) rfl rfl ?_
    exact E62_J22 h
/-! 63: RecordNichesModel.hostOf(I)I -/
def f63_L4 (b1 : Int32) : Nat → rn_T → Int32 → Int32 → (rn_T → Int32 → Option Int32) → Option Int32
  | 0, _, _, _, _ => none
  | fu + 1, M, v2, v3, k =>
    if rn_ob b1 101 then none else
      if (rA M 326 (Int32.toNatClampNeg b1)) ≤ v3 then
        k M v2
      else
        Option.bind (f57 M b1 v3) fun p3 =>
          if rn_ob p3 101 then none else
            Option.bind (f57 M b1 v2) fun p5 =>
              if rn_ob p5 101 then none else
                if (rA M 334 (Int32.toNatClampNeg p3)) ≤ (rA M 334 (Int32.toNatClampNeg p5)) then
                  f63_L4 b1 fu M v2 (v3 + (1 : Int32)) k
                else
                  f63_L4 b1 fu M v3 (v3 + (1 : Int32)) k
set_option maxHeartbeats 4000000 in
theorem E63_L4 {X : rn_X} {N sl : Nat} {S : rn_T} {b1 : Int32} : ∀ (fu : Nat) (M : rn_T) (v2 : Int32) (v3 : Int32) (k : (rn_T → Int32 → Option Int32)) (R : (Int32)), (∀ (M : rn_T) (w_2 : Int32), k M w_2 = some R → rn_rv X 63 (31, [(2, .int w_2)], [], N, sl, rn_hp S M) (some (.int R), N, sl, rn_hp S M)) → f63_L4 b1 fu M v2 v3 k = some R → rn_rv X 63 (4, [(0, .ref 318), (1, .int b1), (2, .int v2), (3, .int v3)], [], N, sl, rn_hp S M) (some (.int R), N, sl, rn_hp S M) := by
  have qm := rn_m63
  intro fu
  induction fu with
  | zero => intro M v2 v3 k R hk h; cases h
  | succ fu ih =>
    intro M v2 v3 k R hk h
    unfold f63_L4 at h
    refine rn_eg qm 4 (s2 := (8, [(0, .ref 318), (1, .int b1), (2, .int v2), (3, .int v3)], [.int b1, .ref 326, .int v3], N, sl, rn_hp S M)) rfl ?_
    have c1 : ¬ (rn_ob b1 101) := fun c => by rw [if_pos c] at h; cases h
    rw [if_neg c1] at h
    refine rn_e1 qm (s2 := (9, [(0, .ref 318), (1, .int b1), (2, .int v2), (3, .int v3)], [.int (rA M 326 (Int32.toNatClampNeg b1)), .int v3], N, sl, rn_hp S M)) (rn_g_iald (n := 101) rfl rfl (ar_m10 rfl rfl (Nat.le_of_ble_eq_true rfl)) c1) ?_
    refine rn_eg qm 1 (s2 := ((if (rA M 326 (Int32.toNatClampNeg b1)) ≤ v3 then 31 else 10), [(0, .ref 318), (1, .int b1), (2, .int v2), (3, .int v3)], [], N, sl, rn_hp S M)) rfl ?_
    refine rn_ite (fun c2 => ?_) (fun c2 => ?_)
    · rw [if_pos c2] at h
      refine rn_kq qm (s2 := (31, [(2, .int v2)], [], N, sl, rn_hp S M)) rfl rfl ?_
      exact hk _ _ h
    · rw [if_neg c2] at h
      refine rn_eg qm 5 (s2 := (15, [(0, .ref 318), (1, .int b1), (2, .int v2), (3, .int v3)], [.int v3, .int b1, .ref 318, .ref 334], N, sl, rn_hp S M)) rfl ?_
      obtain ⟨p3, hp3, h⟩ := Option.bind_eq_some_iff.mp h
      refine rn_ec qm rfl rfl rfl rfl rn_m57 rfl rfl rfl (fun _ => rn_rc_of (en_9 (q := 318) rfl)) (E57 hp3) ?_
      refine rn_eg qm 0 (s2 := (16, [(0, .ref 318), (1, .int b1), (2, .int v2), (3, .int v3)], [.int p3, .ref 334], N, sl, rn_hp S M)) rfl ?_
      have c4 : ¬ (rn_ob p3 101) := fun c => by rw [if_pos c] at h; cases h
      rw [if_neg c4] at h
      refine rn_e1 qm (s2 := (17, [(0, .ref 318), (1, .int b1), (2, .int v2), (3, .int v3)], [.int (rA M 334 (Int32.toNatClampNeg p3))], N, sl, rn_hp S M)) (rn_g_iald (n := 101) rfl rfl (ar_m10 rfl rfl (Nat.le_of_ble_eq_true rfl)) c4) ?_
      refine rn_eg qm 5 (s2 := (22, [(0, .ref 318), (1, .int b1), (2, .int v2), (3, .int v3)], [.int v2, .int b1, .ref 318, .ref 334, .int (rA M 334 (Int32.toNatClampNeg p3))], N, sl, rn_hp S M)) rfl ?_
      obtain ⟨p5, hp5, h⟩ := Option.bind_eq_some_iff.mp h
      refine rn_ec qm rfl rfl rfl rfl rn_m57 rfl rfl rfl (fun _ => rn_rc_of (en_9 (q := 318) rfl)) (E57 hp5) ?_
      refine rn_eg qm 0 (s2 := (23, [(0, .ref 318), (1, .int b1), (2, .int v2), (3, .int v3)], [.int p5, .ref 334, .int (rA M 334 (Int32.toNatClampNeg p3))], N, sl, rn_hp S M)) rfl ?_
      have c6 : ¬ (rn_ob p5 101) := fun c => by rw [if_pos c] at h; cases h
      rw [if_neg c6] at h
      refine rn_e1 qm (s2 := (24, [(0, .ref 318), (1, .int b1), (2, .int v2), (3, .int v3)], [.int (rA M 334 (Int32.toNatClampNeg p5)), .int (rA M 334 (Int32.toNatClampNeg p3))], N, sl, rn_hp S M)) (rn_g_iald (n := 101) rfl rfl (ar_m10 rfl rfl (Nat.le_of_ble_eq_true rfl)) c6) ?_
      refine rn_eg qm 1 (s2 := ((if (rA M 334 (Int32.toNatClampNeg p3)) ≤ (rA M 334 (Int32.toNatClampNeg p5)) then 27 else 25), [(0, .ref 318), (1, .int b1), (2, .int v2), (3, .int v3)], [], N, sl, rn_hp S M)) rfl ?_
      refine rn_ite (fun c7 => ?_) (fun c7 => ?_)
      · rw [if_pos c7] at h
        refine rn_eg qm 4 (s2 := (4, [(3, .int (v3 + (1 : Int32))), (2, .int v2), (0, .ref 318), (1, .int b1)], [], N, sl, rn_hp S M)) rfl ?_
        refine rn_kq qm (s2 := (4, [(0, .ref 318), (1, .int b1), (2, .int v2), (3, .int (v3 + (1 : Int32)))], [], N, sl, rn_hp S M)) rfl rfl ?_
        exact ih _ _ _ k R hk h
      · rw [if_neg c7] at h
        refine rn_eg qm 5 (s2 := (4, [(3, .int (v3 + (1 : Int32))), (2, .int v3), (0, .ref 318), (1, .int b1)], [], N, sl, rn_hp S M)) rfl ?_
        refine rn_kq qm (s2 := (4, [(0, .ref 318), (1, .int b1), (2, .int v3), (3, .int (v3 + (1 : Int32)))], [], N, sl, rn_hp S M)) rfl rfl ?_
        exact ih _ _ _ k R hk h
def f63 (M : rn_T) (a1 : Int32) : Option Int32 :=
  f63_L4 a1 rn_FU M (0 : Int32) (1 : Int32) (fun M8 w8_2 =>
    some w8_2)
set_option maxHeartbeats 4000000 in
theorem E63 {X : rn_X} {N sl : Nat} {S M : rn_T} {a1 : Int32} {R : (Int32)} (h : f63 M a1 = some R) : rn_rv X 63 (0, [(0, .ref 318), (1, .int a1)], [], N, sl, rn_hp S M) (some (.int R), N, sl, rn_hp S M) := by
  have qm := rn_m63
  unfold f63 at h
  refine rn_eg qm 4 (s2 := (4, [(3, .int (1 : Int32)), (2, .int (0 : Int32)), (0, .ref 318), (1, .int a1)], [], N, sl, rn_hp S M)) rfl ?_
  refine rn_kq qm (s2 := (4, [(0, .ref 318), (1, .int a1), (2, .int (0 : Int32)), (3, .int (1 : Int32))], [], N, sl, rn_hp S M)) rfl rfl ?_
  refine E63_L4 rn_FU _ _ _ _ R ?_ h
  intro M8 w8_2 h
  refine rn_eg qm 1 (s2 := (32, [(2, .int w8_2)], [.int w8_2], N, sl, rn_hp S M8)) rfl ?_
  cases h
  exact rn_er qm rfl rfl rfl
/-! 64: RecordNichesModel.roomFor(II)I -/
def f64 (M : rn_T) (a1 : Int32) (a2 : Int32) : Option Int32 :=
  if rn_ob a1 101 then none else
    if rn_ob a2 101 then none else
      if (rA M 337 (Int32.toNatClampNeg a2)) < (rA M 334 (Int32.toNatClampNeg a1)) then
        Option.bind (f32 ((rA M 337 (Int32.toNatClampNeg a2)) + (rA M 338 (Int32.toNatClampNeg a2))) (rA M 335 (Int32.toNatClampNeg a1))) fun p4 =>
          if (rA M 334 (Int32.toNatClampNeg a2)) < (p4 + (rA M 334 (Int32.toNatClampNeg a1))) then
            some (-6 : Int32)
          else
            some p4
      else
        some (0 : Int32)
set_option maxHeartbeats 4000000 in
theorem E64 {X : rn_X} {N sl : Nat} {S M : rn_T} {a1 : Int32} {a2 : Int32} {R : (Int32)} (h : f64 M a1 a2 = some R) : rn_rv X 64 (0, [(0, .ref 318), (1, .int a1), (2, .int a2)], [], N, sl, rn_hp S M) (some (.int R), N, sl, rn_hp S M) := by
  have qm := rn_m64
  unfold f64 at h
  refine rn_eg qm 3 (s2 := (3, [(0, .ref 318), (1, .int a1), (2, .int a2)], [.int a1, .ref 334], N, sl, rn_hp S M)) rfl ?_
  have c1 : ¬ (rn_ob a1 101) := fun c => by rw [if_pos c] at h; cases h
  rw [if_neg c1] at h
  refine rn_e1 qm (s2 := (4, [(0, .ref 318), (1, .int a1), (2, .int a2)], [.int (rA M 334 (Int32.toNatClampNeg a1))], N, sl, rn_hp S M)) (rn_g_iald (n := 101) rfl rfl (ar_m10 rfl rfl (Nat.le_of_ble_eq_true rfl)) c1) ?_
  refine rn_eg qm 3 (s2 := (7, [(0, .ref 318), (1, .int a1), (2, .int a2)], [.int a2, .ref 337, .int (rA M 334 (Int32.toNatClampNeg a1))], N, sl, rn_hp S M)) rfl ?_
  have c2 : ¬ (rn_ob a2 101) := fun c => by rw [if_pos c] at h; cases h
  rw [if_neg c2] at h
  refine rn_e1 qm (s2 := (8, [(0, .ref 318), (1, .int a1), (2, .int a2)], [.int (rA M 337 (Int32.toNatClampNeg a2)), .int (rA M 334 (Int32.toNatClampNeg a1))], N, sl, rn_hp S M)) (rn_g_iald (n := 101) rfl rfl (ar_m10 rfl rfl (Nat.le_of_ble_eq_true rfl)) c2) ?_
  refine rn_eg qm 1 (s2 := ((if (rA M 337 (Int32.toNatClampNeg a2)) < (rA M 334 (Int32.toNatClampNeg a1)) then 11 else 9), [(0, .ref 318), (1, .int a1), (2, .int a2)], [], N, sl, rn_hp S M)) rfl ?_
  refine rn_ite (fun c3 => ?_) (fun c3 => ?_)
  · rw [if_pos c3] at h
    refine rn_eg qm 3 (s2 := (14, [(0, .ref 318), (1, .int a1), (2, .int a2)], [.int a2, .ref 337], N, sl, rn_hp S M)) rfl ?_
    refine rn_e1 qm (s2 := (15, [(0, .ref 318), (1, .int a1), (2, .int a2)], [.int (rA M 337 (Int32.toNatClampNeg a2))], N, sl, rn_hp S M)) (rn_g_iald (n := 101) rfl rfl (ar_m10 rfl rfl (Nat.le_of_ble_eq_true rfl)) c2) ?_
    refine rn_eg qm 3 (s2 := (18, [(0, .ref 318), (1, .int a1), (2, .int a2)], [.int a2, .ref 338, .int (rA M 337 (Int32.toNatClampNeg a2))], N, sl, rn_hp S M)) rfl ?_
    refine rn_e1 qm (s2 := (19, [(0, .ref 318), (1, .int a1), (2, .int a2)], [.int (rA M 338 (Int32.toNatClampNeg a2)), .int (rA M 337 (Int32.toNatClampNeg a2))], N, sl, rn_hp S M)) (rn_g_iald (n := 101) rfl rfl (ar_m10 rfl rfl (Nat.le_of_ble_eq_true rfl)) c2) ?_
    refine rn_eg qm 4 (s2 := (23, [(0, .ref 318), (1, .int a1), (2, .int a2)], [.int a1, .ref 335, .int ((rA M 337 (Int32.toNatClampNeg a2)) + (rA M 338 (Int32.toNatClampNeg a2)))], N, sl, rn_hp S M)) rfl ?_
    refine rn_e1 qm (s2 := (24, [(0, .ref 318), (1, .int a1), (2, .int a2)], [.int (rA M 335 (Int32.toNatClampNeg a1)), .int ((rA M 337 (Int32.toNatClampNeg a2)) + (rA M 338 (Int32.toNatClampNeg a2)))], N, sl, rn_hp S M)) (rn_g_iald (n := 101) rfl rfl (ar_m10 rfl rfl (Nat.le_of_ble_eq_true rfl)) c1) ?_
    obtain ⟨p4, hp4, h⟩ := Option.bind_eq_some_iff.mp h
    refine rn_ec qm rfl rfl rfl rfl rn_m32 rfl rfl rfl (fun h => by cases h) (E32 hp4) ?_
    refine rn_eg qm 0 (s2 := (25, [(0, .ref 318), (1, .int a1), (2, .int a2)], [.int p4], N, sl, rn_hp S M)) rfl ?_
    refine rn_eg qm 5 (s2 := (30, [(3, .int p4), (0, .ref 318), (1, .int a1), (2, .int a2)], [.int a1, .ref 334, .int p4], N, sl, rn_hp S M)) rfl ?_
    refine rn_e1 qm (s2 := (31, [(3, .int p4), (0, .ref 318), (1, .int a1), (2, .int a2)], [.int (rA M 334 (Int32.toNatClampNeg a1)), .int p4], N, sl, rn_hp S M)) (rn_g_iald (n := 101) rfl rfl (ar_m10 rfl rfl (Nat.le_of_ble_eq_true rfl)) c1) ?_
    refine rn_eg qm 4 (s2 := (35, [(3, .int p4), (0, .ref 318), (1, .int a1), (2, .int a2)], [.int a2, .ref 334, .int (p4 + (rA M 334 (Int32.toNatClampNeg a1)))], N, sl, rn_hp S M)) rfl ?_
    refine rn_e1 qm (s2 := (36, [(3, .int p4), (0, .ref 318), (1, .int a1), (2, .int a2)], [.int (rA M 334 (Int32.toNatClampNeg a2)), .int (p4 + (rA M 334 (Int32.toNatClampNeg a1)))], N, sl, rn_hp S M)) (rn_g_iald (n := 101) rfl rfl (ar_m10 rfl rfl (Nat.le_of_ble_eq_true rfl)) c2) ?_
    refine rn_eg qm 1 (s2 := ((if (rA M 334 (Int32.toNatClampNeg a2)) < (p4 + (rA M 334 (Int32.toNatClampNeg a1))) then 39 else 37), [(3, .int p4), (0, .ref 318), (1, .int a1), (2, .int a2)], [], N, sl, rn_hp S M)) rfl ?_
    refine rn_ite (fun c5 => ?_) (fun c5 => ?_)
    · rw [if_pos c5] at h
      refine rn_eg qm 1 (s2 := (40, [(3, .int p4), (0, .ref 318), (1, .int a1), (2, .int a2)], [.int (-6 : Int32)], N, sl, rn_hp S M)) rfl ?_
      cases h
      exact rn_er qm rfl rfl rfl
    · rw [if_neg c5] at h
      refine rn_eg qm 2 (s2 := (40, [(3, .int p4), (0, .ref 318), (1, .int a1), (2, .int a2)], [.int p4], N, sl, rn_hp S M)) rfl ?_
      cases h
      exact rn_er qm rfl rfl rfl
  · rw [if_neg c3] at h
    refine rn_eg qm 1 (s2 := (10, [(0, .ref 318), (1, .int a1), (2, .int a2)], [.int (0 : Int32)], N, sl, rn_hp S M)) rfl ?_
    cases h
    exact rn_er qm rfl rfl rfl
/-! 65: RecordNichesModel.isHidden(II)Z -/
def f65_L17 (b1 : Int32) (b2 : Int32) : Nat → rn_T → Int32 → Int32 → (rn_T → Int32 → Option Bool) → Option Bool
  | 0, _, _, _, _ => none
  | fu + 1, M, v3, v4, k =>
    if rn_ob b1 101 then none else
      if (rA M 326 (Int32.toNatClampNeg b1)) ≤ v4 then
        k M v3
      else
        Option.bind (f57 M b1 v4) fun p6 =>
          if v3 = 0 then
            f65_L17 b1 b2 fu M (0 : Int32) (v4 + (1 : Int32)) k
          else
            if p6 = b2 then
              f65_L17 b1 b2 fu M (1 : Int32) (v4 + (1 : Int32)) k
            else
              Option.bind (f64 M p6 b2) fun p9 =>
                if p9 < 0 then
                  f65_L17 b1 b2 fu M (0 : Int32) (v4 + (1 : Int32)) k
                else
                  f65_L17 b1 b2 fu M (1 : Int32) (v4 + (1 : Int32)) k
set_option maxHeartbeats 4000000 in
theorem E65_L17 {X : rn_X} {N sl : Nat} {S : rn_T} {b1 : Int32} {b2 : Int32} : ∀ (fu : Nat) (M : rn_T) (v3 : Int32) (v4 : Int32) (k : (rn_T → Int32 → Option Bool)) (R : (Bool)), (∀ (M : rn_T) (w_3 : Int32), k M w_3 = some R → rn_rv X 65 (44, [(3, .int w_3)], [], N, sl, rn_hp S M) (some (.int (rn_bi R)), N, sl, rn_hp S M)) → f65_L17 b1 b2 fu M v3 v4 k = some R → rn_rv X 65 (17, [(0, .ref 318), (1, .int b1), (2, .int b2), (3, .int v3), (4, .int v4)], [], N, sl, rn_hp S M) (some (.int (rn_bi R)), N, sl, rn_hp S M) := by
  have qm := rn_m65
  intro fu
  induction fu with
  | zero => intro M v3 v4 k R hk h; cases h
  | succ fu ih =>
    intro M v3 v4 k R hk h
    unfold f65_L17 at h
    refine rn_eg qm 4 (s2 := (21, [(0, .ref 318), (1, .int b1), (2, .int b2), (3, .int v3), (4, .int v4)], [.int b1, .ref 326, .int v4], N, sl, rn_hp S M)) rfl ?_
    have c4 : ¬ (rn_ob b1 101) := fun c => by rw [if_pos c] at h; cases h
    rw [if_neg c4] at h
    refine rn_e1 qm (s2 := (22, [(0, .ref 318), (1, .int b1), (2, .int b2), (3, .int v3), (4, .int v4)], [.int (rA M 326 (Int32.toNatClampNeg b1)), .int v4], N, sl, rn_hp S M)) (rn_g_iald (n := 101) rfl rfl (ar_m10 rfl rfl (Nat.le_of_ble_eq_true rfl)) c4) ?_
    refine rn_eg qm 1 (s2 := ((if (rA M 326 (Int32.toNatClampNeg b1)) ≤ v4 then 44 else 23), [(0, .ref 318), (1, .int b1), (2, .int b2), (3, .int v3), (4, .int v4)], [], N, sl, rn_hp S M)) rfl ?_
    refine rn_ite (fun c5 => ?_) (fun c5 => ?_)
    · rw [if_pos c5] at h
      refine rn_kq qm (s2 := (44, [(3, .int v3)], [], N, sl, rn_hp S M)) rfl rfl ?_
      exact hk _ _ h
    · rw [if_neg c5] at h
      refine rn_eg qm 3 (s2 := (26, [(0, .ref 318), (1, .int b1), (2, .int b2), (3, .int v3), (4, .int v4)], [.int v4, .int b1, .ref 318], N, sl, rn_hp S M)) rfl ?_
      obtain ⟨p6, hp6, h⟩ := Option.bind_eq_some_iff.mp h
      refine rn_ec qm rfl rfl rfl rfl rn_m57 rfl rfl rfl (fun _ => rn_rc_of (en_9 (q := 318) rfl)) (E57 hp6) ?_
      refine rn_eg qm 0 (s2 := (27, [(0, .ref 318), (1, .int b1), (2, .int b2), (3, .int v3), (4, .int v4)], [.int p6], N, sl, rn_hp S M)) rfl ?_
      refine rn_eg qm 3 (s2 := ((if v3 = 0 then 40 else 30), [(5, .int p6), (0, .ref 318), (1, .int b1), (2, .int b2), (3, .int v3), (4, .int v4)], [], N, sl, rn_hp S M)) rfl ?_
      refine rn_ite (fun c7 => ?_) (fun c7 => ?_)
      · rw [if_pos c7] at h
        refine rn_eg qm 4 (s2 := (17, [(4, .int (v4 + (1 : Int32))), (3, .int (0 : Int32)), (0, .ref 318), (1, .int b1), (2, .int b2)], [], N, sl, rn_hp S M)) rfl ?_
        refine rn_kq qm (s2 := (17, [(0, .ref 318), (1, .int b1), (2, .int b2), (3, .int (0 : Int32)), (4, .int (v4 + (1 : Int32)))], [], N, sl, rn_hp S M)) rfl rfl ?_
        exact ih _ _ _ k R hk h
      · rw [if_neg c7] at h
        refine rn_eg qm 3 (s2 := ((if p6 = b2 then 38 else 33), [(5, .int p6), (0, .ref 318), (1, .int b1), (2, .int b2), (3, .int v3), (4, .int v4)], [], N, sl, rn_hp S M)) rfl ?_
        refine rn_ite (fun c8 => ?_) (fun c8 => ?_)
        · rw [if_pos c8] at h
          refine rn_eg qm 5 (s2 := (17, [(4, .int (v4 + (1 : Int32))), (3, .int (1 : Int32)), (0, .ref 318), (1, .int b1), (2, .int b2)], [], N, sl, rn_hp S M)) rfl ?_
          refine rn_kq qm (s2 := (17, [(0, .ref 318), (1, .int b1), (2, .int b2), (3, .int (1 : Int32)), (4, .int (v4 + (1 : Int32)))], [], N, sl, rn_hp S M)) rfl rfl ?_
          exact ih _ _ _ k R hk h
        · rw [if_neg c8] at h
          refine rn_eg qm 3 (s2 := (36, [(5, .int p6), (0, .ref 318), (1, .int b1), (2, .int b2), (3, .int v3), (4, .int v4)], [.int b2, .int p6, .ref 318], N, sl, rn_hp S M)) rfl ?_
          obtain ⟨p9, hp9, h⟩ := Option.bind_eq_some_iff.mp h
          refine rn_ec qm rfl rfl rfl rfl rn_m64 rfl rfl rfl (fun _ => rn_rc_of (en_9 (q := 318) rfl)) (E64 hp9) ?_
          refine rn_eg qm 0 (s2 := (37, [(5, .int p6), (0, .ref 318), (1, .int b1), (2, .int b2), (3, .int v3), (4, .int v4)], [.int p9], N, sl, rn_hp S M)) rfl ?_
          refine rn_eg qm 1 (s2 := ((if p9 < 0 then 40 else 38), [(5, .int p6), (0, .ref 318), (1, .int b1), (2, .int b2), (3, .int v3), (4, .int v4)], [], N, sl, rn_hp S M)) rfl ?_
          refine rn_ite (fun c10 => ?_) (fun c10 => ?_)
          · rw [if_pos c10] at h
            refine rn_eg qm 4 (s2 := (17, [(4, .int (v4 + (1 : Int32))), (3, .int (0 : Int32)), (0, .ref 318), (1, .int b1), (2, .int b2)], [], N, sl, rn_hp S M)) rfl ?_
            refine rn_kq qm (s2 := (17, [(0, .ref 318), (1, .int b1), (2, .int b2), (3, .int (0 : Int32)), (4, .int (v4 + (1 : Int32)))], [], N, sl, rn_hp S M)) rfl rfl ?_
            exact ih _ _ _ k R hk h
          · rw [if_neg c10] at h
            refine rn_eg qm 5 (s2 := (17, [(4, .int (v4 + (1 : Int32))), (3, .int (1 : Int32)), (0, .ref 318), (1, .int b1), (2, .int b2)], [], N, sl, rn_hp S M)) rfl ?_
            refine rn_kq qm (s2 := (17, [(0, .ref 318), (1, .int b1), (2, .int b2), (3, .int (1 : Int32)), (4, .int (v4 + (1 : Int32)))], [], N, sl, rn_hp S M)) rfl rfl ?_
            exact ih _ _ _ k R hk h
def f65_J14 (M : rn_T) (u1 : Int32) (u2 : Int32) (t0 : Int32) : Option Bool :=
  f65_L17 u1 u2 rn_FU M t0 (0 : Int32) (fun M11 w11_3 =>
    if w11_3 = 0 ∨ w11_3 = 1 then some (decide (w11_3 = 1)) else none)
set_option maxHeartbeats 4000000 in
theorem E65_J14 {X : rn_X} {N sl : Nat} {S : rn_T} {M : rn_T} {u1 : Int32} {u2 : Int32} {t0 : Int32} {R : (Bool)} (h : f65_J14 M u1 u2 t0 = some R) : rn_rv X 65 (14, [(0, .ref 318), (1, .int u1), (2, .int u2)], [.int t0], N, sl, rn_hp S M) (some (.int (rn_bi R)), N, sl, rn_hp S M) := by
  have qm := rn_m65
  unfold f65_J14 at h
  refine rn_eg qm 3 (s2 := (17, [(4, .int (0 : Int32)), (3, .int t0), (0, .ref 318), (1, .int u1), (2, .int u2)], [], N, sl, rn_hp S M)) rfl ?_
  refine rn_kq qm (s2 := (17, [(0, .ref 318), (1, .int u1), (2, .int u2), (3, .int t0), (4, .int (0 : Int32))], [], N, sl, rn_hp S M)) rfl rfl ?_
  refine E65_L17 rn_FU _ _ _ _ R ?_ h
  intro M11 w11_3 h
  refine rn_eg qm 1 (s2 := (45, [(3, .int w11_3)], [.int w11_3], N, sl, rn_hp S M11)) rfl ?_
  have z12 : w11_3 = 0 ∨ w11_3 = 1 := Decidable.byContradiction fun c => by rw [if_neg c] at h; cases h
  rw [if_pos z12] at h
  cases h
  rw [rn_bi_dec z12]
  exact rn_er qm rfl rfl (rn_rtz z12)
def f65 (M : rn_T) (a1 : Int32) (a2 : Int32) : Option Bool :=
  if rn_ob a2 101 then none else
    if rn_ob a1 101 then none else
      if (rA M 340 (Int32.toNatClampNeg a2)) < ((rA M 326 (Int32.toNatClampNeg a1)) - (1 : Int32)) then
        f65_J14 M a1 a2 (0 : Int32)
      else
        f65_J14 M a1 a2 (1 : Int32)
set_option maxHeartbeats 4000000 in
theorem E65 {X : rn_X} {N sl : Nat} {S M : rn_T} {a1 : Int32} {a2 : Int32} {R : (Bool)} (h : f65 M a1 a2 = some R) : rn_rv X 65 (0, [(0, .ref 318), (1, .int a1), (2, .int a2)], [], N, sl, rn_hp S M) (some (.int (rn_bi R)), N, sl, rn_hp S M) := by
  have qm := rn_m65
  unfold f65 at h
  refine rn_eg qm 3 (s2 := (3, [(0, .ref 318), (1, .int a1), (2, .int a2)], [.int a2, .ref 340], N, sl, rn_hp S M)) rfl ?_
  have c1 : ¬ (rn_ob a2 101) := fun c => by rw [if_pos c] at h; cases h
  rw [if_neg c1] at h
  refine rn_e1 qm (s2 := (4, [(0, .ref 318), (1, .int a1), (2, .int a2)], [.int (rA M 340 (Int32.toNatClampNeg a2))], N, sl, rn_hp S M)) (rn_g_iald (n := 101) rfl rfl (ar_m10 rfl rfl (Nat.le_of_ble_eq_true rfl)) c1) ?_
  refine rn_eg qm 3 (s2 := (7, [(0, .ref 318), (1, .int a1), (2, .int a2)], [.int a1, .ref 326, .int (rA M 340 (Int32.toNatClampNeg a2))], N, sl, rn_hp S M)) rfl ?_
  have c2 : ¬ (rn_ob a1 101) := fun c => by rw [if_pos c] at h; cases h
  rw [if_neg c2] at h
  refine rn_e1 qm (s2 := (8, [(0, .ref 318), (1, .int a1), (2, .int a2)], [.int (rA M 326 (Int32.toNatClampNeg a1)), .int (rA M 340 (Int32.toNatClampNeg a2))], N, sl, rn_hp S M)) (rn_g_iald (n := 101) rfl rfl (ar_m10 rfl rfl (Nat.le_of_ble_eq_true rfl)) c2) ?_
  refine rn_eg qm 3 (s2 := ((if (rA M 340 (Int32.toNatClampNeg a2)) < ((rA M 326 (Int32.toNatClampNeg a1)) - (1 : Int32)) then 13 else 11), [(0, .ref 318), (1, .int a1), (2, .int a2)], [], N, sl, rn_hp S M)) rfl ?_
  refine rn_ite (fun c3 => ?_) (fun c3 => ?_)
  · rw [if_pos c3] at h
    refine rn_eg qm 1 (s2 := (14, [(0, .ref 318), (1, .int a1), (2, .int a2)], [.int (0 : Int32)], N, sl, rn_hp S M)) rfl ?_
    refine rn_kq qm (s2 := (14, [(0, .ref 318), (1, .int a1), (2, .int a2)], [.int (0 : Int32)], N, sl, rn_hp S M)) rfl rfl ?_
    exact E65_J14 h
  · rw [if_neg c3] at h
    refine rn_eg qm 2 (s2 := (14, [(0, .ref 318), (1, .int a1), (2, .int a2)], [.int (1 : Int32)], N, sl, rn_hp S M)) rfl ?_
    refine rn_kq qm (s2 := (14, [(0, .ref 318), (1, .int a1), (2, .int a2)], [.int (1 : Int32)], N, sl, rn_hp S M)) rfl rfl ?_
    exact E65_J14 h
/-! 66: RecordNichesModel.layHidden(II)V -/
def f66_L2 (b1 : Int32) (b2 : Int32) : Nat → rn_T → Int32 → (rn_T → Option (rn_T)) → Option (rn_T)
  | 0, _, _, _ => none
  | fu + 1, M, v3, k =>
    if rn_ob b1 101 then none else
      if (rA M 326 (Int32.toNatClampNeg b1)) ≤ v3 then
        k M
      else
        Option.bind (f57 M b1 v3) fun p3 =>
          if p3 = b2 then
            if rn_ob p3 101 then none else
              f66_L2 b1 b2 fu (wA M 336 (Int32.toNatClampNeg p3) (0 : Int32)) (v3 + (1 : Int32)) k
          else
            Option.bind (f64 M p3 b2) fun p6 =>
              if rn_ob p3 101 then none else
                f66_L2 b1 b2 fu (wA M 336 (Int32.toNatClampNeg p3) p6) (v3 + (1 : Int32)) k
set_option maxHeartbeats 4000000 in
theorem E66_L2 {X : rn_X} {N sl : Nat} {S : rn_T} {b1 : Int32} {b2 : Int32} : ∀ (fu : Nat) (M : rn_T) (v3 : Int32) (k : (rn_T → Option (rn_T))) (R : (rn_T)), (∀ (M : rn_T), k M = some R → rn_rv X 66 (28, [(0, .ref 318), (1, .int b1), (2, .int b2)], [], N, sl, rn_hp S M) (none, N, sl, rn_hp S R)) → f66_L2 b1 b2 fu M v3 k = some R → rn_rv X 66 (2, [(0, .ref 318), (1, .int b1), (2, .int b2), (3, .int v3)], [], N, sl, rn_hp S M) (none, N, sl, rn_hp S R) := by
  have qm := rn_m66
  intro fu
  induction fu with
  | zero => intro M v3 k R hk h; cases h
  | succ fu ih =>
    intro M v3 k R hk h
    unfold f66_L2 at h
    refine rn_eg qm 4 (s2 := (6, [(0, .ref 318), (1, .int b1), (2, .int b2), (3, .int v3)], [.int b1, .ref 326, .int v3], N, sl, rn_hp S M)) rfl ?_
    have c1 : ¬ (rn_ob b1 101) := fun c => by rw [if_pos c] at h; cases h
    rw [if_neg c1] at h
    refine rn_e1 qm (s2 := (7, [(0, .ref 318), (1, .int b1), (2, .int b2), (3, .int v3)], [.int (rA M 326 (Int32.toNatClampNeg b1)), .int v3], N, sl, rn_hp S M)) (rn_g_iald (n := 101) rfl rfl (ar_m10 rfl rfl (Nat.le_of_ble_eq_true rfl)) c1) ?_
    refine rn_eg qm 1 (s2 := ((if (rA M 326 (Int32.toNatClampNeg b1)) ≤ v3 then 28 else 8), [(0, .ref 318), (1, .int b1), (2, .int b2), (3, .int v3)], [], N, sl, rn_hp S M)) rfl ?_
    refine rn_ite (fun c2 => ?_) (fun c2 => ?_)
    · rw [if_pos c2] at h
      refine rn_kq qm (s2 := (28, [(0, .ref 318), (1, .int b1), (2, .int b2)], [], N, sl, rn_hp S M)) rfl rfl ?_
      exact hk _ h
    · rw [if_neg c2] at h
      refine rn_eg qm 3 (s2 := (11, [(0, .ref 318), (1, .int b1), (2, .int b2), (3, .int v3)], [.int v3, .int b1, .ref 318], N, sl, rn_hp S M)) rfl ?_
      obtain ⟨p3, hp3, h⟩ := Option.bind_eq_some_iff.mp h
      refine rn_ec qm rfl rfl rfl rfl rn_m57 rfl rfl rfl (fun _ => rn_rc_of (en_9 (q := 318) rfl)) (E57 hp3) ?_
      refine rn_eg qm 0 (s2 := (12, [(0, .ref 318), (1, .int b1), (2, .int b2), (3, .int v3)], [.int p3], N, sl, rn_hp S M)) rfl ?_
      refine rn_eg qm 7 (s2 := ((if p3 = b2 then 19 else 21), [(4, .int p3), (0, .ref 318), (1, .int b1), (2, .int b2), (3, .int v3)], [.int p3, .ref 336], N, sl, rn_hp S M)) rfl ?_
      refine rn_ite (fun c4 => ?_) (fun c4 => ?_)
      · rw [if_pos c4] at h
        refine rn_eg qm 2 (s2 := (25, [(4, .int p3), (0, .ref 318), (1, .int b1), (2, .int b2), (3, .int v3)], [.int (0 : Int32), .int p3, .ref 336], N, sl, rn_hp S M)) rfl ?_
        have c5 : ¬ (rn_ob p3 101) := fun c => by rw [if_pos c] at h; cases h
        rw [if_neg c5] at h
        refine rn_e1 qm (s2 := (26, [(0, .ref 318), (1, .int b1), (2, .int b2), (3, .int v3)], [], N, sl, rn_hp S (wA M 336 (Int32.toNatClampNeg p3) (0 : Int32)))) (rn_g_iast (n := 101) rfl rfl (ar_m10 rfl rfl (Nat.le_of_ble_eq_true rfl)) c5 (aw_m10 rfl rfl (Nat.le_of_ble_eq_true rfl))) ?_
        refine rn_eg qm 2 (s2 := (2, [(3, .int (v3 + (1 : Int32))), (0, .ref 318), (1, .int b1), (2, .int b2)], [], N, sl, rn_hp S (wA M 336 (Int32.toNatClampNeg p3) (0 : Int32)))) rfl ?_
        refine rn_kq qm (s2 := (2, [(0, .ref 318), (1, .int b1), (2, .int b2), (3, .int (v3 + (1 : Int32)))], [], N, sl, rn_hp S (wA M 336 (Int32.toNatClampNeg p3) (0 : Int32)))) rfl rfl ?_
        exact ih _ _ k R hk h
      · rw [if_neg c4] at h
        refine rn_eg qm 3 (s2 := (24, [(4, .int p3), (0, .ref 318), (1, .int b1), (2, .int b2), (3, .int v3)], [.int b2, .int p3, .ref 318, .int p3, .ref 336], N, sl, rn_hp S M)) rfl ?_
        obtain ⟨p6, hp6, h⟩ := Option.bind_eq_some_iff.mp h
        refine rn_ec qm rfl rfl rfl rfl rn_m64 rfl rfl rfl (fun _ => rn_rc_of (en_9 (q := 318) rfl)) (E64 hp6) ?_
        refine rn_eg qm 0 (s2 := (25, [(4, .int p3), (0, .ref 318), (1, .int b1), (2, .int b2), (3, .int v3)], [.int p6, .int p3, .ref 336], N, sl, rn_hp S M)) rfl ?_
        have c7 : ¬ (rn_ob p3 101) := fun c => by rw [if_pos c] at h; cases h
        rw [if_neg c7] at h
        refine rn_e1 qm (s2 := (26, [(0, .ref 318), (1, .int b1), (2, .int b2), (3, .int v3)], [], N, sl, rn_hp S (wA M 336 (Int32.toNatClampNeg p3) p6))) (rn_g_iast (n := 101) rfl rfl (ar_m10 rfl rfl (Nat.le_of_ble_eq_true rfl)) c7 (aw_m10 rfl rfl (Nat.le_of_ble_eq_true rfl))) ?_
        refine rn_eg qm 2 (s2 := (2, [(3, .int (v3 + (1 : Int32))), (0, .ref 318), (1, .int b1), (2, .int b2)], [], N, sl, rn_hp S (wA M 336 (Int32.toNatClampNeg p3) p6))) rfl ?_
        refine rn_kq qm (s2 := (2, [(0, .ref 318), (1, .int b1), (2, .int b2), (3, .int (v3 + (1 : Int32)))], [], N, sl, rn_hp S (wA M 336 (Int32.toNatClampNeg p3) p6))) rfl rfl ?_
        exact ih _ _ k R hk h
def f66 (M : rn_T) (a1 : Int32) (a2 : Int32) : Option (rn_T) :=
  f66_L2 a1 a2 rn_FU M (0 : Int32) (fun M8 =>
    if rn_ob a1 101 then none else
      if rn_ob a2 101 then none else
        Option.bind (f32 (rA M8 334 (Int32.toNatClampNeg a2)) (rA M8 335 (Int32.toNatClampNeg a1))) fun p11 =>
          Option.bind (f58 (wA M8 334 (Int32.toNatClampNeg a1) p11) a1 (rA (wA M8 334 (Int32.toNatClampNeg a1) p11) 337 (Int32.toNatClampNeg a2)) (rA (wA M8 334 (Int32.toNatClampNeg a1) p11) 338 (Int32.toNatClampNeg a2)) ((rA (wA M8 334 (Int32.toNatClampNeg a1) p11) 339 (Int32.toNatClampNeg a2)) + ((rA M8 326 (Int32.toNatClampNeg a1)) - (1 : Int32))) ((rA (wA M8 334 (Int32.toNatClampNeg a1) p11) 340 (Int32.toNatClampNeg a2)) - ((rA M8 326 (Int32.toNatClampNeg a1)) - (1 : Int32)))) fun p12 =>
            some (p12))
set_option maxHeartbeats 4000000 in
theorem E66 {X : rn_X} {N sl : Nat} {S M : rn_T} {a1 : Int32} {a2 : Int32} {R : (rn_T)} (h : f66 M a1 a2 = some R) : rn_rv X 66 (0, [(0, .ref 318), (1, .int a1), (2, .int a2)], [], N, sl, rn_hp S M) (none, N, sl, rn_hp S R) := by
  have qm := rn_m66
  unfold f66 at h
  refine rn_eg qm 2 (s2 := (2, [(3, .int (0 : Int32)), (0, .ref 318), (1, .int a1), (2, .int a2)], [], N, sl, rn_hp S M)) rfl ?_
  refine rn_kq qm (s2 := (2, [(0, .ref 318), (1, .int a1), (2, .int a2), (3, .int (0 : Int32))], [], N, sl, rn_hp S M)) rfl rfl ?_
  refine E66_L2 rn_FU _ _ _ R ?_ h
  intro M8 h
  refine rn_eg qm 3 (s2 := (31, [(0, .ref 318), (1, .int a1), (2, .int a2)], [.int a1, .ref 326], N, sl, rn_hp S M8)) rfl ?_
  have c9 : ¬ (rn_ob a1 101) := fun c => by rw [if_pos c] at h; cases h
  rw [if_neg c9] at h
  refine rn_e1 qm (s2 := (32, [(0, .ref 318), (1, .int a1), (2, .int a2)], [.int (rA M8 326 (Int32.toNatClampNeg a1))], N, sl, rn_hp S M8)) (rn_g_iald (n := 101) rfl rfl (ar_m10 rfl rfl (Nat.le_of_ble_eq_true rfl)) c9) ?_
  refine rn_eg qm 9 (s2 := (41, [(3, .int ((rA M8 326 (Int32.toNatClampNeg a1)) - (1 : Int32))), (0, .ref 318), (1, .int a1), (2, .int a2)], [.int a2, .ref 334, .int a1, .ref 334], N, sl, rn_hp S M8)) rfl ?_
  have c10 : ¬ (rn_ob a2 101) := fun c => by rw [if_pos c] at h; cases h
  rw [if_neg c10] at h
  refine rn_e1 qm (s2 := (42, [(3, .int ((rA M8 326 (Int32.toNatClampNeg a1)) - (1 : Int32))), (0, .ref 318), (1, .int a1), (2, .int a2)], [.int (rA M8 334 (Int32.toNatClampNeg a2)), .int a1, .ref 334], N, sl, rn_hp S M8)) (rn_g_iald (n := 101) rfl rfl (ar_m10 rfl rfl (Nat.le_of_ble_eq_true rfl)) c10) ?_
  refine rn_eg qm 3 (s2 := (45, [(3, .int ((rA M8 326 (Int32.toNatClampNeg a1)) - (1 : Int32))), (0, .ref 318), (1, .int a1), (2, .int a2)], [.int a1, .ref 335, .int (rA M8 334 (Int32.toNatClampNeg a2)), .int a1, .ref 334], N, sl, rn_hp S M8)) rfl ?_
  refine rn_e1 qm (s2 := (46, [(3, .int ((rA M8 326 (Int32.toNatClampNeg a1)) - (1 : Int32))), (0, .ref 318), (1, .int a1), (2, .int a2)], [.int (rA M8 335 (Int32.toNatClampNeg a1)), .int (rA M8 334 (Int32.toNatClampNeg a2)), .int a1, .ref 334], N, sl, rn_hp S M8)) (rn_g_iald (n := 101) rfl rfl (ar_m10 rfl rfl (Nat.le_of_ble_eq_true rfl)) c9) ?_
  obtain ⟨p11, hp11, h⟩ := Option.bind_eq_some_iff.mp h
  refine rn_ec qm rfl rfl rfl rfl rn_m32 rfl rfl rfl (fun h => by cases h) (E32 hp11) ?_
  refine rn_eg qm 0 (s2 := (47, [(3, .int ((rA M8 326 (Int32.toNatClampNeg a1)) - (1 : Int32))), (0, .ref 318), (1, .int a1), (2, .int a2)], [.int p11, .int a1, .ref 334], N, sl, rn_hp S M8)) rfl ?_
  refine rn_e1 qm (s2 := (48, [(3, .int ((rA M8 326 (Int32.toNatClampNeg a1)) - (1 : Int32))), (0, .ref 318), (1, .int a1), (2, .int a2)], [], N, sl, rn_hp S (wA M8 334 (Int32.toNatClampNeg a1) p11))) (rn_g_iast (n := 101) rfl rfl (ar_m10 rfl rfl (Nat.le_of_ble_eq_true rfl)) c9 (aw_m10 rfl rfl (Nat.le_of_ble_eq_true rfl))) ?_
  refine rn_eg qm 5 (s2 := (53, [(3, .int ((rA M8 326 (Int32.toNatClampNeg a1)) - (1 : Int32))), (0, .ref 318), (1, .int a1), (2, .int a2)], [.int a2, .ref 337, .int a1, .ref 318], N, sl, rn_hp S (wA M8 334 (Int32.toNatClampNeg a1) p11))) rfl ?_
  refine rn_e1 qm (s2 := (54, [(3, .int ((rA M8 326 (Int32.toNatClampNeg a1)) - (1 : Int32))), (0, .ref 318), (1, .int a1), (2, .int a2)], [.int (rA (wA M8 334 (Int32.toNatClampNeg a1) p11) 337 (Int32.toNatClampNeg a2)), .int a1, .ref 318], N, sl, rn_hp S (wA M8 334 (Int32.toNatClampNeg a1) p11))) (rn_g_iald (n := 101) rfl rfl (ar_m10 rfl rfl (Nat.le_of_ble_eq_true rfl)) c10) ?_
  refine rn_eg qm 3 (s2 := (57, [(3, .int ((rA M8 326 (Int32.toNatClampNeg a1)) - (1 : Int32))), (0, .ref 318), (1, .int a1), (2, .int a2)], [.int a2, .ref 338, .int (rA (wA M8 334 (Int32.toNatClampNeg a1) p11) 337 (Int32.toNatClampNeg a2)), .int a1, .ref 318], N, sl, rn_hp S (wA M8 334 (Int32.toNatClampNeg a1) p11))) rfl ?_
  refine rn_e1 qm (s2 := (58, [(3, .int ((rA M8 326 (Int32.toNatClampNeg a1)) - (1 : Int32))), (0, .ref 318), (1, .int a1), (2, .int a2)], [.int (rA (wA M8 334 (Int32.toNatClampNeg a1) p11) 338 (Int32.toNatClampNeg a2)), .int (rA (wA M8 334 (Int32.toNatClampNeg a1) p11) 337 (Int32.toNatClampNeg a2)), .int a1, .ref 318], N, sl, rn_hp S (wA M8 334 (Int32.toNatClampNeg a1) p11))) (rn_g_iald (n := 101) rfl rfl (ar_m10 rfl rfl (Nat.le_of_ble_eq_true rfl)) c10) ?_
  refine rn_eg qm 3 (s2 := (61, [(3, .int ((rA M8 326 (Int32.toNatClampNeg a1)) - (1 : Int32))), (0, .ref 318), (1, .int a1), (2, .int a2)], [.int a2, .ref 339, .int (rA (wA M8 334 (Int32.toNatClampNeg a1) p11) 338 (Int32.toNatClampNeg a2)), .int (rA (wA M8 334 (Int32.toNatClampNeg a1) p11) 337 (Int32.toNatClampNeg a2)), .int a1, .ref 318], N, sl, rn_hp S (wA M8 334 (Int32.toNatClampNeg a1) p11))) rfl ?_
  refine rn_e1 qm (s2 := (62, [(3, .int ((rA M8 326 (Int32.toNatClampNeg a1)) - (1 : Int32))), (0, .ref 318), (1, .int a1), (2, .int a2)], [.int (rA (wA M8 334 (Int32.toNatClampNeg a1) p11) 339 (Int32.toNatClampNeg a2)), .int (rA (wA M8 334 (Int32.toNatClampNeg a1) p11) 338 (Int32.toNatClampNeg a2)), .int (rA (wA M8 334 (Int32.toNatClampNeg a1) p11) 337 (Int32.toNatClampNeg a2)), .int a1, .ref 318], N, sl, rn_hp S (wA M8 334 (Int32.toNatClampNeg a1) p11))) (rn_g_iald (n := 101) rfl rfl (ar_m10 rfl rfl (Nat.le_of_ble_eq_true rfl)) c10) ?_
  refine rn_eg qm 5 (s2 := (67, [(3, .int ((rA M8 326 (Int32.toNatClampNeg a1)) - (1 : Int32))), (0, .ref 318), (1, .int a1), (2, .int a2)], [.int a2, .ref 340, .int ((rA (wA M8 334 (Int32.toNatClampNeg a1) p11) 339 (Int32.toNatClampNeg a2)) + ((rA M8 326 (Int32.toNatClampNeg a1)) - (1 : Int32))), .int (rA (wA M8 334 (Int32.toNatClampNeg a1) p11) 338 (Int32.toNatClampNeg a2)), .int (rA (wA M8 334 (Int32.toNatClampNeg a1) p11) 337 (Int32.toNatClampNeg a2)), .int a1, .ref 318], N, sl, rn_hp S (wA M8 334 (Int32.toNatClampNeg a1) p11))) rfl ?_
  refine rn_e1 qm (s2 := (68, [(3, .int ((rA M8 326 (Int32.toNatClampNeg a1)) - (1 : Int32))), (0, .ref 318), (1, .int a1), (2, .int a2)], [.int (rA (wA M8 334 (Int32.toNatClampNeg a1) p11) 340 (Int32.toNatClampNeg a2)), .int ((rA (wA M8 334 (Int32.toNatClampNeg a1) p11) 339 (Int32.toNatClampNeg a2)) + ((rA M8 326 (Int32.toNatClampNeg a1)) - (1 : Int32))), .int (rA (wA M8 334 (Int32.toNatClampNeg a1) p11) 338 (Int32.toNatClampNeg a2)), .int (rA (wA M8 334 (Int32.toNatClampNeg a1) p11) 337 (Int32.toNatClampNeg a2)), .int a1, .ref 318], N, sl, rn_hp S (wA M8 334 (Int32.toNatClampNeg a1) p11))) (rn_g_iald (n := 101) rfl rfl (ar_m10 rfl rfl (Nat.le_of_ble_eq_true rfl)) c10) ?_
  refine rn_eg qm 2 (s2 := (70, [(3, .int ((rA M8 326 (Int32.toNatClampNeg a1)) - (1 : Int32))), (0, .ref 318), (1, .int a1), (2, .int a2)], [.int ((rA (wA M8 334 (Int32.toNatClampNeg a1) p11) 340 (Int32.toNatClampNeg a2)) - ((rA M8 326 (Int32.toNatClampNeg a1)) - (1 : Int32))), .int ((rA (wA M8 334 (Int32.toNatClampNeg a1) p11) 339 (Int32.toNatClampNeg a2)) + ((rA M8 326 (Int32.toNatClampNeg a1)) - (1 : Int32))), .int (rA (wA M8 334 (Int32.toNatClampNeg a1) p11) 338 (Int32.toNatClampNeg a2)), .int (rA (wA M8 334 (Int32.toNatClampNeg a1) p11) 337 (Int32.toNatClampNeg a2)), .int a1, .ref 318], N, sl, rn_hp S (wA M8 334 (Int32.toNatClampNeg a1) p11))) rfl ?_
  obtain ⟨p12, hp12, h⟩ := Option.bind_eq_some_iff.mp h
  refine rn_ec qm rfl rfl rfl rfl rn_m58 rfl rfl rfl (fun _ => rn_rc_of (en_9 (q := 318) rfl)) (E58 hp12) ?_
  refine rn_eg qm 0 (s2 := (71, [(3, .int ((rA M8 326 (Int32.toNatClampNeg a1)) - (1 : Int32))), (0, .ref 318), (1, .int a1), (2, .int a2)], [], N, sl, rn_hp S p12)) rfl ?_
  cases h
  exact rn_er qm rfl rfl rfl
/-! 67: RecordNichesModel.layTagged(I)V -/
def f67_L4 (b1 : Int32) : Nat → rn_T → Int32 → Int32 → (rn_T → Int32 → Option (rn_T)) → Option (rn_T)
  | 0, _, _, _, _ => none
  | fu + 1, M, v2, v3, k =>
    if rn_ob b1 101 then none else
      if (rA M 326 (Int32.toNatClampNeg b1)) ≤ v3 then
        k M v2
      else
        Option.bind (f57 M b1 v3) fun p3 =>
          if rn_ob p3 101 then none else
            Option.bind (f32 (1 : Int32) (rA M 335 (Int32.toNatClampNeg p3))) fun p5 =>
              f67_L4 b1 fu (wA M 336 (Int32.toNatClampNeg p3) p5) (f31 v2 ((rA (wA M 336 (Int32.toNatClampNeg p3) p5) 336 (Int32.toNatClampNeg p3)) + (rA (wA M 336 (Int32.toNatClampNeg p3) p5) 334 (Int32.toNatClampNeg p3)))) (v3 + (1 : Int32)) k
set_option maxHeartbeats 4000000 in
theorem E67_L4 {X : rn_X} {N sl : Nat} {S : rn_T} {b1 : Int32} : ∀ (fu : Nat) (M : rn_T) (v2 : Int32) (v3 : Int32) (k : (rn_T → Int32 → Option (rn_T))) (R : (rn_T)), (∀ (M : rn_T) (w_2 : Int32), k M w_2 = some R → rn_rv X 67 (39, [(0, .ref 318), (1, .int b1), (2, .int w_2)], [], N, sl, rn_hp S M) (none, N, sl, rn_hp S R)) → f67_L4 b1 fu M v2 v3 k = some R → rn_rv X 67 (4, [(0, .ref 318), (1, .int b1), (2, .int v2), (3, .int v3)], [], N, sl, rn_hp S M) (none, N, sl, rn_hp S R) := by
  have qm := rn_m67
  intro fu
  induction fu with
  | zero => intro M v2 v3 k R hk h; cases h
  | succ fu ih =>
    intro M v2 v3 k R hk h
    unfold f67_L4 at h
    refine rn_eg qm 4 (s2 := (8, [(0, .ref 318), (1, .int b1), (2, .int v2), (3, .int v3)], [.int b1, .ref 326, .int v3], N, sl, rn_hp S M)) rfl ?_
    have c1 : ¬ (rn_ob b1 101) := fun c => by rw [if_pos c] at h; cases h
    rw [if_neg c1] at h
    refine rn_e1 qm (s2 := (9, [(0, .ref 318), (1, .int b1), (2, .int v2), (3, .int v3)], [.int (rA M 326 (Int32.toNatClampNeg b1)), .int v3], N, sl, rn_hp S M)) (rn_g_iald (n := 101) rfl rfl (ar_m10 rfl rfl (Nat.le_of_ble_eq_true rfl)) c1) ?_
    refine rn_eg qm 1 (s2 := ((if (rA M 326 (Int32.toNatClampNeg b1)) ≤ v3 then 39 else 10), [(0, .ref 318), (1, .int b1), (2, .int v2), (3, .int v3)], [], N, sl, rn_hp S M)) rfl ?_
    refine rn_ite (fun c2 => ?_) (fun c2 => ?_)
    · rw [if_pos c2] at h
      refine rn_kq qm (s2 := (39, [(0, .ref 318), (1, .int b1), (2, .int v2)], [], N, sl, rn_hp S M)) rfl rfl ?_
      exact hk _ _ h
    · rw [if_neg c2] at h
      refine rn_eg qm 3 (s2 := (13, [(0, .ref 318), (1, .int b1), (2, .int v2), (3, .int v3)], [.int v3, .int b1, .ref 318], N, sl, rn_hp S M)) rfl ?_
      obtain ⟨p3, hp3, h⟩ := Option.bind_eq_some_iff.mp h
      refine rn_ec qm rfl rfl rfl rfl rn_m57 rfl rfl rfl (fun _ => rn_rc_of (en_9 (q := 318) rfl)) (E57 hp3) ?_
      refine rn_eg qm 0 (s2 := (14, [(0, .ref 318), (1, .int b1), (2, .int v2), (3, .int v3)], [.int p3], N, sl, rn_hp S M)) rfl ?_
      refine rn_eg qm 8 (s2 := (22, [(4, .int p3), (0, .ref 318), (1, .int b1), (2, .int v2), (3, .int v3)], [.int p3, .ref 335, .int (1 : Int32), .int p3, .ref 336], N, sl, rn_hp S M)) rfl ?_
      have c4 : ¬ (rn_ob p3 101) := fun c => by rw [if_pos c] at h; cases h
      rw [if_neg c4] at h
      refine rn_e1 qm (s2 := (23, [(4, .int p3), (0, .ref 318), (1, .int b1), (2, .int v2), (3, .int v3)], [.int (rA M 335 (Int32.toNatClampNeg p3)), .int (1 : Int32), .int p3, .ref 336], N, sl, rn_hp S M)) (rn_g_iald (n := 101) rfl rfl (ar_m10 rfl rfl (Nat.le_of_ble_eq_true rfl)) c4) ?_
      obtain ⟨p5, hp5, h⟩ := Option.bind_eq_some_iff.mp h
      refine rn_ec qm rfl rfl rfl rfl rn_m32 rfl rfl rfl (fun h => by cases h) (E32 hp5) ?_
      refine rn_eg qm 0 (s2 := (24, [(4, .int p3), (0, .ref 318), (1, .int b1), (2, .int v2), (3, .int v3)], [.int p5, .int p3, .ref 336], N, sl, rn_hp S M)) rfl ?_
      refine rn_e1 qm (s2 := (25, [(4, .int p3), (0, .ref 318), (1, .int b1), (2, .int v2), (3, .int v3)], [], N, sl, rn_hp S (wA M 336 (Int32.toNatClampNeg p3) p5))) (rn_g_iast (n := 101) rfl rfl (ar_m10 rfl rfl (Nat.le_of_ble_eq_true rfl)) c4 (aw_m10 rfl rfl (Nat.le_of_ble_eq_true rfl))) ?_
      refine rn_eg qm 4 (s2 := (29, [(4, .int p3), (0, .ref 318), (1, .int b1), (2, .int v2), (3, .int v3)], [.int p3, .ref 336, .int v2], N, sl, rn_hp S (wA M 336 (Int32.toNatClampNeg p3) p5))) rfl ?_
      refine rn_e1 qm (s2 := (30, [(4, .int p3), (0, .ref 318), (1, .int b1), (2, .int v2), (3, .int v3)], [.int (rA (wA M 336 (Int32.toNatClampNeg p3) p5) 336 (Int32.toNatClampNeg p3)), .int v2], N, sl, rn_hp S (wA M 336 (Int32.toNatClampNeg p3) p5))) (rn_g_iald (n := 101) rfl rfl (ar_m10 rfl rfl (Nat.le_of_ble_eq_true rfl)) c4) ?_
      refine rn_eg qm 3 (s2 := (33, [(4, .int p3), (0, .ref 318), (1, .int b1), (2, .int v2), (3, .int v3)], [.int p3, .ref 334, .int (rA (wA M 336 (Int32.toNatClampNeg p3) p5) 336 (Int32.toNatClampNeg p3)), .int v2], N, sl, rn_hp S (wA M 336 (Int32.toNatClampNeg p3) p5))) rfl ?_
      refine rn_e1 qm (s2 := (34, [(4, .int p3), (0, .ref 318), (1, .int b1), (2, .int v2), (3, .int v3)], [.int (rA (wA M 336 (Int32.toNatClampNeg p3) p5) 334 (Int32.toNatClampNeg p3)), .int (rA (wA M 336 (Int32.toNatClampNeg p3) p5) 336 (Int32.toNatClampNeg p3)), .int v2], N, sl, rn_hp S (wA M 336 (Int32.toNatClampNeg p3) p5))) (rn_g_iald (n := 101) rfl rfl (ar_m10 rfl rfl (Nat.le_of_ble_eq_true rfl)) c4) ?_
      refine rn_eg qm 1 (s2 := (35, [(4, .int p3), (0, .ref 318), (1, .int b1), (2, .int v2), (3, .int v3)], [.int ((rA (wA M 336 (Int32.toNatClampNeg p3) p5) 336 (Int32.toNatClampNeg p3)) + (rA (wA M 336 (Int32.toNatClampNeg p3) p5) 334 (Int32.toNatClampNeg p3))), .int v2], N, sl, rn_hp S (wA M 336 (Int32.toNatClampNeg p3) p5))) rfl ?_
      refine rn_ec qm rfl rfl rfl rfl rn_m31 rfl rfl rfl (fun h => by cases h) (E31 rfl) ?_
      refine rn_eg qm 0 (s2 := (36, [(4, .int p3), (0, .ref 318), (1, .int b1), (2, .int v2), (3, .int v3)], [.int (f31 v2 ((rA (wA M 336 (Int32.toNatClampNeg p3) p5) 336 (Int32.toNatClampNeg p3)) + (rA (wA M 336 (Int32.toNatClampNeg p3) p5) 334 (Int32.toNatClampNeg p3))))], N, sl, rn_hp S (wA M 336 (Int32.toNatClampNeg p3) p5))) rfl ?_
      refine rn_eg qm 3 (s2 := (4, [(3, .int (v3 + (1 : Int32))), (2, .int (f31 v2 ((rA (wA M 336 (Int32.toNatClampNeg p3) p5) 336 (Int32.toNatClampNeg p3)) + (rA (wA M 336 (Int32.toNatClampNeg p3) p5) 334 (Int32.toNatClampNeg p3))))), (4, .int p3), (0, .ref 318), (1, .int b1)], [], N, sl, rn_hp S (wA M 336 (Int32.toNatClampNeg p3) p5))) rfl ?_
      refine rn_kq qm (s2 := (4, [(0, .ref 318), (1, .int b1), (2, .int (f31 v2 ((rA (wA M 336 (Int32.toNatClampNeg p3) p5) 336 (Int32.toNatClampNeg p3)) + (rA (wA M 336 (Int32.toNatClampNeg p3) p5) 334 (Int32.toNatClampNeg p3))))), (3, .int (v3 + (1 : Int32)))], [], N, sl, rn_hp S (wA M 336 (Int32.toNatClampNeg p3) p5))) rfl rfl ?_
      exact ih _ _ _ k R hk h
def f67 (M : rn_T) (a1 : Int32) : Option (rn_T) :=
  f67_L4 a1 rn_FU M (1 : Int32) (0 : Int32) (fun M7 w7_2 =>
    if rn_ob a1 101 then none else
      Option.bind (f32 w7_2 (rA M7 335 (Int32.toNatClampNeg a1))) fun p9 =>
        Option.bind (f58 (wA M7 334 (Int32.toNatClampNeg a1) p9) a1 (0 : Int32) (1 : Int32) (rA (wA M7 334 (Int32.toNatClampNeg a1) p9) 326 (Int32.toNatClampNeg a1)) ((256 : Int32) - (rA (wA M7 334 (Int32.toNatClampNeg a1) p9) 326 (Int32.toNatClampNeg a1)))) fun p10 =>
          some (p10))
set_option maxHeartbeats 4000000 in
theorem E67 {X : rn_X} {N sl : Nat} {S M : rn_T} {a1 : Int32} {R : (rn_T)} (h : f67 M a1 = some R) : rn_rv X 67 (0, [(0, .ref 318), (1, .int a1)], [], N, sl, rn_hp S M) (none, N, sl, rn_hp S R) := by
  have qm := rn_m67
  unfold f67 at h
  refine rn_eg qm 4 (s2 := (4, [(3, .int (0 : Int32)), (2, .int (1 : Int32)), (0, .ref 318), (1, .int a1)], [], N, sl, rn_hp S M)) rfl ?_
  refine rn_kq qm (s2 := (4, [(0, .ref 318), (1, .int a1), (2, .int (1 : Int32)), (3, .int (0 : Int32))], [], N, sl, rn_hp S M)) rfl rfl ?_
  refine E67_L4 rn_FU _ _ _ _ R ?_ h
  intro M7 w7_2 h
  refine rn_eg qm 7 (s2 := (46, [(0, .ref 318), (1, .int a1), (2, .int w7_2)], [.int a1, .ref 335, .int w7_2, .int a1, .ref 334], N, sl, rn_hp S M7)) rfl ?_
  have c8 : ¬ (rn_ob a1 101) := fun c => by rw [if_pos c] at h; cases h
  rw [if_neg c8] at h
  refine rn_e1 qm (s2 := (47, [(0, .ref 318), (1, .int a1), (2, .int w7_2)], [.int (rA M7 335 (Int32.toNatClampNeg a1)), .int w7_2, .int a1, .ref 334], N, sl, rn_hp S M7)) (rn_g_iald (n := 101) rfl rfl (ar_m10 rfl rfl (Nat.le_of_ble_eq_true rfl)) c8) ?_
  obtain ⟨p9, hp9, h⟩ := Option.bind_eq_some_iff.mp h
  refine rn_ec qm rfl rfl rfl rfl rn_m32 rfl rfl rfl (fun h => by cases h) (E32 hp9) ?_
  refine rn_eg qm 0 (s2 := (48, [(0, .ref 318), (1, .int a1), (2, .int w7_2)], [.int p9, .int a1, .ref 334], N, sl, rn_hp S M7)) rfl ?_
  refine rn_e1 qm (s2 := (49, [(0, .ref 318), (1, .int a1), (2, .int w7_2)], [], N, sl, rn_hp S (wA M7 334 (Int32.toNatClampNeg a1) p9))) (rn_g_iast (n := 101) rfl rfl (ar_m10 rfl rfl (Nat.le_of_ble_eq_true rfl)) c8 (aw_m10 rfl rfl (Nat.le_of_ble_eq_true rfl))) ?_
  refine rn_eg qm 7 (s2 := (56, [(0, .ref 318), (1, .int a1), (2, .int w7_2)], [.int a1, .ref 326, .int (1 : Int32), .int (0 : Int32), .int a1, .ref 318], N, sl, rn_hp S (wA M7 334 (Int32.toNatClampNeg a1) p9))) rfl ?_
  refine rn_e1 qm (s2 := (57, [(0, .ref 318), (1, .int a1), (2, .int w7_2)], [.int (rA (wA M7 334 (Int32.toNatClampNeg a1) p9) 326 (Int32.toNatClampNeg a1)), .int (1 : Int32), .int (0 : Int32), .int a1, .ref 318], N, sl, rn_hp S (wA M7 334 (Int32.toNatClampNeg a1) p9))) (rn_g_iald (n := 101) rfl rfl (ar_m10 rfl rfl (Nat.le_of_ble_eq_true rfl)) c8) ?_
  refine rn_eg qm 4 (s2 := (61, [(0, .ref 318), (1, .int a1), (2, .int w7_2)], [.int a1, .ref 326, .int (256 : Int32), .int (rA (wA M7 334 (Int32.toNatClampNeg a1) p9) 326 (Int32.toNatClampNeg a1)), .int (1 : Int32), .int (0 : Int32), .int a1, .ref 318], N, sl, rn_hp S (wA M7 334 (Int32.toNatClampNeg a1) p9))) rfl ?_
  refine rn_e1 qm (s2 := (62, [(0, .ref 318), (1, .int a1), (2, .int w7_2)], [.int (rA (wA M7 334 (Int32.toNatClampNeg a1) p9) 326 (Int32.toNatClampNeg a1)), .int (256 : Int32), .int (rA (wA M7 334 (Int32.toNatClampNeg a1) p9) 326 (Int32.toNatClampNeg a1)), .int (1 : Int32), .int (0 : Int32), .int a1, .ref 318], N, sl, rn_hp S (wA M7 334 (Int32.toNatClampNeg a1) p9))) (rn_g_iald (n := 101) rfl rfl (ar_m10 rfl rfl (Nat.le_of_ble_eq_true rfl)) c8) ?_
  refine rn_eg qm 1 (s2 := (63, [(0, .ref 318), (1, .int a1), (2, .int w7_2)], [.int ((256 : Int32) - (rA (wA M7 334 (Int32.toNatClampNeg a1) p9) 326 (Int32.toNatClampNeg a1))), .int (rA (wA M7 334 (Int32.toNatClampNeg a1) p9) 326 (Int32.toNatClampNeg a1)), .int (1 : Int32), .int (0 : Int32), .int a1, .ref 318], N, sl, rn_hp S (wA M7 334 (Int32.toNatClampNeg a1) p9))) rfl ?_
  obtain ⟨p10, hp10, h⟩ := Option.bind_eq_some_iff.mp h
  refine rn_ec qm rfl rfl rfl rfl rn_m58 rfl rfl rfl (fun _ => rn_rc_of (en_9 (q := 318) rfl)) (E58 hp10) ?_
  refine rn_eg qm 0 (s2 := (64, [(0, .ref 318), (1, .int a1), (2, .int w7_2)], [], N, sl, rn_hp S p10)) rfl ?_
  cases h
  exact rn_er qm rfl rfl rfl
