/-! 82: RecordNichesModel.coverOne(I)V -/
def f82_L29 (b1 : Int32) (b2 : Int32) : Nat → rn_T → Int32 → (rn_T → Option (rn_T)) → Option (rn_T)
  | 0, _, _, _ => none
  | fu + 1, M, v3, k =>
    if b2 ≤ v3 then
      k M
    else
      Option.bind (f81 M b1) fun p6 =>
        if rn_ob (p6 + v3) 64 then none else
          f82_L29 b1 b2 fu (wA M 344 (Int32.toNatClampNeg (p6 + v3)) (1 : Int32)) (v3 + (1 : Int32)) k
set_option maxHeartbeats 4000000 in
theorem E82_L29 {X : rn_X} {N sl : Nat} {S : rn_T} {b1 : Int32} {b2 : Int32} : ∀ (fu : Nat) (M : rn_T) (v3 : Int32) (k : (rn_T → Option (rn_T))) (R : (rn_T)), (∀ (M : rn_T), k M = some R → rn_rv X 82 (43, [], [], N, sl, rn_hp S M) (none, N, sl, rn_hp S R)) → f82_L29 b1 b2 fu M v3 k = some R → rn_rv X 82 (29, [(0, .ref 318), (1, .int b1), (2, .int b2), (3, .int v3)], [], N, sl, rn_hp S M) (none, N, sl, rn_hp S R) := by
  have qm := rn_m82
  intro fu
  induction fu with
  | zero => intro M v3 k R hk h; cases h
  | succ fu ih =>
    intro M v3 k R hk h
    unfold f82_L29 at h
    refine rn_eg qm 3 (s2 := ((if b2 ≤ v3 then 43 else 32), [(0, .ref 318), (1, .int b1), (2, .int b2), (3, .int v3)], [], N, sl, rn_hp S M)) rfl ?_
    refine rn_ite (fun c5 => ?_) (fun c5 => ?_)
    · rw [if_pos c5] at h
      refine rn_kq qm (s2 := (43, [], [], N, sl, rn_hp S M)) rfl rfl ?_
      exact hk _ h
    · rw [if_neg c5] at h
      refine rn_eg qm 4 (s2 := (36, [(0, .ref 318), (1, .int b1), (2, .int b2), (3, .int v3)], [.int b1, .ref 318, .ref 344], N, sl, rn_hp S M)) rfl ?_
      obtain ⟨p6, hp6, h⟩ := Option.bind_eq_some_iff.mp h
      refine rn_ec qm rfl rfl rfl rfl rn_m81 rfl rfl rfl (fun _ => rn_rc_of (en_9 (q := 318) rfl)) (E81 hp6) ?_
      refine rn_eg qm 0 (s2 := (37, [(0, .ref 318), (1, .int b1), (2, .int b2), (3, .int v3)], [.int p6, .ref 344], N, sl, rn_hp S M)) rfl ?_
      refine rn_eg qm 3 (s2 := (40, [(0, .ref 318), (1, .int b1), (2, .int b2), (3, .int v3)], [.int (1 : Int32), .int (p6 + v3), .ref 344], N, sl, rn_hp S M)) rfl ?_
      have c7 : ¬ (rn_ob (p6 + v3) 64) := fun c => by rw [if_pos c] at h; cases h
      rw [if_neg c7] at h
      refine rn_e1 qm (s2 := (41, [(0, .ref 318), (1, .int b1), (2, .int b2), (3, .int v3)], [], N, sl, rn_hp S (wA M 344 (Int32.toNatClampNeg (p6 + v3)) (1 : Int32)))) (rn_g_bast (n := 64) rfl rfl (ar_m12 rfl rfl (Nat.le_of_ble_eq_true rfl)) c7 (by decide) (aw_m12 rfl rfl (Nat.le_of_ble_eq_true rfl))) ?_
      refine rn_eg qm 2 (s2 := (29, [(3, .int (v3 + (1 : Int32))), (0, .ref 318), (1, .int b1), (2, .int b2)], [], N, sl, rn_hp S (wA M 344 (Int32.toNatClampNeg (p6 + v3)) (1 : Int32)))) rfl ?_
      refine rn_kq qm (s2 := (29, [(0, .ref 318), (1, .int b1), (2, .int b2), (3, .int (v3 + (1 : Int32)))], [], N, sl, rn_hp S (wA M 344 (Int32.toNatClampNeg (p6 + v3)) (1 : Int32)))) rfl rfl ?_
      exact ih _ _ k R hk h
def f82_J26 (M : rn_T) (u1 : Int32) (t0 : Int32) : Option (rn_T) :=
  f82_L29 u1 t0 rn_FU M (0 : Int32) (fun M8 =>
    some (M8))
set_option maxHeartbeats 4000000 in
theorem E82_J26 {X : rn_X} {N sl : Nat} {S : rn_T} {M : rn_T} {u1 : Int32} {t0 : Int32} {R : (rn_T)} (h : f82_J26 M u1 t0 = some R) : rn_rv X 82 (26, [(0, .ref 318), (1, .int u1)], [.int t0], N, sl, rn_hp S M) (none, N, sl, rn_hp S R) := by
  have qm := rn_m82
  unfold f82_J26 at h
  refine rn_eg qm 3 (s2 := (29, [(3, .int (0 : Int32)), (2, .int t0), (0, .ref 318), (1, .int u1)], [], N, sl, rn_hp S M)) rfl ?_
  refine rn_kq qm (s2 := (29, [(0, .ref 318), (1, .int u1), (2, .int t0), (3, .int (0 : Int32))], [], N, sl, rn_hp S M)) rfl rfl ?_
  refine E82_L29 rn_FU _ _ _ R ?_ h
  intro M8 h
  cases h
  exact rn_er qm rfl rfl rfl
def f82_J25 (M : rn_T) (u1 : Int32) : Option (rn_T) :=
  f82_J26 M u1 (0 : Int32)
set_option maxHeartbeats 4000000 in
theorem E82_J25 {X : rn_X} {N sl : Nat} {S : rn_T} {M : rn_T} {u1 : Int32} {R : (rn_T)} (h : f82_J25 M u1 = some R) : rn_rv X 82 (25, [(0, .ref 318), (1, .int u1)], [], N, sl, rn_hp S M) (none, N, sl, rn_hp S R) := by
  have qm := rn_m82
  unfold f82_J25 at h
  refine rn_eg qm 1 (s2 := (26, [(0, .ref 318), (1, .int u1)], [.int (0 : Int32)], N, sl, rn_hp S M)) rfl ?_
  refine rn_kq qm (s2 := (26, [(0, .ref 318), (1, .int u1)], [.int (0 : Int32)], N, sl, rn_hp S M)) rfl rfl ?_
  exact E82_J26 h
def f82 (M : rn_T) (a1 : Int32) : Option (rn_T) :=
  if rn_ob a1 101 then none else
    if (5 : Int32) ≤ (rA M 322 (Int32.toNatClampNeg a1)) then
      if (rA M 322 (Int32.toNatClampNeg a1)) = (6 : Int32) then
        if (rA M 341 (Int32.toNatClampNeg a1)) = (2 : Int32) then
          f82_J26 M a1 (1 : Int32)
        else
          f82_J25 M a1
      else
        f82_J25 M a1
    else
      f82_J26 M a1 (rA M 334 (Int32.toNatClampNeg a1))
set_option maxHeartbeats 4000000 in
theorem E82 {X : rn_X} {N sl : Nat} {S M : rn_T} {a1 : Int32} {R : (rn_T)} (h : f82 M a1 = some R) : rn_rv X 82 (0, [(0, .ref 318), (1, .int a1)], [], N, sl, rn_hp S M) (none, N, sl, rn_hp S R) := by
  have qm := rn_m82
  unfold f82 at h
  refine rn_eg qm 3 (s2 := (3, [(0, .ref 318), (1, .int a1)], [.int a1, .ref 322], N, sl, rn_hp S M)) rfl ?_
  have c1 : ¬ (rn_ob a1 101) := fun c => by rw [if_pos c] at h; cases h
  rw [if_neg c1] at h
  refine rn_e1 qm (s2 := (4, [(0, .ref 318), (1, .int a1)], [.int (rA M 322 (Int32.toNatClampNeg a1))], N, sl, rn_hp S M)) (rn_g_iald (n := 101) rfl rfl (ar_m10 rfl rfl (Nat.le_of_ble_eq_true rfl)) c1) ?_
  refine rn_eg qm 2 (s2 := ((if (5 : Int32) ≤ (rA M 322 (Int32.toNatClampNeg a1)) then 11 else 6), [(0, .ref 318), (1, .int a1)], [], N, sl, rn_hp S M)) rfl ?_
  refine rn_ite (fun c2 => ?_) (fun c2 => ?_)
  · rw [if_pos c2] at h
    refine rn_eg qm 3 (s2 := (14, [(0, .ref 318), (1, .int a1)], [.int a1, .ref 322], N, sl, rn_hp S M)) rfl ?_
    refine rn_e1 qm (s2 := (15, [(0, .ref 318), (1, .int a1)], [.int (rA M 322 (Int32.toNatClampNeg a1))], N, sl, rn_hp S M)) (rn_g_iald (n := 101) rfl rfl (ar_m10 rfl rfl (Nat.le_of_ble_eq_true rfl)) c1) ?_
    refine rn_eg qm 2 (s2 := ((if (rA M 322 (Int32.toNatClampNeg a1)) = (6 : Int32) then 17 else 25), [(0, .ref 318), (1, .int a1)], [], N, sl, rn_hp S M)) rfl ?_
    refine rn_ite (fun c3 => ?_) (fun c3 => ?_)
    · rw [if_pos c3] at h
      refine rn_eg qm 3 (s2 := (20, [(0, .ref 318), (1, .int a1)], [.int a1, .ref 341], N, sl, rn_hp S M)) rfl ?_
      refine rn_e1 qm (s2 := (21, [(0, .ref 318), (1, .int a1)], [.int (rA M 341 (Int32.toNatClampNeg a1))], N, sl, rn_hp S M)) (rn_g_iald (n := 101) rfl rfl (ar_m10 rfl rfl (Nat.le_of_ble_eq_true rfl)) c1) ?_
      refine rn_eg qm 2 (s2 := ((if (rA M 341 (Int32.toNatClampNeg a1)) = (2 : Int32) then 23 else 25), [(0, .ref 318), (1, .int a1)], [], N, sl, rn_hp S M)) rfl ?_
      refine rn_ite (fun c4 => ?_) (fun c4 => ?_)
      · rw [if_pos c4] at h
        refine rn_eg qm 2 (s2 := (26, [(0, .ref 318), (1, .int a1)], [.int (1 : Int32)], N, sl, rn_hp S M)) rfl ?_
        refine rn_kq qm (s2 := (26, [(0, .ref 318), (1, .int a1)], [.int (1 : Int32)], N, sl, rn_hp S M)) rfl rfl ?_
        exact E82_J26 h
      · rw [if_neg c4] at h
        refine rn_kq qm (s2 := (25, [(0, .ref 318), (1, .int a1)], [], N, sl, rn_hp S M)) rfl rfl ?_
        exact E82_J25 h
    · rw [if_neg c3] at h
      refine rn_kq qm (s2 := (25, [(0, .ref 318), (1, .int a1)], [], N, sl, rn_hp S M)) rfl rfl ?_
      exact E82_J25 h
  · rw [if_neg c2] at h
    refine rn_eg qm 3 (s2 := (9, [(0, .ref 318), (1, .int a1)], [.int a1, .ref 334], N, sl, rn_hp S M)) rfl ?_
    refine rn_e1 qm (s2 := (10, [(0, .ref 318), (1, .int a1)], [.int (rA M 334 (Int32.toNatClampNeg a1))], N, sl, rn_hp S M)) (rn_g_iald (n := 101) rfl rfl (ar_m10 rfl rfl (Nat.le_of_ble_eq_true rfl)) c1) ?_
    refine rn_eg qm 1 (s2 := (26, [(0, .ref 318), (1, .int a1)], [.int (rA M 334 (Int32.toNatClampNeg a1))], N, sl, rn_hp S M)) rfl ?_
    refine rn_kq qm (s2 := (26, [(0, .ref 318), (1, .int a1)], [.int (rA M 334 (Int32.toNatClampNeg a1))], N, sl, rn_hp S M)) rfl rfl ?_
    exact E82_J26 h
/-! 83: RecordNichesModel.idle(II)I -/
def f83_L19 : Nat → rn_T → Int32 → (rn_T → Option (Int32 × rn_T)) → Option (Int32 × rn_T)
  | 0, _, _, _ => none
  | fu + 1, M, v4, k =>
    if (64 : Int32) ≤ v4 then
      k M
    else
      if rn_ob v4 64 then none else
        f83_L19 fu (wA M 344 (Int32.toNatClampNeg v4) (0 : Int32)) (v4 + (1 : Int32)) k
set_option maxHeartbeats 4000000 in
theorem E83_L19 {X : rn_X} {N sl : Nat} {S : rn_T} : ∀ (fu : Nat) (M : rn_T) (v4 : Int32) (k : (rn_T → Option (Int32 × rn_T))) (R : (Int32 × rn_T)), (∀ (M : rn_T), k M = some R → rn_rv X 83 (29, [(0, .ref 318)], [], N, sl, rn_hp S M) (some (.int R.1), N, sl, rn_hp S R.2)) → f83_L19 fu M v4 k = some R → rn_rv X 83 (19, [(0, .ref 318), (4, .int v4)], [], N, sl, rn_hp S M) (some (.int R.1), N, sl, rn_hp S R.2) := by
  have qm := rn_m83
  intro fu
  induction fu with
  | zero => intro M v4 k R hk h; cases h
  | succ fu ih =>
    intro M v4 k R hk h
    unfold f83_L19 at h
    refine rn_eg qm 3 (s2 := ((if (64 : Int32) ≤ v4 then 29 else 22), [(0, .ref 318), (4, .int v4)], [], N, sl, rn_hp S M)) rfl ?_
    refine rn_ite (fun c5 => ?_) (fun c5 => ?_)
    · rw [if_pos c5] at h
      refine rn_kq qm (s2 := (29, [(0, .ref 318)], [], N, sl, rn_hp S M)) rfl rfl ?_
      exact hk _ h
    · rw [if_neg c5] at h
      refine rn_eg qm 4 (s2 := (26, [(0, .ref 318), (4, .int v4)], [.int (0 : Int32), .int v4, .ref 344], N, sl, rn_hp S M)) rfl ?_
      have c6 : ¬ (rn_ob v4 64) := fun c => by rw [if_pos c] at h; cases h
      rw [if_neg c6] at h
      refine rn_e1 qm (s2 := (27, [(0, .ref 318), (4, .int v4)], [], N, sl, rn_hp S (wA M 344 (Int32.toNatClampNeg v4) (0 : Int32)))) (rn_g_bast (n := 64) rfl rfl (ar_m12 rfl rfl (Nat.le_of_ble_eq_true rfl)) c6 (by decide) (aw_m12 rfl rfl (Nat.le_of_ble_eq_true rfl))) ?_
      refine rn_eg qm 2 (s2 := (19, [(4, .int (v4 + (1 : Int32))), (0, .ref 318)], [], N, sl, rn_hp S (wA M 344 (Int32.toNatClampNeg v4) (0 : Int32)))) rfl ?_
      refine rn_kq qm (s2 := (19, [(0, .ref 318), (4, .int (v4 + (1 : Int32)))], [], N, sl, rn_hp S (wA M 344 (Int32.toNatClampNeg v4) (0 : Int32)))) rfl rfl ?_
      exact ih _ _ k R hk h
def f83_L31 : Nat → rn_T → Int32 → (rn_T → Option (Int32 × rn_T)) → Option (Int32 × rn_T)
  | 0, _, _, _ => none
  | fu + 1, M, v4, k =>
    if (rI M 318 10) ≤ v4 then
      k M
    else
      Option.bind (f82 M v4) fun p9 =>
        f83_L31 fu p9 (v4 + (1 : Int32)) k
set_option maxHeartbeats 4000000 in
theorem E83_L31 {X : rn_X} {N sl : Nat} {S : rn_T} : ∀ (fu : Nat) (M : rn_T) (v4 : Int32) (k : (rn_T → Option (Int32 × rn_T))) (R : (Int32 × rn_T)), (∀ (M : rn_T), k M = some R → rn_rv X 83 (40, [(0, .ref 318)], [], N, sl, rn_hp S M) (some (.int R.1), N, sl, rn_hp S R.2)) → f83_L31 fu M v4 k = some R → rn_rv X 83 (31, [(0, .ref 318), (4, .int v4)], [], N, sl, rn_hp S M) (some (.int R.1), N, sl, rn_hp S R.2) := by
  have qm := rn_m83
  intro fu
  induction fu with
  | zero => intro M v4 k R hk h; cases h
  | succ fu ih =>
    intro M v4 k R hk h
    unfold f83_L31 at h
    refine rn_eg qm 4 (s2 := ((if (rI M 318 10) ≤ v4 then 40 else 35), [(0, .ref 318), (4, .int v4)], [], N, sl, rn_hp S M)) rfl ?_
    refine rn_ite (fun c8 => ?_) (fun c8 => ?_)
    · rw [if_pos c8] at h
      refine rn_kq qm (s2 := (40, [(0, .ref 318)], [], N, sl, rn_hp S M)) rfl rfl ?_
      exact hk _ h
    · rw [if_neg c8] at h
      refine rn_eg qm 2 (s2 := (37, [(0, .ref 318), (4, .int v4)], [.int v4, .ref 318], N, sl, rn_hp S M)) rfl ?_
      obtain ⟨p9, hp9, h⟩ := Option.bind_eq_some_iff.mp h
      refine rn_ec qm rfl rfl rfl rfl rn_m82 rfl rfl rfl (fun _ => rn_rc_of (en_9 (q := 318) rfl)) (E82 hp9) ?_
      refine rn_eg qm 0 (s2 := (38, [(0, .ref 318), (4, .int v4)], [], N, sl, rn_hp S p9)) rfl ?_
      refine rn_eg qm 2 (s2 := (31, [(4, .int (v4 + (1 : Int32))), (0, .ref 318)], [], N, sl, rn_hp S p9)) rfl ?_
      refine rn_kq qm (s2 := (31, [(0, .ref 318), (4, .int (v4 + (1 : Int32)))], [], N, sl, rn_hp S p9)) rfl rfl ?_
      exact ih _ _ k R hk h
def f83_L44 : Nat → rn_T → Int32 → Int32 → (rn_T → Int32 → Option (Int32 × rn_T)) → Option (Int32 × rn_T)
  | 0, _, _, _, _ => none
  | fu + 1, M, v4, v5, k =>
    if (rA M 334 (Int32.toNatClampNeg (0 : Int32))) ≤ v5 then
      k M v4
    else
      if rn_ob v5 64 then none else
        if (rA M 344 (Int32.toNatClampNeg v5)) = 0 then
          f83_L44 fu M (v4 + (1 : Int32)) (v5 + (1 : Int32)) k
        else
          f83_L44 fu M (v4 + (0 : Int32)) (v5 + (1 : Int32)) k
set_option maxHeartbeats 4000000 in
theorem E83_L44 {X : rn_X} {N sl : Nat} {S : rn_T} : ∀ (fu : Nat) (M : rn_T) (v4 : Int32) (v5 : Int32) (k : (rn_T → Int32 → Option (Int32 × rn_T))) (R : (Int32 × rn_T)), (∀ (M : rn_T) (w_4 : Int32), k M w_4 = some R → rn_rv X 83 (63, [(4, .int w_4)], [], N, sl, rn_hp S M) (some (.int R.1), N, sl, rn_hp S R.2)) → f83_L44 fu M v4 v5 k = some R → rn_rv X 83 (44, [(0, .ref 318), (4, .int v4), (5, .int v5)], [], N, sl, rn_hp S M) (some (.int R.1), N, sl, rn_hp S R.2) := by
  have qm := rn_m83
  intro fu
  induction fu with
  | zero => intro M v4 v5 k R hk h; cases h
  | succ fu ih =>
    intro M v4 v5 k R hk h
    unfold f83_L44 at h
    refine rn_eg qm 4 (s2 := (48, [(0, .ref 318), (4, .int v4), (5, .int v5)], [.int (0 : Int32), .ref 334, .int v5], N, sl, rn_hp S M)) rfl ?_
    refine rn_e1 qm (s2 := (49, [(0, .ref 318), (4, .int v4), (5, .int v5)], [.int (rA M 334 (Int32.toNatClampNeg (0 : Int32))), .int v5], N, sl, rn_hp S M)) (rn_g_iald (n := 101) rfl rfl (ar_m10 rfl rfl (Nat.le_of_ble_eq_true rfl)) (by decide)) ?_
    refine rn_eg qm 1 (s2 := ((if (rA M 334 (Int32.toNatClampNeg (0 : Int32))) ≤ v5 then 63 else 50), [(0, .ref 318), (4, .int v4), (5, .int v5)], [], N, sl, rn_hp S M)) rfl ?_
    refine rn_ite (fun c11 => ?_) (fun c11 => ?_)
    · rw [if_pos c11] at h
      refine rn_kq qm (s2 := (63, [(4, .int v4)], [], N, sl, rn_hp S M)) rfl rfl ?_
      exact hk _ _ h
    · rw [if_neg c11] at h
      refine rn_eg qm 4 (s2 := (54, [(0, .ref 318), (4, .int v4), (5, .int v5)], [.int v5, .ref 344, .int v4], N, sl, rn_hp S M)) rfl ?_
      have c12 : ¬ (rn_ob v5 64) := fun c => by rw [if_pos c] at h; cases h
      rw [if_neg c12] at h
      refine rn_e1 qm (s2 := (55, [(0, .ref 318), (4, .int v4), (5, .int v5)], [.int (rA M 344 (Int32.toNatClampNeg v5)), .int v4], N, sl, rn_hp S M)) (rn_g_bald (n := 64) rfl rfl (ar_m12 rfl rfl (Nat.le_of_ble_eq_true rfl)) c12) ?_
      refine rn_eg qm 1 (s2 := ((if (rA M 344 (Int32.toNatClampNeg v5)) = 0 then 58 else 56), [(0, .ref 318), (4, .int v4), (5, .int v5)], [.int v4], N, sl, rn_hp S M)) rfl ?_
      refine rn_ite (fun c13 => ?_) (fun c13 => ?_)
      · rw [if_pos c13] at h
        refine rn_eg qm 5 (s2 := (44, [(5, .int (v5 + (1 : Int32))), (4, .int (v4 + (1 : Int32))), (0, .ref 318)], [], N, sl, rn_hp S M)) rfl ?_
        refine rn_kq qm (s2 := (44, [(0, .ref 318), (4, .int (v4 + (1 : Int32))), (5, .int (v5 + (1 : Int32)))], [], N, sl, rn_hp S M)) rfl rfl ?_
        exact ih _ _ _ k R hk h
      · rw [if_neg c13] at h
        refine rn_eg qm 6 (s2 := (44, [(5, .int (v5 + (1 : Int32))), (4, .int (v4 + (0 : Int32))), (0, .ref 318)], [], N, sl, rn_hp S M)) rfl ?_
        refine rn_kq qm (s2 := (44, [(0, .ref 318), (4, .int (v4 + (0 : Int32))), (5, .int (v5 + (1 : Int32)))], [], N, sl, rn_hp S M)) rfl rfl ?_
        exact ih _ _ _ k R hk h
def f83 (M : rn_T) (a1 : Int32) (a2 : Int32) : Option (Int32 × rn_T) :=
  Option.bind (f46 M a1 a2) fun p1 =>
    if p1 = true then
      Option.bind (f71 M a1 a2) fun p3 =>
        if p3.1 = (-6 : Int32) then
          f83_L19 rn_FU p3.2 (0 : Int32) (fun M7 =>
            f83_L31 rn_FU M7 (0 : Int32) (fun M10 =>
              f83_L44 rn_FU M10 (0 : Int32) (0 : Int32) (fun M14 w14_4 =>
                some (w14_4, M14))))
        else
          some (p3.1, p3.2)
    else
      some ((-1 : Int32), M)
set_option maxHeartbeats 4000000 in
theorem E83 {X : rn_X} {N sl : Nat} {S M : rn_T} {a1 : Int32} {a2 : Int32} {R : (Int32 × rn_T)} (h : f83 M a1 a2 = some R) : rn_rv X 83 (0, [(0, .ref 318), (1, .int a1), (2, .int a2)], [], N, sl, rn_hp S M) (some (.int R.1), N, sl, rn_hp S R.2) := by
  have qm := rn_m83
  unfold f83 at h
  refine rn_eg qm 3 (s2 := (3, [(0, .ref 318), (1, .int a1), (2, .int a2)], [.int a2, .int a1, .ref 318], N, sl, rn_hp S M)) rfl ?_
  obtain ⟨p1, hp1, h⟩ := Option.bind_eq_some_iff.mp h
  refine rn_ec qm rfl rfl rfl rfl rn_m46 rfl rfl rfl (fun _ => rn_rc_of (en_9 (q := 318) rfl)) (E46 hp1) ?_
  refine rn_eg qm 0 (s2 := (4, [(0, .ref 318), (1, .int a1), (2, .int a2)], [.int (rn_bi p1)], N, sl, rn_hp S M)) rfl ?_
  refine rn_eg qm 1 (s2 := ((if (rn_bi p1) = 0 then 5 else 7), [(0, .ref 318), (1, .int a1), (2, .int a2)], [], N, sl, rn_hp S M)) rfl ?_
  refine rn_iteb (fun c2 => ?_) (fun c2 => ?_)
  · rw [if_neg (rn_bf c2)] at h
    refine rn_eg qm 1 (s2 := (6, [(0, .ref 318), (1, .int a1), (2, .int a2)], [.int (-1 : Int32)], N, sl, rn_hp S M)) rfl ?_
    cases h
    exact rn_er qm rfl rfl rfl
  · rw [if_pos c2] at h
    refine rn_eg qm 3 (s2 := (10, [(0, .ref 318), (1, .int a1), (2, .int a2)], [.int a2, .int a1, .ref 318], N, sl, rn_hp S M)) rfl ?_
    obtain ⟨p3, hp3, h⟩ := Option.bind_eq_some_iff.mp h
    refine rn_ec qm rfl rfl rfl rfl rn_m71 rfl rfl rfl (fun _ => rn_rc_of (en_9 (q := 318) rfl)) (E71 hp3) ?_
    refine rn_eg qm 0 (s2 := (11, [(0, .ref 318), (1, .int a1), (2, .int a2)], [.int p3.1], N, sl, rn_hp S p3.2)) rfl ?_
    refine rn_eg qm 4 (s2 := ((if p3.1 = (-6 : Int32) then 17 else 15), [(3, .int p3.1), (0, .ref 318), (1, .int a1), (2, .int a2)], [], N, sl, rn_hp S p3.2)) rfl ?_
    refine rn_ite (fun c4 => ?_) (fun c4 => ?_)
    · rw [if_pos c4] at h
      refine rn_eg qm 2 (s2 := (19, [(4, .int (0 : Int32)), (3, .int p3.1), (0, .ref 318), (1, .int a1), (2, .int a2)], [], N, sl, rn_hp S p3.2)) rfl ?_
      refine rn_kq qm (s2 := (19, [(0, .ref 318), (4, .int (0 : Int32))], [], N, sl, rn_hp S p3.2)) rfl rfl ?_
      refine E83_L19 rn_FU _ _ _ R ?_ h
      intro M7 h
      refine rn_eg qm 2 (s2 := (31, [(4, .int (0 : Int32)), (0, .ref 318)], [], N, sl, rn_hp S M7)) rfl ?_
      refine rn_kq qm (s2 := (31, [(0, .ref 318), (4, .int (0 : Int32))], [], N, sl, rn_hp S M7)) rfl rfl ?_
      refine E83_L31 rn_FU _ _ _ R ?_ h
      intro M10 h
      refine rn_eg qm 4 (s2 := (44, [(5, .int (0 : Int32)), (4, .int (0 : Int32)), (0, .ref 318)], [], N, sl, rn_hp S M10)) rfl ?_
      refine rn_kq qm (s2 := (44, [(0, .ref 318), (4, .int (0 : Int32)), (5, .int (0 : Int32))], [], N, sl, rn_hp S M10)) rfl rfl ?_
      refine E83_L44 rn_FU _ _ _ _ R ?_ h
      intro M14 w14_4 h
      refine rn_eg qm 1 (s2 := (64, [(4, .int w14_4)], [.int w14_4], N, sl, rn_hp S M14)) rfl ?_
      cases h
      exact rn_er qm rfl rfl rfl
    · rw [if_neg c4] at h
      refine rn_eg qm 1 (s2 := (16, [(3, .int p3.1), (0, .ref 318), (1, .int a1), (2, .int a2)], [.int p3.1], N, sl, rn_hp S p3.2)) rfl ?_
      cases h
      exact rn_er qm rfl rfl rfl
/-! 84: RecordNichesModel.give(J)I -/
def f84 (M : rn_T) (a1 : Int64) : Option (Int32 × rn_T) :=
  if (f29 a1 (0 : Int64) (4294967295 : Int64)) = true then
    if (rI M 318 33) = (60 : Int32) then
      some ((-4 : Int32), M)
    else
      if rn_ob (rI M 318 33) 60 then none else
        some ((rI (wI (wL M 345 (Int32.toNatClampNeg (rI M 318 33)) a1) 318 33 ((rI (wL M 345 (Int32.toNatClampNeg (rI M 318 33)) a1) 318 33) + (1 : Int32))) 318 33), wI (wL M 345 (Int32.toNatClampNeg (rI M 318 33)) a1) 318 33 ((rI (wL M 345 (Int32.toNatClampNeg (rI M 318 33)) a1) 318 33) + (1 : Int32)))
  else
    some ((-2 : Int32), M)
set_option maxHeartbeats 4000000 in
theorem E84 {X : rn_X} {N sl : Nat} {S M : rn_T} {a1 : Int64} {R : (Int32 × rn_T)} (h : f84 M a1 = some R) : rn_rv X 84 (0, [(0, .ref 318), (1, .long a1)], [], N, sl, rn_hp S M) (some (.int R.1), N, sl, rn_hp S R.2) := by
  have qm := rn_m84
  unfold f84 at h
  refine rn_eg qm 3 (s2 := (3, [(0, .ref 318), (1, .long a1)], [.long (4294967295 : Int64), .long (0 : Int64), .long a1], N, sl, rn_hp S M)) rfl ?_
  refine rn_ec qm rfl rfl rfl rfl rn_m29 rfl rfl rfl (fun h => by cases h) (E29 rfl) ?_
  refine rn_eg qm 0 (s2 := (4, [(0, .ref 318), (1, .long a1)], [.int (rn_bi (f29 a1 (0 : Int64) (4294967295 : Int64)))], N, sl, rn_hp S M)) rfl ?_
  refine rn_eg qm 1 (s2 := ((if (rn_bi (f29 a1 (0 : Int64) (4294967295 : Int64))) = 0 then 5 else 7), [(0, .ref 318), (1, .long a1)], [], N, sl, rn_hp S M)) rfl ?_
  refine rn_iteb (fun c2 => ?_) (fun c2 => ?_)
  · rw [if_neg (rn_bf c2)] at h
    refine rn_eg qm 1 (s2 := (6, [(0, .ref 318), (1, .long a1)], [.int (-2 : Int32)], N, sl, rn_hp S M)) rfl ?_
    cases h
    exact rn_er qm rfl rfl rfl
  · rw [if_pos c2] at h
    refine rn_eg qm 4 (s2 := ((if (rI M 318 33) = (60 : Int32) then 11 else 13), [(0, .ref 318), (1, .long a1)], [], N, sl, rn_hp S M)) rfl ?_
    refine rn_ite (fun c3 => ?_) (fun c3 => ?_)
    · rw [if_pos c3] at h
      refine rn_eg qm 1 (s2 := (12, [(0, .ref 318), (1, .long a1)], [.int (-4 : Int32)], N, sl, rn_hp S M)) rfl ?_
      cases h
      exact rn_er qm rfl rfl rfl
    · rw [if_neg c3] at h
      refine rn_eg qm 5 (s2 := (18, [(0, .ref 318), (1, .long a1)], [.long a1, .int (rI M 318 33), .ref 345], N, sl, rn_hp S M)) rfl ?_
      have c4 : ¬ (rn_ob (rI M 318 33) 60) := fun c => by rw [if_pos c] at h; cases h
      rw [if_neg c4] at h
      refine rn_e1 qm (s2 := (19, [(0, .ref 318), (1, .long a1)], [], N, sl, rn_hp S (wL M 345 (Int32.toNatClampNeg (rI M 318 33)) a1))) (rn_g_last (n := 60) rfl rfl (ar_m11 rfl rfl (Nat.le_of_ble_eq_true rfl)) c4 (aw_m11 rfl rfl (Nat.le_of_ble_eq_true rfl))) ?_
      refine rn_eg qm 5 (s2 := (24, [(0, .ref 318), (1, .long a1)], [.int ((rI (wL M 345 (Int32.toNatClampNeg (rI M 318 33)) a1) 318 33) + (1 : Int32)), .ref 318], N, sl, rn_hp S (wL M 345 (Int32.toNatClampNeg (rI M 318 33)) a1))) rfl ?_
      refine rn_e1 qm (s2 := (25, [(0, .ref 318), (1, .long a1)], [], N, sl, rn_hp S (wI (wL M 345 (Int32.toNatClampNeg (rI M 318 33)) a1) 318 33 ((rI (wL M 345 (Int32.toNatClampNeg (rI M 318 33)) a1) 318 33) + (1 : Int32))))) (rn_g_putf rfl rfl (en_9 rfl) rfl rfl rfl (wf_9_33 (v := ((rI (wL M 345 (Int32.toNatClampNeg (rI M 318 33)) a1) 318 33) + (1 : Int32))) rfl)) ?_
      refine rn_eg qm 2 (s2 := (27, [(0, .ref 318), (1, .long a1)], [.int (rI (wI (wL M 345 (Int32.toNatClampNeg (rI M 318 33)) a1) 318 33 ((rI (wL M 345 (Int32.toNatClampNeg (rI M 318 33)) a1) 318 33) + (1 : Int32))) 318 33)], N, sl, rn_hp S (wI (wL M 345 (Int32.toNatClampNeg (rI M 318 33)) a1) 318 33 ((rI (wL M 345 (Int32.toNatClampNeg (rI M 318 33)) a1) 318 33) + (1 : Int32))))) rfl ?_
      cases h
      exact rn_er qm rfl rfl rfl
/-! 85: RecordNichesModel.drop()I -/
def f85 (M : rn_T) : Option (Int32 × rn_T) :=
  some ((rI M 318 33), wI M 318 33 (0 : Int32))
set_option maxHeartbeats 4000000 in
theorem E85 {X : rn_X} {N sl : Nat} {S M : rn_T} {R : (Int32 × rn_T)} (h : f85 M = some R) : rn_rv X 85 (0, [(0, .ref 318)], [], N, sl, rn_hp S M) (some (.int R.1), N, sl, rn_hp S R.2) := by
  have qm := rn_m85
  unfold f85 at h
  refine rn_eg qm 5 (s2 := (5, [(1, .int (rI M 318 33)), (0, .ref 318)], [.int (0 : Int32), .ref 318], N, sl, rn_hp S M)) rfl ?_
  refine rn_e1 qm (s2 := (6, [(1, .int (rI M 318 33)), (0, .ref 318)], [], N, sl, rn_hp S (wI M 318 33 (0 : Int32)))) (rn_g_putf rfl rfl (en_9 rfl) rfl rfl rfl (wf_9_33 (v := (0 : Int32)) rfl)) ?_
  refine rn_eg qm 1 (s2 := (7, [(1, .int (rI M 318 33)), (0, .ref 318)], [.int (rI M 318 33)], N, sl, rn_hp S (wI M 318 33 (0 : Int32)))) rfl ?_
  cases h
  exact rn_er qm rfl rfl rfl
/-! 86: RecordNichesModel.given(I)J -/
def f86 (M : rn_T) (a1 : Int32) : Option Int64 :=
  if a1 = (-1 : Int32) then
    some (Int32.toInt64 (rI M 318 33))
  else
    if (f29 (Int32.toInt64 a1) (0 : Int64) (Int32.toInt64 ((rI M 318 33) - (1 : Int32)))) = true then
      if rn_ob a1 60 then none else
        some (rL M 345 (Int32.toNatClampNeg a1))
    else
      some (-6 : Int64)
set_option maxHeartbeats 4000000 in
theorem E86 {X : rn_X} {N sl : Nat} {S M : rn_T} {a1 : Int32} {R : (Int64)} (h : f86 M a1 = some R) : rn_rv X 86 (0, [(0, .ref 318), (1, .int a1)], [], N, sl, rn_hp S M) (some (.long R), N, sl, rn_hp S M) := by
  have qm := rn_m86
  unfold f86 at h
  refine rn_eg qm 3 (s2 := ((if a1 = (-1 : Int32) then 3 else 7), [(0, .ref 318), (1, .int a1)], [], N, sl, rn_hp S M)) rfl ?_
  refine rn_ite (fun c1 => ?_) (fun c1 => ?_)
  · rw [if_pos c1] at h
    refine rn_eg qm 4 (s2 := (23, [(0, .ref 318), (1, .int a1)], [.long (Int32.toInt64 (rI M 318 33))], N, sl, rn_hp S M)) rfl ?_
    cases h
    exact rn_er qm rfl rfl rfl
  · rw [if_neg c1] at h
    refine rn_eg qm 8 (s2 := (15, [(0, .ref 318), (1, .int a1)], [.long (Int32.toInt64 ((rI M 318 33) - (1 : Int32))), .long (0 : Int64), .long (Int32.toInt64 a1)], N, sl, rn_hp S M)) rfl ?_
    refine rn_ec qm rfl rfl rfl rfl rn_m29 rfl rfl rfl (fun h => by cases h) (E29 rfl) ?_
    refine rn_eg qm 0 (s2 := (16, [(0, .ref 318), (1, .int a1)], [.int (rn_bi (f29 (Int32.toInt64 a1) (0 : Int64) (Int32.toInt64 ((rI M 318 33) - (1 : Int32)))))], N, sl, rn_hp S M)) rfl ?_
    refine rn_eg qm 1 (s2 := ((if (rn_bi (f29 (Int32.toInt64 a1) (0 : Int64) (Int32.toInt64 ((rI M 318 33) - (1 : Int32))))) = 0 then 22 else 17), [(0, .ref 318), (1, .int a1)], [], N, sl, rn_hp S M)) rfl ?_
    refine rn_iteb (fun c3 => ?_) (fun c3 => ?_)
    · rw [if_neg (rn_bf c3)] at h
      refine rn_eg qm 1 (s2 := (23, [(0, .ref 318), (1, .int a1)], [.long (-6 : Int64)], N, sl, rn_hp S M)) rfl ?_
      cases h
      exact rn_er qm rfl rfl rfl
    · rw [if_pos c3] at h
      refine rn_eg qm 3 (s2 := (20, [(0, .ref 318), (1, .int a1)], [.int a1, .ref 345], N, sl, rn_hp S M)) rfl ?_
      have c4 : ¬ (rn_ob a1 60) := fun c => by rw [if_pos c] at h; cases h
      rw [if_neg c4] at h
      refine rn_e1 qm (s2 := (21, [(0, .ref 318), (1, .int a1)], [.long (rL M 345 (Int32.toNatClampNeg a1))], N, sl, rn_hp S M)) (rn_g_lald (n := 60) rfl rfl (ar_m11 rfl rfl (Nat.le_of_ble_eq_true rfl)) c4) ?_
      refine rn_eg qm 1 (s2 := (23, [(0, .ref 318), (1, .int a1)], [.long (rL M 345 (Int32.toNatClampNeg a1))], N, sl, rn_hp S M)) rfl ?_
      cases h
      exact rn_er qm rfl rfl rfl
/-! 87: RecordNichesModel.isThereNow(I)Z -/
def f87 (M : rn_T) (a1 : Int32) : Option Bool :=
  if rn_ob a1 101 then none else
    if (rA M 324 (Int32.toNatClampNeg a1)) < 0 then
      some true
    else
      if rn_ob (rA M 324 (Int32.toNatClampNeg a1)) 101 then none else
        if (rA M 347 (Int32.toNatClampNeg (rA M 324 (Int32.toNatClampNeg a1)))) = 0 then
          some false
        else
          if (rA M 322 (Int32.toNatClampNeg (rA M 324 (Int32.toNatClampNeg a1)))) = (6 : Int32) then
            if (rA M 348 (Int32.toNatClampNeg (rA M 324 (Int32.toNatClampNeg a1)))) = (rA M 325 (Int32.toNatClampNeg a1)) then
              some true
            else
              some false
          else
            some true
set_option maxHeartbeats 4000000 in
theorem E87 {X : rn_X} {N sl : Nat} {S M : rn_T} {a1 : Int32} {R : (Bool)} (h : f87 M a1 = some R) : rn_rv X 87 (0, [(0, .ref 318), (1, .int a1)], [], N, sl, rn_hp S M) (some (.int (rn_bi R)), N, sl, rn_hp S M) := by
  have qm := rn_m87
  unfold f87 at h
  refine rn_eg qm 3 (s2 := (3, [(0, .ref 318), (1, .int a1)], [.int a1, .ref 324], N, sl, rn_hp S M)) rfl ?_
  have c1 : ¬ (rn_ob a1 101) := fun c => by rw [if_pos c] at h; cases h
  rw [if_neg c1] at h
  refine rn_e1 qm (s2 := (4, [(0, .ref 318), (1, .int a1)], [.int (rA M 324 (Int32.toNatClampNeg a1))], N, sl, rn_hp S M)) (rn_g_iald (n := 101) rfl rfl (ar_m10 rfl rfl (Nat.le_of_ble_eq_true rfl)) c1) ?_
  refine rn_eg qm 3 (s2 := ((if (rA M 324 (Int32.toNatClampNeg a1)) < 0 then 27 else 7), [(2, .int (rA M 324 (Int32.toNatClampNeg a1))), (0, .ref 318), (1, .int a1)], [], N, sl, rn_hp S M)) rfl ?_
  refine rn_ite (fun c2 => ?_) (fun c2 => ?_)
  · rw [if_pos c2] at h
    refine rn_eg qm 2 (s2 := (30, [], [.int (1 : Int32)], N, sl, rn_hp S M)) rfl ?_
    cases h
    exact rn_er qm rfl rfl rn_rt1
  · rw [if_neg c2] at h
    refine rn_eg qm 3 (s2 := (10, [(2, .int (rA M 324 (Int32.toNatClampNeg a1))), (0, .ref 318), (1, .int a1)], [.int (rA M 324 (Int32.toNatClampNeg a1)), .ref 347], N, sl, rn_hp S M)) rfl ?_
    have c3 : ¬ (rn_ob (rA M 324 (Int32.toNatClampNeg a1)) 101) := fun c => by rw [if_pos c] at h; cases h
    rw [if_neg c3] at h
    refine rn_e1 qm (s2 := (11, [(2, .int (rA M 324 (Int32.toNatClampNeg a1))), (0, .ref 318), (1, .int a1)], [.int (rA M 347 (Int32.toNatClampNeg (rA M 324 (Int32.toNatClampNeg a1))))], N, sl, rn_hp S M)) (rn_g_bald (n := 101) rfl rfl (ar_m12 rfl rfl (Nat.le_of_ble_eq_true rfl)) c3) ?_
    refine rn_eg qm 1 (s2 := ((if (rA M 347 (Int32.toNatClampNeg (rA M 324 (Int32.toNatClampNeg a1)))) = 0 then 29 else 12), [(2, .int (rA M 324 (Int32.toNatClampNeg a1))), (0, .ref 318), (1, .int a1)], [], N, sl, rn_hp S M)) rfl ?_
    refine rn_ite (fun c4 => ?_) (fun c4 => ?_)
    · rw [if_pos c4] at h
      refine rn_eg qm 1 (s2 := (30, [], [.int (0 : Int32)], N, sl, rn_hp S M)) rfl ?_
      cases h
      exact rn_er qm rfl rfl rn_rt0
    · rw [if_neg c4] at h
      refine rn_eg qm 3 (s2 := (15, [(2, .int (rA M 324 (Int32.toNatClampNeg a1))), (0, .ref 318), (1, .int a1)], [.int (rA M 324 (Int32.toNatClampNeg a1)), .ref 322], N, sl, rn_hp S M)) rfl ?_
      refine rn_e1 qm (s2 := (16, [(2, .int (rA M 324 (Int32.toNatClampNeg a1))), (0, .ref 318), (1, .int a1)], [.int (rA M 322 (Int32.toNatClampNeg (rA M 324 (Int32.toNatClampNeg a1))))], N, sl, rn_hp S M)) (rn_g_iald (n := 101) rfl rfl (ar_m10 rfl rfl (Nat.le_of_ble_eq_true rfl)) c3) ?_
      refine rn_eg qm 2 (s2 := ((if (rA M 322 (Int32.toNatClampNeg (rA M 324 (Int32.toNatClampNeg a1)))) = (6 : Int32) then 18 else 27), [(2, .int (rA M 324 (Int32.toNatClampNeg a1))), (0, .ref 318), (1, .int a1)], [], N, sl, rn_hp S M)) rfl ?_
      refine rn_ite (fun c5 => ?_) (fun c5 => ?_)
      · rw [if_pos c5] at h
        refine rn_eg qm 3 (s2 := (21, [(2, .int (rA M 324 (Int32.toNatClampNeg a1))), (0, .ref 318), (1, .int a1)], [.int (rA M 324 (Int32.toNatClampNeg a1)), .ref 348], N, sl, rn_hp S M)) rfl ?_
        refine rn_e1 qm (s2 := (22, [(2, .int (rA M 324 (Int32.toNatClampNeg a1))), (0, .ref 318), (1, .int a1)], [.int (rA M 348 (Int32.toNatClampNeg (rA M 324 (Int32.toNatClampNeg a1))))], N, sl, rn_hp S M)) (rn_g_iald (n := 101) rfl rfl (ar_m10 rfl rfl (Nat.le_of_ble_eq_true rfl)) c3) ?_
        refine rn_eg qm 3 (s2 := (25, [(2, .int (rA M 324 (Int32.toNatClampNeg a1))), (0, .ref 318), (1, .int a1)], [.int a1, .ref 325, .int (rA M 348 (Int32.toNatClampNeg (rA M 324 (Int32.toNatClampNeg a1))))], N, sl, rn_hp S M)) rfl ?_
        refine rn_e1 qm (s2 := (26, [(2, .int (rA M 324 (Int32.toNatClampNeg a1))), (0, .ref 318), (1, .int a1)], [.int (rA M 325 (Int32.toNatClampNeg a1)), .int (rA M 348 (Int32.toNatClampNeg (rA M 324 (Int32.toNatClampNeg a1))))], N, sl, rn_hp S M)) (rn_g_iald (n := 101) rfl rfl (ar_m10 rfl rfl (Nat.le_of_ble_eq_true rfl)) c1) ?_
        refine rn_eg qm 1 (s2 := ((if (rA M 348 (Int32.toNatClampNeg (rA M 324 (Int32.toNatClampNeg a1)))) = (rA M 325 (Int32.toNatClampNeg a1)) then 27 else 29), [(2, .int (rA M 324 (Int32.toNatClampNeg a1))), (0, .ref 318), (1, .int a1)], [], N, sl, rn_hp S M)) rfl ?_
        refine rn_ite (fun c6 => ?_) (fun c6 => ?_)
        · rw [if_pos c6] at h
          refine rn_eg qm 2 (s2 := (30, [], [.int (1 : Int32)], N, sl, rn_hp S M)) rfl ?_
          cases h
          exact rn_er qm rfl rfl rn_rt1
        · rw [if_neg c6] at h
          refine rn_eg qm 1 (s2 := (30, [], [.int (0 : Int32)], N, sl, rn_hp S M)) rfl ?_
          cases h
          exact rn_er qm rfl rfl rn_rt0
      · rw [if_neg c5] at h
        refine rn_eg qm 2 (s2 := (30, [], [.int (1 : Int32)], N, sl, rn_hp S M)) rfl ?_
        cases h
        exact rn_er qm rfl rfl rn_rt1
/-! 88: RecordNichesModel.hasNumber(I)Z -/
def f88 (M : rn_T) (a1 : Int32) : Option Bool :=
  if rn_ob a1 101 then none else
    if (rA M 322 (Int32.toNatClampNeg a1)) = 0 then
      some false
    else
      if (rA M 322 (Int32.toNatClampNeg a1)) = (5 : Int32) then
        some false
      else
        some true
set_option maxHeartbeats 4000000 in
theorem E88 {X : rn_X} {N sl : Nat} {S M : rn_T} {a1 : Int32} {R : (Bool)} (h : f88 M a1 = some R) : rn_rv X 88 (0, [(0, .ref 318), (1, .int a1)], [], N, sl, rn_hp S M) (some (.int (rn_bi R)), N, sl, rn_hp S M) := by
  have qm := rn_m88
  unfold f88 at h
  refine rn_eg qm 3 (s2 := (3, [(0, .ref 318), (1, .int a1)], [.int a1, .ref 322], N, sl, rn_hp S M)) rfl ?_
  have c1 : ¬ (rn_ob a1 101) := fun c => by rw [if_pos c] at h; cases h
  rw [if_neg c1] at h
  refine rn_e1 qm (s2 := (4, [(0, .ref 318), (1, .int a1)], [.int (rA M 322 (Int32.toNatClampNeg a1))], N, sl, rn_hp S M)) (rn_g_iald (n := 101) rfl rfl (ar_m10 rfl rfl (Nat.le_of_ble_eq_true rfl)) c1) ?_
  refine rn_eg qm 1 (s2 := ((if (rA M 322 (Int32.toNatClampNeg a1)) = 0 then 13 else 5), [(0, .ref 318), (1, .int a1)], [], N, sl, rn_hp S M)) rfl ?_
  refine rn_ite (fun c2 => ?_) (fun c2 => ?_)
  · rw [if_pos c2] at h
    refine rn_eg qm 1 (s2 := (14, [], [.int (0 : Int32)], N, sl, rn_hp S M)) rfl ?_
    cases h
    exact rn_er qm rfl rfl rn_rt0
  · rw [if_neg c2] at h
    refine rn_eg qm 3 (s2 := (8, [(0, .ref 318), (1, .int a1)], [.int a1, .ref 322], N, sl, rn_hp S M)) rfl ?_
    refine rn_e1 qm (s2 := (9, [(0, .ref 318), (1, .int a1)], [.int (rA M 322 (Int32.toNatClampNeg a1))], N, sl, rn_hp S M)) (rn_g_iald (n := 101) rfl rfl (ar_m10 rfl rfl (Nat.le_of_ble_eq_true rfl)) c1) ?_
    refine rn_eg qm 2 (s2 := ((if (rA M 322 (Int32.toNatClampNeg a1)) = (5 : Int32) then 13 else 11), [(0, .ref 318), (1, .int a1)], [], N, sl, rn_hp S M)) rfl ?_
    refine rn_ite (fun c3 => ?_) (fun c3 => ?_)
    · rw [if_pos c3] at h
      refine rn_eg qm 1 (s2 := (14, [], [.int (0 : Int32)], N, sl, rn_hp S M)) rfl ?_
      cases h
      exact rn_er qm rfl rfl rn_rt0
    · rw [if_neg c3] at h
      refine rn_eg qm 2 (s2 := (14, [(0, .ref 318), (1, .int a1)], [.int (1 : Int32)], N, sl, rn_hp S M)) rfl ?_
      cases h
      exact rn_er qm rfl rfl rn_rt1
/-! 89: RecordNichesModel.isNumber(IJ)Z -/
def f89 (M : rn_T) (a1 : Int32) (a2 : Int64) : Option Bool :=
  if rn_ob a1 101 then none else
    if (rA M 322 (Int32.toNatClampNeg a1)) = (1 : Int32) then
      if 0 ≤ (lg_cmp a2 ((1 : Int64) <<< (((8 : Int32) * (rA M 323 (Int32.toNatClampNeg a1))).toInt64 &&& 63))) then
        some false
      else
        some true
    else
      if (rA M 322 (Int32.toNatClampNeg a1)) = (2 : Int32) then
        if 0 ≤ (lg_cmp a2 (2 : Int64)) then
          some false
        else
          some true
      else
        if (rA M 322 (Int32.toNatClampNeg a1)) = (3 : Int32) then
          if 0 ≤ (lg_cmp a2 (Int32.toInt64 (rA M 323 (Int32.toNatClampNeg a1)))) then
            some false
          else
            some true
        else
          if (rA M 322 (Int32.toNatClampNeg a1)) = (4 : Int32) then
            if (lg_cmp a2 (0 : Int64)) ≤ 0 then
              some false
            else
              some true
          else
            if 0 ≤ (lg_cmp a2 (Int32.toInt64 (rA M 326 (Int32.toNatClampNeg a1)))) then
              some false
            else
              some true
set_option maxHeartbeats 4000000 in
theorem E89 {X : rn_X} {N sl : Nat} {S M : rn_T} {a1 : Int32} {a2 : Int64} {R : (Bool)} (h : f89 M a1 a2 = some R) : rn_rv X 89 (0, [(0, .ref 318), (1, .int a1), (2, .long a2)], [], N, sl, rn_hp S M) (some (.int (rn_bi R)), N, sl, rn_hp S M) := by
  have qm := rn_m89
  unfold f89 at h
  refine rn_eg qm 3 (s2 := (3, [(0, .ref 318), (1, .int a1), (2, .long a2)], [.int a1, .ref 322], N, sl, rn_hp S M)) rfl ?_
  have c1 : ¬ (rn_ob a1 101) := fun c => by rw [if_pos c] at h; cases h
  rw [if_neg c1] at h
  refine rn_e1 qm (s2 := (4, [(0, .ref 318), (1, .int a1), (2, .long a2)], [.int (rA M 322 (Int32.toNatClampNeg a1))], N, sl, rn_hp S M)) (rn_g_iald (n := 101) rfl rfl (ar_m10 rfl rfl (Nat.le_of_ble_eq_true rfl)) c1) ?_
  refine rn_eg qm 1 (s2 := ((if (rA M 322 (Int32.toNatClampNeg a1)) = (1 : Int32) then 5 else (if (rA M 322 (Int32.toNatClampNeg a1)) = (2 : Int32) then 20 else (if (rA M 322 (Int32.toNatClampNeg a1)) = (3 : Int32) then 28 else (if (rA M 322 (Int32.toNatClampNeg a1)) = (4 : Int32) then 40 else 48)))), [(0, .ref 318), (1, .int a1), (2, .long a2)], [], N, sl, rn_hp S M)) rfl ?_
  refine rn_ite (fun c2 => ?_) (fun c2 => ?_)
  · rw [if_pos c2] at h
    refine rn_eg qm 6 (s2 := (11, [(0, .ref 318), (1, .int a1), (2, .long a2)], [.int a1, .ref 323, .int (8 : Int32), .long (1 : Int64), .long a2], N, sl, rn_hp S M)) rfl ?_
    refine rn_e1 qm (s2 := (12, [(0, .ref 318), (1, .int a1), (2, .long a2)], [.int (rA M 323 (Int32.toNatClampNeg a1)), .int (8 : Int32), .long (1 : Int64), .long a2], N, sl, rn_hp S M)) (rn_g_iald (n := 101) rfl rfl (ar_m10 rfl rfl (Nat.le_of_ble_eq_true rfl)) c1) ?_
    refine rn_eg qm 4 (s2 := ((if 0 ≤ (lg_cmp a2 ((1 : Int64) <<< (((8 : Int32) * (rA M 323 (Int32.toNatClampNeg a1))).toInt64 &&& 63))) then 18 else 16), [(0, .ref 318), (1, .int a1), (2, .long a2)], [], N, sl, rn_hp S M)) rfl ?_
    refine rn_ite (fun c3 => ?_) (fun c3 => ?_)
    · rw [if_pos c3] at h
      refine rn_eg qm 1 (s2 := (19, [(0, .ref 318), (1, .int a1), (2, .long a2)], [.int (0 : Int32)], N, sl, rn_hp S M)) rfl ?_
      cases h
      exact rn_er qm rfl rfl rn_rt0
    · rw [if_neg c3] at h
      refine rn_eg qm 2 (s2 := (19, [(0, .ref 318), (1, .int a1), (2, .long a2)], [.int (1 : Int32)], N, sl, rn_hp S M)) rfl ?_
      cases h
      exact rn_er qm rfl rfl rn_rt1
  · rw [if_neg c2] at h
    refine rn_ite (fun c4 => ?_) (fun c4 => ?_)
    · rw [if_pos c4] at h
      refine rn_eg qm 4 (s2 := ((if 0 ≤ (lg_cmp a2 (2 : Int64)) then 26 else 24), [(0, .ref 318), (1, .int a1), (2, .long a2)], [], N, sl, rn_hp S M)) rfl ?_
      refine rn_ite (fun c5 => ?_) (fun c5 => ?_)
      · rw [if_pos c5] at h
        refine rn_eg qm 1 (s2 := (27, [(0, .ref 318), (1, .int a1), (2, .long a2)], [.int (0 : Int32)], N, sl, rn_hp S M)) rfl ?_
        cases h
        exact rn_er qm rfl rfl rn_rt0
      · rw [if_neg c5] at h
        refine rn_eg qm 2 (s2 := (27, [(0, .ref 318), (1, .int a1), (2, .long a2)], [.int (1 : Int32)], N, sl, rn_hp S M)) rfl ?_
        cases h
        exact rn_er qm rfl rfl rn_rt1
    · rw [if_neg c4] at h
      refine rn_ite (fun c6 => ?_) (fun c6 => ?_)
      · rw [if_pos c6] at h
        refine rn_eg qm 4 (s2 := (32, [(0, .ref 318), (1, .int a1), (2, .long a2)], [.int a1, .ref 323, .long a2], N, sl, rn_hp S M)) rfl ?_
        refine rn_e1 qm (s2 := (33, [(0, .ref 318), (1, .int a1), (2, .long a2)], [.int (rA M 323 (Int32.toNatClampNeg a1)), .long a2], N, sl, rn_hp S M)) (rn_g_iald (n := 101) rfl rfl (ar_m10 rfl rfl (Nat.le_of_ble_eq_true rfl)) c1) ?_
        refine rn_eg qm 3 (s2 := ((if 0 ≤ (lg_cmp a2 (Int32.toInt64 (rA M 323 (Int32.toNatClampNeg a1)))) then 38 else 36), [(0, .ref 318), (1, .int a1), (2, .long a2)], [], N, sl, rn_hp S M)) rfl ?_
        refine rn_ite (fun c7 => ?_) (fun c7 => ?_)
        · rw [if_pos c7] at h
          refine rn_eg qm 1 (s2 := (39, [(0, .ref 318), (1, .int a1), (2, .long a2)], [.int (0 : Int32)], N, sl, rn_hp S M)) rfl ?_
          cases h
          exact rn_er qm rfl rfl rn_rt0
        · rw [if_neg c7] at h
          refine rn_eg qm 2 (s2 := (39, [(0, .ref 318), (1, .int a1), (2, .long a2)], [.int (1 : Int32)], N, sl, rn_hp S M)) rfl ?_
          cases h
          exact rn_er qm rfl rfl rn_rt1
      · rw [if_neg c6] at h
        refine rn_ite (fun c8 => ?_) (fun c8 => ?_)
        · rw [if_pos c8] at h
          refine rn_eg qm 4 (s2 := ((if (lg_cmp a2 (0 : Int64)) ≤ 0 then 46 else 44), [(0, .ref 318), (1, .int a1), (2, .long a2)], [], N, sl, rn_hp S M)) rfl ?_
          refine rn_ite (fun c9 => ?_) (fun c9 => ?_)
          · rw [if_pos c9] at h
            refine rn_eg qm 1 (s2 := (47, [(0, .ref 318), (1, .int a1), (2, .long a2)], [.int (0 : Int32)], N, sl, rn_hp S M)) rfl ?_
            cases h
            exact rn_er qm rfl rfl rn_rt0
          · rw [if_neg c9] at h
            refine rn_eg qm 2 (s2 := (47, [(0, .ref 318), (1, .int a1), (2, .long a2)], [.int (1 : Int32)], N, sl, rn_hp S M)) rfl ?_
            cases h
            exact rn_er qm rfl rfl rn_rt1
        · rw [if_neg c8] at h
          refine rn_eg qm 4 (s2 := (52, [(0, .ref 318), (1, .int a1), (2, .long a2)], [.int a1, .ref 326, .long a2], N, sl, rn_hp S M)) rfl ?_
          refine rn_e1 qm (s2 := (53, [(0, .ref 318), (1, .int a1), (2, .long a2)], [.int (rA M 326 (Int32.toNatClampNeg a1)), .long a2], N, sl, rn_hp S M)) (rn_g_iald (n := 101) rfl rfl (ar_m10 rfl rfl (Nat.le_of_ble_eq_true rfl)) c1) ?_
          refine rn_eg qm 3 (s2 := ((if 0 ≤ (lg_cmp a2 (Int32.toInt64 (rA M 326 (Int32.toNatClampNeg a1)))) then 58 else 56), [(0, .ref 318), (1, .int a1), (2, .long a2)], [], N, sl, rn_hp S M)) rfl ?_
          refine rn_ite (fun c10 => ?_) (fun c10 => ?_)
          · rw [if_pos c10] at h
            refine rn_eg qm 1 (s2 := (59, [(0, .ref 318), (1, .int a1), (2, .long a2)], [.int (0 : Int32)], N, sl, rn_hp S M)) rfl ?_
            cases h
            exact rn_er qm rfl rfl rn_rt0
          · rw [if_neg c10] at h
            refine rn_eg qm 2 (s2 := (59, [(0, .ref 318), (1, .int a1), (2, .long a2)], [.int (1 : Int32)], N, sl, rn_hp S M)) rfl ?_
            cases h
            exact rn_er qm rfl rfl rn_rt1
/-! 90: RecordNichesModel.isValue()Z -/
def f90_J59_6 (M : rn_T) (u1 : Int32) (u2 : Int32) (u3 : Int32) (t1 : Int32) (t2 : Int64) (rc : (rn_T → Int32 → Int32 → Int32 → Option (Bool × rn_T))) (k : (rn_T → Int32 → Int32 → Option (Bool × rn_T))) : Option (Bool × rn_T) :=
  if rn_ob t1 101 then none else
    if rn_ob u3 101 then none else
      rc (wA (wL M 349 (Int32.toNatClampNeg t1) t2) 348 (Int32.toNatClampNeg u3) (Int64.toInt32 (rL (wL M 349 (Int32.toNatClampNeg t1) t2) 349 (Int32.toNatClampNeg u3)))) (u1 + (1 : Int32)) u2 (u3 + (1 : Int32))
set_option maxHeartbeats 4000000 in
theorem E90_J59_6 {X : rn_X} {N sl : Nat} {S : rn_T} {M : rn_T} {u1 : Int32} {u2 : Int32} {u3 : Int32} {t1 : Int32} {t2 : Int64} {R : (Bool × rn_T)} {rc : (rn_T → Int32 → Int32 → Int32 → Option (Bool × rn_T))} (hrc : ∀ (M : rn_T) (v1 : Int32) (v2 : Int32) (v3 : Int32), rc M v1 v2 v3 = some R → rn_rv X 90 (6, [(0, .ref 318), (1, .int v1), (2, .int v2), (3, .int v3)], [], N, sl, rn_hp S M) (some (.int (rn_bi R.1)), N, sl, rn_hp S R.2)) {k : (rn_T → Int32 → Int32 → Option (Bool × rn_T))} (hk : ∀ (M : rn_T) (w_1 : Int32) (w_2 : Int32), k M w_1 w_2 = some R → rn_rv X 90 (72, [(0, .ref 318), (1, .int w_1), (2, .int w_2)], [], N, sl, rn_hp S M) (some (.int (rn_bi R.1)), N, sl, rn_hp S R.2)) (h : f90_J59_6 M u1 u2 u3 t1 t2 rc k = some R) : rn_rv X 90 (59, [(0, .ref 318), (1, .int u1), (2, .int u2), (3, .int u3)], [.long t2, .int t1, .ref 349], N, sl, rn_hp S M) (some (.int (rn_bi R.1)), N, sl, rn_hp S R.2) := by
  have qm := rn_m90
  unfold f90_J59_6 at h
  have c11 : ¬ (rn_ob t1 101) := fun c => by rw [if_pos c] at h; cases h
  rw [if_neg c11] at h
  refine rn_e1 qm (s2 := (60, [(0, .ref 318), (1, .int u1), (2, .int u2), (3, .int u3)], [], N, sl, rn_hp S (wL M 349 (Int32.toNatClampNeg t1) t2))) (rn_g_last (n := 101) rfl rfl (ar_m11 rfl rfl (Nat.le_of_ble_eq_true rfl)) c11 (aw_m11 rfl rfl (Nat.le_of_ble_eq_true rfl))) ?_
  refine rn_eg qm 6 (s2 := (66, [(0, .ref 318), (1, .int u1), (2, .int u2), (3, .int u3)], [.int u3, .ref 349, .int u3, .ref 348], N, sl, rn_hp S (wL M 349 (Int32.toNatClampNeg t1) t2))) rfl ?_
  have c12 : ¬ (rn_ob u3 101) := fun c => by rw [if_pos c] at h; cases h
  rw [if_neg c12] at h
  refine rn_e1 qm (s2 := (67, [(0, .ref 318), (1, .int u1), (2, .int u2), (3, .int u3)], [.long (rL (wL M 349 (Int32.toNatClampNeg t1) t2) 349 (Int32.toNatClampNeg u3)), .int u3, .ref 348], N, sl, rn_hp S (wL M 349 (Int32.toNatClampNeg t1) t2))) (rn_g_lald (n := 101) rfl rfl (ar_m11 rfl rfl (Nat.le_of_ble_eq_true rfl)) c12) ?_
  refine rn_eg qm 1 (s2 := (68, [(0, .ref 318), (1, .int u1), (2, .int u2), (3, .int u3)], [.int (Int64.toInt32 (rL (wL M 349 (Int32.toNatClampNeg t1) t2) 349 (Int32.toNatClampNeg u3))), .int u3, .ref 348], N, sl, rn_hp S (wL M 349 (Int32.toNatClampNeg t1) t2))) rfl ?_
  refine rn_e1 qm (s2 := (69, [(0, .ref 318), (1, .int u1), (2, .int u2), (3, .int u3)], [], N, sl, rn_hp S (wA (wL M 349 (Int32.toNatClampNeg t1) t2) 348 (Int32.toNatClampNeg u3) (Int64.toInt32 (rL (wL M 349 (Int32.toNatClampNeg t1) t2) 349 (Int32.toNatClampNeg u3)))))) (rn_g_iast (n := 101) rfl rfl (ar_m10 rfl rfl (Nat.le_of_ble_eq_true rfl)) c12 (aw_m10 rfl rfl (Nat.le_of_ble_eq_true rfl))) ?_
  refine rn_eg qm 3 (s2 := (6, [(3, .int (u3 + (1 : Int32))), (0, .ref 318), (1, .int (u1 + (1 : Int32))), (2, .int u2)], [], N, sl, rn_hp S (wA (wL M 349 (Int32.toNatClampNeg t1) t2) 348 (Int32.toNatClampNeg u3) (Int64.toInt32 (rL (wL M 349 (Int32.toNatClampNeg t1) t2) 349 (Int32.toNatClampNeg u3)))))) rfl ?_
  refine rn_kq qm (s2 := (6, [(0, .ref 318), (1, .int (u1 + (1 : Int32))), (2, .int u2), (3, .int (u3 + (1 : Int32)))], [], N, sl, rn_hp S (wA (wL M 349 (Int32.toNatClampNeg t1) t2) 348 (Int32.toNatClampNeg u3) (Int64.toInt32 (rL (wL M 349 (Int32.toNatClampNeg t1) t2) 349 (Int32.toNatClampNeg u3)))))) rfl rfl ?_
  exact hrc _ _ _ _ h
def f90_J47_6 (M : rn_T) (u1 : Int32) (u3 : Int32) (t0 : Int32) (rc : (rn_T → Int32 → Int32 → Int32 → Option (Bool × rn_T))) (k : (rn_T → Int32 → Int32 → Option (Bool × rn_T))) : Option (Bool × rn_T) :=
  if t0 = 0 then
    f90_J59_6 M u1 t0 u3 u3 (0 : Int64) rc k
  else
    if rn_ob u1 60 then none else
      f90_J59_6 M u1 t0 u3 u3 (rL M 345 (Int32.toNatClampNeg u1)) rc k
set_option maxHeartbeats 4000000 in
theorem E90_J47_6 {X : rn_X} {N sl : Nat} {S : rn_T} {M : rn_T} {u1 : Int32} {u3 : Int32} {t0 : Int32} {R : (Bool × rn_T)} {rc : (rn_T → Int32 → Int32 → Int32 → Option (Bool × rn_T))} (hrc : ∀ (M : rn_T) (v1 : Int32) (v2 : Int32) (v3 : Int32), rc M v1 v2 v3 = some R → rn_rv X 90 (6, [(0, .ref 318), (1, .int v1), (2, .int v2), (3, .int v3)], [], N, sl, rn_hp S M) (some (.int (rn_bi R.1)), N, sl, rn_hp S R.2)) {k : (rn_T → Int32 → Int32 → Option (Bool × rn_T))} (hk : ∀ (M : rn_T) (w_1 : Int32) (w_2 : Int32), k M w_1 w_2 = some R → rn_rv X 90 (72, [(0, .ref 318), (1, .int w_1), (2, .int w_2)], [], N, sl, rn_hp S M) (some (.int (rn_bi R.1)), N, sl, rn_hp S R.2)) (h : f90_J47_6 M u1 u3 t0 rc k = some R) : rn_rv X 90 (47, [(0, .ref 318), (1, .int u1), (3, .int u3)], [.int t0], N, sl, rn_hp S M) (some (.int (rn_bi R.1)), N, sl, rn_hp S R.2) := by
  have qm := rn_m90
  unfold f90_J47_6 at h
  refine rn_eg qm 6 (s2 := ((if t0 = 0 then 58 else 53), [(2, .int t0), (0, .ref 318), (1, .int u1), (3, .int u3)], [.int u3, .ref 349], N, sl, rn_hp S M)) rfl ?_
  refine rn_ite (fun c10 => ?_) (fun c10 => ?_)
  · rw [if_pos c10] at h
    refine rn_eg qm 1 (s2 := (59, [(2, .int t0), (0, .ref 318), (1, .int u1), (3, .int u3)], [.long (0 : Int64), .int u3, .ref 349], N, sl, rn_hp S M)) rfl ?_
    refine rn_kq qm (s2 := (59, [(0, .ref 318), (1, .int u1), (2, .int t0), (3, .int u3)], [.long (0 : Int64), .int u3, .ref 349], N, sl, rn_hp S M)) rfl rfl ?_
    exact E90_J59_6 hrc hk h
  · rw [if_neg c10] at h
    refine rn_eg qm 3 (s2 := (56, [(2, .int t0), (0, .ref 318), (1, .int u1), (3, .int u3)], [.int u1, .ref 345, .int u3, .ref 349], N, sl, rn_hp S M)) rfl ?_
    have c13 : ¬ (rn_ob u1 60) := fun c => by rw [if_pos c] at h; cases h
    rw [if_neg c13] at h
    refine rn_e1 qm (s2 := (57, [(2, .int t0), (0, .ref 318), (1, .int u1), (3, .int u3)], [.long (rL M 345 (Int32.toNatClampNeg u1)), .int u3, .ref 349], N, sl, rn_hp S M)) (rn_g_lald (n := 60) rfl rfl (ar_m11 rfl rfl (Nat.le_of_ble_eq_true rfl)) c13) ?_
    refine rn_eg qm 1 (s2 := (59, [(2, .int t0), (0, .ref 318), (1, .int u1), (3, .int u3)], [.long (rL M 345 (Int32.toNatClampNeg u1)), .int u3, .ref 349], N, sl, rn_hp S M)) rfl ?_
    refine rn_kq qm (s2 := (59, [(0, .ref 318), (1, .int u1), (2, .int t0), (3, .int u3)], [.long (rL M 345 (Int32.toNatClampNeg u1)), .int u3, .ref 349], N, sl, rn_hp S M)) rfl rfl ?_
    exact E90_J59_6 hrc hk h
def f90_J46_6 (M : rn_T) (u1 : Int32) (u3 : Int32) (rc : (rn_T → Int32 → Int32 → Int32 → Option (Bool × rn_T))) (k : (rn_T → Int32 → Int32 → Option (Bool × rn_T))) : Option (Bool × rn_T) :=
  f90_J47_6 M u1 u3 (0 : Int32) rc k
set_option maxHeartbeats 4000000 in
theorem E90_J46_6 {X : rn_X} {N sl : Nat} {S : rn_T} {M : rn_T} {u1 : Int32} {u3 : Int32} {R : (Bool × rn_T)} {rc : (rn_T → Int32 → Int32 → Int32 → Option (Bool × rn_T))} (hrc : ∀ (M : rn_T) (v1 : Int32) (v2 : Int32) (v3 : Int32), rc M v1 v2 v3 = some R → rn_rv X 90 (6, [(0, .ref 318), (1, .int v1), (2, .int v2), (3, .int v3)], [], N, sl, rn_hp S M) (some (.int (rn_bi R.1)), N, sl, rn_hp S R.2)) {k : (rn_T → Int32 → Int32 → Option (Bool × rn_T))} (hk : ∀ (M : rn_T) (w_1 : Int32) (w_2 : Int32), k M w_1 w_2 = some R → rn_rv X 90 (72, [(0, .ref 318), (1, .int w_1), (2, .int w_2)], [], N, sl, rn_hp S M) (some (.int (rn_bi R.1)), N, sl, rn_hp S R.2)) (h : f90_J46_6 M u1 u3 rc k = some R) : rn_rv X 90 (46, [(0, .ref 318), (1, .int u1), (3, .int u3)], [], N, sl, rn_hp S M) (some (.int (rn_bi R.1)), N, sl, rn_hp S R.2) := by
  have qm := rn_m90
  unfold f90_J46_6 at h
  refine rn_eg qm 1 (s2 := (47, [(0, .ref 318), (1, .int u1), (3, .int u3)], [.int (0 : Int32)], N, sl, rn_hp S M)) rfl ?_
  refine rn_kq qm (s2 := (47, [(0, .ref 318), (1, .int u1), (3, .int u3)], [.int (0 : Int32)], N, sl, rn_hp S M)) rfl rfl ?_
  exact E90_J47_6 hrc hk h
def f90_J22_6 (M : rn_T) (u1 : Int32) (u2 : Int32) (u3 : Int32) (t1 : Int32) (t2 : Int32) (rc : (rn_T → Int32 → Int32 → Int32 → Option (Bool × rn_T))) (k : (rn_T → Int32 → Int32 → Option (Bool × rn_T))) : Option (Bool × rn_T) :=
  if rn_ob t1 101 then none else
    if t2 = 0 ∨ t2 = 1 then
      if rn_ob u3 101 then none else
        if (rA (wA M 347 (Int32.toNatClampNeg t1) t2) 347 (Int32.toNatClampNeg u3)) = 0 then
          rc (wA M 347 (Int32.toNatClampNeg t1) t2) u1 u2 (u3 + (1 : Int32))
        else
          Option.bind (f88 (wA M 347 (Int32.toNatClampNeg t1) t2) u3) fun p7 =>
            if p7 = true then
              if (rI (wA M 347 (Int32.toNatClampNeg t1) t2) 318 33) ≤ u1 then
                f90_J46_6 (wA M 347 (Int32.toNatClampNeg t1) t2) u1 u3 rc k
              else
                if rn_ob u1 60 then none else
                  Option.bind (f89 (wA M 347 (Int32.toNatClampNeg t1) t2) u3 (rL (wA M 347 (Int32.toNatClampNeg t1) t2) 345 (Int32.toNatClampNeg u1))) fun p15 =>
                    if p15 = true then
                      f90_J47_6 (wA M 347 (Int32.toNatClampNeg t1) t2) u1 u3 (1 : Int32) rc k
                    else
                      f90_J46_6 (wA M 347 (Int32.toNatClampNeg t1) t2) u1 u3 rc k
            else
              rc (wA M 347 (Int32.toNatClampNeg t1) t2) u1 u2 (u3 + (1 : Int32))
    else none
set_option maxHeartbeats 4000000 in
theorem E90_J22_6 {X : rn_X} {N sl : Nat} {S : rn_T} {M : rn_T} {u1 : Int32} {u2 : Int32} {u3 : Int32} {t1 : Int32} {t2 : Int32} {R : (Bool × rn_T)} {rc : (rn_T → Int32 → Int32 → Int32 → Option (Bool × rn_T))} (hrc : ∀ (M : rn_T) (v1 : Int32) (v2 : Int32) (v3 : Int32), rc M v1 v2 v3 = some R → rn_rv X 90 (6, [(0, .ref 318), (1, .int v1), (2, .int v2), (3, .int v3)], [], N, sl, rn_hp S M) (some (.int (rn_bi R.1)), N, sl, rn_hp S R.2)) {k : (rn_T → Int32 → Int32 → Option (Bool × rn_T))} (hk : ∀ (M : rn_T) (w_1 : Int32) (w_2 : Int32), k M w_1 w_2 = some R → rn_rv X 90 (72, [(0, .ref 318), (1, .int w_1), (2, .int w_2)], [], N, sl, rn_hp S M) (some (.int (rn_bi R.1)), N, sl, rn_hp S R.2)) (h : f90_J22_6 M u1 u2 u3 t1 t2 rc k = some R) : rn_rv X 90 (22, [(0, .ref 318), (1, .int u1), (2, .int u2), (3, .int u3)], [.int t2, .int t1, .ref 347], N, sl, rn_hp S M) (some (.int (rn_bi R.1)), N, sl, rn_hp S R.2) := by
  have qm := rn_m90
  unfold f90_J22_6 at h
  have c3 : ¬ (rn_ob t1 101) := fun c => by rw [if_pos c] at h; cases h
  rw [if_neg c3] at h
  have z4 : t2 = 0 ∨ t2 = 1 := Decidable.byContradiction fun c => by rw [if_neg c] at h; cases h
  rw [if_pos z4] at h
  refine rn_e1 qm (s2 := (23, [(0, .ref 318), (1, .int u1), (2, .int u2), (3, .int u3)], [], N, sl, rn_hp S (wA M 347 (Int32.toNatClampNeg t1) t2))) (rn_g_bast (n := 101) rfl rfl (ar_m12 rfl rfl (Nat.le_of_ble_eq_true rfl)) c3 z4 (aw_m12 rfl rfl (Nat.le_of_ble_eq_true rfl))) ?_
  refine rn_eg qm 3 (s2 := (26, [(0, .ref 318), (1, .int u1), (2, .int u2), (3, .int u3)], [.int u3, .ref 347], N, sl, rn_hp S (wA M 347 (Int32.toNatClampNeg t1) t2))) rfl ?_
  have c5 : ¬ (rn_ob u3 101) := fun c => by rw [if_pos c] at h; cases h
  rw [if_neg c5] at h
  refine rn_e1 qm (s2 := (27, [(0, .ref 318), (1, .int u1), (2, .int u2), (3, .int u3)], [.int (rA (wA M 347 (Int32.toNatClampNeg t1) t2) 347 (Int32.toNatClampNeg u3))], N, sl, rn_hp S (wA M 347 (Int32.toNatClampNeg t1) t2))) (rn_g_bald (n := 101) rfl rfl (ar_m12 rfl rfl (Nat.le_of_ble_eq_true rfl)) c5) ?_
  refine rn_eg qm 1 (s2 := ((if (rA (wA M 347 (Int32.toNatClampNeg t1) t2) 347 (Int32.toNatClampNeg u3)) = 0 then 70 else 28), [(0, .ref 318), (1, .int u1), (2, .int u2), (3, .int u3)], [], N, sl, rn_hp S (wA M 347 (Int32.toNatClampNeg t1) t2))) rfl ?_
  refine rn_ite (fun c6 => ?_) (fun c6 => ?_)
  · rw [if_pos c6] at h
    refine rn_eg qm 2 (s2 := (6, [(3, .int (u3 + (1 : Int32))), (0, .ref 318), (1, .int u1), (2, .int u2)], [], N, sl, rn_hp S (wA M 347 (Int32.toNatClampNeg t1) t2))) rfl ?_
    refine rn_kq qm (s2 := (6, [(0, .ref 318), (1, .int u1), (2, .int u2), (3, .int (u3 + (1 : Int32)))], [], N, sl, rn_hp S (wA M 347 (Int32.toNatClampNeg t1) t2))) rfl rfl ?_
    exact hrc _ _ _ _ h
  · rw [if_neg c6] at h
    refine rn_eg qm 2 (s2 := (30, [(0, .ref 318), (1, .int u1), (2, .int u2), (3, .int u3)], [.int u3, .ref 318], N, sl, rn_hp S (wA M 347 (Int32.toNatClampNeg t1) t2))) rfl ?_
    obtain ⟨p7, hp7, h⟩ := Option.bind_eq_some_iff.mp h
    refine rn_ec qm rfl rfl rfl rfl rn_m88 rfl rfl rfl (fun _ => rn_rc_of (en_9 (q := 318) rfl)) (E88 hp7) ?_
    refine rn_eg qm 0 (s2 := (31, [(0, .ref 318), (1, .int u1), (2, .int u2), (3, .int u3)], [.int (rn_bi p7)], N, sl, rn_hp S (wA M 347 (Int32.toNatClampNeg t1) t2))) rfl ?_
    refine rn_eg qm 1 (s2 := ((if (rn_bi p7) = 0 then 70 else 32), [(0, .ref 318), (1, .int u1), (2, .int u2), (3, .int u3)], [], N, sl, rn_hp S (wA M 347 (Int32.toNatClampNeg t1) t2))) rfl ?_
    refine rn_iteb (fun c8 => ?_) (fun c8 => ?_)
    · rw [if_neg (rn_bf c8)] at h
      refine rn_eg qm 2 (s2 := (6, [(3, .int (u3 + (1 : Int32))), (0, .ref 318), (1, .int u1), (2, .int u2)], [], N, sl, rn_hp S (wA M 347 (Int32.toNatClampNeg t1) t2))) rfl ?_
      refine rn_kq qm (s2 := (6, [(0, .ref 318), (1, .int u1), (2, .int u2), (3, .int (u3 + (1 : Int32)))], [], N, sl, rn_hp S (wA M 347 (Int32.toNatClampNeg t1) t2))) rfl rfl ?_
      exact hrc _ _ _ _ h
    · rw [if_pos c8] at h
      refine rn_eg qm 4 (s2 := ((if (rI (wA M 347 (Int32.toNatClampNeg t1) t2) 318 33) ≤ u1 then 46 else 36), [(0, .ref 318), (1, .int u1), (2, .int u2), (3, .int u3)], [], N, sl, rn_hp S (wA M 347 (Int32.toNatClampNeg t1) t2))) rfl ?_
      refine rn_ite (fun c9 => ?_) (fun c9 => ?_)
      · rw [if_pos c9] at h
        refine rn_kq qm (s2 := (46, [(0, .ref 318), (1, .int u1), (3, .int u3)], [], N, sl, rn_hp S (wA M 347 (Int32.toNatClampNeg t1) t2))) rfl rfl ?_
        exact E90_J46_6 hrc hk h
      · rw [if_neg c9] at h
        refine rn_eg qm 5 (s2 := (41, [(0, .ref 318), (1, .int u1), (2, .int u2), (3, .int u3)], [.int u1, .ref 345, .int u3, .ref 318], N, sl, rn_hp S (wA M 347 (Int32.toNatClampNeg t1) t2))) rfl ?_
        have c14 : ¬ (rn_ob u1 60) := fun c => by rw [if_pos c] at h; cases h
        rw [if_neg c14] at h
        refine rn_e1 qm (s2 := (42, [(0, .ref 318), (1, .int u1), (2, .int u2), (3, .int u3)], [.long (rL (wA M 347 (Int32.toNatClampNeg t1) t2) 345 (Int32.toNatClampNeg u1)), .int u3, .ref 318], N, sl, rn_hp S (wA M 347 (Int32.toNatClampNeg t1) t2))) (rn_g_lald (n := 60) rfl rfl (ar_m11 rfl rfl (Nat.le_of_ble_eq_true rfl)) c14) ?_
        obtain ⟨p15, hp15, h⟩ := Option.bind_eq_some_iff.mp h
        refine rn_ec qm rfl rfl rfl rfl rn_m89 rfl rfl rfl (fun _ => rn_rc_of (en_9 (q := 318) rfl)) (E89 hp15) ?_
        refine rn_eg qm 0 (s2 := (43, [(0, .ref 318), (1, .int u1), (2, .int u2), (3, .int u3)], [.int (rn_bi p15)], N, sl, rn_hp S (wA M 347 (Int32.toNatClampNeg t1) t2))) rfl ?_
        refine rn_eg qm 1 (s2 := ((if (rn_bi p15) = 0 then 46 else 44), [(0, .ref 318), (1, .int u1), (2, .int u2), (3, .int u3)], [], N, sl, rn_hp S (wA M 347 (Int32.toNatClampNeg t1) t2))) rfl ?_
        refine rn_iteb (fun c16 => ?_) (fun c16 => ?_)
        · rw [if_neg (rn_bf c16)] at h
          refine rn_kq qm (s2 := (46, [(0, .ref 318), (1, .int u1), (3, .int u3)], [], N, sl, rn_hp S (wA M 347 (Int32.toNatClampNeg t1) t2))) rfl rfl ?_
          exact E90_J46_6 hrc hk h
        · rw [if_pos c16] at h
          refine rn_eg qm 2 (s2 := (47, [(0, .ref 318), (1, .int u1), (2, .int u2), (3, .int u3)], [.int (1 : Int32)], N, sl, rn_hp S (wA M 347 (Int32.toNatClampNeg t1) t2))) rfl ?_
          refine rn_kq qm (s2 := (47, [(0, .ref 318), (1, .int u1), (3, .int u3)], [.int (1 : Int32)], N, sl, rn_hp S (wA M 347 (Int32.toNatClampNeg t1) t2))) rfl rfl ?_
          exact E90_J47_6 hrc hk h
def f90_J21_6 (M : rn_T) (u1 : Int32) (u2 : Int32) (u3 : Int32) (t1 : Int32) (rc : (rn_T → Int32 → Int32 → Int32 → Option (Bool × rn_T))) (k : (rn_T → Int32 → Int32 → Option (Bool × rn_T))) : Option (Bool × rn_T) :=
  f90_J22_6 M u1 u2 u3 t1 (0 : Int32) rc k
set_option maxHeartbeats 4000000 in
theorem E90_J21_6 {X : rn_X} {N sl : Nat} {S : rn_T} {M : rn_T} {u1 : Int32} {u2 : Int32} {u3 : Int32} {t1 : Int32} {R : (Bool × rn_T)} {rc : (rn_T → Int32 → Int32 → Int32 → Option (Bool × rn_T))} (hrc : ∀ (M : rn_T) (v1 : Int32) (v2 : Int32) (v3 : Int32), rc M v1 v2 v3 = some R → rn_rv X 90 (6, [(0, .ref 318), (1, .int v1), (2, .int v2), (3, .int v3)], [], N, sl, rn_hp S M) (some (.int (rn_bi R.1)), N, sl, rn_hp S R.2)) {k : (rn_T → Int32 → Int32 → Option (Bool × rn_T))} (hk : ∀ (M : rn_T) (w_1 : Int32) (w_2 : Int32), k M w_1 w_2 = some R → rn_rv X 90 (72, [(0, .ref 318), (1, .int w_1), (2, .int w_2)], [], N, sl, rn_hp S M) (some (.int (rn_bi R.1)), N, sl, rn_hp S R.2)) (h : f90_J21_6 M u1 u2 u3 t1 rc k = some R) : rn_rv X 90 (21, [(0, .ref 318), (1, .int u1), (2, .int u2), (3, .int u3)], [.int t1, .ref 347], N, sl, rn_hp S M) (some (.int (rn_bi R.1)), N, sl, rn_hp S R.2) := by
  have qm := rn_m90
  unfold f90_J21_6 at h
  refine rn_eg qm 1 (s2 := (22, [(0, .ref 318), (1, .int u1), (2, .int u2), (3, .int u3)], [.int (0 : Int32), .int t1, .ref 347], N, sl, rn_hp S M)) rfl ?_
  refine rn_kq qm (s2 := (22, [(0, .ref 318), (1, .int u1), (2, .int u2), (3, .int u3)], [.int (0 : Int32), .int t1, .ref 347], N, sl, rn_hp S M)) rfl rfl ?_
  exact E90_J22_6 hrc hk h
def f90_L6 : Nat → rn_T → Int32 → Int32 → Int32 → (rn_T → Int32 → Int32 → Option (Bool × rn_T)) → Option (Bool × rn_T)
  | 0, _, _, _, _, _ => none
  | fu + 1, M, v1, v2, v3, k =>
    if (rI M 318 10) ≤ v3 then
      k M v1 v2
    else
      if v2 = 0 then
        f90_J21_6 M v1 v2 v3 v3 (fun M v1 v2 v3 => f90_L6 fu M v1 v2 v3 k) k
      else
        Option.bind (f87 M v3) fun p17 =>
          if p17 = true then
            f90_J22_6 M v1 v2 v3 v3 (1 : Int32) (fun M v1 v2 v3 => f90_L6 fu M v1 v2 v3 k) k
          else
            f90_J21_6 M v1 v2 v3 v3 (fun M v1 v2 v3 => f90_L6 fu M v1 v2 v3 k) k
set_option maxHeartbeats 4000000 in
theorem E90_L6 {X : rn_X} {N sl : Nat} {S : rn_T} : ∀ (fu : Nat) (M : rn_T) (v1 : Int32) (v2 : Int32) (v3 : Int32) (k : (rn_T → Int32 → Int32 → Option (Bool × rn_T))) (R : (Bool × rn_T)), (∀ (M : rn_T) (w_1 : Int32) (w_2 : Int32), k M w_1 w_2 = some R → rn_rv X 90 (72, [(0, .ref 318), (1, .int w_1), (2, .int w_2)], [], N, sl, rn_hp S M) (some (.int (rn_bi R.1)), N, sl, rn_hp S R.2)) → f90_L6 fu M v1 v2 v3 k = some R → rn_rv X 90 (6, [(0, .ref 318), (1, .int v1), (2, .int v2), (3, .int v3)], [], N, sl, rn_hp S M) (some (.int (rn_bi R.1)), N, sl, rn_hp S R.2) := by
  have qm := rn_m90
  intro fu
  induction fu with
  | zero => intro M v1 v2 v3 k R hk h; cases h
  | succ fu ih =>
    intro M v1 v2 v3 k R hk h
    unfold f90_L6 at h
    refine rn_eg qm 4 (s2 := ((if (rI M 318 10) ≤ v3 then 72 else 10), [(0, .ref 318), (1, .int v1), (2, .int v2), (3, .int v3)], [], N, sl, rn_hp S M)) rfl ?_
    refine rn_ite (fun c1 => ?_) (fun c1 => ?_)
    · rw [if_pos c1] at h
      refine rn_kq qm (s2 := (72, [(0, .ref 318), (1, .int v1), (2, .int v2)], [], N, sl, rn_hp S M)) rfl rfl ?_
      exact hk _ _ _ h
    · rw [if_neg c1] at h
      refine rn_eg qm 5 (s2 := ((if v2 = 0 then 21 else 15), [(0, .ref 318), (1, .int v1), (2, .int v2), (3, .int v3)], [.int v3, .ref 347], N, sl, rn_hp S M)) rfl ?_
      refine rn_ite (fun c2 => ?_) (fun c2 => ?_)
      · rw [if_pos c2] at h
        refine rn_kq qm (s2 := (21, [(0, .ref 318), (1, .int v1), (2, .int v2), (3, .int v3)], [.int v3, .ref 347], N, sl, rn_hp S M)) rfl rfl ?_
        exact E90_J21_6 (fun M v1 v2 v3 h => ih M v1 v2 v3 k R hk h) hk h
      · rw [if_neg c2] at h
        refine rn_eg qm 2 (s2 := (17, [(0, .ref 318), (1, .int v1), (2, .int v2), (3, .int v3)], [.int v3, .ref 318, .int v3, .ref 347], N, sl, rn_hp S M)) rfl ?_
        obtain ⟨p17, hp17, h⟩ := Option.bind_eq_some_iff.mp h
        refine rn_ec qm rfl rfl rfl rfl rn_m87 rfl rfl rfl (fun _ => rn_rc_of (en_9 (q := 318) rfl)) (E87 hp17) ?_
        refine rn_eg qm 0 (s2 := (18, [(0, .ref 318), (1, .int v1), (2, .int v2), (3, .int v3)], [.int (rn_bi p17), .int v3, .ref 347], N, sl, rn_hp S M)) rfl ?_
        refine rn_eg qm 1 (s2 := ((if (rn_bi p17) = 0 then 21 else 19), [(0, .ref 318), (1, .int v1), (2, .int v2), (3, .int v3)], [.int v3, .ref 347], N, sl, rn_hp S M)) rfl ?_
        refine rn_iteb (fun c18 => ?_) (fun c18 => ?_)
        · rw [if_neg (rn_bf c18)] at h
          refine rn_kq qm (s2 := (21, [(0, .ref 318), (1, .int v1), (2, .int v2), (3, .int v3)], [.int v3, .ref 347], N, sl, rn_hp S M)) rfl rfl ?_
          exact E90_J21_6 (fun M v1 v2 v3 h => ih M v1 v2 v3 k R hk h) hk h
        · rw [if_pos c18] at h
          refine rn_eg qm 2 (s2 := (22, [(0, .ref 318), (1, .int v1), (2, .int v2), (3, .int v3)], [.int (1 : Int32), .int v3, .ref 347], N, sl, rn_hp S M)) rfl ?_
          refine rn_kq qm (s2 := (22, [(0, .ref 318), (1, .int v1), (2, .int v2), (3, .int v3)], [.int (1 : Int32), .int v3, .ref 347], N, sl, rn_hp S M)) rfl rfl ?_
          exact E90_J22_6 (fun M v1 v2 v3 h => ih M v1 v2 v3 k R hk h) hk h
def f90 (M : rn_T) : Option (Bool × rn_T) :=
  f90_L6 rn_FU M (0 : Int32) (1 : Int32) (0 : Int32) (fun M19 w19_1 w19_2 =>
    if w19_2 = 0 then
      some (false, M19)
    else
      if w19_1 = (rI M19 318 33) then
        some (true, M19)
      else
        some (false, M19))
set_option maxHeartbeats 4000000 in
theorem E90 {X : rn_X} {N sl : Nat} {S M : rn_T} {R : (Bool × rn_T)} (h : f90 M = some R) : rn_rv X 90 (0, [(0, .ref 318)], [], N, sl, rn_hp S M) (some (.int (rn_bi R.1)), N, sl, rn_hp S R.2) := by
  have qm := rn_m90
  unfold f90 at h
  refine rn_eg qm 6 (s2 := (6, [(3, .int (0 : Int32)), (2, .int (1 : Int32)), (1, .int (0 : Int32)), (0, .ref 318)], [], N, sl, rn_hp S M)) rfl ?_
  refine rn_kq qm (s2 := (6, [(0, .ref 318), (1, .int (0 : Int32)), (2, .int (1 : Int32)), (3, .int (0 : Int32))], [], N, sl, rn_hp S M)) rfl rfl ?_
  refine E90_L6 rn_FU _ _ _ _ _ R ?_ h
  intro M19 w19_1 w19_2 h
  refine rn_eg qm 2 (s2 := ((if w19_2 = 0 then 80 else 74), [(0, .ref 318), (1, .int w19_1), (2, .int w19_2)], [], N, sl, rn_hp S M19)) rfl ?_
  refine rn_ite (fun c20 => ?_) (fun c20 => ?_)
  · rw [if_pos c20] at h
    refine rn_eg qm 1 (s2 := (81, [], [.int (0 : Int32)], N, sl, rn_hp S M19)) rfl ?_
    cases h
    exact rn_er qm rfl rfl rn_rt0
  · rw [if_neg c20] at h
    refine rn_eg qm 4 (s2 := ((if w19_1 = (rI M19 318 33) then 78 else 80), [(0, .ref 318), (1, .int w19_1), (2, .int w19_2)], [], N, sl, rn_hp S M19)) rfl ?_
    refine rn_ite (fun c21 => ?_) (fun c21 => ?_)
    · rw [if_pos c21] at h
      refine rn_eg qm 2 (s2 := (81, [(0, .ref 318), (1, .int w19_1), (2, .int w19_2)], [.int (1 : Int32)], N, sl, rn_hp S M19)) rfl ?_
      cases h
      exact rn_er qm rfl rfl rn_rt1
    · rw [if_neg c21] at h
      refine rn_eg qm 1 (s2 := (81, [], [.int (0 : Int32)], N, sl, rn_hp S M19)) rfl ?_
      cases h
      exact rn_er qm rfl rfl rn_rt0
/-! 91: RecordNichesModel.lay(IIJ)V -/
def f91_L2 (b1 : Int32) (b2 : Int32) (b3 : Int64) : Nat → rn_T → Int32 → (rn_T → Option (rn_T)) → Option (rn_T)
  | 0, _, _, _ => none
  | fu + 1, M, v5, k =>
    if b2 ≤ v5 then
      k M
    else
      if rn_ob (b1 + v5) 96 then none else
        f91_L2 b1 b2 b3 fu (wA M 346 (Int32.toNatClampNeg (b1 + v5)) (Int64.toInt32 ((b3 >>> (((8 : Int32) * v5).toInt64 &&& 63)) &&& (255 : Int64)))) (v5 + (1 : Int32)) k
set_option maxHeartbeats 4000000 in
theorem E91_L2 {X : rn_X} {N sl : Nat} {S : rn_T} {b1 : Int32} {b2 : Int32} {b3 : Int64} : ∀ (fu : Nat) (M : rn_T) (v5 : Int32) (k : (rn_T → Option (rn_T))) (R : (rn_T)), (∀ (M : rn_T), k M = some R → rn_rv X 91 (21, [], [], N, sl, rn_hp S M) (none, N, sl, rn_hp S R)) → f91_L2 b1 b2 b3 fu M v5 k = some R → rn_rv X 91 (2, [(0, .ref 318), (1, .int b1), (2, .int b2), (3, .long b3), (5, .int v5)], [], N, sl, rn_hp S M) (none, N, sl, rn_hp S R) := by
  have qm := rn_m91
  intro fu
  induction fu with
  | zero => intro M v5 k R hk h; cases h
  | succ fu ih =>
    intro M v5 k R hk h
    unfold f91_L2 at h
    refine rn_eg qm 3 (s2 := ((if b2 ≤ v5 then 21 else 5), [(0, .ref 318), (1, .int b1), (2, .int b2), (3, .long b3), (5, .int v5)], [], N, sl, rn_hp S M)) rfl ?_
    refine rn_ite (fun c1 => ?_) (fun c1 => ?_)
    · rw [if_pos c1] at h
      refine rn_kq qm (s2 := (21, [], [], N, sl, rn_hp S M)) rfl rfl ?_
      exact hk _ h
    · rw [if_neg c1] at h
      refine rn_eg qm 13 (s2 := (18, [(0, .ref 318), (1, .int b1), (2, .int b2), (3, .long b3), (5, .int v5)], [.int (Int64.toInt32 ((b3 >>> (((8 : Int32) * v5).toInt64 &&& 63)) &&& (255 : Int64))), .int (b1 + v5), .ref 346], N, sl, rn_hp S M)) rfl ?_
      have c2 : ¬ (rn_ob (b1 + v5) 96) := fun c => by rw [if_pos c] at h; cases h
      rw [if_neg c2] at h
      refine rn_e1 qm (s2 := (19, [(0, .ref 318), (1, .int b1), (2, .int b2), (3, .long b3), (5, .int v5)], [], N, sl, rn_hp S (wA M 346 (Int32.toNatClampNeg (b1 + v5)) (Int64.toInt32 ((b3 >>> (((8 : Int32) * v5).toInt64 &&& 63)) &&& (255 : Int64)))))) (rn_g_iast (n := 96) rfl rfl (ar_m10 rfl rfl (Nat.le_of_ble_eq_true rfl)) c2 (aw_m10 rfl rfl (Nat.le_of_ble_eq_true rfl))) ?_
      refine rn_eg qm 2 (s2 := (2, [(5, .int (v5 + (1 : Int32))), (0, .ref 318), (1, .int b1), (2, .int b2), (3, .long b3)], [], N, sl, rn_hp S (wA M 346 (Int32.toNatClampNeg (b1 + v5)) (Int64.toInt32 ((b3 >>> (((8 : Int32) * v5).toInt64 &&& 63)) &&& (255 : Int64)))))) rfl ?_
      refine rn_kq qm (s2 := (2, [(0, .ref 318), (1, .int b1), (2, .int b2), (3, .long b3), (5, .int (v5 + (1 : Int32)))], [], N, sl, rn_hp S (wA M 346 (Int32.toNatClampNeg (b1 + v5)) (Int64.toInt32 ((b3 >>> (((8 : Int32) * v5).toInt64 &&& 63)) &&& (255 : Int64)))))) rfl rfl ?_
      exact ih _ _ k R hk h
def f91 (M : rn_T) (a1 : Int32) (a2 : Int32) (a3 : Int64) : Option (rn_T) :=
  f91_L2 a1 a2 a3 rn_FU M (0 : Int32) (fun M3 =>
    some (M3))
set_option maxHeartbeats 4000000 in
theorem E91 {X : rn_X} {N sl : Nat} {S M : rn_T} {a1 : Int32} {a2 : Int32} {a3 : Int64} {R : (rn_T)} (h : f91 M a1 a2 a3 = some R) : rn_rv X 91 (0, [(0, .ref 318), (1, .int a1), (2, .int a2), (3, .long a3)], [], N, sl, rn_hp S M) (none, N, sl, rn_hp S R) := by
  have qm := rn_m91
  unfold f91 at h
  refine rn_eg qm 2 (s2 := (2, [(5, .int (0 : Int32)), (0, .ref 318), (1, .int a1), (2, .int a2), (3, .long a3)], [], N, sl, rn_hp S M)) rfl ?_
  refine rn_kq qm (s2 := (2, [(0, .ref 318), (1, .int a1), (2, .int a2), (3, .long a3), (5, .int (0 : Int32))], [], N, sl, rn_hp S M)) rfl rfl ?_
  refine E91_L2 rn_FU _ _ _ R ?_ h
  intro M3 h
  cases h
  exact rn_er qm rfl rfl rfl
/-! 92: RecordNichesModel.layValue(I)V -/
def f92_L2 (b1 : Int32) : Nat → rn_T → Int32 → (rn_T → Option (rn_T)) → Option (rn_T)
  | 0, _, _, _ => none
  | fu + 1, M, v2, k =>
    if (rA M 334 (Int32.toNatClampNeg (0 : Int32))) ≤ v2 then
      k M
    else
      if rn_ob (b1 + v2) 96 then none else
        f92_L2 b1 fu (wA M 346 (Int32.toNatClampNeg (b1 + v2)) (0 : Int32)) (v2 + (1 : Int32)) k
set_option maxHeartbeats 4000000 in
theorem E92_L2 {X : rn_X} {N sl : Nat} {S : rn_T} {b1 : Int32} : ∀ (fu : Nat) (M : rn_T) (v2 : Int32) (k : (rn_T → Option (rn_T))) (R : (rn_T)), (∀ (M : rn_T), k M = some R → rn_rv X 92 (17, [(0, .ref 318), (1, .int b1)], [], N, sl, rn_hp S M) (none, N, sl, rn_hp S R)) → f92_L2 b1 fu M v2 k = some R → rn_rv X 92 (2, [(0, .ref 318), (1, .int b1), (2, .int v2)], [], N, sl, rn_hp S M) (none, N, sl, rn_hp S R) := by
  have qm := rn_m92
  intro fu
  induction fu with
  | zero => intro M v2 k R hk h; cases h
  | succ fu ih =>
    intro M v2 k R hk h
    unfold f92_L2 at h
    refine rn_eg qm 4 (s2 := (6, [(0, .ref 318), (1, .int b1), (2, .int v2)], [.int (0 : Int32), .ref 334, .int v2], N, sl, rn_hp S M)) rfl ?_
    refine rn_e1 qm (s2 := (7, [(0, .ref 318), (1, .int b1), (2, .int v2)], [.int (rA M 334 (Int32.toNatClampNeg (0 : Int32))), .int v2], N, sl, rn_hp S M)) (rn_g_iald (n := 101) rfl rfl (ar_m10 rfl rfl (Nat.le_of_ble_eq_true rfl)) (by decide)) ?_
    refine rn_eg qm 1 (s2 := ((if (rA M 334 (Int32.toNatClampNeg (0 : Int32))) ≤ v2 then 17 else 8), [(0, .ref 318), (1, .int b1), (2, .int v2)], [], N, sl, rn_hp S M)) rfl ?_
    refine rn_ite (fun c1 => ?_) (fun c1 => ?_)
    · rw [if_pos c1] at h
      refine rn_kq qm (s2 := (17, [(0, .ref 318), (1, .int b1)], [], N, sl, rn_hp S M)) rfl rfl ?_
      exact hk _ h
    · rw [if_neg c1] at h
      refine rn_eg qm 6 (s2 := (14, [(0, .ref 318), (1, .int b1), (2, .int v2)], [.int (0 : Int32), .int (b1 + v2), .ref 346], N, sl, rn_hp S M)) rfl ?_
      have c2 : ¬ (rn_ob (b1 + v2) 96) := fun c => by rw [if_pos c] at h; cases h
      rw [if_neg c2] at h
      refine rn_e1 qm (s2 := (15, [(0, .ref 318), (1, .int b1), (2, .int v2)], [], N, sl, rn_hp S (wA M 346 (Int32.toNatClampNeg (b1 + v2)) (0 : Int32)))) (rn_g_iast (n := 96) rfl rfl (ar_m10 rfl rfl (Nat.le_of_ble_eq_true rfl)) c2 (aw_m10 rfl rfl (Nat.le_of_ble_eq_true rfl))) ?_
      refine rn_eg qm 2 (s2 := (2, [(2, .int (v2 + (1 : Int32))), (0, .ref 318), (1, .int b1)], [], N, sl, rn_hp S (wA M 346 (Int32.toNatClampNeg (b1 + v2)) (0 : Int32)))) rfl ?_
      refine rn_kq qm (s2 := (2, [(0, .ref 318), (1, .int b1), (2, .int (v2 + (1 : Int32)))], [], N, sl, rn_hp S (wA M 346 (Int32.toNatClampNeg (b1 + v2)) (0 : Int32)))) rfl rfl ?_
      exact ih _ _ k R hk h
def f92_J77_19 (M : rn_T) (u1 : Int32) (u2 : Int32) (u3 : Int32) (rc : (rn_T → Int32 → Option (rn_T))) (k : (rn_T → Option (rn_T))) : Option (rn_T) :=
  if rn_ob u2 101 then none else
    if (rA M 347 (Int32.toNatClampNeg u2)) = 0 then
      rc M (u2 + (1 : Int32))
    else
      if (rA M 322 (Int32.toNatClampNeg u2)) = (6 : Int32) then
        if (rA M 341 (Int32.toNatClampNeg u2)) = (1 : Int32) then
          if (rA M 348 (Int32.toNatClampNeg u2)) = (rA M 342 (Int32.toNatClampNeg u2)) then
            rc M (u2 + (1 : Int32))
          else
            Option.bind (f57 M u2 (rA M 342 (Int32.toNatClampNeg u2))) fun p15 =>
              if rn_ob p15 101 then none else
                Option.bind (f77 M u2 (rA M 348 (Int32.toNatClampNeg u2))) fun p17 =>
                  Option.bind (f91 M (u3 + (rA M 337 (Int32.toNatClampNeg p15))) (rA M 338 (Int32.toNatClampNeg p15)) (Int32.toInt64 p17)) fun p18 =>
                    rc p18 (u2 + (1 : Int32))
        else
          rc M (u2 + (1 : Int32))
      else
        rc M (u2 + (1 : Int32))
set_option maxHeartbeats 4000000 in
theorem E92_J77_19 {X : rn_X} {N sl : Nat} {S : rn_T} {M : rn_T} {u1 : Int32} {u2 : Int32} {u3 : Int32} {R : (rn_T)} {rc : (rn_T → Int32 → Option (rn_T))} (hrc : ∀ (M : rn_T) (v2 : Int32), rc M v2 = some R → rn_rv X 92 (19, [(0, .ref 318), (1, .int u1), (2, .int v2)], [], N, sl, rn_hp S M) (none, N, sl, rn_hp S R)) {k : (rn_T → Option (rn_T))} (hk : ∀ (M : rn_T), k M = some R → rn_rv X 92 (133, [], [], N, sl, rn_hp S M) (none, N, sl, rn_hp S R)) (h : f92_J77_19 M u1 u2 u3 rc k = some R) : rn_rv X 92 (77, [(0, .ref 318), (1, .int u1), (2, .int u2), (3, .int u3)], [], N, sl, rn_hp S M) (none, N, sl, rn_hp S R) := by
  have qm := rn_m92
  unfold f92_J77_19 at h
  refine rn_eg qm 3 (s2 := (80, [(0, .ref 318), (1, .int u1), (2, .int u2), (3, .int u3)], [.int u2, .ref 347], N, sl, rn_hp S M)) rfl ?_
  have c10 : ¬ (rn_ob u2 101) := fun c => by rw [if_pos c] at h; cases h
  rw [if_neg c10] at h
  refine rn_e1 qm (s2 := (81, [(0, .ref 318), (1, .int u1), (2, .int u2), (3, .int u3)], [.int (rA M 347 (Int32.toNatClampNeg u2))], N, sl, rn_hp S M)) (rn_g_bald (n := 101) rfl rfl (ar_m12 rfl rfl (Nat.le_of_ble_eq_true rfl)) c10) ?_
  refine rn_eg qm 1 (s2 := ((if (rA M 347 (Int32.toNatClampNeg u2)) = 0 then 131 else 82), [(0, .ref 318), (1, .int u1), (2, .int u2), (3, .int u3)], [], N, sl, rn_hp S M)) rfl ?_
  refine rn_ite (fun c11 => ?_) (fun c11 => ?_)
  · rw [if_pos c11] at h
    refine rn_eg qm 2 (s2 := (19, [(2, .int (u2 + (1 : Int32))), (0, .ref 318), (1, .int u1)], [], N, sl, rn_hp S M)) rfl ?_
    refine rn_kq qm (s2 := (19, [(0, .ref 318), (1, .int u1), (2, .int (u2 + (1 : Int32)))], [], N, sl, rn_hp S M)) rfl rfl ?_
    exact hrc _ _ h
  · rw [if_neg c11] at h
    refine rn_eg qm 3 (s2 := (85, [(0, .ref 318), (1, .int u1), (2, .int u2), (3, .int u3)], [.int u2, .ref 322], N, sl, rn_hp S M)) rfl ?_
    refine rn_e1 qm (s2 := (86, [(0, .ref 318), (1, .int u1), (2, .int u2), (3, .int u3)], [.int (rA M 322 (Int32.toNatClampNeg u2))], N, sl, rn_hp S M)) (rn_g_iald (n := 101) rfl rfl (ar_m10 rfl rfl (Nat.le_of_ble_eq_true rfl)) c10) ?_
    refine rn_eg qm 2 (s2 := ((if (rA M 322 (Int32.toNatClampNeg u2)) = (6 : Int32) then 88 else 131), [(0, .ref 318), (1, .int u1), (2, .int u2), (3, .int u3)], [], N, sl, rn_hp S M)) rfl ?_
    refine rn_ite (fun c12 => ?_) (fun c12 => ?_)
    · rw [if_pos c12] at h
      refine rn_eg qm 3 (s2 := (91, [(0, .ref 318), (1, .int u1), (2, .int u2), (3, .int u3)], [.int u2, .ref 341], N, sl, rn_hp S M)) rfl ?_
      refine rn_e1 qm (s2 := (92, [(0, .ref 318), (1, .int u1), (2, .int u2), (3, .int u3)], [.int (rA M 341 (Int32.toNatClampNeg u2))], N, sl, rn_hp S M)) (rn_g_iald (n := 101) rfl rfl (ar_m10 rfl rfl (Nat.le_of_ble_eq_true rfl)) c10) ?_
      refine rn_eg qm 2 (s2 := ((if (rA M 341 (Int32.toNatClampNeg u2)) = (1 : Int32) then 94 else 131), [(0, .ref 318), (1, .int u1), (2, .int u2), (3, .int u3)], [], N, sl, rn_hp S M)) rfl ?_
      refine rn_ite (fun c13 => ?_) (fun c13 => ?_)
      · rw [if_pos c13] at h
        refine rn_eg qm 3 (s2 := (97, [(0, .ref 318), (1, .int u1), (2, .int u2), (3, .int u3)], [.int u2, .ref 348], N, sl, rn_hp S M)) rfl ?_
        refine rn_e1 qm (s2 := (98, [(0, .ref 318), (1, .int u1), (2, .int u2), (3, .int u3)], [.int (rA M 348 (Int32.toNatClampNeg u2))], N, sl, rn_hp S M)) (rn_g_iald (n := 101) rfl rfl (ar_m10 rfl rfl (Nat.le_of_ble_eq_true rfl)) c10) ?_
        refine rn_eg qm 3 (s2 := (101, [(0, .ref 318), (1, .int u1), (2, .int u2), (3, .int u3)], [.int u2, .ref 342, .int (rA M 348 (Int32.toNatClampNeg u2))], N, sl, rn_hp S M)) rfl ?_
        refine rn_e1 qm (s2 := (102, [(0, .ref 318), (1, .int u1), (2, .int u2), (3, .int u3)], [.int (rA M 342 (Int32.toNatClampNeg u2)), .int (rA M 348 (Int32.toNatClampNeg u2))], N, sl, rn_hp S M)) (rn_g_iald (n := 101) rfl rfl (ar_m10 rfl rfl (Nat.le_of_ble_eq_true rfl)) c10) ?_
        refine rn_eg qm 1 (s2 := ((if (rA M 348 (Int32.toNatClampNeg u2)) = (rA M 342 (Int32.toNatClampNeg u2)) then 131 else 103), [(0, .ref 318), (1, .int u1), (2, .int u2), (3, .int u3)], [], N, sl, rn_hp S M)) rfl ?_
        refine rn_ite (fun c14 => ?_) (fun c14 => ?_)
        · rw [if_pos c14] at h
          refine rn_eg qm 2 (s2 := (19, [(2, .int (u2 + (1 : Int32))), (0, .ref 318), (1, .int u1)], [], N, sl, rn_hp S M)) rfl ?_
          refine rn_kq qm (s2 := (19, [(0, .ref 318), (1, .int u1), (2, .int (u2 + (1 : Int32)))], [], N, sl, rn_hp S M)) rfl rfl ?_
          exact hrc _ _ h
        · rw [if_neg c14] at h
          refine rn_eg qm 5 (s2 := (108, [(0, .ref 318), (1, .int u1), (2, .int u2), (3, .int u3)], [.int u2, .ref 342, .int u2, .ref 318], N, sl, rn_hp S M)) rfl ?_
          refine rn_e1 qm (s2 := (109, [(0, .ref 318), (1, .int u1), (2, .int u2), (3, .int u3)], [.int (rA M 342 (Int32.toNatClampNeg u2)), .int u2, .ref 318], N, sl, rn_hp S M)) (rn_g_iald (n := 101) rfl rfl (ar_m10 rfl rfl (Nat.le_of_ble_eq_true rfl)) c10) ?_
          obtain ⟨p15, hp15, h⟩ := Option.bind_eq_some_iff.mp h
          refine rn_ec qm rfl rfl rfl rfl rn_m57 rfl rfl rfl (fun _ => rn_rc_of (en_9 (q := 318) rfl)) (E57 hp15) ?_
          refine rn_eg qm 0 (s2 := (110, [(0, .ref 318), (1, .int u1), (2, .int u2), (3, .int u3)], [.int p15], N, sl, rn_hp S M)) rfl ?_
          refine rn_eg qm 6 (s2 := (116, [(4, .int p15), (0, .ref 318), (1, .int u1), (2, .int u2), (3, .int u3)], [.int p15, .ref 337, .int u3, .ref 318], N, sl, rn_hp S M)) rfl ?_
          have c16 : ¬ (rn_ob p15 101) := fun c => by rw [if_pos c] at h; cases h
          rw [if_neg c16] at h
          refine rn_e1 qm (s2 := (117, [(4, .int p15), (0, .ref 318), (1, .int u1), (2, .int u2), (3, .int u3)], [.int (rA M 337 (Int32.toNatClampNeg p15)), .int u3, .ref 318], N, sl, rn_hp S M)) (rn_g_iald (n := 101) rfl rfl (ar_m10 rfl rfl (Nat.le_of_ble_eq_true rfl)) c16) ?_
          refine rn_eg qm 4 (s2 := (121, [(4, .int p15), (0, .ref 318), (1, .int u1), (2, .int u2), (3, .int u3)], [.int p15, .ref 338, .int (u3 + (rA M 337 (Int32.toNatClampNeg p15))), .ref 318], N, sl, rn_hp S M)) rfl ?_
          refine rn_e1 qm (s2 := (122, [(4, .int p15), (0, .ref 318), (1, .int u1), (2, .int u2), (3, .int u3)], [.int (rA M 338 (Int32.toNatClampNeg p15)), .int (u3 + (rA M 337 (Int32.toNatClampNeg p15))), .ref 318], N, sl, rn_hp S M)) (rn_g_iald (n := 101) rfl rfl (ar_m10 rfl rfl (Nat.le_of_ble_eq_true rfl)) c16) ?_
          refine rn_eg qm 5 (s2 := (127, [(4, .int p15), (0, .ref 318), (1, .int u1), (2, .int u2), (3, .int u3)], [.int u2, .ref 348, .int u2, .ref 318, .int (rA M 338 (Int32.toNatClampNeg p15)), .int (u3 + (rA M 337 (Int32.toNatClampNeg p15))), .ref 318], N, sl, rn_hp S M)) rfl ?_
          refine rn_e1 qm (s2 := (128, [(4, .int p15), (0, .ref 318), (1, .int u1), (2, .int u2), (3, .int u3)], [.int (rA M 348 (Int32.toNatClampNeg u2)), .int u2, .ref 318, .int (rA M 338 (Int32.toNatClampNeg p15)), .int (u3 + (rA M 337 (Int32.toNatClampNeg p15))), .ref 318], N, sl, rn_hp S M)) (rn_g_iald (n := 101) rfl rfl (ar_m10 rfl rfl (Nat.le_of_ble_eq_true rfl)) c10) ?_
          obtain ⟨p17, hp17, h⟩ := Option.bind_eq_some_iff.mp h
          refine rn_ec qm rfl rfl rfl rfl rn_m77 rfl rfl rfl (fun _ => rn_rc_of (en_9 (q := 318) rfl)) (E77 hp17) ?_
          refine rn_eg qm 0 (s2 := (129, [(4, .int p15), (0, .ref 318), (1, .int u1), (2, .int u2), (3, .int u3)], [.int p17, .int (rA M 338 (Int32.toNatClampNeg p15)), .int (u3 + (rA M 337 (Int32.toNatClampNeg p15))), .ref 318], N, sl, rn_hp S M)) rfl ?_
          refine rn_eg qm 1 (s2 := (130, [(4, .int p15), (0, .ref 318), (1, .int u1), (2, .int u2), (3, .int u3)], [.long (Int32.toInt64 p17), .int (rA M 338 (Int32.toNatClampNeg p15)), .int (u3 + (rA M 337 (Int32.toNatClampNeg p15))), .ref 318], N, sl, rn_hp S M)) rfl ?_
          obtain ⟨p18, hp18, h⟩ := Option.bind_eq_some_iff.mp h
          refine rn_ec qm rfl rfl rfl rfl rn_m91 rfl rfl rfl (fun _ => rn_rc_of (en_9 (q := 318) rfl)) (E91 hp18) ?_
          refine rn_eg qm 0 (s2 := (131, [(4, .int p15), (0, .ref 318), (1, .int u1), (2, .int u2), (3, .int u3)], [], N, sl, rn_hp S p18)) rfl ?_
          refine rn_eg qm 2 (s2 := (19, [(2, .int (u2 + (1 : Int32))), (0, .ref 318), (1, .int u1)], [], N, sl, rn_hp S p18)) rfl ?_
          refine rn_kq qm (s2 := (19, [(0, .ref 318), (1, .int u1), (2, .int (u2 + (1 : Int32)))], [], N, sl, rn_hp S p18)) rfl rfl ?_
          exact hrc _ _ h
      · rw [if_neg c13] at h
        refine rn_eg qm 2 (s2 := (19, [(2, .int (u2 + (1 : Int32))), (0, .ref 318), (1, .int u1)], [], N, sl, rn_hp S M)) rfl ?_
        refine rn_kq qm (s2 := (19, [(0, .ref 318), (1, .int u1), (2, .int (u2 + (1 : Int32)))], [], N, sl, rn_hp S M)) rfl rfl ?_
        exact hrc _ _ h
    · rw [if_neg c12] at h
      refine rn_eg qm 2 (s2 := (19, [(2, .int (u2 + (1 : Int32))), (0, .ref 318), (1, .int u1)], [], N, sl, rn_hp S M)) rfl ?_
      refine rn_kq qm (s2 := (19, [(0, .ref 318), (1, .int u1), (2, .int (u2 + (1 : Int32)))], [], N, sl, rn_hp S M)) rfl rfl ?_
      exact hrc _ _ h
def f92_J51_19 (M : rn_T) (u1 : Int32) (u2 : Int32) (u3 : Int32) (rc : (rn_T → Int32 → Option (rn_T))) (k : (rn_T → Option (rn_T))) : Option (rn_T) :=
  if rn_ob u2 101 then none else
    if (rA M 347 (Int32.toNatClampNeg u2)) = 0 then
      f92_J77_19 M u1 u2 u3 rc k
    else
      if (rA M 322 (Int32.toNatClampNeg u2)) = (6 : Int32) then
        if (rA M 341 (Int32.toNatClampNeg u2)) = (2 : Int32) then
          Option.bind (f91 M u3 (1 : Int32) (Int32.toInt64 (rA M 348 (Int32.toNatClampNeg u2)))) fun p21 =>
            f92_J77_19 p21 u1 u2 u3 rc k
        else
          f92_J77_19 M u1 u2 u3 rc k
      else
        f92_J77_19 M u1 u2 u3 rc k
set_option maxHeartbeats 4000000 in
theorem E92_J51_19 {X : rn_X} {N sl : Nat} {S : rn_T} {M : rn_T} {u1 : Int32} {u2 : Int32} {u3 : Int32} {R : (rn_T)} {rc : (rn_T → Int32 → Option (rn_T))} (hrc : ∀ (M : rn_T) (v2 : Int32), rc M v2 = some R → rn_rv X 92 (19, [(0, .ref 318), (1, .int u1), (2, .int v2)], [], N, sl, rn_hp S M) (none, N, sl, rn_hp S R)) {k : (rn_T → Option (rn_T))} (hk : ∀ (M : rn_T), k M = some R → rn_rv X 92 (133, [], [], N, sl, rn_hp S M) (none, N, sl, rn_hp S R)) (h : f92_J51_19 M u1 u2 u3 rc k = some R) : rn_rv X 92 (51, [(0, .ref 318), (1, .int u1), (2, .int u2), (3, .int u3)], [], N, sl, rn_hp S M) (none, N, sl, rn_hp S R) := by
  have qm := rn_m92
  unfold f92_J51_19 at h
  refine rn_eg qm 3 (s2 := (54, [(0, .ref 318), (1, .int u1), (2, .int u2), (3, .int u3)], [.int u2, .ref 347], N, sl, rn_hp S M)) rfl ?_
  have c8 : ¬ (rn_ob u2 101) := fun c => by rw [if_pos c] at h; cases h
  rw [if_neg c8] at h
  refine rn_e1 qm (s2 := (55, [(0, .ref 318), (1, .int u1), (2, .int u2), (3, .int u3)], [.int (rA M 347 (Int32.toNatClampNeg u2))], N, sl, rn_hp S M)) (rn_g_bald (n := 101) rfl rfl (ar_m12 rfl rfl (Nat.le_of_ble_eq_true rfl)) c8) ?_
  refine rn_eg qm 1 (s2 := ((if (rA M 347 (Int32.toNatClampNeg u2)) = 0 then 77 else 56), [(0, .ref 318), (1, .int u1), (2, .int u2), (3, .int u3)], [], N, sl, rn_hp S M)) rfl ?_
  refine rn_ite (fun c9 => ?_) (fun c9 => ?_)
  · rw [if_pos c9] at h
    refine rn_kq qm (s2 := (77, [(0, .ref 318), (1, .int u1), (2, .int u2), (3, .int u3)], [], N, sl, rn_hp S M)) rfl rfl ?_
    exact E92_J77_19 hrc hk h
  · rw [if_neg c9] at h
    refine rn_eg qm 3 (s2 := (59, [(0, .ref 318), (1, .int u1), (2, .int u2), (3, .int u3)], [.int u2, .ref 322], N, sl, rn_hp S M)) rfl ?_
    refine rn_e1 qm (s2 := (60, [(0, .ref 318), (1, .int u1), (2, .int u2), (3, .int u3)], [.int (rA M 322 (Int32.toNatClampNeg u2))], N, sl, rn_hp S M)) (rn_g_iald (n := 101) rfl rfl (ar_m10 rfl rfl (Nat.le_of_ble_eq_true rfl)) c8) ?_
    refine rn_eg qm 2 (s2 := ((if (rA M 322 (Int32.toNatClampNeg u2)) = (6 : Int32) then 62 else 77), [(0, .ref 318), (1, .int u1), (2, .int u2), (3, .int u3)], [], N, sl, rn_hp S M)) rfl ?_
    refine rn_ite (fun c19 => ?_) (fun c19 => ?_)
    · rw [if_pos c19] at h
      refine rn_eg qm 3 (s2 := (65, [(0, .ref 318), (1, .int u1), (2, .int u2), (3, .int u3)], [.int u2, .ref 341], N, sl, rn_hp S M)) rfl ?_
      refine rn_e1 qm (s2 := (66, [(0, .ref 318), (1, .int u1), (2, .int u2), (3, .int u3)], [.int (rA M 341 (Int32.toNatClampNeg u2))], N, sl, rn_hp S M)) (rn_g_iald (n := 101) rfl rfl (ar_m10 rfl rfl (Nat.le_of_ble_eq_true rfl)) c8) ?_
      refine rn_eg qm 2 (s2 := ((if (rA M 341 (Int32.toNatClampNeg u2)) = (2 : Int32) then 68 else 77), [(0, .ref 318), (1, .int u1), (2, .int u2), (3, .int u3)], [], N, sl, rn_hp S M)) rfl ?_
      refine rn_ite (fun c20 => ?_) (fun c20 => ?_)
      · rw [if_pos c20] at h
        refine rn_eg qm 6 (s2 := (74, [(0, .ref 318), (1, .int u1), (2, .int u2), (3, .int u3)], [.int u2, .ref 348, .int (1 : Int32), .int u3, .ref 318], N, sl, rn_hp S M)) rfl ?_
        refine rn_e1 qm (s2 := (75, [(0, .ref 318), (1, .int u1), (2, .int u2), (3, .int u3)], [.int (rA M 348 (Int32.toNatClampNeg u2)), .int (1 : Int32), .int u3, .ref 318], N, sl, rn_hp S M)) (rn_g_iald (n := 101) rfl rfl (ar_m10 rfl rfl (Nat.le_of_ble_eq_true rfl)) c8) ?_
        refine rn_eg qm 1 (s2 := (76, [(0, .ref 318), (1, .int u1), (2, .int u2), (3, .int u3)], [.long (Int32.toInt64 (rA M 348 (Int32.toNatClampNeg u2))), .int (1 : Int32), .int u3, .ref 318], N, sl, rn_hp S M)) rfl ?_
        obtain ⟨p21, hp21, h⟩ := Option.bind_eq_some_iff.mp h
        refine rn_ec qm rfl rfl rfl rfl rn_m91 rfl rfl rfl (fun _ => rn_rc_of (en_9 (q := 318) rfl)) (E91 hp21) ?_
        refine rn_eg qm 0 (s2 := (77, [(0, .ref 318), (1, .int u1), (2, .int u2), (3, .int u3)], [], N, sl, rn_hp S p21)) rfl ?_
        refine rn_kq qm (s2 := (77, [(0, .ref 318), (1, .int u1), (2, .int u2), (3, .int u3)], [], N, sl, rn_hp S p21)) rfl rfl ?_
        exact E92_J77_19 hrc hk h
      · rw [if_neg c20] at h
        refine rn_kq qm (s2 := (77, [(0, .ref 318), (1, .int u1), (2, .int u2), (3, .int u3)], [], N, sl, rn_hp S M)) rfl rfl ?_
        exact E92_J77_19 hrc hk h
    · rw [if_neg c19] at h
      refine rn_kq qm (s2 := (77, [(0, .ref 318), (1, .int u1), (2, .int u2), (3, .int u3)], [], N, sl, rn_hp S M)) rfl rfl ?_
      exact E92_J77_19 hrc hk h
def f92_L19 (b1 : Int32) : Nat → rn_T → Int32 → (rn_T → Option (rn_T)) → Option (rn_T)
  | 0, _, _, _ => none
  | fu + 1, M, v2, k =>
    if (rI M 318 10) ≤ v2 then
      k M
    else
      Option.bind (f81 M v2) fun p5 =>
        if rn_ob v2 101 then none else
          if (rA M 347 (Int32.toNatClampNeg v2)) = 0 then
            f92_J51_19 M b1 v2 (b1 + p5) (fun M v2 => f92_L19 b1 fu M v2 k) k
          else
            if (5 : Int32) ≤ (rA M 322 (Int32.toNatClampNeg v2)) then
              f92_J51_19 M b1 v2 (b1 + p5) (fun M v2 => f92_L19 b1 fu M v2 k) k
            else
              Option.bind (f91 M (b1 + p5) (rA M 334 (Int32.toNatClampNeg v2)) (rL M 349 (Int32.toNatClampNeg v2))) fun p23 =>
                f92_J51_19 p23 b1 v2 (b1 + p5) (fun M v2 => f92_L19 b1 fu M v2 k) k
set_option maxHeartbeats 4000000 in
theorem E92_L19 {X : rn_X} {N sl : Nat} {S : rn_T} {b1 : Int32} : ∀ (fu : Nat) (M : rn_T) (v2 : Int32) (k : (rn_T → Option (rn_T))) (R : (rn_T)), (∀ (M : rn_T), k M = some R → rn_rv X 92 (133, [], [], N, sl, rn_hp S M) (none, N, sl, rn_hp S R)) → f92_L19 b1 fu M v2 k = some R → rn_rv X 92 (19, [(0, .ref 318), (1, .int b1), (2, .int v2)], [], N, sl, rn_hp S M) (none, N, sl, rn_hp S R) := by
  have qm := rn_m92
  intro fu
  induction fu with
  | zero => intro M v2 k R hk h; cases h
  | succ fu ih =>
    intro M v2 k R hk h
    unfold f92_L19 at h
    refine rn_eg qm 4 (s2 := ((if (rI M 318 10) ≤ v2 then 133 else 23), [(0, .ref 318), (1, .int b1), (2, .int v2)], [], N, sl, rn_hp S M)) rfl ?_
    refine rn_ite (fun c4 => ?_) (fun c4 => ?_)
    · rw [if_pos c4] at h
      refine rn_kq qm (s2 := (133, [], [], N, sl, rn_hp S M)) rfl rfl ?_
      exact hk _ h
    · rw [if_neg c4] at h
      refine rn_eg qm 3 (s2 := (26, [(0, .ref 318), (1, .int b1), (2, .int v2)], [.int v2, .ref 318, .int b1], N, sl, rn_hp S M)) rfl ?_
      obtain ⟨p5, hp5, h⟩ := Option.bind_eq_some_iff.mp h
      refine rn_ec qm rfl rfl rfl rfl rn_m81 rfl rfl rfl (fun _ => rn_rc_of (en_9 (q := 318) rfl)) (E81 hp5) ?_
      refine rn_eg qm 0 (s2 := (27, [(0, .ref 318), (1, .int b1), (2, .int v2)], [.int p5, .int b1], N, sl, rn_hp S M)) rfl ?_
      refine rn_eg qm 5 (s2 := (32, [(3, .int (b1 + p5)), (0, .ref 318), (1, .int b1), (2, .int v2)], [.int v2, .ref 347], N, sl, rn_hp S M)) rfl ?_
      have c6 : ¬ (rn_ob v2 101) := fun c => by rw [if_pos c] at h; cases h
      rw [if_neg c6] at h
      refine rn_e1 qm (s2 := (33, [(3, .int (b1 + p5)), (0, .ref 318), (1, .int b1), (2, .int v2)], [.int (rA M 347 (Int32.toNatClampNeg v2))], N, sl, rn_hp S M)) (rn_g_bald (n := 101) rfl rfl (ar_m12 rfl rfl (Nat.le_of_ble_eq_true rfl)) c6) ?_
      refine rn_eg qm 1 (s2 := ((if (rA M 347 (Int32.toNatClampNeg v2)) = 0 then 51 else 34), [(3, .int (b1 + p5)), (0, .ref 318), (1, .int b1), (2, .int v2)], [], N, sl, rn_hp S M)) rfl ?_
      refine rn_ite (fun c7 => ?_) (fun c7 => ?_)
      · rw [if_pos c7] at h
        refine rn_kq qm (s2 := (51, [(0, .ref 318), (1, .int b1), (2, .int v2), (3, .int (b1 + p5))], [], N, sl, rn_hp S M)) rfl rfl ?_
        exact E92_J51_19 (fun M v2 h => ih M v2 k R hk h) hk h
      · rw [if_neg c7] at h
        refine rn_eg qm 3 (s2 := (37, [(3, .int (b1 + p5)), (0, .ref 318), (1, .int b1), (2, .int v2)], [.int v2, .ref 322], N, sl, rn_hp S M)) rfl ?_
        refine rn_e1 qm (s2 := (38, [(3, .int (b1 + p5)), (0, .ref 318), (1, .int b1), (2, .int v2)], [.int (rA M 322 (Int32.toNatClampNeg v2))], N, sl, rn_hp S M)) (rn_g_iald (n := 101) rfl rfl (ar_m10 rfl rfl (Nat.le_of_ble_eq_true rfl)) c6) ?_
        refine rn_eg qm 2 (s2 := ((if (5 : Int32) ≤ (rA M 322 (Int32.toNatClampNeg v2)) then 51 else 40), [(3, .int (b1 + p5)), (0, .ref 318), (1, .int b1), (2, .int v2)], [], N, sl, rn_hp S M)) rfl ?_
        refine rn_ite (fun c22 => ?_) (fun c22 => ?_)
        · rw [if_pos c22] at h
          refine rn_kq qm (s2 := (51, [(0, .ref 318), (1, .int b1), (2, .int v2), (3, .int (b1 + p5))], [], N, sl, rn_hp S M)) rfl rfl ?_
          exact E92_J51_19 (fun M v2 h => ih M v2 k R hk h) hk h
        · rw [if_neg c22] at h
          refine rn_eg qm 5 (s2 := (45, [(3, .int (b1 + p5)), (0, .ref 318), (1, .int b1), (2, .int v2)], [.int v2, .ref 334, .int (b1 + p5), .ref 318], N, sl, rn_hp S M)) rfl ?_
          refine rn_e1 qm (s2 := (46, [(3, .int (b1 + p5)), (0, .ref 318), (1, .int b1), (2, .int v2)], [.int (rA M 334 (Int32.toNatClampNeg v2)), .int (b1 + p5), .ref 318], N, sl, rn_hp S M)) (rn_g_iald (n := 101) rfl rfl (ar_m10 rfl rfl (Nat.le_of_ble_eq_true rfl)) c6) ?_
          refine rn_eg qm 3 (s2 := (49, [(3, .int (b1 + p5)), (0, .ref 318), (1, .int b1), (2, .int v2)], [.int v2, .ref 349, .int (rA M 334 (Int32.toNatClampNeg v2)), .int (b1 + p5), .ref 318], N, sl, rn_hp S M)) rfl ?_
          refine rn_e1 qm (s2 := (50, [(3, .int (b1 + p5)), (0, .ref 318), (1, .int b1), (2, .int v2)], [.long (rL M 349 (Int32.toNatClampNeg v2)), .int (rA M 334 (Int32.toNatClampNeg v2)), .int (b1 + p5), .ref 318], N, sl, rn_hp S M)) (rn_g_lald (n := 101) rfl rfl (ar_m11 rfl rfl (Nat.le_of_ble_eq_true rfl)) c6) ?_
          obtain ⟨p23, hp23, h⟩ := Option.bind_eq_some_iff.mp h
          refine rn_ec qm rfl rfl rfl rfl rn_m91 rfl rfl rfl (fun _ => rn_rc_of (en_9 (q := 318) rfl)) (E91 hp23) ?_
          refine rn_eg qm 0 (s2 := (51, [(3, .int (b1 + p5)), (0, .ref 318), (1, .int b1), (2, .int v2)], [], N, sl, rn_hp S p23)) rfl ?_
          refine rn_kq qm (s2 := (51, [(0, .ref 318), (1, .int b1), (2, .int v2), (3, .int (b1 + p5))], [], N, sl, rn_hp S p23)) rfl rfl ?_
          exact E92_J51_19 (fun M v2 h => ih M v2 k R hk h) hk h
def f92 (M : rn_T) (a1 : Int32) : Option (rn_T) :=
  f92_L2 a1 rn_FU M (0 : Int32) (fun M3 =>
    f92_L19 a1 rn_FU M3 (0 : Int32) (fun M24 =>
      some (M24)))
set_option maxHeartbeats 4000000 in
theorem E92 {X : rn_X} {N sl : Nat} {S M : rn_T} {a1 : Int32} {R : (rn_T)} (h : f92 M a1 = some R) : rn_rv X 92 (0, [(0, .ref 318), (1, .int a1)], [], N, sl, rn_hp S M) (none, N, sl, rn_hp S R) := by
  have qm := rn_m92
  unfold f92 at h
  refine rn_eg qm 2 (s2 := (2, [(2, .int (0 : Int32)), (0, .ref 318), (1, .int a1)], [], N, sl, rn_hp S M)) rfl ?_
  refine rn_kq qm (s2 := (2, [(0, .ref 318), (1, .int a1), (2, .int (0 : Int32))], [], N, sl, rn_hp S M)) rfl rfl ?_
  refine E92_L2 rn_FU _ _ _ R ?_ h
  intro M3 h
  refine rn_eg qm 2 (s2 := (19, [(2, .int (0 : Int32)), (0, .ref 318), (1, .int a1)], [], N, sl, rn_hp S M3)) rfl ?_
  refine rn_kq qm (s2 := (19, [(0, .ref 318), (1, .int a1), (2, .int (0 : Int32))], [], N, sl, rn_hp S M3)) rfl rfl ?_
  refine E92_L19 rn_FU _ _ _ R ?_ h
  intro M24 h
  cases h
  exact rn_er qm rfl rfl rfl
