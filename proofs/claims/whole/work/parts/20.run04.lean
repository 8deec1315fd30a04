/-! 164: RecordNiches$Tree.use(II)V -/
def f164_L2 (b1 : Int32) (b2 : Int32) : Nat → rn_T → Int32 → (rn_T → Option (rn_T)) → Option (rn_T)
  | 0, _, _, _ => none
  | fu + 1, S, v3, k =>
    if (b1 + b2) ≤ v3 then
      k S
    else
      if v3 < 0 then
        f164_L2 b1 b2 fu S (v3 + (1 : Int32)) k
      else
        if (64 : Int32) ≤ v3 then
          f164_L2 b1 b2 fu S (v3 + (1 : Int32)) k
        else
          if rn_ob v3 64 then none else
            f164_L2 b1 b2 fu (wA S 68 (Int32.toNatClampNeg v3) (1 : Int32)) (v3 + (1 : Int32)) k
set_option maxHeartbeats 4000000 in
theorem E164_L2 {X : rn_X} {N sl : Nat} {M : rn_T} {b1 : Int32} {b2 : Int32} : ∀ (fu : Nat) (S : rn_T) (v3 : Int32) (k : (rn_T → Option (rn_T))) (R : (rn_T)), (∀ (S : rn_T), k S = some R → rn_rv X 164 (19, [], [], N, sl, rn_hp S M) (none, N, sl, rn_hp R M)) → f164_L2 b1 b2 fu S v3 k = some R → rn_rv X 164 (2, [(0, .ref 66), (1, .int b1), (2, .int b2), (3, .int v3)], [], N, sl, rn_hp S M) (none, N, sl, rn_hp R M) := by
  have qm := rn_m164
  intro fu
  induction fu with
  | zero => intro S v3 k R hk h; cases h
  | succ fu ih =>
    intro S v3 k R hk h
    unfold f164_L2 at h
    refine rn_eg qm 5 (s2 := ((if (b1 + b2) ≤ v3 then 19 else 7), [(0, .ref 66), (1, .int b1), (2, .int b2), (3, .int v3)], [], N, sl, rn_hp S M)) rfl ?_
    refine rn_ite (fun c1 => ?_) (fun c1 => ?_)
    · rw [if_pos c1] at h
      refine rn_kq qm (s2 := (19, [], [], N, sl, rn_hp S M)) rfl rfl ?_
      exact hk _ h
    · rw [if_neg c1] at h
      refine rn_eg qm 2 (s2 := ((if v3 < 0 then 17 else 9), [(0, .ref 66), (1, .int b1), (2, .int b2), (3, .int v3)], [], N, sl, rn_hp S M)) rfl ?_
      refine rn_ite (fun c2 => ?_) (fun c2 => ?_)
      · rw [if_pos c2] at h
        refine rn_eg qm 2 (s2 := (2, [(3, .int (v3 + (1 : Int32))), (0, .ref 66), (1, .int b1), (2, .int b2)], [], N, sl, rn_hp S M)) rfl ?_
        refine rn_kq qm (s2 := (2, [(0, .ref 66), (1, .int b1), (2, .int b2), (3, .int (v3 + (1 : Int32)))], [], N, sl, rn_hp S M)) rfl rfl ?_
        exact ih _ _ k R hk h
      · rw [if_neg c2] at h
        refine rn_eg qm 3 (s2 := ((if (64 : Int32) ≤ v3 then 17 else 12), [(0, .ref 66), (1, .int b1), (2, .int b2), (3, .int v3)], [], N, sl, rn_hp S M)) rfl ?_
        refine rn_ite (fun c3 => ?_) (fun c3 => ?_)
        · rw [if_pos c3] at h
          refine rn_eg qm 2 (s2 := (2, [(3, .int (v3 + (1 : Int32))), (0, .ref 66), (1, .int b1), (2, .int b2)], [], N, sl, rn_hp S M)) rfl ?_
          refine rn_kq qm (s2 := (2, [(0, .ref 66), (1, .int b1), (2, .int b2), (3, .int (v3 + (1 : Int32)))], [], N, sl, rn_hp S M)) rfl rfl ?_
          exact ih _ _ k R hk h
        · rw [if_neg c3] at h
          refine rn_eg qm 4 (s2 := (16, [(0, .ref 66), (1, .int b1), (2, .int b2), (3, .int v3)], [.int (1 : Int32), .int v3, .ref 68], N, sl, rn_hp S M)) rfl ?_
          have c4 : ¬ (rn_ob v3 64) := fun c => by rw [if_pos c] at h; cases h
          rw [if_neg c4] at h
          refine rn_e1 qm (s2 := (17, [(0, .ref 66), (1, .int b1), (2, .int b2), (3, .int v3)], [], N, sl, rn_hp (wA S 68 (Int32.toNatClampNeg v3) (1 : Int32)) M)) (rn_g_bast (n := 64) rfl rfl (ar_x12 rfl rfl (Nat.le_of_ble_eq_true rfl)) c4 (by decide) (aw_x12 rfl rfl (Nat.le_of_ble_eq_true rfl))) ?_
          refine rn_eg qm 2 (s2 := (2, [(3, .int (v3 + (1 : Int32))), (0, .ref 66), (1, .int b1), (2, .int b2)], [], N, sl, rn_hp (wA S 68 (Int32.toNatClampNeg v3) (1 : Int32)) M)) rfl ?_
          refine rn_kq qm (s2 := (2, [(0, .ref 66), (1, .int b1), (2, .int b2), (3, .int (v3 + (1 : Int32)))], [], N, sl, rn_hp (wA S 68 (Int32.toNatClampNeg v3) (1 : Int32)) M)) rfl rfl ?_
          exact ih _ _ k R hk h
def f164 (S : rn_T) (a1 : Int32) (a2 : Int32) : Option (rn_T) :=
  f164_L2 a1 a2 rn_FU S a1 (fun S5 =>
    some (S5))
set_option maxHeartbeats 4000000 in
theorem E164 {X : rn_X} {N sl : Nat} {S M : rn_T} {a1 : Int32} {a2 : Int32} {R : (rn_T)} (h : f164 S a1 a2 = some R) : rn_rv X 164 (0, [(0, .ref 66), (1, .int a1), (2, .int a2)], [], N, sl, rn_hp S M) (none, N, sl, rn_hp R M) := by
  have qm := rn_m164
  unfold f164 at h
  refine rn_eg qm 2 (s2 := (2, [(3, .int a1), (0, .ref 66), (1, .int a1), (2, .int a2)], [], N, sl, rn_hp S M)) rfl ?_
  refine rn_kq qm (s2 := (2, [(0, .ref 66), (1, .int a1), (2, .int a2), (3, .int a1)], [], N, sl, rn_hp S M)) rfl rfl ?_
  refine E164_L2 rn_FU _ _ _ R ?_ h
  intro S5 h
  cases h
  exact rn_er qm rfl rfl rfl
/-! 163: RecordNiches$Tree.unusedBytes()I -/
def f163_L2 : Nat → rn_T → Int32 → (rn_T → Option (Int32 × rn_T)) → Option (Int32 × rn_T)
  | 0, _, _, _ => none
  | fu + 1, S, v1, k =>
    if (64 : Int32) ≤ v1 then
      k S
    else
      if rn_ob v1 64 then none else
        f163_L2 fu (wA S 68 (Int32.toNatClampNeg v1) (0 : Int32)) (v1 + (1 : Int32)) k
set_option maxHeartbeats 4000000 in
theorem E163_L2 {X : rn_X} {N sl : Nat} {M : rn_T} : ∀ (fu : Nat) (S : rn_T) (v1 : Int32) (k : (rn_T → Option (Int32 × rn_T))) (R : (Int32 × rn_T)), (∀ (S : rn_T), k S = some R → rn_rv X 163 (12, [(0, .ref 66)], [], N, sl, rn_hp S M) (some (.int R.1), N, sl, rn_hp R.2 M)) → f163_L2 fu S v1 k = some R → rn_rv X 163 (2, [(0, .ref 66), (1, .int v1)], [], N, sl, rn_hp S M) (some (.int R.1), N, sl, rn_hp R.2 M) := by
  have qm := rn_m163
  intro fu
  induction fu with
  | zero => intro S v1 k R hk h; cases h
  | succ fu ih =>
    intro S v1 k R hk h
    unfold f163_L2 at h
    refine rn_eg qm 3 (s2 := ((if (64 : Int32) ≤ v1 then 12 else 5), [(0, .ref 66), (1, .int v1)], [], N, sl, rn_hp S M)) rfl ?_
    refine rn_ite (fun c1 => ?_) (fun c1 => ?_)
    · rw [if_pos c1] at h
      refine rn_kq qm (s2 := (12, [(0, .ref 66)], [], N, sl, rn_hp S M)) rfl rfl ?_
      exact hk _ h
    · rw [if_neg c1] at h
      refine rn_eg qm 4 (s2 := (9, [(0, .ref 66), (1, .int v1)], [.int (0 : Int32), .int v1, .ref 68], N, sl, rn_hp S M)) rfl ?_
      have c2 : ¬ (rn_ob v1 64) := fun c => by rw [if_pos c] at h; cases h
      rw [if_neg c2] at h
      refine rn_e1 qm (s2 := (10, [(0, .ref 66), (1, .int v1)], [], N, sl, rn_hp (wA S 68 (Int32.toNatClampNeg v1) (0 : Int32)) M)) (rn_g_bast (n := 64) rfl rfl (ar_x12 rfl rfl (Nat.le_of_ble_eq_true rfl)) c2 (by decide) (aw_x12 rfl rfl (Nat.le_of_ble_eq_true rfl))) ?_
      refine rn_eg qm 2 (s2 := (2, [(1, .int (v1 + (1 : Int32))), (0, .ref 66)], [], N, sl, rn_hp (wA S 68 (Int32.toNatClampNeg v1) (0 : Int32)) M)) rfl ?_
      refine rn_kq qm (s2 := (2, [(0, .ref 66), (1, .int (v1 + (1 : Int32)))], [], N, sl, rn_hp (wA S 68 (Int32.toNatClampNeg v1) (0 : Int32)) M)) rfl rfl ?_
      exact ih _ _ k R hk h
def f163_J32_14 (S : rn_T) (u1 : Int32) (u2 : Nat) (rc : (rn_T → Int32 → Option (Int32 × rn_T))) (k : (rn_T → Option (Int32 × rn_T))) : Option (Int32 × rn_T) :=
  if (rI S u2 4) = (6 : Int32) then
    if (rI S u2 12) = (2 : Int32) then
      Option.bind (f164 S (rI S u2 15) (1 : Int32)) fun p10 =>
        rc p10 (u1 + (1 : Int32))
    else
      rc S (u1 + (1 : Int32))
  else
    rc S (u1 + (1 : Int32))
set_option maxHeartbeats 4000000 in
theorem E163_J32_14 {X : rn_X} {N sl : Nat} {M : rn_T} {S : rn_T} {u1 : Int32} {u2 : Nat} {R : (Int32 × rn_T)} (hu2 : rn_kd u2 = 3) {rc : (rn_T → Int32 → Option (Int32 × rn_T))} (hrc : ∀ (S : rn_T) (v1 : Int32), rc S v1 = some R → rn_rv X 163 (14, [(0, .ref 66), (1, .int v1)], [], N, sl, rn_hp S M) (some (.int R.1), N, sl, rn_hp R.2 M)) {k : (rn_T → Option (Int32 × rn_T))} (hk : ∀ (S : rn_T), k S = some R → rn_rv X 163 (47, [(0, .ref 66)], [], N, sl, rn_hp S M) (some (.int R.1), N, sl, rn_hp R.2 M)) (h : f163_J32_14 S u1 u2 rc k = some R) : rn_rv X 163 (32, [(0, .ref 66), (1, .int u1), (2, .ref u2)], [], N, sl, rn_hp S M) (some (.int R.1), N, sl, rn_hp R.2 M) := by
  have qm := rn_m163
  unfold f163_J32_14 at h
  refine rn_eg qm 1 (s2 := (33, [(0, .ref 66), (1, .int u1), (2, .ref u2)], [.ref u2], N, sl, rn_hp S M)) rfl ?_
  refine rn_e1 qm (s2 := (34, [(0, .ref 66), (1, .int u1), (2, .ref u2)], [.int (rI S u2 4)], N, sl, rn_hp S M)) (rn_g_getf rfl rfl (en_3 hu2) rfl) ?_
  refine rn_eg qm 2 (s2 := ((if (rI S u2 4) = (6 : Int32) then 36 else 45), [(0, .ref 66), (1, .int u1), (2, .ref u2)], [], N, sl, rn_hp S M)) rfl ?_
  refine rn_ite (fun c8 => ?_) (fun c8 => ?_)
  · rw [if_pos c8] at h
    refine rn_eg qm 1 (s2 := (37, [(0, .ref 66), (1, .int u1), (2, .ref u2)], [.ref u2], N, sl, rn_hp S M)) rfl ?_
    refine rn_e1 qm (s2 := (38, [(0, .ref 66), (1, .int u1), (2, .ref u2)], [.int (rI S u2 12)], N, sl, rn_hp S M)) (rn_g_getf rfl rfl (en_3 hu2) rfl) ?_
    refine rn_eg qm 2 (s2 := ((if (rI S u2 12) = (2 : Int32) then 40 else 45), [(0, .ref 66), (1, .int u1), (2, .ref u2)], [], N, sl, rn_hp S M)) rfl ?_
    refine rn_ite (fun c9 => ?_) (fun c9 => ?_)
    · rw [if_pos c9] at h
      refine rn_eg qm 2 (s2 := (42, [(0, .ref 66), (1, .int u1), (2, .ref u2)], [.ref u2, .ref 66], N, sl, rn_hp S M)) rfl ?_
      refine rn_e1 qm (s2 := (43, [(0, .ref 66), (1, .int u1), (2, .ref u2)], [.int (rI S u2 15), .ref 66], N, sl, rn_hp S M)) (rn_g_getf rfl rfl (en_3 hu2) rfl) ?_
      refine rn_eg qm 1 (s2 := (44, [(0, .ref 66), (1, .int u1), (2, .ref u2)], [.int (1 : Int32), .int (rI S u2 15), .ref 66], N, sl, rn_hp S M)) rfl ?_
      obtain ⟨p10, hp10, h⟩ := Option.bind_eq_some_iff.mp h
      refine rn_ec qm rfl rfl rfl rfl rn_m164 rfl rfl rfl (fun _ => rn_rc_of (en_7 (q := 66) rfl)) (E164 hp10) ?_
      refine rn_eg qm 0 (s2 := (45, [(0, .ref 66), (1, .int u1), (2, .ref u2)], [], N, sl, rn_hp p10 M)) rfl ?_
      refine rn_eg qm 2 (s2 := (14, [(1, .int (u1 + (1 : Int32))), (0, .ref 66)], [], N, sl, rn_hp p10 M)) rfl ?_
      refine rn_kq qm (s2 := (14, [(0, .ref 66), (1, .int (u1 + (1 : Int32)))], [], N, sl, rn_hp p10 M)) rfl rfl ?_
      exact hrc _ _ h
    · rw [if_neg c9] at h
      refine rn_eg qm 2 (s2 := (14, [(1, .int (u1 + (1 : Int32))), (0, .ref 66)], [], N, sl, rn_hp S M)) rfl ?_
      refine rn_kq qm (s2 := (14, [(0, .ref 66), (1, .int (u1 + (1 : Int32)))], [], N, sl, rn_hp S M)) rfl rfl ?_
      exact hrc _ _ h
  · rw [if_neg c8] at h
    refine rn_eg qm 2 (s2 := (14, [(1, .int (u1 + (1 : Int32))), (0, .ref 66)], [], N, sl, rn_hp S M)) rfl ?_
    refine rn_kq qm (s2 := (14, [(0, .ref 66), (1, .int (u1 + (1 : Int32)))], [], N, sl, rn_hp S M)) rfl rfl ?_
    exact hrc _ _ h
def f163_L14 : Nat → rn_T → Int32 → (rn_T → Option (Int32 × rn_T)) → Option (Int32 × rn_T)
  | 0, _, _, _ => none
  | fu + 1, S, v1, k =>
    if (rI S 66 0) ≤ v1 then
      k S
    else
      if rn_ob v1 100 then none else
        Option.bind (f131 S (76 + 2 * (Int32.toNatClampNeg v1))) fun p6 =>
          if p6 = true then
            Option.bind (f164 S (rI S (76 + 2 * (Int32.toNatClampNeg v1)) 15) (rI S (76 + 2 * (Int32.toNatClampNeg v1)) 5)) fun p11 =>
              f163_J32_14 p11 v1 (76 + 2 * (Int32.toNatClampNeg v1)) (fun S v1 => f163_L14 fu S v1 k) k
          else
            f163_J32_14 S v1 (76 + 2 * (Int32.toNatClampNeg v1)) (fun S v1 => f163_L14 fu S v1 k) k
set_option maxHeartbeats 4000000 in
theorem E163_L14 {X : rn_X} {N sl : Nat} {M : rn_T} : ∀ (fu : Nat) (S : rn_T) (v1 : Int32) (k : (rn_T → Option (Int32 × rn_T))) (R : (Int32 × rn_T)), (∀ (S : rn_T), k S = some R → rn_rv X 163 (47, [(0, .ref 66)], [], N, sl, rn_hp S M) (some (.int R.1), N, sl, rn_hp R.2 M)) → f163_L14 fu S v1 k = some R → rn_rv X 163 (14, [(0, .ref 66), (1, .int v1)], [], N, sl, rn_hp S M) (some (.int R.1), N, sl, rn_hp R.2 M) := by
  have qm := rn_m163
  intro fu
  induction fu with
  | zero => intro S v1 k R hk h; cases h
  | succ fu ih =>
    intro S v1 k R hk h
    unfold f163_L14 at h
    refine rn_eg qm 4 (s2 := ((if (rI S 66 0) ≤ v1 then 47 else 18), [(0, .ref 66), (1, .int v1)], [], N, sl, rn_hp S M)) rfl ?_
    refine rn_ite (fun c4 => ?_) (fun c4 => ?_)
    · rw [if_pos c4] at h
      refine rn_kq qm (s2 := (47, [(0, .ref 66)], [], N, sl, rn_hp S M)) rfl rfl ?_
      exact hk _ h
    · rw [if_neg c4] at h
      refine rn_eg qm 3 (s2 := (21, [(0, .ref 66), (1, .int v1)], [.int v1, .ref 67], N, sl, rn_hp S M)) rfl ?_
      have c5 : ¬ (rn_ob v1 100) := fun c => by rw [if_pos c] at h; cases h
      rw [if_neg c5] at h
      refine rn_e1 qm (s2 := (22, [(0, .ref 66), (1, .int v1)], [.ref (76 + 2 * (Int32.toNatClampNeg v1))], N, sl, rn_hp S M)) (rn_g_aald (r := some (76 + 2 * (Int32.toNatClampNeg v1))) rfl rfl (ar_x23 (q := 67) rfl (Nat.le_of_ble_eq_true rfl)) c5 (rn_cr_at (rn_ob_lt c5))) ?_
      refine rn_eg qm 2 (s2 := (24, [(2, .ref (76 + 2 * (Int32.toNatClampNeg v1))), (0, .ref 66), (1, .int v1)], [.ref (76 + 2 * (Int32.toNatClampNeg v1))], N, sl, rn_hp S M)) rfl ?_
      obtain ⟨p6, hp6, h⟩ := Option.bind_eq_some_iff.mp h
      refine rn_ec qm rfl rfl rfl rfl rn_m131 rfl rfl rfl (fun _ => rn_rc_of (en_3 (show rn_kd (76 + 2 * (Int32.toNatClampNeg v1)) = 3 from ck_23 (q := 67) rfl (rn_ob_lt c5)))) (E131 hp6) ?_
      refine rn_eg qm 0 (s2 := (25, [(2, .ref (76 + 2 * (Int32.toNatClampNeg v1))), (0, .ref 66), (1, .int v1)], [.int (rn_bi p6)], N, sl, rn_hp S M)) rfl ?_
      refine rn_eg qm 1 (s2 := ((if (rn_bi p6) = 0 then 32 else 26), [(2, .ref (76 + 2 * (Int32.toNatClampNeg v1))), (0, .ref 66), (1, .int v1)], [], N, sl, rn_hp S M)) rfl ?_
      refine rn_iteb (fun c7 => ?_) (fun c7 => ?_)
      · rw [if_neg (rn_bf c7)] at h
        refine rn_kq qm (s2 := (32, [(0, .ref 66), (1, .int v1), (2, .ref (76 + 2 * (Int32.toNatClampNeg v1)))], [], N, sl, rn_hp S M)) rfl rfl ?_
        exact E163_J32_14 (show rn_kd (76 + 2 * (Int32.toNatClampNeg v1)) = 3 from ck_23 (q := 67) rfl (rn_ob_lt c5)) (fun S v1 h => ih S v1 k R hk h) hk h
      · rw [if_pos c7] at h
        refine rn_eg qm 2 (s2 := (28, [(2, .ref (76 + 2 * (Int32.toNatClampNeg v1))), (0, .ref 66), (1, .int v1)], [.ref (76 + 2 * (Int32.toNatClampNeg v1)), .ref 66], N, sl, rn_hp S M)) rfl ?_
        refine rn_e1 qm (s2 := (29, [(2, .ref (76 + 2 * (Int32.toNatClampNeg v1))), (0, .ref 66), (1, .int v1)], [.int (rI S (76 + 2 * (Int32.toNatClampNeg v1)) 15), .ref 66], N, sl, rn_hp S M)) (rn_g_getf rfl rfl (en_3 (show rn_kd (76 + 2 * (Int32.toNatClampNeg v1)) = 3 from ck_23 (q := 67) rfl (rn_ob_lt c5))) rfl) ?_
        refine rn_eg qm 1 (s2 := (30, [(2, .ref (76 + 2 * (Int32.toNatClampNeg v1))), (0, .ref 66), (1, .int v1)], [.ref (76 + 2 * (Int32.toNatClampNeg v1)), .int (rI S (76 + 2 * (Int32.toNatClampNeg v1)) 15), .ref 66], N, sl, rn_hp S M)) rfl ?_
        refine rn_e1 qm (s2 := (31, [(2, .ref (76 + 2 * (Int32.toNatClampNeg v1))), (0, .ref 66), (1, .int v1)], [.int (rI S (76 + 2 * (Int32.toNatClampNeg v1)) 5), .int (rI S (76 + 2 * (Int32.toNatClampNeg v1)) 15), .ref 66], N, sl, rn_hp S M)) (rn_g_getf rfl rfl (en_3 (show rn_kd (76 + 2 * (Int32.toNatClampNeg v1)) = 3 from ck_23 (q := 67) rfl (rn_ob_lt c5))) rfl) ?_
        obtain ⟨p11, hp11, h⟩ := Option.bind_eq_some_iff.mp h
        refine rn_ec qm rfl rfl rfl rfl rn_m164 rfl rfl rfl (fun _ => rn_rc_of (en_7 (q := 66) rfl)) (E164 hp11) ?_
        refine rn_eg qm 0 (s2 := (32, [(2, .ref (76 + 2 * (Int32.toNatClampNeg v1))), (0, .ref 66), (1, .int v1)], [], N, sl, rn_hp p11 M)) rfl ?_
        refine rn_kq qm (s2 := (32, [(0, .ref 66), (1, .int v1), (2, .ref (76 + 2 * (Int32.toNatClampNeg v1)))], [], N, sl, rn_hp p11 M)) rfl rfl ?_
        exact E163_J32_14 (show rn_kd (76 + 2 * (Int32.toNatClampNeg v1)) = 3 from ck_23 (q := 67) rfl (rn_ob_lt c5)) (fun S v1 h => ih S v1 k R hk h) hk h
def f163_L51 : Nat → rn_T → Int32 → Int32 → (rn_T → Int32 → Option (Int32 × rn_T)) → Option (Int32 × rn_T)
  | 0, _, _, _, _ => none
  | fu + 1, S, v1, v2, k =>
    if (64 : Int32) ≤ v2 then
      k S v1
    else
      if (rI S 76 5) ≤ v2 then
        k S v1
      else
        if rn_ob v2 64 then none else
          if (rA S 68 (Int32.toNatClampNeg v2)) = 0 then
            f163_L51 fu S (v1 + (1 : Int32)) (v2 + (1 : Int32)) k
          else
            f163_L51 fu S v1 (v2 + (1 : Int32)) k
set_option maxHeartbeats 4000000 in
theorem E163_L51 {X : rn_X} {N sl : Nat} {M : rn_T} : ∀ (fu : Nat) (S : rn_T) (v1 : Int32) (v2 : Int32) (k : (rn_T → Int32 → Option (Int32 × rn_T))) (R : (Int32 × rn_T)), (∀ (S : rn_T) (w_1 : Int32), k S w_1 = some R → rn_rv X 163 (69, [(1, .int w_1)], [], N, sl, rn_hp S M) (some (.int R.1), N, sl, rn_hp R.2 M)) → f163_L51 fu S v1 v2 k = some R → rn_rv X 163 (51, [(0, .ref 66), (1, .int v1), (2, .int v2)], [], N, sl, rn_hp S M) (some (.int R.1), N, sl, rn_hp R.2 M) := by
  have qm := rn_m163
  intro fu
  induction fu with
  | zero => intro S v1 v2 k R hk h; cases h
  | succ fu ih =>
    intro S v1 v2 k R hk h
    unfold f163_L51 at h
    refine rn_eg qm 3 (s2 := ((if (64 : Int32) ≤ v2 then 69 else 54), [(0, .ref 66), (1, .int v1), (2, .int v2)], [], N, sl, rn_hp S M)) rfl ?_
    refine rn_ite (fun c13 => ?_) (fun c13 => ?_)
    · rw [if_pos c13] at h
      refine rn_kq qm (s2 := (69, [(1, .int v1)], [], N, sl, rn_hp S M)) rfl rfl ?_
      exact hk _ _ h
    · rw [if_neg c13] at h
      refine rn_eg qm 4 (s2 := (58, [(0, .ref 66), (1, .int v1), (2, .int v2)], [.int (0 : Int32), .ref 67, .int v2], N, sl, rn_hp S M)) rfl ?_
      refine rn_e1 qm (s2 := (59, [(0, .ref 66), (1, .int v1), (2, .int v2)], [.ref 76, .int v2], N, sl, rn_hp S M)) (rn_g_aald (r := some 76) rfl rfl (ar_x23 (q := 67) rfl (Nat.le_of_ble_eq_true rfl)) (by decide) (rn_cr_at (by decide : Int32.toNatClampNeg (0 : Int32) < 100))) ?_
      refine rn_eg qm 2 (s2 := ((if (rI S 76 5) ≤ v2 then 69 else 61), [(0, .ref 66), (1, .int v1), (2, .int v2)], [], N, sl, rn_hp S M)) rfl ?_
      refine rn_ite (fun c14 => ?_) (fun c14 => ?_)
      · rw [if_pos c14] at h
        refine rn_kq qm (s2 := (69, [(1, .int v1)], [], N, sl, rn_hp S M)) rfl rfl ?_
        exact hk _ _ h
      · rw [if_neg c14] at h
        refine rn_eg qm 3 (s2 := (64, [(0, .ref 66), (1, .int v1), (2, .int v2)], [.int v2, .ref 68], N, sl, rn_hp S M)) rfl ?_
        have c15 : ¬ (rn_ob v2 64) := fun c => by rw [if_pos c] at h; cases h
        rw [if_neg c15] at h
        refine rn_e1 qm (s2 := (65, [(0, .ref 66), (1, .int v1), (2, .int v2)], [.int (rA S 68 (Int32.toNatClampNeg v2))], N, sl, rn_hp S M)) (rn_g_bald (n := 64) rfl rfl (ar_x12 rfl rfl (Nat.le_of_ble_eq_true rfl)) c15) ?_
        refine rn_eg qm 1 (s2 := ((if (rA S 68 (Int32.toNatClampNeg v2)) = 0 then 66 else 67), [(0, .ref 66), (1, .int v1), (2, .int v2)], [], N, sl, rn_hp S M)) rfl ?_
        refine rn_ite (fun c16 => ?_) (fun c16 => ?_)
        · rw [if_pos c16] at h
          refine rn_eg qm 3 (s2 := (51, [(2, .int (v2 + (1 : Int32))), (0, .ref 66), (1, .int (v1 + (1 : Int32)))], [], N, sl, rn_hp S M)) rfl ?_
          refine rn_kq qm (s2 := (51, [(0, .ref 66), (1, .int (v1 + (1 : Int32))), (2, .int (v2 + (1 : Int32)))], [], N, sl, rn_hp S M)) rfl rfl ?_
          exact ih _ _ _ k R hk h
        · rw [if_neg c16] at h
          refine rn_eg qm 2 (s2 := (51, [(2, .int (v2 + (1 : Int32))), (0, .ref 66), (1, .int v1)], [], N, sl, rn_hp S M)) rfl ?_
          refine rn_kq qm (s2 := (51, [(0, .ref 66), (1, .int v1), (2, .int (v2 + (1 : Int32)))], [], N, sl, rn_hp S M)) rfl rfl ?_
          exact ih _ _ _ k R hk h
def f163 (S : rn_T) : Option (Int32 × rn_T) :=
  f163_L2 rn_FU S (0 : Int32) (fun S3 =>
    f163_L14 rn_FU S3 (0 : Int32) (fun S12 =>
      f163_L51 rn_FU S12 (0 : Int32) (0 : Int32) (fun S17 w17_1 =>
        some (w17_1, S17))))
set_option maxHeartbeats 4000000 in
theorem E163 {X : rn_X} {N sl : Nat} {S M : rn_T} {R : (Int32 × rn_T)} (h : f163 S = some R) : rn_rv X 163 (0, [(0, .ref 66)], [], N, sl, rn_hp S M) (some (.int R.1), N, sl, rn_hp R.2 M) := by
  have qm := rn_m163
  unfold f163 at h
  refine rn_eg qm 2 (s2 := (2, [(1, .int (0 : Int32)), (0, .ref 66)], [], N, sl, rn_hp S M)) rfl ?_
  refine rn_kq qm (s2 := (2, [(0, .ref 66), (1, .int (0 : Int32))], [], N, sl, rn_hp S M)) rfl rfl ?_
  refine E163_L2 rn_FU _ _ _ R ?_ h
  intro S3 h
  refine rn_eg qm 2 (s2 := (14, [(1, .int (0 : Int32)), (0, .ref 66)], [], N, sl, rn_hp S3 M)) rfl ?_
  refine rn_kq qm (s2 := (14, [(0, .ref 66), (1, .int (0 : Int32))], [], N, sl, rn_hp S3 M)) rfl rfl ?_
  refine E163_L14 rn_FU _ _ _ R ?_ h
  intro S12 h
  refine rn_eg qm 4 (s2 := (51, [(2, .int (0 : Int32)), (1, .int (0 : Int32)), (0, .ref 66)], [], N, sl, rn_hp S12 M)) rfl ?_
  refine rn_kq qm (s2 := (51, [(0, .ref 66), (1, .int (0 : Int32)), (2, .int (0 : Int32))], [], N, sl, rn_hp S12 M)) rfl rfl ?_
  refine E163_L51 rn_FU _ _ _ _ R ?_ h
  intro S17 w17_1 h
  refine rn_eg qm 1 (s2 := (70, [(1, .int w17_1)], [.int w17_1], N, sl, rn_hp S17 M)) rfl ?_
  cases h
  exact rn_er qm rfl rfl rfl
/-! 10: RecordNiches.idle(II)I -/
def f10 (S : rn_T) (a1 : Int32) (a2 : Int32) : Option (Int32 × rn_T) :=
  Option.bind (f23 S a1 a2) fun p1 =>
    if p1 = true then
      Option.bind (f24 S a1 a2) fun p3 =>
        if p3.1 = 0 then
          Option.bind (f163 p3.2) fun p5 =>
            some (p5.1, p5.2)
        else
          some (p3.1, p3.2)
    else
      some ((-1 : Int32), S)
set_option maxHeartbeats 4000000 in
theorem E10 {X : rn_X} {N sl : Nat} {S M : rn_T} {a1 : Int32} {a2 : Int32} {R : (Int32 × rn_T)} (h : f10 S a1 a2 = some R) : rn_rv X 10 (0, [(0, .ref 0), (1, .int a1), (2, .int a2)], [], N, sl, rn_hp S M) (some (.int R.1), N, sl, rn_hp R.2 M) := by
  have qm := rn_m10
  unfold f10 at h
  refine rn_eg qm 3 (s2 := (3, [(0, .ref 0), (1, .int a1), (2, .int a2)], [.int a2, .int a1, .ref 0], N, sl, rn_hp S M)) rfl ?_
  obtain ⟨p1, hp1, h⟩ := Option.bind_eq_some_iff.mp h
  refine rn_ec qm rfl rfl rfl rfl rn_m23 rfl rfl rfl (fun _ => rn_rc_of (en_8 (q := 0) rfl)) (E23 hp1) ?_
  refine rn_eg qm 0 (s2 := (4, [(0, .ref 0), (1, .int a1), (2, .int a2)], [.int (rn_bi p1)], N, sl, rn_hp S M)) rfl ?_
  refine rn_eg qm 1 (s2 := ((if (rn_bi p1) = 0 then 5 else 7), [(0, .ref 0), (1, .int a1), (2, .int a2)], [], N, sl, rn_hp S M)) rfl ?_
  refine rn_iteb (fun c2 => ?_) (fun c2 => ?_)
  · rw [if_neg (rn_bf c2)] at h
    refine rn_eg qm 1 (s2 := (6, [(0, .ref 0), (1, .int a1), (2, .int a2)], [.int (-1 : Int32)], N, sl, rn_hp S M)) rfl ?_
    cases h
    exact rn_er qm rfl rfl rfl
  · rw [if_pos c2] at h
    refine rn_eg qm 3 (s2 := (10, [(0, .ref 0), (1, .int a1), (2, .int a2)], [.int a2, .int a1, .ref 0], N, sl, rn_hp S M)) rfl ?_
    obtain ⟨p3, hp3, h⟩ := Option.bind_eq_some_iff.mp h
    refine rn_ec qm rfl rfl rfl rfl rn_m24 rfl rfl rfl (fun _ => rn_rc_of (en_8 (q := 0) rfl)) (E24 hp3) ?_
    refine rn_eg qm 0 (s2 := (11, [(0, .ref 0), (1, .int a1), (2, .int a2)], [.int p3.1], N, sl, rn_hp p3.2 M)) rfl ?_
    refine rn_eg qm 3 (s2 := ((if p3.1 = 0 then 16 else 14), [(3, .int p3.1), (0, .ref 0), (1, .int a1), (2, .int a2)], [], N, sl, rn_hp p3.2 M)) rfl ?_
    refine rn_ite (fun c4 => ?_) (fun c4 => ?_)
    · rw [if_pos c4] at h
      refine rn_eg qm 2 (s2 := (18, [(3, .int p3.1), (0, .ref 0), (1, .int a1), (2, .int a2)], [.ref 66], N, sl, rn_hp p3.2 M)) rfl ?_
      obtain ⟨p5, hp5, h⟩ := Option.bind_eq_some_iff.mp h
      refine rn_ec qm rfl rfl rfl rfl rn_m163 rfl rfl rfl (fun _ => rn_rc_of (en_7 (q := 66) rfl)) (E163 hp5) ?_
      refine rn_eg qm 0 (s2 := (19, [(3, .int p3.1), (0, .ref 0), (1, .int a1), (2, .int a2)], [.int p5.1], N, sl, rn_hp p5.2 M)) rfl ?_
      cases h
      exact rn_er qm rfl rfl rfl
    · rw [if_neg c4] at h
      refine rn_eg qm 1 (s2 := (15, [(3, .int p3.1), (0, .ref 0), (1, .int a1), (2, .int a2)], [.int p3.1], N, sl, rn_hp p3.2 M)) rfl ?_
      cases h
      exact rn_er qm rfl rfl rfl
/-! 11: RecordNiches.give(J)I -/
def f11 (S : rn_T) (a1 : Int64) : Option (Int32 × rn_T) :=
  if (lg_cmp a1 (0 : Int64)) < 0 then
    some ((-2 : Int32), S)
  else
    if (lg_cmp a1 (4294967295 : Int64)) ≤ 0 then
      if (rI S 1 3) < (60 : Int32) then
        if rn_ob (rI S 1 3) 60 then none else
          some ((rI (wI (wL S 3 (Int32.toNatClampNeg (rI S 1 3)) a1) 1 3 ((rI (wL S 3 (Int32.toNatClampNeg (rI S 1 3)) a1) 1 3) + (1 : Int32))) 1 3), wI (wL S 3 (Int32.toNatClampNeg (rI S 1 3)) a1) 1 3 ((rI (wL S 3 (Int32.toNatClampNeg (rI S 1 3)) a1) 1 3) + (1 : Int32)))
      else
        some ((-4 : Int32), S)
    else
      some ((-2 : Int32), S)
set_option maxHeartbeats 4000000 in
theorem E11 {X : rn_X} {N sl : Nat} {S M : rn_T} {a1 : Int64} {R : (Int32 × rn_T)} (h : f11 S a1 = some R) : rn_rv X 11 (0, [(0, .ref 0), (1, .long a1)], [], N, sl, rn_hp S M) (some (.int R.1), N, sl, rn_hp R.2 M) := by
  have qm := rn_m11
  unfold f11 at h
  refine rn_eg qm 4 (s2 := ((if (lg_cmp a1 (0 : Int64)) < 0 then 8 else 4), [(0, .ref 0), (1, .long a1)], [], N, sl, rn_hp S M)) rfl ?_
  refine rn_ite (fun c1 => ?_) (fun c1 => ?_)
  · rw [if_pos c1] at h
    refine rn_eg qm 1 (s2 := (9, [], [.int (-2 : Int32)], N, sl, rn_hp S M)) rfl ?_
    cases h
    exact rn_er qm rfl rfl rfl
  · rw [if_neg c1] at h
    refine rn_eg qm 4 (s2 := ((if (lg_cmp a1 (4294967295 : Int64)) ≤ 0 then 10 else 8), [(0, .ref 0), (1, .long a1)], [], N, sl, rn_hp S M)) rfl ?_
    refine rn_ite (fun c2 => ?_) (fun c2 => ?_)
    · rw [if_pos c2] at h
      refine rn_eg qm 5 (s2 := ((if (rI S 1 3) < (60 : Int32) then 17 else 15), [(0, .ref 0), (1, .long a1)], [], N, sl, rn_hp S M)) rfl ?_
      refine rn_ite (fun c3 => ?_) (fun c3 => ?_)
      · rw [if_pos c3] at h
        refine rn_eg qm 7 (s2 := (24, [(0, .ref 0), (1, .long a1)], [.long a1, .int (rI S 1 3), .ref 3], N, sl, rn_hp S M)) rfl ?_
        have c4 : ¬ (rn_ob (rI S 1 3) 60) := fun c => by rw [if_pos c] at h; cases h
        rw [if_neg c4] at h
        refine rn_e1 qm (s2 := (25, [(0, .ref 0), (1, .long a1)], [], N, sl, rn_hp (wL S 3 (Int32.toNatClampNeg (rI S 1 3)) a1) M)) (rn_g_last (n := 60) rfl rfl (ar_x11 rfl rfl (Nat.le_of_ble_eq_true rfl)) c4 (aw_x11 rfl rfl (Nat.le_of_ble_eq_true rfl))) ?_
        refine rn_eg qm 6 (s2 := (31, [(0, .ref 0), (1, .long a1)], [.int ((rI (wL S 3 (Int32.toNatClampNeg (rI S 1 3)) a1) 1 3) + (1 : Int32)), .ref 1], N, sl, rn_hp (wL S 3 (Int32.toNatClampNeg (rI S 1 3)) a1) M)) rfl ?_
        refine rn_e1 qm (s2 := (32, [(0, .ref 0), (1, .long a1)], [], N, sl, rn_hp (wI (wL S 3 (Int32.toNatClampNeg (rI S 1 3)) a1) 1 3 ((rI (wL S 3 (Int32.toNatClampNeg (rI S 1 3)) a1) 1 3) + (1 : Int32))) M)) (rn_g_putf rfl rfl (en_1 rfl) rfl rfl rfl (wf_1_3 (v := ((rI (wL S 3 (Int32.toNatClampNeg (rI S 1 3)) a1) 1 3) + (1 : Int32))) rfl)) ?_
        refine rn_eg qm 3 (s2 := (35, [(0, .ref 0), (1, .long a1)], [.int (rI (wI (wL S 3 (Int32.toNatClampNeg (rI S 1 3)) a1) 1 3 ((rI (wL S 3 (Int32.toNatClampNeg (rI S 1 3)) a1) 1 3) + (1 : Int32))) 1 3)], N, sl, rn_hp (wI (wL S 3 (Int32.toNatClampNeg (rI S 1 3)) a1) 1 3 ((rI (wL S 3 (Int32.toNatClampNeg (rI S 1 3)) a1) 1 3) + (1 : Int32))) M)) rfl ?_
        cases h
        exact rn_er qm rfl rfl rfl
      · rw [if_neg c3] at h
        refine rn_eg qm 1 (s2 := (16, [(0, .ref 0), (1, .long a1)], [.int (-4 : Int32)], N, sl, rn_hp S M)) rfl ?_
        cases h
        exact rn_er qm rfl rfl rfl
    · rw [if_neg c2] at h
      refine rn_eg qm 1 (s2 := (9, [], [.int (-2 : Int32)], N, sl, rn_hp S M)) rfl ?_
      cases h
      exact rn_er qm rfl rfl rfl
/-! 12: RecordNiches.drop()I -/
def f12 (S : rn_T) : Option (Int32 × rn_T) :=
  some ((rI S 1 3), wI S 1 3 (0 : Int32))
set_option maxHeartbeats 4000000 in
theorem E12 {X : rn_X} {N sl : Nat} {S M : rn_T} {R : (Int32 × rn_T)} (h : f12 S = some R) : rn_rv X 12 (0, [(0, .ref 0)], [], N, sl, rn_hp S M) (some (.int R.1), N, sl, rn_hp R.2 M) := by
  have qm := rn_m12
  unfold f12 at h
  refine rn_eg qm 7 (s2 := (7, [(1, .int (rI S 1 3)), (0, .ref 0)], [.int (0 : Int32), .ref 1], N, sl, rn_hp S M)) rfl ?_
  refine rn_e1 qm (s2 := (8, [(1, .int (rI S 1 3)), (0, .ref 0)], [], N, sl, rn_hp (wI S 1 3 (0 : Int32)) M)) (rn_g_putf rfl rfl (en_1 rfl) rfl rfl rfl (wf_1_3 (v := (0 : Int32)) rfl)) ?_
  refine rn_eg qm 1 (s2 := (9, [(1, .int (rI S 1 3)), (0, .ref 0)], [.int (rI S 1 3)], N, sl, rn_hp (wI S 1 3 (0 : Int32)) M)) rfl ?_
  cases h
  exact rn_er qm rfl rfl rfl
/-! 13: RecordNiches.given(I)J -/
def f13 (S : rn_T) (a1 : Int32) : Option Int64 :=
  if a1 = (-1 : Int32) then
    some (Int32.toInt64 (rI S 1 3))
  else
    if a1 < 0 then
      some (-6 : Int64)
    else
      if a1 < (rI S 1 3) then
        if rn_ob a1 60 then none else
          some (rL S 3 (Int32.toNatClampNeg a1))
      else
        some (-6 : Int64)
set_option maxHeartbeats 4000000 in
theorem E13 {X : rn_X} {N sl : Nat} {S M : rn_T} {a1 : Int32} {R : (Int64)} (h : f13 S a1 = some R) : rn_rv X 13 (0, [(0, .ref 0), (1, .int a1)], [], N, sl, rn_hp S M) (some (.long R), N, sl, rn_hp S M) := by
  have qm := rn_m13
  unfold f13 at h
  refine rn_eg qm 3 (s2 := ((if a1 = (-1 : Int32) then 3 else 8), [(0, .ref 0), (1, .int a1)], [], N, sl, rn_hp S M)) rfl ?_
  refine rn_ite (fun c1 => ?_) (fun c1 => ?_)
  · rw [if_pos c1] at h
    refine rn_eg qm 4 (s2 := (7, [(0, .ref 0), (1, .int a1)], [.long (Int32.toInt64 (rI S 1 3))], N, sl, rn_hp S M)) rfl ?_
    cases h
    exact rn_er qm rfl rfl rfl
  · rw [if_neg c1] at h
    refine rn_eg qm 2 (s2 := ((if a1 < 0 then 15 else 10), [(0, .ref 0), (1, .int a1)], [], N, sl, rn_hp S M)) rfl ?_
    refine rn_ite (fun c2 => ?_) (fun c2 => ?_)
    · rw [if_pos c2] at h
      refine rn_eg qm 1 (s2 := (16, [], [.long (-6 : Int64)], N, sl, rn_hp S M)) rfl ?_
      cases h
      exact rn_er qm rfl rfl rfl
    · rw [if_neg c2] at h
      refine rn_eg qm 5 (s2 := ((if a1 < (rI S 1 3) then 17 else 15), [(0, .ref 0), (1, .int a1)], [], N, sl, rn_hp S M)) rfl ?_
      refine rn_ite (fun c3 => ?_) (fun c3 => ?_)
      · rw [if_pos c3] at h
        refine rn_eg qm 4 (s2 := (21, [(0, .ref 0), (1, .int a1)], [.int a1, .ref 3], N, sl, rn_hp S M)) rfl ?_
        have c4 : ¬ (rn_ob a1 60) := fun c => by rw [if_pos c] at h; cases h
        rw [if_neg c4] at h
        refine rn_e1 qm (s2 := (22, [(0, .ref 0), (1, .int a1)], [.long (rL S 3 (Int32.toNatClampNeg a1))], N, sl, rn_hp S M)) (rn_g_lald (n := 60) rfl rfl (ar_x11 rfl rfl (Nat.le_of_ble_eq_true rfl)) c4) ?_
        cases h
        exact rn_er qm rfl rfl rfl
      · rw [if_neg c3] at h
        refine rn_eg qm 1 (s2 := (16, [], [.long (-6 : Int64)], N, sl, rn_hp S M)) rfl ?_
        cases h
        exact rn_er qm rfl rfl rfl
/-! 25: RecordNiches.isPlaceForRoot(I)Z -/
def f25 (S : rn_T) (a1 : Int32) : Option Bool :=
  if a1 < 0 then
    some false
  else
    if rn_kd (f154 S) = 3 then
      if a1 ≤ ((96 : Int32) - (rI S (f154 S) 5)) then
        if (f26 a1 (rI S (f154 S) 6)) = a1 then
          some true
        else
          some false
      else
        some false
    else none
set_option maxHeartbeats 4000000 in
theorem E25 {X : rn_X} {N sl : Nat} {S M : rn_T} {a1 : Int32} {R : (Bool)} (h : f25 S a1 = some R) : rn_rv X 25 (0, [(0, .ref 0), (1, .int a1)], [], N, sl, rn_hp S M) (some (.int (rn_bi R)), N, sl, rn_hp S M) := by
  have qm := rn_m25
  unfold f25 at h
  refine rn_eg qm 2 (s2 := (2, [(0, .ref 0), (1, .int a1)], [.ref 66], N, sl, rn_hp S M)) rfl ?_
  refine rn_ec qm rfl rfl rfl rfl rn_m154 rfl rfl rfl (fun _ => rn_rc_of (en_7 (q := 66) rfl)) (E154 rfl) ?_
  refine rn_eg qm 0 (s2 := (3, [(0, .ref 0), (1, .int a1)], [.ref (f154 S)], N, sl, rn_hp S M)) rfl ?_
  refine rn_eg qm 3 (s2 := ((if a1 < 0 then 12 else 6), [(2, .ref (f154 S)), (0, .ref 0), (1, .int a1)], [], N, sl, rn_hp S M)) rfl ?_
  refine rn_ite (fun c2 => ?_) (fun c2 => ?_)
  · rw [if_pos c2] at h
    refine rn_eg qm 1 (s2 := (13, [], [.int (0 : Int32)], N, sl, rn_hp S M)) rfl ?_
    cases h
    exact rn_er qm rfl rfl rn_rt0
  · rw [if_neg c2] at h
    refine rn_eg qm 3 (s2 := (9, [(2, .ref (f154 S)), (0, .ref 0), (1, .int a1)], [.ref (f154 S), .int (96 : Int32), .int a1], N, sl, rn_hp S M)) rfl ?_
    have k3 : rn_kd (f154 S) = 3 := Decidable.byContradiction fun c => by rw [if_neg c] at h; cases h
    rw [if_pos k3] at h
    refine rn_e1 qm (s2 := (10, [(2, .ref (f154 S)), (0, .ref 0), (1, .int a1)], [.int (rI S (f154 S) 5), .int (96 : Int32), .int a1], N, sl, rn_hp S M)) (rn_g_getf rfl rfl (en_3 k3) rfl) ?_
    refine rn_eg qm 2 (s2 := ((if a1 ≤ ((96 : Int32) - (rI S (f154 S) 5)) then 14 else 12), [(2, .ref (f154 S)), (0, .ref 0), (1, .int a1)], [], N, sl, rn_hp S M)) rfl ?_
    refine rn_ite (fun c4 => ?_) (fun c4 => ?_)
    · rw [if_pos c4] at h
      refine rn_eg qm 2 (s2 := (16, [(2, .ref (f154 S)), (0, .ref 0), (1, .int a1)], [.ref (f154 S), .int a1], N, sl, rn_hp S M)) rfl ?_
      refine rn_e1 qm (s2 := (17, [(2, .ref (f154 S)), (0, .ref 0), (1, .int a1)], [.int (rI S (f154 S) 6), .int a1], N, sl, rn_hp S M)) (rn_g_getf rfl rfl (en_3 k3) rfl) ?_
      refine rn_ec qm rfl rfl rfl rfl rn_m26 rfl rfl rfl (fun h => by cases h) (E26 rfl) ?_
      refine rn_eg qm 0 (s2 := (18, [(2, .ref (f154 S)), (0, .ref 0), (1, .int a1)], [.int (f26 a1 (rI S (f154 S) 6))], N, sl, rn_hp S M)) rfl ?_
      refine rn_eg qm 2 (s2 := ((if (f26 a1 (rI S (f154 S) 6)) = a1 then 20 else 22), [(2, .ref (f154 S)), (0, .ref 0), (1, .int a1)], [], N, sl, rn_hp S M)) rfl ?_
      refine rn_ite (fun c6 => ?_) (fun c6 => ?_)
      · rw [if_pos c6] at h
        refine rn_eg qm 2 (s2 := (23, [(2, .ref (f154 S)), (0, .ref 0), (1, .int a1)], [.int (1 : Int32)], N, sl, rn_hp S M)) rfl ?_
        cases h
        exact rn_er qm rfl rfl rn_rt1
      · rw [if_neg c6] at h
        refine rn_eg qm 1 (s2 := (23, [(2, .ref (f154 S)), (0, .ref 0), (1, .int a1)], [.int (0 : Int32)], N, sl, rn_hp S M)) rfl ?_
        cases h
        exact rn_er qm rfl rfl rn_rt0
    · rw [if_neg c4] at h
      refine rn_eg qm 1 (s2 := (13, [], [.int (0 : Int32)], N, sl, rn_hp S M)) rfl ?_
      cases h
      exact rn_er qm rfl rfl rn_rt0
/-! 155: RecordNiches$Tree.part(I)LRecordNiches$Node; -/
def f155 (S : rn_T) (a1 : Int32) : Option Nat :=
  if rn_ob a1 100 then none else
    some (76 + 2 * (Int32.toNatClampNeg a1))
set_option maxHeartbeats 4000000 in
theorem E155 {X : rn_X} {N sl : Nat} {S M : rn_T} {a1 : Int32} {R : (Nat)} (h : f155 S a1 = some R) : rn_rv X 155 (0, [(0, .ref 66), (1, .int a1)], [], N, sl, rn_hp S M) (some (.ref R), N, sl, rn_hp S M) := by
  have qm := rn_m155
  unfold f155 at h
  refine rn_eg qm 3 (s2 := (3, [(0, .ref 66), (1, .int a1)], [.int a1, .ref 67], N, sl, rn_hp S M)) rfl ?_
  have c1 : ¬ (rn_ob a1 100) := fun c => by rw [if_pos c] at h; cases h
  rw [if_neg c1] at h
  refine rn_e1 qm (s2 := (4, [(0, .ref 66), (1, .int a1)], [.ref (76 + 2 * (Int32.toNatClampNeg a1))], N, sl, rn_hp S M)) (rn_g_aald (r := some (76 + 2 * (Int32.toNatClampNeg a1))) rfl rfl (ar_x23 (q := 67) rfl (Nat.le_of_ble_eq_true rfl)) c1 (rn_cr_at (rn_ob_lt c1))) ?_
  cases h
  exact rn_er qm rfl rfl rfl
/-! 150: RecordNiches$Transfer.isLive(LRecordNiches$Node;)Z -/
def f150 (S : rn_T) (a0 : Nat) : Option Bool :=
  if rn_kd a0 = 3 then
    rn_om (rR S a0)
      (some true)
      fun r2 =>
        if rn_kd r2 = 3 then
          if (rI S r2 17) = 0 then
            some false
          else
            if (rI S r2 4) = (6 : Int32) then
              if (rI S r2 16) = (rI S a0 3) then
                some true
              else
                some false
            else
              some true
        else none
  else none
set_option maxHeartbeats 4000000 in
theorem E150 {X : rn_X} {N sl : Nat} {S M : rn_T} {a0 : Nat} {R : (Bool)} (h : f150 S a0 = some R) : rn_rv X 150 (0, [(0, .ref a0)], [], N, sl, rn_hp S M) (some (.int (rn_bi R)), N, sl, rn_hp S M) := by
  have qm := rn_m150
  unfold f150 at h
  refine rn_eg qm 1 (s2 := (1, [(0, .ref a0)], [.ref a0], N, sl, rn_hp S M)) rfl ?_
  have k1 : rn_kd a0 = 3 := Decidable.byContradiction fun c => by rw [if_neg c] at h; cases h
  rw [if_pos k1] at h
  cases o3 : rR S a0 with
  | none =>
    rw [rn_om_n o3] at h
    refine rn_e1 qm (s2 := (2, [(0, .ref a0)], [.null], N, sl, rn_hp S M)) (rn_g_getf rfl rfl (en_3 k1) (congrArg (fun o => some (va_rf o)) o3)) ?_
    refine rn_eg qm 4 (s2 := (6, [(1, .null), (0, .ref a0)], [.int (1 : Int32)], N, sl, rn_hp S M)) rfl ?_
    cases h
    exact rn_er qm rfl rfl rn_rt1
  | some r2 =>
    rw [rn_om_s o3] at h
    refine rn_e1 qm (s2 := (2, [(0, .ref a0)], [.ref r2], N, sl, rn_hp S M)) (rn_g_getf rfl rfl (en_3 k1) (congrArg (fun o => some (va_rf o)) o3)) ?_
    refine rn_eg qm 4 (s2 := (8, [(1, .ref r2), (0, .ref a0)], [.ref r2], N, sl, rn_hp S M)) rfl ?_
    have k4 : rn_kd r2 = 3 := Decidable.byContradiction fun c => by rw [if_neg c] at h; cases h
    rw [if_pos k4] at h
    refine rn_e1 qm (s2 := (9, [(1, .ref r2), (0, .ref a0)], [.int (rI S r2 17)], N, sl, rn_hp S M)) (rn_g_getf rfl rfl (en_3 k4) rfl) ?_
    refine rn_eg qm 1 (s2 := ((if (rI S r2 17) = 0 then 21 else 10), [(1, .ref r2), (0, .ref a0)], [], N, sl, rn_hp S M)) rfl ?_
    refine rn_ite (fun c5 => ?_) (fun c5 => ?_)
    · rw [if_pos c5] at h
      refine rn_eg qm 1 (s2 := (22, [], [.int (0 : Int32)], N, sl, rn_hp S M)) rfl ?_
      cases h
      exact rn_er qm rfl rfl rn_rt0
    · rw [if_neg c5] at h
      refine rn_eg qm 1 (s2 := (11, [(1, .ref r2), (0, .ref a0)], [.ref r2], N, sl, rn_hp S M)) rfl ?_
      refine rn_e1 qm (s2 := (12, [(1, .ref r2), (0, .ref a0)], [.int (rI S r2 4)], N, sl, rn_hp S M)) (rn_g_getf rfl rfl (en_3 k4) rfl) ?_
      refine rn_eg qm 2 (s2 := ((if (rI S r2 4) = (6 : Int32) then 14 else 19), [(1, .ref r2), (0, .ref a0)], [], N, sl, rn_hp S M)) rfl ?_
      refine rn_ite (fun c6 => ?_) (fun c6 => ?_)
      · rw [if_pos c6] at h
        refine rn_eg qm 1 (s2 := (15, [(1, .ref r2), (0, .ref a0)], [.ref r2], N, sl, rn_hp S M)) rfl ?_
        refine rn_e1 qm (s2 := (16, [(1, .ref r2), (0, .ref a0)], [.int (rI S r2 16)], N, sl, rn_hp S M)) (rn_g_getf rfl rfl (en_3 k4) rfl) ?_
        refine rn_eg qm 1 (s2 := (17, [(1, .ref r2), (0, .ref a0)], [.ref a0, .int (rI S r2 16)], N, sl, rn_hp S M)) rfl ?_
        refine rn_e1 qm (s2 := (18, [(1, .ref r2), (0, .ref a0)], [.int (rI S a0 3), .int (rI S r2 16)], N, sl, rn_hp S M)) (rn_g_getf rfl rfl (en_3 k1) rfl) ?_
        refine rn_eg qm 1 (s2 := ((if (rI S r2 16) = (rI S a0 3) then 19 else 21), [(1, .ref r2), (0, .ref a0)], [], N, sl, rn_hp S M)) rfl ?_
        refine rn_ite (fun c7 => ?_) (fun c7 => ?_)
        · rw [if_pos c7] at h
          refine rn_eg qm 2 (s2 := (22, [], [.int (1 : Int32)], N, sl, rn_hp S M)) rfl ?_
          cases h
          exact rn_er qm rfl rfl rn_rt1
        · rw [if_neg c7] at h
          refine rn_eg qm 1 (s2 := (22, [], [.int (0 : Int32)], N, sl, rn_hp S M)) rfl ?_
          cases h
          exact rn_er qm rfl rfl rn_rt0
      · rw [if_neg c6] at h
        refine rn_eg qm 2 (s2 := (22, [], [.int (1 : Int32)], N, sl, rn_hp S M)) rfl ?_
        cases h
        exact rn_er qm rfl rfl rn_rt1
/-! 151: RecordNiches$Transfer.hasNumber(LRecordNiches$Node;)Z -/
def f151 (S : rn_T) (a0 : Nat) : Option Bool :=
  if rn_kd a0 = 3 then
    if (rI S a0 4) = (6 : Int32) then
      some true
    else
      Option.bind (f131 S a0) fun p3 =>
        if p3 = true then
          some true
        else
          some false
  else none
set_option maxHeartbeats 4000000 in
theorem E151 {X : rn_X} {N sl : Nat} {S M : rn_T} {a0 : Nat} {R : (Bool)} (h : f151 S a0 = some R) : rn_rv X 151 (0, [(0, .ref a0)], [], N, sl, rn_hp S M) (some (.int (rn_bi R)), N, sl, rn_hp S M) := by
  have qm := rn_m151
  unfold f151 at h
  refine rn_eg qm 1 (s2 := (1, [(0, .ref a0)], [.ref a0], N, sl, rn_hp S M)) rfl ?_
  have k1 : rn_kd a0 = 3 := Decidable.byContradiction fun c => by rw [if_neg c] at h; cases h
  rw [if_pos k1] at h
  refine rn_e1 qm (s2 := (2, [(0, .ref a0)], [.int (rI S a0 4)], N, sl, rn_hp S M)) (rn_g_getf rfl rfl (en_3 k1) rfl) ?_
  refine rn_eg qm 2 (s2 := ((if (rI S a0 4) = (6 : Int32) then 7 else 4), [(0, .ref a0)], [], N, sl, rn_hp S M)) rfl ?_
  refine rn_ite (fun c2 => ?_) (fun c2 => ?_)
  · rw [if_pos c2] at h
    refine rn_eg qm 2 (s2 := (10, [], [.int (1 : Int32)], N, sl, rn_hp S M)) rfl ?_
    cases h
    exact rn_er qm rfl rfl rn_rt1
  · rw [if_neg c2] at h
    refine rn_eg qm 1 (s2 := (5, [(0, .ref a0)], [.ref a0], N, sl, rn_hp S M)) rfl ?_
    obtain ⟨p3, hp3, h⟩ := Option.bind_eq_some_iff.mp h
    refine rn_ec qm rfl rfl rfl rfl rn_m131 rfl rfl rfl (fun _ => rn_rc_of (en_3 k1)) (E131 hp3) ?_
    refine rn_eg qm 0 (s2 := (6, [(0, .ref a0)], [.int (rn_bi p3)], N, sl, rn_hp S M)) rfl ?_
    refine rn_eg qm 1 (s2 := ((if (rn_bi p3) = 0 then 9 else 7), [(0, .ref a0)], [], N, sl, rn_hp S M)) rfl ?_
    refine rn_iteb (fun c4 => ?_) (fun c4 => ?_)
    · rw [if_neg (rn_bf c4)] at h
      refine rn_eg qm 1 (s2 := (10, [(0, .ref a0)], [.int (0 : Int32)], N, sl, rn_hp S M)) rfl ?_
      cases h
      exact rn_er qm rfl rfl rn_rt0
    · rw [if_pos c4] at h
      refine rn_eg qm 2 (s2 := (10, [], [.int (1 : Int32)], N, sl, rn_hp S M)) rfl ?_
      cases h
      exact rn_er qm rfl rfl rn_rt1
/-! 132: RecordNiches$Node.admits(J)Z -/
def f132_J42 (S : rn_T) (u0 : Nat) (u1 : Int64) : Option Bool :=
  if (lg_cmp u1 (0 : Int64)) < 0 then
    some false
  else
    if 0 ≤ (lg_cmp u1 (Int32.toInt64 (rI S u0 10))) then
      some false
    else
      some true
set_option maxHeartbeats 4000000 in
theorem E132_J42 {X : rn_X} {N sl : Nat} {M : rn_T} {S : rn_T} {u0 : Nat} {u1 : Int64} {R : (Bool)} (hu0 : rn_kd u0 = 3) (h : f132_J42 S u0 u1 = some R) : rn_rv X 132 (42, [(0, .ref u0), (1, .long u1)], [], N, sl, rn_hp S M) (some (.int (rn_bi R)), N, sl, rn_hp S M) := by
  have qm := rn_m132
  unfold f132_J42 at h
  refine rn_eg qm 4 (s2 := ((if (lg_cmp u1 (0 : Int64)) < 0 then 54 else 46), [(0, .ref u0), (1, .long u1)], [], N, sl, rn_hp S M)) rfl ?_
  refine rn_ite (fun c9 => ?_) (fun c9 => ?_)
  · rw [if_pos c9] at h
    refine rn_eg qm 1 (s2 := (55, [], [.int (0 : Int32)], N, sl, rn_hp S M)) rfl ?_
    cases h
    exact rn_er qm rfl rfl rn_rt0
  · rw [if_neg c9] at h
    refine rn_eg qm 2 (s2 := (48, [(0, .ref u0), (1, .long u1)], [.ref u0, .long u1], N, sl, rn_hp S M)) rfl ?_
    refine rn_e1 qm (s2 := (49, [(0, .ref u0), (1, .long u1)], [.int (rI S u0 10), .long u1], N, sl, rn_hp S M)) (rn_g_getf rfl rfl (en_3 hu0) rfl) ?_
    refine rn_eg qm 3 (s2 := ((if 0 ≤ (lg_cmp u1 (Int32.toInt64 (rI S u0 10))) then 54 else 52), [(0, .ref u0), (1, .long u1)], [], N, sl, rn_hp S M)) rfl ?_
    refine rn_ite (fun c10 => ?_) (fun c10 => ?_)
    · rw [if_pos c10] at h
      refine rn_eg qm 1 (s2 := (55, [], [.int (0 : Int32)], N, sl, rn_hp S M)) rfl ?_
      cases h
      exact rn_er qm rfl rfl rn_rt0
    · rw [if_neg c10] at h
      refine rn_eg qm 2 (s2 := (55, [(0, .ref u0), (1, .long u1)], [.int (1 : Int32)], N, sl, rn_hp S M)) rfl ?_
      cases h
      exact rn_er qm rfl rfl rn_rt1
def f132 (S : rn_T) (a0 : Nat) (a1 : Int64) : Option Bool :=
  if rn_kd a0 = 3 then
    if (rI S a0 4) = (6 : Int32) then
      if (lg_cmp a1 (0 : Int64)) < 0 then
        some false
      else
        if 0 ≤ (lg_cmp a1 (Int32.toInt64 (rI S a0 1))) then
          some false
        else
          some true
    else
      if (rI S a0 4) = (4 : Int32) then
        if (lg_cmp a1 (1 : Int64)) < 0 then
          some false
        else
          if 0 < (lg_cmp a1 (4294967295 : Int64)) then
            some false
          else
            some true
      else
        if (rI S a0 4) = (2 : Int32) then
          f132_J42 S a0 a1
        else
          if (rI S a0 4) = (3 : Int32) then
            f132_J42 S a0 a1
          else
            if (lg_cmp a1 (0 : Int64)) < 0 then
              some false
            else
              if 0 ≤ (lg_cmp a1 ((1 : Int64) <<< (((8 : Int32) * (rI S a0 5)).toInt64 &&& 63))) then
                some false
              else
                some true
  else none
set_option maxHeartbeats 4000000 in
theorem E132 {X : rn_X} {N sl : Nat} {S M : rn_T} {a0 : Nat} {a1 : Int64} {R : (Bool)} (h : f132 S a0 a1 = some R) : rn_rv X 132 (0, [(0, .ref a0), (1, .long a1)], [], N, sl, rn_hp S M) (some (.int (rn_bi R)), N, sl, rn_hp S M) := by
  have qm := rn_m132
  unfold f132 at h
  refine rn_eg qm 1 (s2 := (1, [(0, .ref a0), (1, .long a1)], [.ref a0], N, sl, rn_hp S M)) rfl ?_
  have k1 : rn_kd a0 = 3 := Decidable.byContradiction fun c => by rw [if_neg c] at h; cases h
  rw [if_pos k1] at h
  refine rn_e1 qm (s2 := (2, [(0, .ref a0), (1, .long a1)], [.int (rI S a0 4)], N, sl, rn_hp S M)) (rn_g_getf rfl rfl (en_3 k1) rfl) ?_
  refine rn_eg qm 2 (s2 := ((if (rI S a0 4) = (6 : Int32) then 4 else 18), [(0, .ref a0), (1, .long a1)], [], N, sl, rn_hp S M)) rfl ?_
  refine rn_ite (fun c2 => ?_) (fun c2 => ?_)
  · rw [if_pos c2] at h
    refine rn_eg qm 4 (s2 := ((if (lg_cmp a1 (0 : Int64)) < 0 then 16 else 8), [(0, .ref a0), (1, .long a1)], [], N, sl, rn_hp S M)) rfl ?_
    refine rn_ite (fun c3 => ?_) (fun c3 => ?_)
    · rw [if_pos c3] at h
      refine rn_eg qm 1 (s2 := (17, [], [.int (0 : Int32)], N, sl, rn_hp S M)) rfl ?_
      cases h
      exact rn_er qm rfl rfl rn_rt0
    · rw [if_neg c3] at h
      refine rn_eg qm 2 (s2 := (10, [(0, .ref a0), (1, .long a1)], [.ref a0, .long a1], N, sl, rn_hp S M)) rfl ?_
      refine rn_e1 qm (s2 := (11, [(0, .ref a0), (1, .long a1)], [.int (rI S a0 1), .long a1], N, sl, rn_hp S M)) (rn_g_getf rfl rfl (en_3 k1) rfl) ?_
      refine rn_eg qm 3 (s2 := ((if 0 ≤ (lg_cmp a1 (Int32.toInt64 (rI S a0 1))) then 16 else 14), [(0, .ref a0), (1, .long a1)], [], N, sl, rn_hp S M)) rfl ?_
      refine rn_ite (fun c4 => ?_) (fun c4 => ?_)
      · rw [if_pos c4] at h
        refine rn_eg qm 1 (s2 := (17, [], [.int (0 : Int32)], N, sl, rn_hp S M)) rfl ?_
        cases h
        exact rn_er qm rfl rfl rn_rt0
      · rw [if_neg c4] at h
        refine rn_eg qm 2 (s2 := (17, [(0, .ref a0), (1, .long a1)], [.int (1 : Int32)], N, sl, rn_hp S M)) rfl ?_
        cases h
        exact rn_er qm rfl rfl rn_rt1
  · rw [if_neg c2] at h
    refine rn_eg qm 1 (s2 := (19, [(0, .ref a0), (1, .long a1)], [.ref a0], N, sl, rn_hp S M)) rfl ?_
    refine rn_e1 qm (s2 := (20, [(0, .ref a0), (1, .long a1)], [.int (rI S a0 4)], N, sl, rn_hp S M)) (rn_g_getf rfl rfl (en_3 k1) rfl) ?_
    refine rn_eg qm 2 (s2 := ((if (rI S a0 4) = (4 : Int32) then 22 else 34), [(0, .ref a0), (1, .long a1)], [], N, sl, rn_hp S M)) rfl ?_
    refine rn_ite (fun c5 => ?_) (fun c5 => ?_)
    · rw [if_pos c5] at h
      refine rn_eg qm 4 (s2 := ((if (lg_cmp a1 (1 : Int64)) < 0 then 32 else 26), [(0, .ref a0), (1, .long a1)], [], N, sl, rn_hp S M)) rfl ?_
      refine rn_ite (fun c6 => ?_) (fun c6 => ?_)
      · rw [if_pos c6] at h
        refine rn_eg qm 1 (s2 := (33, [], [.int (0 : Int32)], N, sl, rn_hp S M)) rfl ?_
        cases h
        exact rn_er qm rfl rfl rn_rt0
      · rw [if_neg c6] at h
        refine rn_eg qm 4 (s2 := ((if 0 < (lg_cmp a1 (4294967295 : Int64)) then 32 else 30), [(0, .ref a0), (1, .long a1)], [], N, sl, rn_hp S M)) rfl ?_
        refine rn_ite (fun c7 => ?_) (fun c7 => ?_)
        · rw [if_pos c7] at h
          refine rn_eg qm 1 (s2 := (33, [], [.int (0 : Int32)], N, sl, rn_hp S M)) rfl ?_
          cases h
          exact rn_er qm rfl rfl rn_rt0
        · rw [if_neg c7] at h
          refine rn_eg qm 2 (s2 := (33, [(0, .ref a0), (1, .long a1)], [.int (1 : Int32)], N, sl, rn_hp S M)) rfl ?_
          cases h
          exact rn_er qm rfl rfl rn_rt1
    · rw [if_neg c5] at h
      refine rn_eg qm 1 (s2 := (35, [(0, .ref a0), (1, .long a1)], [.ref a0], N, sl, rn_hp S M)) rfl ?_
      refine rn_e1 qm (s2 := (36, [(0, .ref a0), (1, .long a1)], [.int (rI S a0 4)], N, sl, rn_hp S M)) (rn_g_getf rfl rfl (en_3 k1) rfl) ?_
      refine rn_eg qm 2 (s2 := ((if (rI S a0 4) = (2 : Int32) then 42 else 38), [(0, .ref a0), (1, .long a1)], [], N, sl, rn_hp S M)) rfl ?_
      refine rn_ite (fun c8 => ?_) (fun c8 => ?_)
      · rw [if_pos c8] at h
        refine rn_kq qm (s2 := (42, [(0, .ref a0), (1, .long a1)], [], N, sl, rn_hp S M)) rfl rfl ?_
        exact E132_J42 k1 h
      · rw [if_neg c8] at h
        refine rn_eg qm 1 (s2 := (39, [(0, .ref a0), (1, .long a1)], [.ref a0], N, sl, rn_hp S M)) rfl ?_
        refine rn_e1 qm (s2 := (40, [(0, .ref a0), (1, .long a1)], [.int (rI S a0 4)], N, sl, rn_hp S M)) (rn_g_getf rfl rfl (en_3 k1) rfl) ?_
        refine rn_eg qm 2 (s2 := ((if (rI S a0 4) = (3 : Int32) then 42 else 56), [(0, .ref a0), (1, .long a1)], [], N, sl, rn_hp S M)) rfl ?_
        refine rn_ite (fun c11 => ?_) (fun c11 => ?_)
        · rw [if_pos c11] at h
          refine rn_kq qm (s2 := (42, [(0, .ref a0), (1, .long a1)], [], N, sl, rn_hp S M)) rfl rfl ?_
          exact E132_J42 k1 h
        · rw [if_neg c11] at h
          refine rn_eg qm 4 (s2 := ((if (lg_cmp a1 (0 : Int64)) < 0 then 71 else 60), [(0, .ref a0), (1, .long a1)], [], N, sl, rn_hp S M)) rfl ?_
          refine rn_ite (fun c12 => ?_) (fun c12 => ?_)
          · rw [if_pos c12] at h
            refine rn_eg qm 1 (s2 := (72, [], [.int (0 : Int32)], N, sl, rn_hp S M)) rfl ?_
            cases h
            exact rn_er qm rfl rfl rn_rt0
          · rw [if_neg c12] at h
            refine rn_eg qm 4 (s2 := (64, [(0, .ref a0), (1, .long a1)], [.ref a0, .int (8 : Int32), .long (1 : Int64), .long a1], N, sl, rn_hp S M)) rfl ?_
            refine rn_e1 qm (s2 := (65, [(0, .ref a0), (1, .long a1)], [.int (rI S a0 5), .int (8 : Int32), .long (1 : Int64), .long a1], N, sl, rn_hp S M)) (rn_g_getf rfl rfl (en_3 k1) rfl) ?_
            refine rn_eg qm 4 (s2 := ((if 0 ≤ (lg_cmp a1 ((1 : Int64) <<< (((8 : Int32) * (rI S a0 5)).toInt64 &&& 63))) then 71 else 69), [(0, .ref a0), (1, .long a1)], [], N, sl, rn_hp S M)) rfl ?_
            refine rn_ite (fun c13 => ?_) (fun c13 => ?_)
            · rw [if_pos c13] at h
              refine rn_eg qm 1 (s2 := (72, [], [.int (0 : Int32)], N, sl, rn_hp S M)) rfl ?_
              cases h
              exact rn_er qm rfl rfl rn_rt0
            · rw [if_neg c13] at h
              refine rn_eg qm 2 (s2 := (72, [(0, .ref a0), (1, .long a1)], [.int (1 : Int32)], N, sl, rn_hp S M)) rfl ?_
              cases h
              exact rn_er qm rfl rfl rn_rt1
/-! 152: RecordNiches$Transfer.keep(LRecordNiches$Node;J)V -/
def f152 (S : rn_T) (a1 : Nat) (a2 : Int64) : Option (rn_T) :=
  if (rI S 276 1) < (100 : Int32) then
    if rn_ob (rI S 276 1) 100 then none else
      if rn_kd a1 = 3 then
        if (rI (wI (wL S 277 (Int32.toNatClampNeg (rI S 276 1)) a2) 276 1 ((rI (wL S 277 (Int32.toNatClampNeg (rI S 276 1)) a2) 276 1) + (1 : Int32))) a1 4) = (6 : Int32) then
          some (wI (wI (wL S 277 (Int32.toNatClampNeg (rI S 276 1)) a2) 276 1 ((rI (wL S 277 (Int32.toNatClampNeg (rI S 276 1)) a2) 276 1) + (1 : Int32))) a1 16 (Int64.toInt32 a2))
        else
          some (wI (wL S 277 (Int32.toNatClampNeg (rI S 276 1)) a2) 276 1 ((rI (wL S 277 (Int32.toNatClampNeg (rI S 276 1)) a2) 276 1) + (1 : Int32)))
      else none
  else
    some (S)
set_option maxHeartbeats 4000000 in
theorem E152 {X : rn_X} {N sl : Nat} {S M : rn_T} {a1 : Nat} {a2 : Int64} {R : (rn_T)} (h : f152 S a1 a2 = some R) : rn_rv X 152 (0, [(0, .ref 276), (1, .ref a1), (2, .long a2)], [], N, sl, rn_hp S M) (none, N, sl, rn_hp R M) := by
  have qm := rn_m152
  unfold f152 at h
  refine rn_eg qm 4 (s2 := ((if (rI S 276 1) < (100 : Int32) then 5 else 4), [(0, .ref 276), (1, .ref a1), (2, .long a2)], [], N, sl, rn_hp S M)) rfl ?_
  refine rn_ite (fun c1 => ?_) (fun c1 => ?_)
  · rw [if_pos c1] at h
    refine rn_eg qm 5 (s2 := (10, [(0, .ref 276), (1, .ref a1), (2, .long a2)], [.long a2, .int (rI S 276 1), .ref 277], N, sl, rn_hp S M)) rfl ?_
    have c2 : ¬ (rn_ob (rI S 276 1) 100) := fun c => by rw [if_pos c] at h; cases h
    rw [if_neg c2] at h
    refine rn_e1 qm (s2 := (11, [(0, .ref 276), (1, .ref a1), (2, .long a2)], [], N, sl, rn_hp (wL S 277 (Int32.toNatClampNeg (rI S 276 1)) a2) M)) (rn_g_last (n := 100) rfl rfl (ar_x11 rfl rfl (Nat.le_of_ble_eq_true rfl)) c2 (aw_x11 rfl rfl (Nat.le_of_ble_eq_true rfl))) ?_
    refine rn_eg qm 5 (s2 := (16, [(0, .ref 276), (1, .ref a1), (2, .long a2)], [.int ((rI (wL S 277 (Int32.toNatClampNeg (rI S 276 1)) a2) 276 1) + (1 : Int32)), .ref 276], N, sl, rn_hp (wL S 277 (Int32.toNatClampNeg (rI S 276 1)) a2) M)) rfl ?_
    refine rn_e1 qm (s2 := (17, [(0, .ref 276), (1, .ref a1), (2, .long a2)], [], N, sl, rn_hp (wI (wL S 277 (Int32.toNatClampNeg (rI S 276 1)) a2) 276 1 ((rI (wL S 277 (Int32.toNatClampNeg (rI S 276 1)) a2) 276 1) + (1 : Int32))) M)) (rn_g_putf rfl rfl (en_6 rfl) rfl rfl rfl (wf_6_1 (v := ((rI (wL S 277 (Int32.toNatClampNeg (rI S 276 1)) a2) 276 1) + (1 : Int32))) rfl)) ?_
    refine rn_eg qm 1 (s2 := (18, [(0, .ref 276), (1, .ref a1), (2, .long a2)], [.ref a1], N, sl, rn_hp (wI (wL S 277 (Int32.toNatClampNeg (rI S 276 1)) a2) 276 1 ((rI (wL S 277 (Int32.toNatClampNeg (rI S 276 1)) a2) 276 1) + (1 : Int32))) M)) rfl ?_
    have k3 : rn_kd a1 = 3 := Decidable.byContradiction fun c => by rw [if_neg c] at h; cases h
    rw [if_pos k3] at h
    refine rn_e1 qm (s2 := (19, [(0, .ref 276), (1, .ref a1), (2, .long a2)], [.int (rI (wI (wL S 277 (Int32.toNatClampNeg (rI S 276 1)) a2) 276 1 ((rI (wL S 277 (Int32.toNatClampNeg (rI S 276 1)) a2) 276 1) + (1 : Int32))) a1 4)], N, sl, rn_hp (wI (wL S 277 (Int32.toNatClampNeg (rI S 276 1)) a2) 276 1 ((rI (wL S 277 (Int32.toNatClampNeg (rI S 276 1)) a2) 276 1) + (1 : Int32))) M)) (rn_g_getf rfl rfl (en_3 k3) rfl) ?_
    refine rn_eg qm 2 (s2 := ((if (rI (wI (wL S 277 (Int32.toNatClampNeg (rI S 276 1)) a2) 276 1 ((rI (wL S 277 (Int32.toNatClampNeg (rI S 276 1)) a2) 276 1) + (1 : Int32))) a1 4) = (6 : Int32) then 21 else 25), [(0, .ref 276), (1, .ref a1), (2, .long a2)], [], N, sl, rn_hp (wI (wL S 277 (Int32.toNatClampNeg (rI S 276 1)) a2) 276 1 ((rI (wL S 277 (Int32.toNatClampNeg (rI S 276 1)) a2) 276 1) + (1 : Int32))) M)) rfl ?_
    refine rn_ite (fun c4 => ?_) (fun c4 => ?_)
    · rw [if_pos c4] at h
      refine rn_eg qm 3 (s2 := (24, [(0, .ref 276), (1, .ref a1), (2, .long a2)], [.int (Int64.toInt32 a2), .ref a1], N, sl, rn_hp (wI (wL S 277 (Int32.toNatClampNeg (rI S 276 1)) a2) 276 1 ((rI (wL S 277 (Int32.toNatClampNeg (rI S 276 1)) a2) 276 1) + (1 : Int32))) M)) rfl ?_
      refine rn_e1 qm (s2 := (25, [(0, .ref 276), (1, .ref a1), (2, .long a2)], [], N, sl, rn_hp (wI (wI (wL S 277 (Int32.toNatClampNeg (rI S 276 1)) a2) 276 1 ((rI (wL S 277 (Int32.toNatClampNeg (rI S 276 1)) a2) 276 1) + (1 : Int32))) a1 16 (Int64.toInt32 a2)) M)) (rn_g_putf rfl rfl (en_3 k3) rfl rfl rfl (wf_3_16 (v := (Int64.toInt32 a2)) k3)) ?_
      cases h
      exact rn_er qm rfl rfl rfl
    · rw [if_neg c4] at h
      cases h
      exact rn_er qm rfl rfl rfl
  · rw [if_neg c1] at h
    cases h
    exact rn_er qm rfl rfl rfl
/-! 145: RecordNiches$Transfer.accepts(LRecordNiches$Tree;LRecordNiches$Holding;)Z -/
def f145_L5 (b2 : Nat) : Nat → rn_T → Int32 → (rn_T → Option (Bool × rn_T)) → Option (Bool × rn_T)
  | 0, _, _, _ => none
  | fu + 1, S, v3, k =>
    if (rI S 66 0) ≤ v3 then
      k S
    else
      Option.bind (f155 S v3) fun p2 =>
        Option.bind (f150 S p2) fun p3 =>
          if rn_kd p2 = 3 then
            if (rI (wI S p2 17 (rn_bi p3)) p2 17) = 0 then
              f145_L5 b2 fu (wI S p2 17 (rn_bi p3)) (v3 + (1 : Int32)) k
            else
              Option.bind (f151 (wI S p2 17 (rn_bi p3)) p2) fun p6 =>
                if p6 = true then
                  if rn_kd b2 = 1 then
                    if (rI (wI S p2 17 (rn_bi p3)) b2 3) ≤ (rI (wI S p2 17 (rn_bi p3)) 276 1) then
                      some (false, wI S p2 17 (rn_bi p3))
                    else
                      if rn_ob (rI (wI S p2 17 (rn_bi p3)) 276 1) 60 then none else
                        Option.bind (f132 (wI S p2 17 (rn_bi p3)) p2 (rL (wI S p2 17 (rn_bi p3)) (b2 + 2) (Int32.toNatClampNeg (rI (wI S p2 17 (rn_bi p3)) 276 1)))) fun p11 =>
                          if p11 = true then
                            Option.bind (f152 (wI S p2 17 (rn_bi p3)) p2 (rL (wI S p2 17 (rn_bi p3)) (b2 + 2) (Int32.toNatClampNeg (rI (wI S p2 17 (rn_bi p3)) 276 1)))) fun p13 =>
                              f145_L5 b2 fu p13 (v3 + (1 : Int32)) k
                          else
                            some (false, wI S p2 17 (rn_bi p3))
                  else none
                else
                  f145_L5 b2 fu (wI S p2 17 (rn_bi p3)) (v3 + (1 : Int32)) k
          else none
set_option maxHeartbeats 4000000 in
theorem E145_L5 {X : rn_X} {N sl : Nat} {M : rn_T} {b2 : Nat} : ∀ (fu : Nat) (S : rn_T) (v3 : Int32) (k : (rn_T → Option (Bool × rn_T))) (R : (Bool × rn_T)), (∀ (S : rn_T), k S = some R → rn_rv X 145 (49, [(0, .ref 276), (2, .ref b2)], [], N, sl, rn_hp S M) (some (.int (rn_bi R.1)), N, sl, rn_hp R.2 M)) → f145_L5 b2 fu S v3 k = some R → rn_rv X 145 (5, [(0, .ref 276), (1, .ref 66), (2, .ref b2), (3, .int v3)], [], N, sl, rn_hp S M) (some (.int (rn_bi R.1)), N, sl, rn_hp R.2 M) := by
  have qm := rn_m145
  intro fu
  induction fu with
  | zero => intro S v3 k R hk h; cases h
  | succ fu ih =>
    intro S v3 k R hk h
    unfold f145_L5 at h
    refine rn_eg qm 4 (s2 := ((if (rI S 66 0) ≤ v3 then 49 else 9), [(0, .ref 276), (1, .ref 66), (2, .ref b2), (3, .int v3)], [], N, sl, rn_hp S M)) rfl ?_
    refine rn_ite (fun c1 => ?_) (fun c1 => ?_)
    · rw [if_pos c1] at h
      refine rn_kq qm (s2 := (49, [(0, .ref 276), (2, .ref b2)], [], N, sl, rn_hp S M)) rfl rfl ?_
      exact hk _ h
    · rw [if_neg c1] at h
      refine rn_eg qm 2 (s2 := (11, [(0, .ref 276), (1, .ref 66), (2, .ref b2), (3, .int v3)], [.int v3, .ref 66], N, sl, rn_hp S M)) rfl ?_
      obtain ⟨p2, hp2, h⟩ := Option.bind_eq_some_iff.mp h
      refine rn_ec qm rfl rfl rfl rfl rn_m155 rfl rfl rfl (fun _ => rn_rc_of (en_7 (q := 66) rfl)) (E155 hp2) ?_
      refine rn_eg qm 0 (s2 := (12, [(0, .ref 276), (1, .ref 66), (2, .ref b2), (3, .int v3)], [.ref p2], N, sl, rn_hp S M)) rfl ?_
      refine rn_eg qm 3 (s2 := (15, [(4, .ref p2), (0, .ref 276), (1, .ref 66), (2, .ref b2), (3, .int v3)], [.ref p2, .ref p2], N, sl, rn_hp S M)) rfl ?_
      obtain ⟨p3, hp3, h⟩ := Option.bind_eq_some_iff.mp h
      refine rn_ec qm rfl rfl rfl rfl rn_m150 rfl rfl rfl (fun h => by cases h) (E150 hp3) ?_
      refine rn_eg qm 0 (s2 := (16, [(4, .ref p2), (0, .ref 276), (1, .ref 66), (2, .ref b2), (3, .int v3)], [.int (rn_bi p3), .ref p2], N, sl, rn_hp S M)) rfl ?_
      have k4 : rn_kd p2 = 3 := Decidable.byContradiction fun c => by rw [if_neg c] at h; cases h
      rw [if_pos k4] at h
      refine rn_e1 qm (s2 := (17, [(4, .ref p2), (0, .ref 276), (1, .ref 66), (2, .ref b2), (3, .int v3)], [], N, sl, rn_hp (wI S p2 17 (rn_bi p3)) M)) (rn_g_putf rfl rfl (en_3 k4) (rn_tyb _) rfl rfl (wf_3_17 (v := (rn_bi p3)) k4)) ?_
      refine rn_eg qm 1 (s2 := (18, [(4, .ref p2), (0, .ref 276), (1, .ref 66), (2, .ref b2), (3, .int v3)], [.ref p2], N, sl, rn_hp (wI S p2 17 (rn_bi p3)) M)) rfl ?_
      refine rn_e1 qm (s2 := (19, [(4, .ref p2), (0, .ref 276), (1, .ref 66), (2, .ref b2), (3, .int v3)], [.int (rI (wI S p2 17 (rn_bi p3)) p2 17)], N, sl, rn_hp (wI S p2 17 (rn_bi p3)) M)) (rn_g_getf rfl rfl (en_3 k4) rfl) ?_
      refine rn_eg qm 1 (s2 := ((if (rI (wI S p2 17 (rn_bi p3)) p2 17) = 0 then 47 else 20), [(4, .ref p2), (0, .ref 276), (1, .ref 66), (2, .ref b2), (3, .int v3)], [], N, sl, rn_hp (wI S p2 17 (rn_bi p3)) M)) rfl ?_
      refine rn_ite (fun c5 => ?_) (fun c5 => ?_)
      · rw [if_pos c5] at h
        refine rn_eg qm 2 (s2 := (5, [(3, .int (v3 + (1 : Int32))), (0, .ref 276), (1, .ref 66), (2, .ref b2)], [], N, sl, rn_hp (wI S p2 17 (rn_bi p3)) M)) rfl ?_
        refine rn_kq qm (s2 := (5, [(0, .ref 276), (1, .ref 66), (2, .ref b2), (3, .int (v3 + (1 : Int32)))], [], N, sl, rn_hp (wI S p2 17 (rn_bi p3)) M)) rfl rfl ?_
        exact ih _ _ k R hk h
      · rw [if_neg c5] at h
        refine rn_eg qm 1 (s2 := (21, [(4, .ref p2), (0, .ref 276), (1, .ref 66), (2, .ref b2), (3, .int v3)], [.ref p2], N, sl, rn_hp (wI S p2 17 (rn_bi p3)) M)) rfl ?_
        obtain ⟨p6, hp6, h⟩ := Option.bind_eq_some_iff.mp h
        refine rn_ec qm rfl rfl rfl rfl rn_m151 rfl rfl rfl (fun h => by cases h) (E151 hp6) ?_
        refine rn_eg qm 0 (s2 := (22, [(4, .ref p2), (0, .ref 276), (1, .ref 66), (2, .ref b2), (3, .int v3)], [.int (rn_bi p6)], N, sl, rn_hp (wI S p2 17 (rn_bi p3)) M)) rfl ?_
        refine rn_eg qm 1 (s2 := ((if (rn_bi p6) = 0 then 23 else 24), [(4, .ref p2), (0, .ref 276), (1, .ref 66), (2, .ref b2), (3, .int v3)], [], N, sl, rn_hp (wI S p2 17 (rn_bi p3)) M)) rfl ?_
        refine rn_iteb (fun c7 => ?_) (fun c7 => ?_)
        · rw [if_neg (rn_bf c7)] at h
          refine rn_eg qm 3 (s2 := (5, [(3, .int (v3 + (1 : Int32))), (0, .ref 276), (1, .ref 66), (2, .ref b2)], [], N, sl, rn_hp (wI S p2 17 (rn_bi p3)) M)) rfl ?_
          refine rn_kq qm (s2 := (5, [(0, .ref 276), (1, .ref 66), (2, .ref b2), (3, .int (v3 + (1 : Int32)))], [], N, sl, rn_hp (wI S p2 17 (rn_bi p3)) M)) rfl rfl ?_
          exact ih _ _ k R hk h
        · rw [if_pos c7] at h
          refine rn_eg qm 3 (s2 := (27, [(4, .ref p2), (0, .ref 276), (1, .ref 66), (2, .ref b2), (3, .int v3)], [.ref b2, .int (rI (wI S p2 17 (rn_bi p3)) 276 1)], N, sl, rn_hp (wI S p2 17 (rn_bi p3)) M)) rfl ?_
          have k8 : rn_kd b2 = 1 := Decidable.byContradiction fun c => by rw [if_neg c] at h; cases h
          rw [if_pos k8] at h
          refine rn_e1 qm (s2 := (28, [(4, .ref p2), (0, .ref 276), (1, .ref 66), (2, .ref b2), (3, .int v3)], [.int (rI (wI S p2 17 (rn_bi p3)) b2 3), .int (rI (wI S p2 17 (rn_bi p3)) 276 1)], N, sl, rn_hp (wI S p2 17 (rn_bi p3)) M)) (rn_g_getf rfl rfl (en_1 k8) rfl) ?_
          refine rn_eg qm 1 (s2 := ((if (rI (wI S p2 17 (rn_bi p3)) b2 3) ≤ (rI (wI S p2 17 (rn_bi p3)) 276 1) then 37 else 29), [(4, .ref p2), (0, .ref 276), (1, .ref 66), (2, .ref b2), (3, .int v3)], [], N, sl, rn_hp (wI S p2 17 (rn_bi p3)) M)) rfl ?_
          refine rn_ite (fun c9 => ?_) (fun c9 => ?_)
          · rw [if_pos c9] at h
            refine rn_eg qm 1 (s2 := (38, [], [.int (0 : Int32)], N, sl, rn_hp (wI S p2 17 (rn_bi p3)) M)) rfl ?_
            cases h
            exact rn_er qm rfl rfl rn_rt0
          · rw [if_neg c9] at h
            refine rn_eg qm 2 (s2 := (31, [(4, .ref p2), (0, .ref 276), (1, .ref 66), (2, .ref b2), (3, .int v3)], [.ref b2, .ref p2], N, sl, rn_hp (wI S p2 17 (rn_bi p3)) M)) rfl ?_
            refine rn_e1 qm (s2 := (32, [(4, .ref p2), (0, .ref 276), (1, .ref 66), (2, .ref b2), (3, .int v3)], [.ref (b2 + 2), .ref p2], N, sl, rn_hp (wI S p2 17 (rn_bi p3)) M)) (rn_g_getf rfl rfl (en_1 k8) rfl) ?_
            refine rn_eg qm 2 (s2 := (34, [(4, .ref p2), (0, .ref 276), (1, .ref 66), (2, .ref b2), (3, .int v3)], [.int (rI (wI S p2 17 (rn_bi p3)) 276 1), .ref (b2 + 2), .ref p2], N, sl, rn_hp (wI S p2 17 (rn_bi p3)) M)) rfl ?_
            have c10 : ¬ (rn_ob (rI (wI S p2 17 (rn_bi p3)) 276 1) 60) := fun c => by rw [if_pos c] at h; cases h
            rw [if_neg c10] at h
            refine rn_e1 qm (s2 := (35, [(4, .ref p2), (0, .ref 276), (1, .ref 66), (2, .ref b2), (3, .int v3)], [.long (rL (wI S p2 17 (rn_bi p3)) (b2 + 2) (Int32.toNatClampNeg (rI (wI S p2 17 (rn_bi p3)) 276 1))), .ref p2], N, sl, rn_hp (wI S p2 17 (rn_bi p3)) M)) (rn_g_lald (n := 60) rfl rfl (ar_x11 (ko_1_1 k8).1 (ko_1_1 k8).2.1 (ko_1_1 k8).2.2) c10) ?_
            obtain ⟨p11, hp11, h⟩ := Option.bind_eq_some_iff.mp h
            refine rn_ec qm rfl rfl rfl rfl rn_m132 rfl rfl rfl (fun _ => rn_rc_of (en_3 k4)) (E132 hp11) ?_
            refine rn_eg qm 0 (s2 := (36, [(4, .ref p2), (0, .ref 276), (1, .ref 66), (2, .ref b2), (3, .int v3)], [.int (rn_bi p11)], N, sl, rn_hp (wI S p2 17 (rn_bi p3)) M)) rfl ?_
            refine rn_eg qm 1 (s2 := ((if (rn_bi p11) = 0 then 37 else 39), [(4, .ref p2), (0, .ref 276), (1, .ref 66), (2, .ref b2), (3, .int v3)], [], N, sl, rn_hp (wI S p2 17 (rn_bi p3)) M)) rfl ?_
            refine rn_iteb (fun c12 => ?_) (fun c12 => ?_)
            · rw [if_neg (rn_bf c12)] at h
              refine rn_eg qm 1 (s2 := (38, [], [.int (0 : Int32)], N, sl, rn_hp (wI S p2 17 (rn_bi p3)) M)) rfl ?_
              cases h
              exact rn_er qm rfl rfl rn_rt0
            · rw [if_pos c12] at h
              refine rn_eg qm 3 (s2 := (42, [(4, .ref p2), (0, .ref 276), (1, .ref 66), (2, .ref b2), (3, .int v3)], [.ref b2, .ref p2, .ref 276], N, sl, rn_hp (wI S p2 17 (rn_bi p3)) M)) rfl ?_
              refine rn_e1 qm (s2 := (43, [(4, .ref p2), (0, .ref 276), (1, .ref 66), (2, .ref b2), (3, .int v3)], [.ref (b2 + 2), .ref p2, .ref 276], N, sl, rn_hp (wI S p2 17 (rn_bi p3)) M)) (rn_g_getf rfl rfl (en_1 k8) rfl) ?_
              refine rn_eg qm 2 (s2 := (45, [(4, .ref p2), (0, .ref 276), (1, .ref 66), (2, .ref b2), (3, .int v3)], [.int (rI (wI S p2 17 (rn_bi p3)) 276 1), .ref (b2 + 2), .ref p2, .ref 276], N, sl, rn_hp (wI S p2 17 (rn_bi p3)) M)) rfl ?_
              refine rn_e1 qm (s2 := (46, [(4, .ref p2), (0, .ref 276), (1, .ref 66), (2, .ref b2), (3, .int v3)], [.long (rL (wI S p2 17 (rn_bi p3)) (b2 + 2) (Int32.toNatClampNeg (rI (wI S p2 17 (rn_bi p3)) 276 1))), .ref p2, .ref 276], N, sl, rn_hp (wI S p2 17 (rn_bi p3)) M)) (rn_g_lald (n := 60) rfl rfl (ar_x11 (ko_1_1 k8).1 (ko_1_1 k8).2.1 (ko_1_1 k8).2.2) c10) ?_
              obtain ⟨p13, hp13, h⟩ := Option.bind_eq_some_iff.mp h
              refine rn_ec qm rfl rfl rfl rfl rn_m152 rfl rfl rfl (fun _ => rn_rc_of (en_6 (q := 276) rfl)) (E152 hp13) ?_
              refine rn_eg qm 0 (s2 := (47, [(4, .ref p2), (0, .ref 276), (1, .ref 66), (2, .ref b2), (3, .int v3)], [], N, sl, rn_hp p13 M)) rfl ?_
              refine rn_eg qm 2 (s2 := (5, [(3, .int (v3 + (1 : Int32))), (0, .ref 276), (1, .ref 66), (2, .ref b2)], [], N, sl, rn_hp p13 M)) rfl ?_
              refine rn_kq qm (s2 := (5, [(0, .ref 276), (1, .ref 66), (2, .ref b2), (3, .int (v3 + (1 : Int32)))], [], N, sl, rn_hp p13 M)) rfl rfl ?_
              exact ih _ _ k R hk h
def f145 (S : rn_T) (a2 : Nat) : Option (Bool × rn_T) :=
  f145_L5 a2 rn_FU (wI S 276 1 (0 : Int32)) (0 : Int32) (fun S14 =>
    if rn_kd a2 = 1 then
      if (rI S14 276 1) = (rI S14 a2 3) then
        some (true, S14)
      else
        some (false, S14)
    else none)
set_option maxHeartbeats 4000000 in
theorem E145 {X : rn_X} {N sl : Nat} {S M : rn_T} {a2 : Nat} {R : (Bool × rn_T)} (h : f145 S a2 = some R) : rn_rv X 145 (0, [(0, .ref 276), (1, .ref 66), (2, .ref a2)], [], N, sl, rn_hp S M) (some (.int (rn_bi R.1)), N, sl, rn_hp R.2 M) := by
  have qm := rn_m145
  unfold f145 at h
  refine rn_eg qm 2 (s2 := (2, [(0, .ref 276), (1, .ref 66), (2, .ref a2)], [.int (0 : Int32), .ref 276], N, sl, rn_hp S M)) rfl ?_
  refine rn_e1 qm (s2 := (3, [(0, .ref 276), (1, .ref 66), (2, .ref a2)], [], N, sl, rn_hp (wI S 276 1 (0 : Int32)) M)) (rn_g_putf rfl rfl (en_6 rfl) rfl rfl rfl (wf_6_1 (v := (0 : Int32)) rfl)) ?_
  refine rn_eg qm 2 (s2 := (5, [(3, .int (0 : Int32)), (0, .ref 276), (1, .ref 66), (2, .ref a2)], [], N, sl, rn_hp (wI S 276 1 (0 : Int32)) M)) rfl ?_
  refine rn_kq qm (s2 := (5, [(0, .ref 276), (1, .ref 66), (2, .ref a2), (3, .int (0 : Int32))], [], N, sl, rn_hp (wI S 276 1 (0 : Int32)) M)) rfl rfl ?_
  refine E145_L5 rn_FU _ _ _ R ?_ h
  intro S14 h
  refine rn_eg qm 3 (s2 := (52, [(0, .ref 276), (2, .ref a2)], [.ref a2, .int (rI S14 276 1)], N, sl, rn_hp S14 M)) rfl ?_
  have k15 : rn_kd a2 = 1 := Decidable.byContradiction fun c => by rw [if_neg c] at h; cases h
  rw [if_pos k15] at h
  refine rn_e1 qm (s2 := (53, [(0, .ref 276), (2, .ref a2)], [.int (rI S14 a2 3), .int (rI S14 276 1)], N, sl, rn_hp S14 M)) (rn_g_getf rfl rfl (en_1 k15) rfl) ?_
  refine rn_eg qm 1 (s2 := ((if (rI S14 276 1) = (rI S14 a2 3) then 54 else 56), [(0, .ref 276), (2, .ref a2)], [], N, sl, rn_hp S14 M)) rfl ?_
  refine rn_ite (fun c16 => ?_) (fun c16 => ?_)
  · rw [if_pos c16] at h
    refine rn_eg qm 2 (s2 := (57, [(0, .ref 276), (2, .ref a2)], [.int (1 : Int32)], N, sl, rn_hp S14 M)) rfl ?_
    cases h
    exact rn_er qm rfl rfl rn_rt1
  · rw [if_neg c16] at h
    refine rn_eg qm 1 (s2 := (57, [(0, .ref 276), (2, .ref a2)], [.int (0 : Int32)], N, sl, rn_hp S14 M)) rfl ?_
    cases h
    exact rn_er qm rfl rfl rn_rt0
/-! 116: RecordNiches$Holding.putNumber(IIJ)V -/
def f116_L2 (b0 : Nat) (b1 : Int32) (b2 : Int32) (b3 : Int64) : Nat → rn_T → Int32 → (rn_T → Option (rn_T)) → Option (rn_T)
  | 0, _, _, _ => none
  | fu + 1, S, v5, k =>
    if b2 ≤ v5 then
      k S
    else
      if (b1 + v5) < 0 then
        f116_L2 b0 b1 b2 b3 fu S (v5 + (1 : Int32)) k
      else
        if (96 : Int32) ≤ (b1 + v5) then
          f116_L2 b0 b1 b2 b3 fu S (v5 + (1 : Int32)) k
        else
          if rn_kd b0 = 1 then
            if rn_ob (b1 + v5) 96 then none else
              f116_L2 b0 b1 b2 b3 fu (wA S (b0 + 3) (Int32.toNatClampNeg (b1 + v5)) ((Int64.toInt32 (b3 >>> (((8 : Int32) * v5).toInt64 &&& 63))) &&& (255 : Int32))) (v5 + (1 : Int32)) k
          else none
set_option maxHeartbeats 4000000 in
theorem E116_L2 {X : rn_X} {N sl : Nat} {M : rn_T} {b0 : Nat} {b1 : Int32} {b2 : Int32} {b3 : Int64} : ∀ (fu : Nat) (S : rn_T) (v5 : Int32) (k : (rn_T → Option (rn_T))) (R : (rn_T)), (∀ (S : rn_T), k S = some R → rn_rv X 116 (28, [], [], N, sl, rn_hp S M) (none, N, sl, rn_hp R M)) → f116_L2 b0 b1 b2 b3 fu S v5 k = some R → rn_rv X 116 (2, [(0, .ref b0), (1, .int b1), (2, .int b2), (3, .long b3), (5, .int v5)], [], N, sl, rn_hp S M) (none, N, sl, rn_hp R M) := by
  have qm := rn_m116
  intro fu
  induction fu with
  | zero => intro S v5 k R hk h; cases h
  | succ fu ih =>
    intro S v5 k R hk h
    unfold f116_L2 at h
    refine rn_eg qm 3 (s2 := ((if b2 ≤ v5 then 28 else 5), [(0, .ref b0), (1, .int b1), (2, .int b2), (3, .long b3), (5, .int v5)], [], N, sl, rn_hp S M)) rfl ?_
    refine rn_ite (fun c1 => ?_) (fun c1 => ?_)
    · rw [if_pos c1] at h
      refine rn_kq qm (s2 := (28, [], [], N, sl, rn_hp S M)) rfl rfl ?_
      exact hk _ h
    · rw [if_neg c1] at h
      refine rn_eg qm 6 (s2 := ((if (b1 + v5) < 0 then 26 else 11), [(6, .int (b1 + v5)), (0, .ref b0), (1, .int b1), (2, .int b2), (3, .long b3), (5, .int v5)], [], N, sl, rn_hp S M)) rfl ?_
      refine rn_ite (fun c2 => ?_) (fun c2 => ?_)
      · rw [if_pos c2] at h
        refine rn_eg qm 2 (s2 := (2, [(5, .int (v5 + (1 : Int32))), (0, .ref b0), (1, .int b1), (2, .int b2), (3, .long b3)], [], N, sl, rn_hp S M)) rfl ?_
        refine rn_kq qm (s2 := (2, [(0, .ref b0), (1, .int b1), (2, .int b2), (3, .long b3), (5, .int (v5 + (1 : Int32)))], [], N, sl, rn_hp S M)) rfl rfl ?_
        exact ih _ _ k R hk h
      · rw [if_neg c2] at h
        refine rn_eg qm 3 (s2 := ((if (96 : Int32) ≤ (b1 + v5) then 26 else 14), [(6, .int (b1 + v5)), (0, .ref b0), (1, .int b1), (2, .int b2), (3, .long b3), (5, .int v5)], [], N, sl, rn_hp S M)) rfl ?_
        refine rn_ite (fun c3 => ?_) (fun c3 => ?_)
        · rw [if_pos c3] at h
          refine rn_eg qm 2 (s2 := (2, [(5, .int (v5 + (1 : Int32))), (0, .ref b0), (1, .int b1), (2, .int b2), (3, .long b3)], [], N, sl, rn_hp S M)) rfl ?_
          refine rn_kq qm (s2 := (2, [(0, .ref b0), (1, .int b1), (2, .int b2), (3, .long b3), (5, .int (v5 + (1 : Int32)))], [], N, sl, rn_hp S M)) rfl rfl ?_
          exact ih _ _ k R hk h
        · rw [if_neg c3] at h
          refine rn_eg qm 1 (s2 := (15, [(6, .int (b1 + v5)), (0, .ref b0), (1, .int b1), (2, .int b2), (3, .long b3), (5, .int v5)], [.ref b0], N, sl, rn_hp S M)) rfl ?_
          have k4 : rn_kd b0 = 1 := Decidable.byContradiction fun c => by rw [if_neg c] at h; cases h
          rw [if_pos k4] at h
          refine rn_e1 qm (s2 := (16, [(6, .int (b1 + v5)), (0, .ref b0), (1, .int b1), (2, .int b2), (3, .long b3), (5, .int v5)], [.ref (b0 + 3)], N, sl, rn_hp S M)) (rn_g_getf rfl rfl (en_1 k4) rfl) ?_
          refine rn_eg qm 9 (s2 := (25, [(6, .int (b1 + v5)), (0, .ref b0), (1, .int b1), (2, .int b2), (3, .long b3), (5, .int v5)], [.int ((Int64.toInt32 (b3 >>> (((8 : Int32) * v5).toInt64 &&& 63))) &&& (255 : Int32)), .int (b1 + v5), .ref (b0 + 3)], N, sl, rn_hp S M)) rfl ?_
          have c5 : ¬ (rn_ob (b1 + v5) 96) := fun c => by rw [if_pos c] at h; cases h
          rw [if_neg c5] at h
          refine rn_e1 qm (s2 := (26, [(6, .int (b1 + v5)), (0, .ref b0), (1, .int b1), (2, .int b2), (3, .long b3), (5, .int v5)], [], N, sl, rn_hp (wA S (b0 + 3) (Int32.toNatClampNeg (b1 + v5)) ((Int64.toInt32 (b3 >>> (((8 : Int32) * v5).toInt64 &&& 63))) &&& (255 : Int32))) M)) (rn_g_iast (n := 96) rfl rfl (ar_x10 (ko_1_2 k4).1 (ko_1_2 k4).2.1 (ko_1_2 k4).2.2) c5 (aw_x10 (ko_1_2 k4).1 (ko_1_2 k4).2.1 (ko_1_2 k4).2.2)) ?_
          refine rn_eg qm 2 (s2 := (2, [(5, .int (v5 + (1 : Int32))), (0, .ref b0), (1, .int b1), (2, .int b2), (3, .long b3)], [], N, sl, rn_hp (wA S (b0 + 3) (Int32.toNatClampNeg (b1 + v5)) ((Int64.toInt32 (b3 >>> (((8 : Int32) * v5).toInt64 &&& 63))) &&& (255 : Int32))) M)) rfl ?_
          refine rn_kq qm (s2 := (2, [(0, .ref b0), (1, .int b1), (2, .int b2), (3, .long b3), (5, .int (v5 + (1 : Int32)))], [], N, sl, rn_hp (wA S (b0 + 3) (Int32.toNatClampNeg (b1 + v5)) ((Int64.toInt32 (b3 >>> (((8 : Int32) * v5).toInt64 &&& 63))) &&& (255 : Int32))) M)) rfl rfl ?_
          exact ih _ _ k R hk h
def f116 (S : rn_T) (a0 : Nat) (a1 : Int32) (a2 : Int32) (a3 : Int64) : Option (rn_T) :=
  f116_L2 a0 a1 a2 a3 rn_FU S (0 : Int32) (fun S6 =>
    some (S6))
set_option maxHeartbeats 4000000 in
theorem E116 {X : rn_X} {N sl : Nat} {S M : rn_T} {a0 : Nat} {a1 : Int32} {a2 : Int32} {a3 : Int64} {R : (rn_T)} (h : f116 S a0 a1 a2 a3 = some R) : rn_rv X 116 (0, [(0, .ref a0), (1, .int a1), (2, .int a2), (3, .long a3)], [], N, sl, rn_hp S M) (none, N, sl, rn_hp R M) := by
  have qm := rn_m116
  unfold f116 at h
  refine rn_eg qm 2 (s2 := (2, [(5, .int (0 : Int32)), (0, .ref a0), (1, .int a1), (2, .int a2), (3, .long a3)], [], N, sl, rn_hp S M)) rfl ?_
  refine rn_kq qm (s2 := (2, [(0, .ref a0), (1, .int a1), (2, .int a2), (3, .long a3), (5, .int (0 : Int32))], [], N, sl, rn_hp S M)) rfl rfl ?_
  refine E116_L2 rn_FU _ _ _ R ?_ h
  intro S6 h
  cases h
  exact rn_er qm rfl rfl rfl
/-! 149: RecordNiches$Transfer.storeMark(LRecordNiches$Node;LRecordNiches$Holding;I)V -/
def f149 (S : rn_T) (a0 : Nat) (a1 : Nat) (a2 : Int32) : Option (rn_T) :=
  if rn_kd a0 = 3 then
    if rn_ob (rI S a0 16) 6 then none else
      rn_om (rP S (a0 + 1) (Int32.toNatClampNeg (rI S a0 16)))
        (none)
        fun r3 =>
          if rn_kd r3 = 3 then
            if (rI S r3 14) = (-6 : Int32) then
              some (S)
            else
              if (rI S a0 12) = (2 : Int32) then
                if rn_kd a1 = 1 then
                  Option.bind (f116 S a1 a2 (1 : Int32) (Int32.toInt64 (rI S r3 14))) fun p9 =>
                    some (p9)
                else none
              else
                if rn_ob (rI S a0 13) 6 then none else
                  rn_om (rP S (a0 + 1) (Int32.toNatClampNeg (rI S a0 13)))
                    (none)
                    fun r11 =>
                      if rn_kd r11 = 3 then
                        if rn_kd a1 = 1 then
                          Option.bind (f116 S a1 (a2 + (rI S r11 8)) (rI S r11 9) (Int32.toInt64 (rI S r3 14))) fun p15 =>
                            some (p15)
                        else none
                      else none
          else none
  else none
set_option maxHeartbeats 4000000 in
theorem E149 {X : rn_X} {N sl : Nat} {S M : rn_T} {a0 : Nat} {a1 : Nat} {a2 : Int32} {R : (rn_T)} (h : f149 S a0 a1 a2 = some R) : rn_rv X 149 (0, [(0, .ref a0), (1, .ref a1), (2, .int a2)], [], N, sl, rn_hp S M) (none, N, sl, rn_hp R M) := by
  have qm := rn_m149
  unfold f149 at h
  refine rn_eg qm 1 (s2 := (1, [(0, .ref a0), (1, .ref a1), (2, .int a2)], [.ref a0], N, sl, rn_hp S M)) rfl ?_
  have k1 : rn_kd a0 = 3 := Decidable.byContradiction fun c => by rw [if_neg c] at h; cases h
  rw [if_pos k1] at h
  refine rn_e1 qm (s2 := (2, [(0, .ref a0), (1, .ref a1), (2, .int a2)], [.ref (a0 + 1)], N, sl, rn_hp S M)) (rn_g_getf rfl rfl (en_3 k1) rfl) ?_
  refine rn_eg qm 1 (s2 := (3, [(0, .ref a0), (1, .ref a1), (2, .int a2)], [.ref a0, .ref (a0 + 1)], N, sl, rn_hp S M)) rfl ?_
  refine rn_e1 qm (s2 := (4, [(0, .ref a0), (1, .ref a1), (2, .int a2)], [.int (rI S a0 16), .ref (a0 + 1)], N, sl, rn_hp S M)) (rn_g_getf rfl rfl (en_3 k1) rfl) ?_
  have c2 : ¬ (rn_ob (rI S a0 16) 6) := fun c => by rw [if_pos c] at h; cases h
  rw [if_neg c2] at h
  cases o4 : rP S (a0 + 1) (Int32.toNatClampNeg (rI S a0 16)) with
  | none =>
    rw [rn_om_n o4] at h
    refine rn_e1 qm (s2 := (5, [(0, .ref a0), (1, .ref a1), (2, .int a2)], [.null], N, sl, rn_hp S M)) (rn_g_aald (n := 6) (r := none) rfl rfl (ar_x14 (ko_3_0 k1).1 (ko_3_0 k1).2.1 (ko_3_0 k1).2.2) c2 o4) ?_
    cases h
  | some r3 =>
    rw [rn_om_s o4] at h
    refine rn_e1 qm (s2 := (5, [(0, .ref a0), (1, .ref a1), (2, .int a2)], [.ref r3], N, sl, rn_hp S M)) (rn_g_aald (n := 6) (r := some r3) rfl rfl (ar_x14 (ko_3_0 k1).1 (ko_3_0 k1).2.1 (ko_3_0 k1).2.2) c2 o4) ?_
    have k5 : rn_kd r3 = 3 := Decidable.byContradiction fun c => by rw [if_neg c] at h; cases h
    rw [if_pos k5] at h
    refine rn_e1 qm (s2 := (6, [(0, .ref a0), (1, .ref a1), (2, .int a2)], [.int (rI S r3 14)], N, sl, rn_hp S M)) (rn_g_getf rfl rfl (en_3 k5) rfl) ?_
    refine rn_eg qm 4 (s2 := ((if (rI S r3 14) = (-6 : Int32) then 10 else 11), [(3, .int (rI S r3 14)), (0, .ref a0), (1, .ref a1), (2, .int a2)], [], N, sl, rn_hp S M)) rfl ?_
    refine rn_ite (fun c6 => ?_) (fun c6 => ?_)
    · rw [if_pos c6] at h
      cases h
      exact rn_er qm rfl rfl rfl
    · rw [if_neg c6] at h
      refine rn_eg qm 1 (s2 := (12, [(3, .int (rI S r3 14)), (0, .ref a0), (1, .ref a1), (2, .int a2)], [.ref a0], N, sl, rn_hp S M)) rfl ?_
      refine rn_e1 qm (s2 := (13, [(3, .int (rI S r3 14)), (0, .ref a0), (1, .ref a1), (2, .int a2)], [.int (rI S a0 12)], N, sl, rn_hp S M)) (rn_g_getf rfl rfl (en_3 k1) rfl) ?_
      refine rn_eg qm 2 (s2 := ((if (rI S a0 12) = (2 : Int32) then 15 else 22), [(3, .int (rI S r3 14)), (0, .ref a0), (1, .ref a1), (2, .int a2)], [], N, sl, rn_hp S M)) rfl ?_
      refine rn_ite (fun c7 => ?_) (fun c7 => ?_)
      · rw [if_pos c7] at h
        refine rn_eg qm 5 (s2 := (20, [(3, .int (rI S r3 14)), (0, .ref a0), (1, .ref a1), (2, .int a2)], [.long (Int32.toInt64 (rI S r3 14)), .int (1 : Int32), .int a2, .ref a1], N, sl, rn_hp S M)) rfl ?_
        have k8 : rn_kd a1 = 1 := Decidable.byContradiction fun c => by rw [if_neg c] at h; cases h
        rw [if_pos k8] at h
        obtain ⟨p9, hp9, h⟩ := Option.bind_eq_some_iff.mp h
        refine rn_ec qm rfl rfl rfl rfl rn_m116 rfl rfl rfl (fun _ => rn_rc_of (en_1 k8)) (E116 hp9) ?_
        refine rn_eg qm 0 (s2 := (21, [(3, .int (rI S r3 14)), (0, .ref a0), (1, .ref a1), (2, .int a2)], [], N, sl, rn_hp p9 M)) rfl ?_
        refine rn_eg qm 1 (s2 := (38, [(3, .int (rI S r3 14)), (0, .ref a0), (1, .ref a1), (2, .int a2)], [], N, sl, rn_hp p9 M)) rfl ?_
        cases h
        exact rn_er qm rfl rfl rfl
      · rw [if_neg c7] at h
        refine rn_eg qm 1 (s2 := (23, [(3, .int (rI S r3 14)), (0, .ref a0), (1, .ref a1), (2, .int a2)], [.ref a0], N, sl, rn_hp S M)) rfl ?_
        refine rn_e1 qm (s2 := (24, [(3, .int (rI S r3 14)), (0, .ref a0), (1, .ref a1), (2, .int a2)], [.ref (a0 + 1)], N, sl, rn_hp S M)) (rn_g_getf rfl rfl (en_3 k1) rfl) ?_
        refine rn_eg qm 1 (s2 := (25, [(3, .int (rI S r3 14)), (0, .ref a0), (1, .ref a1), (2, .int a2)], [.ref a0, .ref (a0 + 1)], N, sl, rn_hp S M)) rfl ?_
        refine rn_e1 qm (s2 := (26, [(3, .int (rI S r3 14)), (0, .ref a0), (1, .ref a1), (2, .int a2)], [.int (rI S a0 13), .ref (a0 + 1)], N, sl, rn_hp S M)) (rn_g_getf rfl rfl (en_3 k1) rfl) ?_
        have c10 : ¬ (rn_ob (rI S a0 13) 6) := fun c => by rw [if_pos c] at h; cases h
        rw [if_neg c10] at h
        cases o12 : rP S (a0 + 1) (Int32.toNatClampNeg (rI S a0 13)) with
        | none =>
          rw [rn_om_n o12] at h
          refine rn_e1 qm (s2 := (27, [(3, .int (rI S r3 14)), (0, .ref a0), (1, .ref a1), (2, .int a2)], [.null], N, sl, rn_hp S M)) (rn_g_aald (n := 6) (r := none) rfl rfl (ar_x14 (ko_3_0 k1).1 (ko_3_0 k1).2.1 (ko_3_0 k1).2.2) c10 o12) ?_
          cases h
        | some r11 =>
          rw [rn_om_s o12] at h
          refine rn_e1 qm (s2 := (27, [(3, .int (rI S r3 14)), (0, .ref a0), (1, .ref a1), (2, .int a2)], [.ref r11], N, sl, rn_hp S M)) (rn_g_aald (n := 6) (r := some r11) rfl rfl (ar_x14 (ko_3_0 k1).1 (ko_3_0 k1).2.1 (ko_3_0 k1).2.2) c10 o12) ?_
          refine rn_eg qm 4 (s2 := (31, [(4, .ref r11), (3, .int (rI S r3 14)), (0, .ref a0), (1, .ref a1), (2, .int a2)], [.ref r11, .int a2, .ref a1], N, sl, rn_hp S M)) rfl ?_
          have k13 : rn_kd r11 = 3 := Decidable.byContradiction fun c => by rw [if_neg c] at h; cases h
          rw [if_pos k13] at h
          refine rn_e1 qm (s2 := (32, [(4, .ref r11), (3, .int (rI S r3 14)), (0, .ref a0), (1, .ref a1), (2, .int a2)], [.int (rI S r11 8), .int a2, .ref a1], N, sl, rn_hp S M)) (rn_g_getf rfl rfl (en_3 k13) rfl) ?_
          refine rn_eg qm 2 (s2 := (34, [(4, .ref r11), (3, .int (rI S r3 14)), (0, .ref a0), (1, .ref a1), (2, .int a2)], [.ref r11, .int (a2 + (rI S r11 8)), .ref a1], N, sl, rn_hp S M)) rfl ?_
          refine rn_e1 qm (s2 := (35, [(4, .ref r11), (3, .int (rI S r3 14)), (0, .ref a0), (1, .ref a1), (2, .int a2)], [.int (rI S r11 9), .int (a2 + (rI S r11 8)), .ref a1], N, sl, rn_hp S M)) (rn_g_getf rfl rfl (en_3 k13) rfl) ?_
          refine rn_eg qm 2 (s2 := (37, [(4, .ref r11), (3, .int (rI S r3 14)), (0, .ref a0), (1, .ref a1), (2, .int a2)], [.long (Int32.toInt64 (rI S r3 14)), .int (rI S r11 9), .int (a2 + (rI S r11 8)), .ref a1], N, sl, rn_hp S M)) rfl ?_
          have k14 : rn_kd a1 = 1 := Decidable.byContradiction fun c => by rw [if_neg c] at h; cases h
          rw [if_pos k14] at h
          obtain ⟨p15, hp15, h⟩ := Option.bind_eq_some_iff.mp h
          refine rn_ec qm rfl rfl rfl rfl rn_m116 rfl rfl rfl (fun _ => rn_rc_of (en_1 k14)) (E116 hp15) ?_
          refine rn_eg qm 0 (s2 := (38, [(4, .ref r11), (3, .int (rI S r3 14)), (0, .ref a0), (1, .ref a1), (2, .int a2)], [], N, sl, rn_hp p15 M)) rfl ?_
          cases h
          exact rn_er qm rfl rfl rfl
