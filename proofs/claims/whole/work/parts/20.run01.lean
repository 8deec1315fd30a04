/-! 110: RecordNiches$Grammar.isWell(LRecordNiches$Holding;II)Z -/
def f110_L2 (b1 : Nat) (b2 : Int32) (b3 : Int32) : Nat → rn_T → Int32 → (rn_T → Option (Bool × rn_T)) → Option (Bool × rn_T)
  | 0, _, _, _ => none
  | fu + 1, S, v4, k =>
    if (8 : Int32) ≤ v4 then
      k S
    else
      if v4 = b2 then
        if rn_ob v4 8 then none else
          f110_L2 b1 b2 b3 fu (wA S 25 (Int32.toNatClampNeg v4) (1 : Int32)) (v4 + (1 : Int32)) k
      else
        if v4 = b3 then
          if rn_ob v4 8 then none else
            f110_L2 b1 b2 b3 fu (wA S 25 (Int32.toNatClampNeg v4) (1 : Int32)) (v4 + (1 : Int32)) k
        else
          if rn_ob v4 8 then none else
            f110_L2 b1 b2 b3 fu (wA S 25 (Int32.toNatClampNeg v4) (0 : Int32)) (v4 + (1 : Int32)) k
set_option maxHeartbeats 4000000 in
theorem E110_L2 {X : rn_X} {N sl : Nat} {M : rn_T} {b1 : Nat} {b2 : Int32} {b3 : Int32} : ∀ (fu : Nat) (S : rn_T) (v4 : Int32) (k : (rn_T → Option (Bool × rn_T))) (R : (Bool × rn_T)), (∀ (S : rn_T), k S = some R → rn_rv X 110 (20, [(0, .ref 23), (1, .ref b1)], [], N, sl, rn_hp S M) (some (.int (rn_bi R.1)), N, sl, rn_hp R.2 M)) → f110_L2 b1 b2 b3 fu S v4 k = some R → rn_rv X 110 (2, [(0, .ref 23), (1, .ref b1), (2, .int b2), (3, .int b3), (4, .int v4)], [], N, sl, rn_hp S M) (some (.int (rn_bi R.1)), N, sl, rn_hp R.2 M) := by
  have qm := rn_m110
  intro fu
  induction fu with
  | zero => intro S v4 k R hk h; cases h
  | succ fu ih =>
    intro S v4 k R hk h
    unfold f110_L2 at h
    refine rn_eg qm 3 (s2 := ((if (8 : Int32) ≤ v4 then 20 else 5), [(0, .ref 23), (1, .ref b1), (2, .int b2), (3, .int b3), (4, .int v4)], [], N, sl, rn_hp S M)) rfl ?_
    refine rn_ite (fun c1 => ?_) (fun c1 => ?_)
    · rw [if_pos c1] at h
      refine rn_kq qm (s2 := (20, [(0, .ref 23), (1, .ref b1)], [], N, sl, rn_hp S M)) rfl rfl ?_
      exact hk _ h
    · rw [if_neg c1] at h
      refine rn_eg qm 6 (s2 := ((if v4 = b2 then 14 else 11), [(0, .ref 23), (1, .ref b1), (2, .int b2), (3, .int b3), (4, .int v4)], [.int v4, .ref 25], N, sl, rn_hp S M)) rfl ?_
      refine rn_ite (fun c2 => ?_) (fun c2 => ?_)
      · rw [if_pos c2] at h
        refine rn_eg qm 2 (s2 := (17, [(0, .ref 23), (1, .ref b1), (2, .int b2), (3, .int b3), (4, .int v4)], [.int (1 : Int32), .int v4, .ref 25], N, sl, rn_hp S M)) rfl ?_
        have c3 : ¬ (rn_ob v4 8) := fun c => by rw [if_pos c] at h; cases h
        rw [if_neg c3] at h
        refine rn_e1 qm (s2 := (18, [(0, .ref 23), (1, .ref b1), (2, .int b2), (3, .int b3), (4, .int v4)], [], N, sl, rn_hp (wA S 25 (Int32.toNatClampNeg v4) (1 : Int32)) M)) (rn_g_bast (n := 8) rfl rfl (ar_x12 rfl rfl (Nat.le_of_ble_eq_true rfl)) c3 (by decide) (aw_x12 rfl rfl (Nat.le_of_ble_eq_true rfl))) ?_
        refine rn_eg qm 2 (s2 := (2, [(4, .int (v4 + (1 : Int32))), (0, .ref 23), (1, .ref b1), (2, .int b2), (3, .int b3)], [], N, sl, rn_hp (wA S 25 (Int32.toNatClampNeg v4) (1 : Int32)) M)) rfl ?_
        refine rn_kq qm (s2 := (2, [(0, .ref 23), (1, .ref b1), (2, .int b2), (3, .int b3), (4, .int (v4 + (1 : Int32)))], [], N, sl, rn_hp (wA S 25 (Int32.toNatClampNeg v4) (1 : Int32)) M)) rfl rfl ?_
        exact ih _ _ k R hk h
      · rw [if_neg c2] at h
        refine rn_eg qm 3 (s2 := ((if v4 = b3 then 14 else 16), [(0, .ref 23), (1, .ref b1), (2, .int b2), (3, .int b3), (4, .int v4)], [.int v4, .ref 25], N, sl, rn_hp S M)) rfl ?_
        refine rn_ite (fun c4 => ?_) (fun c4 => ?_)
        · rw [if_pos c4] at h
          refine rn_eg qm 2 (s2 := (17, [(0, .ref 23), (1, .ref b1), (2, .int b2), (3, .int b3), (4, .int v4)], [.int (1 : Int32), .int v4, .ref 25], N, sl, rn_hp S M)) rfl ?_
          have c5 : ¬ (rn_ob v4 8) := fun c => by rw [if_pos c] at h; cases h
          rw [if_neg c5] at h
          refine rn_e1 qm (s2 := (18, [(0, .ref 23), (1, .ref b1), (2, .int b2), (3, .int b3), (4, .int v4)], [], N, sl, rn_hp (wA S 25 (Int32.toNatClampNeg v4) (1 : Int32)) M)) (rn_g_bast (n := 8) rfl rfl (ar_x12 rfl rfl (Nat.le_of_ble_eq_true rfl)) c5 (by decide) (aw_x12 rfl rfl (Nat.le_of_ble_eq_true rfl))) ?_
          refine rn_eg qm 2 (s2 := (2, [(4, .int (v4 + (1 : Int32))), (0, .ref 23), (1, .ref b1), (2, .int b2), (3, .int b3)], [], N, sl, rn_hp (wA S 25 (Int32.toNatClampNeg v4) (1 : Int32)) M)) rfl ?_
          refine rn_kq qm (s2 := (2, [(0, .ref 23), (1, .ref b1), (2, .int b2), (3, .int b3), (4, .int (v4 + (1 : Int32)))], [], N, sl, rn_hp (wA S 25 (Int32.toNatClampNeg v4) (1 : Int32)) M)) rfl rfl ?_
          exact ih _ _ k R hk h
        · rw [if_neg c4] at h
          refine rn_eg qm 1 (s2 := (17, [(0, .ref 23), (1, .ref b1), (2, .int b2), (3, .int b3), (4, .int v4)], [.int (0 : Int32), .int v4, .ref 25], N, sl, rn_hp S M)) rfl ?_
          have c6 : ¬ (rn_ob v4 8) := fun c => by rw [if_pos c] at h; cases h
          rw [if_neg c6] at h
          refine rn_e1 qm (s2 := (18, [(0, .ref 23), (1, .ref b1), (2, .int b2), (3, .int b3), (4, .int v4)], [], N, sl, rn_hp (wA S 25 (Int32.toNatClampNeg v4) (0 : Int32)) M)) (rn_g_bast (n := 8) rfl rfl (ar_x12 rfl rfl (Nat.le_of_ble_eq_true rfl)) c6 (by decide) (aw_x12 rfl rfl (Nat.le_of_ble_eq_true rfl))) ?_
          refine rn_eg qm 2 (s2 := (2, [(4, .int (v4 + (1 : Int32))), (0, .ref 23), (1, .ref b1), (2, .int b2), (3, .int b3)], [], N, sl, rn_hp (wA S 25 (Int32.toNatClampNeg v4) (0 : Int32)) M)) rfl ?_
          refine rn_kq qm (s2 := (2, [(0, .ref 23), (1, .ref b1), (2, .int b2), (3, .int b3), (4, .int (v4 + (1 : Int32)))], [], N, sl, rn_hp (wA S 25 (Int32.toNatClampNeg v4) (0 : Int32)) M)) rfl rfl ?_
          exact ih _ _ k R hk h
def f110_L48 (b1 : Nat) (b4 : Int32) : Nat → rn_T → Int32 → (rn_T → Option (Bool × rn_T)) → Option (Bool × rn_T)
  | 0, _, _, _ => none
  | fu + 1, S, v5, k =>
    if b4 ≤ v5 then
      k S
    else
      if rn_kd b1 = 1 then
        if rn_ob b4 8 then none else
          Option.bind (f142 S (b1 + 4 + 2 * (Int32.toNatClampNeg b4)) ((65 : Int32) + v5)) fun p16 =>
            if p16 = true then
              if rn_ob v5 8 then none else
                f110_L48 b1 b4 fu (wA S 25 (Int32.toNatClampNeg v5) (1 : Int32)) (v5 + (1 : Int32)) k
            else
              f110_L48 b1 b4 fu S (v5 + (1 : Int32)) k
      else none
set_option maxHeartbeats 4000000 in
theorem E110_L48 {X : rn_X} {N sl : Nat} {M : rn_T} {b1 : Nat} {b4 : Int32} : ∀ (fu : Nat) (S : rn_T) (v5 : Int32) (k : (rn_T → Option (Bool × rn_T))) (R : (Bool × rn_T)), (∀ (S : rn_T), k S = some R → rn_rv X 110 (67, [(0, .ref 23), (1, .ref b1), (4, .int b4)], [], N, sl, rn_hp S M) (some (.int (rn_bi R.1)), N, sl, rn_hp R.2 M)) → f110_L48 b1 b4 fu S v5 k = some R → rn_rv X 110 (48, [(0, .ref 23), (1, .ref b1), (4, .int b4), (5, .int v5)], [], N, sl, rn_hp S M) (some (.int (rn_bi R.1)), N, sl, rn_hp R.2 M) := by
  have qm := rn_m110
  intro fu
  induction fu with
  | zero => intro S v5 k R hk h; cases h
  | succ fu ih =>
    intro S v5 k R hk h
    unfold f110_L48 at h
    refine rn_eg qm 3 (s2 := ((if b4 ≤ v5 then 67 else 51), [(0, .ref 23), (1, .ref b1), (4, .int b4), (5, .int v5)], [], N, sl, rn_hp S M)) rfl ?_
    refine rn_ite (fun c13 => ?_) (fun c13 => ?_)
    · rw [if_pos c13] at h
      refine rn_kq qm (s2 := (67, [(0, .ref 23), (1, .ref b1), (4, .int b4)], [], N, sl, rn_hp S M)) rfl rfl ?_
      exact hk _ h
    · rw [if_neg c13] at h
      refine rn_eg qm 1 (s2 := (52, [(0, .ref 23), (1, .ref b1), (4, .int b4), (5, .int v5)], [.ref b1], N, sl, rn_hp S M)) rfl ?_
      have k14 : rn_kd b1 = 1 := Decidable.byContradiction fun c => by rw [if_neg c] at h; cases h
      rw [if_pos k14] at h
      refine rn_e1 qm (s2 := (53, [(0, .ref 23), (1, .ref b1), (4, .int b4), (5, .int v5)], [.ref (b1 + 1)], N, sl, rn_hp S M)) (rn_g_getf rfl rfl (en_1 k14) rfl) ?_
      refine rn_eg qm 1 (s2 := (54, [(0, .ref 23), (1, .ref b1), (4, .int b4), (5, .int v5)], [.int b4, .ref (b1 + 1)], N, sl, rn_hp S M)) rfl ?_
      have c15 : ¬ (rn_ob b4 8) := fun c => by rw [if_pos c] at h; cases h
      rw [if_neg c15] at h
      refine rn_e1 qm (s2 := (55, [(0, .ref 23), (1, .ref b1), (4, .int b4), (5, .int v5)], [.ref (b1 + 4 + 2 * (Int32.toNatClampNeg b4))], N, sl, rn_hp S M)) (rn_g_aald (r := some (b1 + 4 + 2 * (Int32.toNatClampNeg b4))) rfl rfl (ar_x20 (ko_1_0 k14).1 (ko_1_0 k14).2.2) c15 (rn_cr_at (rn_ob_lt c15))) ?_
      refine rn_eg qm 3 (s2 := (58, [(0, .ref 23), (1, .ref b1), (4, .int b4), (5, .int v5)], [.int ((65 : Int32) + v5), .ref (b1 + 4 + 2 * (Int32.toNatClampNeg b4))], N, sl, rn_hp S M)) rfl ?_
      obtain ⟨p16, hp16, h⟩ := Option.bind_eq_some_iff.mp h
      refine rn_ec qm rfl rfl rfl rfl rn_m142 rfl rfl rfl (fun _ => rn_rc_of (en_5 (show rn_kd (b1 + 4 + 2 * (Int32.toNatClampNeg b4)) = 5 from ck_20 (ko_1_0 k14).1 (rn_ob_lt c15)))) (E142 hp16) ?_
      refine rn_eg qm 0 (s2 := (59, [(0, .ref 23), (1, .ref b1), (4, .int b4), (5, .int v5)], [.int (rn_bi p16)], N, sl, rn_hp S M)) rfl ?_
      refine rn_eg qm 1 (s2 := ((if (rn_bi p16) = 0 then 65 else 60), [(0, .ref 23), (1, .ref b1), (4, .int b4), (5, .int v5)], [], N, sl, rn_hp S M)) rfl ?_
      refine rn_iteb (fun c17 => ?_) (fun c17 => ?_)
      · rw [if_neg (rn_bf c17)] at h
        refine rn_eg qm 2 (s2 := (48, [(5, .int (v5 + (1 : Int32))), (0, .ref 23), (1, .ref b1), (4, .int b4)], [], N, sl, rn_hp S M)) rfl ?_
        refine rn_kq qm (s2 := (48, [(0, .ref 23), (1, .ref b1), (4, .int b4), (5, .int (v5 + (1 : Int32)))], [], N, sl, rn_hp S M)) rfl rfl ?_
        exact ih _ _ k R hk h
      · rw [if_pos c17] at h
        refine rn_eg qm 4 (s2 := (64, [(0, .ref 23), (1, .ref b1), (4, .int b4), (5, .int v5)], [.int (1 : Int32), .int v5, .ref 25], N, sl, rn_hp S M)) rfl ?_
        have c18 : ¬ (rn_ob v5 8) := fun c => by rw [if_pos c] at h; cases h
        rw [if_neg c18] at h
        refine rn_e1 qm (s2 := (65, [(0, .ref 23), (1, .ref b1), (4, .int b4), (5, .int v5)], [], N, sl, rn_hp (wA S 25 (Int32.toNatClampNeg v5) (1 : Int32)) M)) (rn_g_bast (n := 8) rfl rfl (ar_x12 rfl rfl (Nat.le_of_ble_eq_true rfl)) c18 (by decide) (aw_x12 rfl rfl (Nat.le_of_ble_eq_true rfl))) ?_
        refine rn_eg qm 2 (s2 := (48, [(5, .int (v5 + (1 : Int32))), (0, .ref 23), (1, .ref b1), (4, .int b4)], [], N, sl, rn_hp (wA S 25 (Int32.toNatClampNeg v5) (1 : Int32)) M)) rfl ?_
        refine rn_kq qm (s2 := (48, [(0, .ref 23), (1, .ref b1), (4, .int b4), (5, .int (v5 + (1 : Int32)))], [], N, sl, rn_hp (wA S 25 (Int32.toNatClampNeg v5) (1 : Int32)) M)) rfl rfl ?_
        exact ih _ _ k R hk h
def f110_L22 (b1 : Nat) : Nat → rn_T → Int32 → (rn_T → Option (Bool × rn_T)) → Option (Bool × rn_T)
  | 0, _, _, _ => none
  | fu + 1, S, v4, k =>
    if v4 < 0 then
      k S
    else
      if rn_ob v4 8 then none else
        if (rA S 25 (Int32.toNatClampNeg v4)) = 0 then
          f110_L22 b1 fu S (v4 + (-1 : Int32)) k
        else
          Option.bind (f134 S (26 + 5 * (Int32.toNatClampNeg v4)) b1 v4) fun p11 =>
            if (rI p11 (26 + 5 * (Int32.toNatClampNeg v4)) 0) = (-6 : Int32) then
              f110_L48 b1 v4 rn_FU p11 (0 : Int32) (fun S19 =>
                f110_L22 b1 fu S19 (v4 + (-1 : Int32)) k)
            else
              some (false, p11)
set_option maxHeartbeats 4000000 in
theorem E110_L22 {X : rn_X} {N sl : Nat} {M : rn_T} {b1 : Nat} : ∀ (fu : Nat) (S : rn_T) (v4 : Int32) (k : (rn_T → Option (Bool × rn_T))) (R : (Bool × rn_T)), (∀ (S : rn_T), k S = some R → rn_rv X 110 (69, [], [], N, sl, rn_hp S M) (some (.int (rn_bi R.1)), N, sl, rn_hp R.2 M)) → f110_L22 b1 fu S v4 k = some R → rn_rv X 110 (22, [(0, .ref 23), (1, .ref b1), (4, .int v4)], [], N, sl, rn_hp S M) (some (.int (rn_bi R.1)), N, sl, rn_hp R.2 M) := by
  have qm := rn_m110
  intro fu
  induction fu with
  | zero => intro S v4 k R hk h; cases h
  | succ fu ih =>
    intro S v4 k R hk h
    unfold f110_L22 at h
    refine rn_eg qm 2 (s2 := ((if v4 < 0 then 69 else 24), [(0, .ref 23), (1, .ref b1), (4, .int v4)], [], N, sl, rn_hp S M)) rfl ?_
    refine rn_ite (fun c8 => ?_) (fun c8 => ?_)
    · rw [if_pos c8] at h
      refine rn_kq qm (s2 := (69, [], [], N, sl, rn_hp S M)) rfl rfl ?_
      exact hk _ h
    · rw [if_neg c8] at h
      refine rn_eg qm 3 (s2 := (27, [(0, .ref 23), (1, .ref b1), (4, .int v4)], [.int v4, .ref 25], N, sl, rn_hp S M)) rfl ?_
      have c9 : ¬ (rn_ob v4 8) := fun c => by rw [if_pos c] at h; cases h
      rw [if_neg c9] at h
      refine rn_e1 qm (s2 := (28, [(0, .ref 23), (1, .ref b1), (4, .int v4)], [.int (rA S 25 (Int32.toNatClampNeg v4))], N, sl, rn_hp S M)) (rn_g_bald (n := 8) rfl rfl (ar_x12 rfl rfl (Nat.le_of_ble_eq_true rfl)) c9) ?_
      refine rn_eg qm 1 (s2 := ((if (rA S 25 (Int32.toNatClampNeg v4)) = 0 then 29 else 30), [(0, .ref 23), (1, .ref b1), (4, .int v4)], [], N, sl, rn_hp S M)) rfl ?_
      refine rn_ite (fun c10 => ?_) (fun c10 => ?_)
      · rw [if_pos c10] at h
        refine rn_eg qm 3 (s2 := (22, [(4, .int (v4 + (-1 : Int32))), (0, .ref 23), (1, .ref b1)], [], N, sl, rn_hp S M)) rfl ?_
        refine rn_kq qm (s2 := (22, [(0, .ref 23), (1, .ref b1), (4, .int (v4 + (-1 : Int32)))], [], N, sl, rn_hp S M)) rfl rfl ?_
        exact ih _ _ k R hk h
      · rw [if_neg c10] at h
        refine rn_eg qm 3 (s2 := (33, [(0, .ref 23), (1, .ref b1), (4, .int v4)], [.int v4, .ref 24], N, sl, rn_hp S M)) rfl ?_
        refine rn_e1 qm (s2 := (34, [(0, .ref 23), (1, .ref b1), (4, .int v4)], [.ref (26 + 5 * (Int32.toNatClampNeg v4))], N, sl, rn_hp S M)) (rn_g_aald (r := some (26 + 5 * (Int32.toNatClampNeg v4))) rfl rfl (ar_x22 (q := 24) rfl (Nat.le_of_ble_eq_true rfl)) c9 (rn_cr_at (rn_ob_lt c9))) ?_
        refine rn_eg qm 2 (s2 := (36, [(0, .ref 23), (1, .ref b1), (4, .int v4)], [.int v4, .ref b1, .ref (26 + 5 * (Int32.toNatClampNeg v4))], N, sl, rn_hp S M)) rfl ?_
        obtain ⟨p11, hp11, h⟩ := Option.bind_eq_some_iff.mp h
        refine rn_ec qm rfl rfl rfl rfl rn_m134 rfl rfl rfl (fun _ => rn_rc_of (en_4 (show rn_kd (26 + 5 * (Int32.toNatClampNeg v4)) = 4 from ck_22 (q := 24) rfl (rn_ob_lt c9)))) (E134 hp11) ?_
        refine rn_eg qm 0 (s2 := (37, [(0, .ref 23), (1, .ref b1), (4, .int v4)], [], N, sl, rn_hp p11 M)) rfl ?_
        refine rn_eg qm 3 (s2 := (40, [(0, .ref 23), (1, .ref b1), (4, .int v4)], [.int v4, .ref 24], N, sl, rn_hp p11 M)) rfl ?_
        refine rn_e1 qm (s2 := (41, [(0, .ref 23), (1, .ref b1), (4, .int v4)], [.ref (26 + 5 * (Int32.toNatClampNeg v4))], N, sl, rn_hp p11 M)) (rn_g_aald (r := some (26 + 5 * (Int32.toNatClampNeg v4))) rfl rfl (ar_x22 (q := 24) rfl (Nat.le_of_ble_eq_true rfl)) c9 (rn_cr_at (rn_ob_lt c9))) ?_
        refine rn_e1 qm (s2 := (42, [(0, .ref 23), (1, .ref b1), (4, .int v4)], [.int (rI p11 (26 + 5 * (Int32.toNatClampNeg v4)) 0)], N, sl, rn_hp p11 M)) (rn_g_getf rfl rfl (en_4 (show rn_kd (26 + 5 * (Int32.toNatClampNeg v4)) = 4 from ck_22 (q := 24) rfl (rn_ob_lt c9))) rfl) ?_
        refine rn_eg qm 2 (s2 := ((if (rI p11 (26 + 5 * (Int32.toNatClampNeg v4)) 0) = (-6 : Int32) then 46 else 44), [(0, .ref 23), (1, .ref b1), (4, .int v4)], [], N, sl, rn_hp p11 M)) rfl ?_
        refine rn_ite (fun c12 => ?_) (fun c12 => ?_)
        · rw [if_pos c12] at h
          refine rn_eg qm 2 (s2 := (48, [(5, .int (0 : Int32)), (0, .ref 23), (1, .ref b1), (4, .int v4)], [], N, sl, rn_hp p11 M)) rfl ?_
          refine rn_kq qm (s2 := (48, [(0, .ref 23), (1, .ref b1), (4, .int v4), (5, .int (0 : Int32))], [], N, sl, rn_hp p11 M)) rfl rfl ?_
          refine E110_L48 rn_FU _ _ _ R ?_ h
          intro S19 h
          refine rn_eg qm 2 (s2 := (22, [(4, .int (v4 + (-1 : Int32))), (0, .ref 23), (1, .ref b1)], [], N, sl, rn_hp S19 M)) rfl ?_
          refine rn_kq qm (s2 := (22, [(0, .ref 23), (1, .ref b1), (4, .int (v4 + (-1 : Int32)))], [], N, sl, rn_hp S19 M)) rfl rfl ?_
          exact ih _ _ k R hk h
        · rw [if_neg c12] at h
          refine rn_eg qm 1 (s2 := (45, [(0, .ref 23), (1, .ref b1), (4, .int v4)], [.int (0 : Int32)], N, sl, rn_hp p11 M)) rfl ?_
          cases h
          exact rn_er qm rfl rfl rn_rt0
def f110 (S : rn_T) (a1 : Nat) (a2 : Int32) (a3 : Int32) : Option (Bool × rn_T) :=
  f110_L2 a1 a2 a3 rn_FU S (0 : Int32) (fun S7 =>
    f110_L22 a1 rn_FU S7 (7 : Int32) (fun S20 =>
      some (true, S20)))
set_option maxHeartbeats 4000000 in
theorem E110 {X : rn_X} {N sl : Nat} {S M : rn_T} {a1 : Nat} {a2 : Int32} {a3 : Int32} {R : (Bool × rn_T)} (h : f110 S a1 a2 a3 = some R) : rn_rv X 110 (0, [(0, .ref 23), (1, .ref a1), (2, .int a2), (3, .int a3)], [], N, sl, rn_hp S M) (some (.int (rn_bi R.1)), N, sl, rn_hp R.2 M) := by
  have qm := rn_m110
  unfold f110 at h
  refine rn_eg qm 2 (s2 := (2, [(4, .int (0 : Int32)), (0, .ref 23), (1, .ref a1), (2, .int a2), (3, .int a3)], [], N, sl, rn_hp S M)) rfl ?_
  refine rn_kq qm (s2 := (2, [(0, .ref 23), (1, .ref a1), (2, .int a2), (3, .int a3), (4, .int (0 : Int32))], [], N, sl, rn_hp S M)) rfl rfl ?_
  refine E110_L2 rn_FU _ _ _ R ?_ h
  intro S7 h
  refine rn_eg qm 2 (s2 := (22, [(4, .int (7 : Int32)), (0, .ref 23), (1, .ref a1)], [], N, sl, rn_hp S7 M)) rfl ?_
  refine rn_kq qm (s2 := (22, [(0, .ref 23), (1, .ref a1), (4, .int (7 : Int32))], [], N, sl, rn_hp S7 M)) rfl rfl ?_
  refine E110_L22 rn_FU _ _ _ R ?_ h
  intro S20 h
  refine rn_eg qm 1 (s2 := (70, [], [.int (1 : Int32)], N, sl, rn_hp S20 M)) rfl ?_
  cases h
  exact rn_er qm rfl rfl rn_rt1
/-! 158: RecordNiches$Tree.keepArgument(III)I -/
def f158 (S : rn_T) (a1 : Int32) (a2 : Int32) (a3 : Int32) : Option (Int32 × rn_T) :=
  if (rI S 66 10) ≤ (500 : Int32) then
    if rn_ob (rI S 66 10) 501 then none else
      if rn_ob (rI (wA S 69 (Int32.toNatClampNeg (rI S 66 10)) a1) 66 10) 501 then none else
        if rn_ob (rI (wA (wA S 69 (Int32.toNatClampNeg (rI S 66 10)) a1) 70 (Int32.toNatClampNeg (rI (wA S 69 (Int32.toNatClampNeg (rI S 66 10)) a1) 66 10)) a2) 66 10) 501 then none else
          some (((rI (wI (wA (wA (wA S 69 (Int32.toNatClampNeg (rI S 66 10)) a1) 70 (Int32.toNatClampNeg (rI (wA S 69 (Int32.toNatClampNeg (rI S 66 10)) a1) 66 10)) a2) 71 (Int32.toNatClampNeg (rI (wA (wA S 69 (Int32.toNatClampNeg (rI S 66 10)) a1) 70 (Int32.toNatClampNeg (rI (wA S 69 (Int32.toNatClampNeg (rI S 66 10)) a1) 66 10)) a2) 66 10)) a3) 66 10 ((rI (wA (wA (wA S 69 (Int32.toNatClampNeg (rI S 66 10)) a1) 70 (Int32.toNatClampNeg (rI (wA S 69 (Int32.toNatClampNeg (rI S 66 10)) a1) 66 10)) a2) 71 (Int32.toNatClampNeg (rI (wA (wA S 69 (Int32.toNatClampNeg (rI S 66 10)) a1) 70 (Int32.toNatClampNeg (rI (wA S 69 (Int32.toNatClampNeg (rI S 66 10)) a1) 66 10)) a2) 66 10)) a3) 66 10) + (1 : Int32))) 66 10) - (1 : Int32)), wI (wA (wA (wA S 69 (Int32.toNatClampNeg (rI S 66 10)) a1) 70 (Int32.toNatClampNeg (rI (wA S 69 (Int32.toNatClampNeg (rI S 66 10)) a1) 66 10)) a2) 71 (Int32.toNatClampNeg (rI (wA (wA S 69 (Int32.toNatClampNeg (rI S 66 10)) a1) 70 (Int32.toNatClampNeg (rI (wA S 69 (Int32.toNatClampNeg (rI S 66 10)) a1) 66 10)) a2) 66 10)) a3) 66 10 ((rI (wA (wA (wA S 69 (Int32.toNatClampNeg (rI S 66 10)) a1) 70 (Int32.toNatClampNeg (rI (wA S 69 (Int32.toNatClampNeg (rI S 66 10)) a1) 66 10)) a2) 71 (Int32.toNatClampNeg (rI (wA (wA S 69 (Int32.toNatClampNeg (rI S 66 10)) a1) 70 (Int32.toNatClampNeg (rI (wA S 69 (Int32.toNatClampNeg (rI S 66 10)) a1) 66 10)) a2) 66 10)) a3) 66 10) + (1 : Int32)))
  else
    some ((-1 : Int32), S)
set_option maxHeartbeats 4000000 in
theorem E158 {X : rn_X} {N sl : Nat} {S M : rn_T} {a1 : Int32} {a2 : Int32} {a3 : Int32} {R : (Int32 × rn_T)} (h : f158 S a1 a2 a3 = some R) : rn_rv X 158 (0, [(0, .ref 66), (1, .int a1), (2, .int a2), (3, .int a3)], [], N, sl, rn_hp S M) (some (.int R.1), N, sl, rn_hp R.2 M) := by
  have qm := rn_m158
  unfold f158 at h
  refine rn_eg qm 4 (s2 := ((if (rI S 66 10) ≤ (500 : Int32) then 6 else 4), [(0, .ref 66), (1, .int a1), (2, .int a2), (3, .int a3)], [], N, sl, rn_hp S M)) rfl ?_
  refine rn_ite (fun c1 => ?_) (fun c1 => ?_)
  · rw [if_pos c1] at h
    refine rn_eg qm 5 (s2 := (11, [(0, .ref 66), (1, .int a1), (2, .int a2), (3, .int a3)], [.int a1, .int (rI S 66 10), .ref 69], N, sl, rn_hp S M)) rfl ?_
    have c2 : ¬ (rn_ob (rI S 66 10) 501) := fun c => by rw [if_pos c] at h; cases h
    rw [if_neg c2] at h
    refine rn_e1 qm (s2 := (12, [(0, .ref 66), (1, .int a1), (2, .int a2), (3, .int a3)], [], N, sl, rn_hp (wA S 69 (Int32.toNatClampNeg (rI S 66 10)) a1) M)) (rn_g_iast (n := 501) rfl rfl (ar_x10 rfl rfl (Nat.le_of_ble_eq_true rfl)) c2 (aw_x10 rfl rfl (Nat.le_of_ble_eq_true rfl))) ?_
    refine rn_eg qm 5 (s2 := (17, [(0, .ref 66), (1, .int a1), (2, .int a2), (3, .int a3)], [.int a2, .int (rI (wA S 69 (Int32.toNatClampNeg (rI S 66 10)) a1) 66 10), .ref 70], N, sl, rn_hp (wA S 69 (Int32.toNatClampNeg (rI S 66 10)) a1) M)) rfl ?_
    have c3 : ¬ (rn_ob (rI (wA S 69 (Int32.toNatClampNeg (rI S 66 10)) a1) 66 10) 501) := fun c => by rw [if_pos c] at h; cases h
    rw [if_neg c3] at h
    refine rn_e1 qm (s2 := (18, [(0, .ref 66), (1, .int a1), (2, .int a2), (3, .int a3)], [], N, sl, rn_hp (wA (wA S 69 (Int32.toNatClampNeg (rI S 66 10)) a1) 70 (Int32.toNatClampNeg (rI (wA S 69 (Int32.toNatClampNeg (rI S 66 10)) a1) 66 10)) a2) M)) (rn_g_iast (n := 501) rfl rfl (ar_x10 rfl rfl (Nat.le_of_ble_eq_true rfl)) c3 (aw_x10 rfl rfl (Nat.le_of_ble_eq_true rfl))) ?_
    refine rn_eg qm 5 (s2 := (23, [(0, .ref 66), (1, .int a1), (2, .int a2), (3, .int a3)], [.int a3, .int (rI (wA (wA S 69 (Int32.toNatClampNeg (rI S 66 10)) a1) 70 (Int32.toNatClampNeg (rI (wA S 69 (Int32.toNatClampNeg (rI S 66 10)) a1) 66 10)) a2) 66 10), .ref 71], N, sl, rn_hp (wA (wA S 69 (Int32.toNatClampNeg (rI S 66 10)) a1) 70 (Int32.toNatClampNeg (rI (wA S 69 (Int32.toNatClampNeg (rI S 66 10)) a1) 66 10)) a2) M)) rfl ?_
    have c4 : ¬ (rn_ob (rI (wA (wA S 69 (Int32.toNatClampNeg (rI S 66 10)) a1) 70 (Int32.toNatClampNeg (rI (wA S 69 (Int32.toNatClampNeg (rI S 66 10)) a1) 66 10)) a2) 66 10) 501) := fun c => by rw [if_pos c] at h; cases h
    rw [if_neg c4] at h
    refine rn_e1 qm (s2 := (24, [(0, .ref 66), (1, .int a1), (2, .int a2), (3, .int a3)], [], N, sl, rn_hp (wA (wA (wA S 69 (Int32.toNatClampNeg (rI S 66 10)) a1) 70 (Int32.toNatClampNeg (rI (wA S 69 (Int32.toNatClampNeg (rI S 66 10)) a1) 66 10)) a2) 71 (Int32.toNatClampNeg (rI (wA (wA S 69 (Int32.toNatClampNeg (rI S 66 10)) a1) 70 (Int32.toNatClampNeg (rI (wA S 69 (Int32.toNatClampNeg (rI S 66 10)) a1) 66 10)) a2) 66 10)) a3) M)) (rn_g_iast (n := 501) rfl rfl (ar_x10 rfl rfl (Nat.le_of_ble_eq_true rfl)) c4 (aw_x10 rfl rfl (Nat.le_of_ble_eq_true rfl))) ?_
    refine rn_eg qm 5 (s2 := (29, [(0, .ref 66), (1, .int a1), (2, .int a2), (3, .int a3)], [.int ((rI (wA (wA (wA S 69 (Int32.toNatClampNeg (rI S 66 10)) a1) 70 (Int32.toNatClampNeg (rI (wA S 69 (Int32.toNatClampNeg (rI S 66 10)) a1) 66 10)) a2) 71 (Int32.toNatClampNeg (rI (wA (wA S 69 (Int32.toNatClampNeg (rI S 66 10)) a1) 70 (Int32.toNatClampNeg (rI (wA S 69 (Int32.toNatClampNeg (rI S 66 10)) a1) 66 10)) a2) 66 10)) a3) 66 10) + (1 : Int32)), .ref 66], N, sl, rn_hp (wA (wA (wA S 69 (Int32.toNatClampNeg (rI S 66 10)) a1) 70 (Int32.toNatClampNeg (rI (wA S 69 (Int32.toNatClampNeg (rI S 66 10)) a1) 66 10)) a2) 71 (Int32.toNatClampNeg (rI (wA (wA S 69 (Int32.toNatClampNeg (rI S 66 10)) a1) 70 (Int32.toNatClampNeg (rI (wA S 69 (Int32.toNatClampNeg (rI S 66 10)) a1) 66 10)) a2) 66 10)) a3) M)) rfl ?_
    refine rn_e1 qm (s2 := (30, [(0, .ref 66), (1, .int a1), (2, .int a2), (3, .int a3)], [], N, sl, rn_hp (wI (wA (wA (wA S 69 (Int32.toNatClampNeg (rI S 66 10)) a1) 70 (Int32.toNatClampNeg (rI (wA S 69 (Int32.toNatClampNeg (rI S 66 10)) a1) 66 10)) a2) 71 (Int32.toNatClampNeg (rI (wA (wA S 69 (Int32.toNatClampNeg (rI S 66 10)) a1) 70 (Int32.toNatClampNeg (rI (wA S 69 (Int32.toNatClampNeg (rI S 66 10)) a1) 66 10)) a2) 66 10)) a3) 66 10 ((rI (wA (wA (wA S 69 (Int32.toNatClampNeg (rI S 66 10)) a1) 70 (Int32.toNatClampNeg (rI (wA S 69 (Int32.toNatClampNeg (rI S 66 10)) a1) 66 10)) a2) 71 (Int32.toNatClampNeg (rI (wA (wA S 69 (Int32.toNatClampNeg (rI S 66 10)) a1) 70 (Int32.toNatClampNeg (rI (wA S 69 (Int32.toNatClampNeg (rI S 66 10)) a1) 66 10)) a2) 66 10)) a3) 66 10) + (1 : Int32))) M)) (rn_g_putf rfl rfl (en_7 rfl) rfl rfl rfl (wf_7_10 (v := ((rI (wA (wA (wA S 69 (Int32.toNatClampNeg (rI S 66 10)) a1) 70 (Int32.toNatClampNeg (rI (wA S 69 (Int32.toNatClampNeg (rI S 66 10)) a1) 66 10)) a2) 71 (Int32.toNatClampNeg (rI (wA (wA S 69 (Int32.toNatClampNeg (rI S 66 10)) a1) 70 (Int32.toNatClampNeg (rI (wA S 69 (Int32.toNatClampNeg (rI S 66 10)) a1) 66 10)) a2) 66 10)) a3) 66 10) + (1 : Int32))) rfl)) ?_
    refine rn_eg qm 4 (s2 := (34, [(0, .ref 66), (1, .int a1), (2, .int a2), (3, .int a3)], [.int ((rI (wI (wA (wA (wA S 69 (Int32.toNatClampNeg (rI S 66 10)) a1) 70 (Int32.toNatClampNeg (rI (wA S 69 (Int32.toNatClampNeg (rI S 66 10)) a1) 66 10)) a2) 71 (Int32.toNatClampNeg (rI (wA (wA S 69 (Int32.toNatClampNeg (rI S 66 10)) a1) 70 (Int32.toNatClampNeg (rI (wA S 69 (Int32.toNatClampNeg (rI S 66 10)) a1) 66 10)) a2) 66 10)) a3) 66 10 ((rI (wA (wA (wA S 69 (Int32.toNatClampNeg (rI S 66 10)) a1) 70 (Int32.toNatClampNeg (rI (wA S 69 (Int32.toNatClampNeg (rI S 66 10)) a1) 66 10)) a2) 71 (Int32.toNatClampNeg (rI (wA (wA S 69 (Int32.toNatClampNeg (rI S 66 10)) a1) 70 (Int32.toNatClampNeg (rI (wA S 69 (Int32.toNatClampNeg (rI S 66 10)) a1) 66 10)) a2) 66 10)) a3) 66 10) + (1 : Int32))) 66 10) - (1 : Int32))], N, sl, rn_hp (wI (wA (wA (wA S 69 (Int32.toNatClampNeg (rI S 66 10)) a1) 70 (Int32.toNatClampNeg (rI (wA S 69 (Int32.toNatClampNeg (rI S 66 10)) a1) 66 10)) a2) 71 (Int32.toNatClampNeg (rI (wA (wA S 69 (Int32.toNatClampNeg (rI S 66 10)) a1) 70 (Int32.toNatClampNeg (rI (wA S 69 (Int32.toNatClampNeg (rI S 66 10)) a1) 66 10)) a2) 66 10)) a3) 66 10 ((rI (wA (wA (wA S 69 (Int32.toNatClampNeg (rI S 66 10)) a1) 70 (Int32.toNatClampNeg (rI (wA S 69 (Int32.toNatClampNeg (rI S 66 10)) a1) 66 10)) a2) 71 (Int32.toNatClampNeg (rI (wA (wA S 69 (Int32.toNatClampNeg (rI S 66 10)) a1) 70 (Int32.toNatClampNeg (rI (wA S 69 (Int32.toNatClampNeg (rI S 66 10)) a1) 66 10)) a2) 66 10)) a3) 66 10) + (1 : Int32))) M)) rfl ?_
    cases h
    exact rn_er qm rfl rfl rfl
  · rw [if_neg c1] at h
    refine rn_eg qm 1 (s2 := (5, [(0, .ref 66), (1, .int a1), (2, .int a2), (3, .int a3)], [.int (-1 : Int32)], N, sl, rn_hp S M)) rfl ?_
    cases h
    exact rn_er qm rfl rfl rfl
/-! 157: RecordNiches$Tree.goTo(III)V -/
def f157 (S : rn_T) (a1 : Int32) (a2 : Int32) (a3 : Int32) : Option (rn_T) :=
  some (wI (wI (wI S 66 3 a1) 66 4 a2) 66 5 a3)
set_option maxHeartbeats 4000000 in
theorem E157 {X : rn_X} {N sl : Nat} {S M : rn_T} {a1 : Int32} {a2 : Int32} {a3 : Int32} {R : (rn_T)} (h : f157 S a1 a2 a3 = some R) : rn_rv X 157 (0, [(0, .ref 66), (1, .int a1), (2, .int a2), (3, .int a3)], [], N, sl, rn_hp S M) (none, N, sl, rn_hp R M) := by
  have qm := rn_m157
  unfold f157 at h
  refine rn_eg qm 2 (s2 := (2, [(0, .ref 66), (1, .int a1), (2, .int a2), (3, .int a3)], [.int a1, .ref 66], N, sl, rn_hp S M)) rfl ?_
  refine rn_e1 qm (s2 := (3, [(0, .ref 66), (1, .int a1), (2, .int a2), (3, .int a3)], [], N, sl, rn_hp (wI S 66 3 a1) M)) (rn_g_putf rfl rfl (en_7 rfl) rfl rfl rfl (wf_7_3 (v := a1) rfl)) ?_
  refine rn_eg qm 2 (s2 := (5, [(0, .ref 66), (1, .int a1), (2, .int a2), (3, .int a3)], [.int a2, .ref 66], N, sl, rn_hp (wI S 66 3 a1) M)) rfl ?_
  refine rn_e1 qm (s2 := (6, [(0, .ref 66), (1, .int a1), (2, .int a2), (3, .int a3)], [], N, sl, rn_hp (wI (wI S 66 3 a1) 66 4 a2) M)) (rn_g_putf rfl rfl (en_7 rfl) rfl rfl rfl (wf_7_4 (v := a2) rfl)) ?_
  refine rn_eg qm 2 (s2 := (8, [(0, .ref 66), (1, .int a1), (2, .int a2), (3, .int a3)], [.int a3, .ref 66], N, sl, rn_hp (wI (wI S 66 3 a1) 66 4 a2) M)) rfl ?_
  refine rn_e1 qm (s2 := (9, [(0, .ref 66), (1, .int a1), (2, .int a2), (3, .int a3)], [], N, sl, rn_hp (wI (wI (wI S 66 3 a1) 66 4 a2) 66 5 a3) M)) (rn_g_putf rfl rfl (en_7 rfl) rfl rfl rfl (wf_7_5 (v := a3) rfl)) ?_
  cases h
  exact rn_er qm rfl rfl rfl
/-! 141: RecordNiches$Text.signAt(I)I -/
def f141 (S : rn_T) (a0 : Nat) (a1 : Int32) : Option Int32 :=
  if a1 < 0 then
    some (0 : Int32)
  else
    if rn_kd a0 = 5 then
      if (rI S a0 1) ≤ a1 then
        some (0 : Int32)
      else
        if rn_ob a1 40 then none else
          some (rA S (a0 + 1) (Int32.toNatClampNeg a1))
    else none
set_option maxHeartbeats 4000000 in
theorem E141 {X : rn_X} {N sl : Nat} {S M : rn_T} {a0 : Nat} {a1 : Int32} {R : (Int32)} (h : f141 S a0 a1 = some R) : rn_rv X 141 (0, [(0, .ref a0), (1, .int a1)], [], N, sl, rn_hp S M) (some (.int R), N, sl, rn_hp S M) := by
  have qm := rn_m141
  unfold f141 at h
  refine rn_eg qm 2 (s2 := ((if a1 < 0 then 11 else 2), [(0, .ref a0), (1, .int a1)], [], N, sl, rn_hp S M)) rfl ?_
  refine rn_ite (fun c1 => ?_) (fun c1 => ?_)
  · rw [if_pos c1] at h
    refine rn_eg qm 1 (s2 := (12, [], [.int (0 : Int32)], N, sl, rn_hp S M)) rfl ?_
    cases h
    exact rn_er qm rfl rfl rfl
  · rw [if_neg c1] at h
    refine rn_eg qm 2 (s2 := (4, [(0, .ref a0), (1, .int a1)], [.ref a0, .int a1], N, sl, rn_hp S M)) rfl ?_
    have k2 : rn_kd a0 = 5 := Decidable.byContradiction fun c => by rw [if_neg c] at h; cases h
    rw [if_pos k2] at h
    refine rn_e1 qm (s2 := (5, [(0, .ref a0), (1, .int a1)], [.int (rI S a0 1), .int a1], N, sl, rn_hp S M)) (rn_g_getf rfl rfl (en_5 k2) rfl) ?_
    refine rn_eg qm 1 (s2 := ((if (rI S a0 1) ≤ a1 then 11 else 6), [(0, .ref a0), (1, .int a1)], [], N, sl, rn_hp S M)) rfl ?_
    refine rn_ite (fun c3 => ?_) (fun c3 => ?_)
    · rw [if_pos c3] at h
      refine rn_eg qm 1 (s2 := (12, [], [.int (0 : Int32)], N, sl, rn_hp S M)) rfl ?_
      cases h
      exact rn_er qm rfl rfl rfl
    · rw [if_neg c3] at h
      refine rn_eg qm 1 (s2 := (7, [(0, .ref a0), (1, .int a1)], [.ref a0], N, sl, rn_hp S M)) rfl ?_
      refine rn_e1 qm (s2 := (8, [(0, .ref a0), (1, .int a1)], [.ref (a0 + 1)], N, sl, rn_hp S M)) (rn_g_getf rfl rfl (en_5 k2) rfl) ?_
      refine rn_eg qm 1 (s2 := (9, [(0, .ref a0), (1, .int a1)], [.int a1, .ref (a0 + 1)], N, sl, rn_hp S M)) rfl ?_
      have c4 : ¬ (rn_ob a1 40) := fun c => by rw [if_pos c] at h; cases h
      rw [if_neg c4] at h
      refine rn_e1 qm (s2 := (10, [(0, .ref a0), (1, .int a1)], [.int (rA S (a0 + 1) (Int32.toNatClampNeg a1))], N, sl, rn_hp S M)) (rn_g_iald (n := 40) rfl rfl (ar_x10 (ko_5_0 k2).1 (ko_5_0 k2).2.1 (ko_5_0 k2).2.2) c4) ?_
      refine rn_eg qm 1 (s2 := (12, [(0, .ref a0), (1, .int a1)], [.int (rA S (a0 + 1) (Int32.toNatClampNeg a1))], N, sl, rn_hp S M)) rfl ?_
      cases h
      exact rn_er qm rfl rfl rfl
/-! 115: RecordNiches$Holding.signAt(II)I -/
def f115 (S : rn_T) (a0 : Nat) (a1 : Int32) (a2 : Int32) : Option Int32 :=
  if (f22 a1) = true then
    if rn_kd a0 = 1 then
      if rn_ob a1 8 then none else
        Option.bind (f141 S (a0 + 4 + 2 * (Int32.toNatClampNeg a1)) a2) fun p5 =>
          some p5
    else none
  else
    some (0 : Int32)
set_option maxHeartbeats 4000000 in
theorem E115 {X : rn_X} {N sl : Nat} {S M : rn_T} {a0 : Nat} {a1 : Int32} {a2 : Int32} {R : (Int32)} (h : f115 S a0 a1 a2 = some R) : rn_rv X 115 (0, [(0, .ref a0), (1, .int a1), (2, .int a2)], [], N, sl, rn_hp S M) (some (.int R), N, sl, rn_hp S M) := by
  have qm := rn_m115
  unfold f115 at h
  refine rn_eg qm 1 (s2 := (1, [(0, .ref a0), (1, .int a1), (2, .int a2)], [.int a1], N, sl, rn_hp S M)) rfl ?_
  refine rn_ec qm rfl rfl rfl rfl rn_m22 rfl rfl rfl (fun h => by cases h) (E22 rfl) ?_
  refine rn_eg qm 0 (s2 := (2, [(0, .ref a0), (1, .int a1), (2, .int a2)], [.int (rn_bi (f22 a1))], N, sl, rn_hp S M)) rfl ?_
  refine rn_eg qm 1 (s2 := ((if (rn_bi (f22 a1)) = 0 then 10 else 3), [(0, .ref a0), (1, .int a1), (2, .int a2)], [], N, sl, rn_hp S M)) rfl ?_
  refine rn_iteb (fun c2 => ?_) (fun c2 => ?_)
  · rw [if_neg (rn_bf c2)] at h
    refine rn_eg qm 1 (s2 := (11, [(0, .ref a0), (1, .int a1), (2, .int a2)], [.int (0 : Int32)], N, sl, rn_hp S M)) rfl ?_
    cases h
    exact rn_er qm rfl rfl rfl
  · rw [if_pos c2] at h
    refine rn_eg qm 1 (s2 := (4, [(0, .ref a0), (1, .int a1), (2, .int a2)], [.ref a0], N, sl, rn_hp S M)) rfl ?_
    have k3 : rn_kd a0 = 1 := Decidable.byContradiction fun c => by rw [if_neg c] at h; cases h
    rw [if_pos k3] at h
    refine rn_e1 qm (s2 := (5, [(0, .ref a0), (1, .int a1), (2, .int a2)], [.ref (a0 + 1)], N, sl, rn_hp S M)) (rn_g_getf rfl rfl (en_1 k3) rfl) ?_
    refine rn_eg qm 1 (s2 := (6, [(0, .ref a0), (1, .int a1), (2, .int a2)], [.int a1, .ref (a0 + 1)], N, sl, rn_hp S M)) rfl ?_
    have c4 : ¬ (rn_ob a1 8) := fun c => by rw [if_pos c] at h; cases h
    rw [if_neg c4] at h
    refine rn_e1 qm (s2 := (7, [(0, .ref a0), (1, .int a1), (2, .int a2)], [.ref (a0 + 4 + 2 * (Int32.toNatClampNeg a1))], N, sl, rn_hp S M)) (rn_g_aald (r := some (a0 + 4 + 2 * (Int32.toNatClampNeg a1))) rfl rfl (ar_x20 (ko_1_0 k3).1 (ko_1_0 k3).2.2) c4 (rn_cr_at (rn_ob_lt c4))) ?_
    refine rn_eg qm 1 (s2 := (8, [(0, .ref a0), (1, .int a1), (2, .int a2)], [.int a2, .ref (a0 + 4 + 2 * (Int32.toNatClampNeg a1))], N, sl, rn_hp S M)) rfl ?_
    obtain ⟨p5, hp5, h⟩ := Option.bind_eq_some_iff.mp h
    refine rn_ec qm rfl rfl rfl rfl rn_m141 rfl rfl rfl (fun _ => rn_rc_of (en_5 (show rn_kd (a0 + 4 + 2 * (Int32.toNatClampNeg a1)) = 5 from ck_20 (ko_1_0 k3).1 (rn_ob_lt c4)))) (E141 hp5) ?_
    refine rn_eg qm 0 (s2 := (9, [(0, .ref a0), (1, .int a1), (2, .int a2)], [.int p5], N, sl, rn_hp S M)) rfl ?_
    refine rn_eg qm 1 (s2 := (11, [(0, .ref a0), (1, .int a1), (2, .int a2)], [.int p5], N, sl, rn_hp S M)) rfl ?_
    cases h
    exact rn_er qm rfl rfl rfl
/-! 160: RecordNiches$Tree.goThroughLetters(LRecordNiches$Holding;)Z -/
def f160_J20_2 (S : rn_T) (u1 : Nat) (u2 : Int32) (u3 : Int32) (rc : (rn_T → Int32 → Option (Bool × rn_T))) (k : (rn_T → Option (Bool × rn_T))) : Option (Bool × rn_T) :=
  if (rI S 66 6) < (500 : Int32) then
    if u3 = (120 : Int32) then
      if (rI (wI S 66 6 ((rI S 66 6) + (1 : Int32))) 66 5) < 0 then
        some (false, wI S 66 6 ((rI S 66 6) + (1 : Int32)))
      else
        if (rI (wI S 66 6 ((rI S 66 6) + (1 : Int32))) 66 5) < (rI (wI S 66 6 ((rI S 66 6) + (1 : Int32))) 66 10) then
          if rn_ob (rI (wI S 66 6 ((rI S 66 6) + (1 : Int32))) 66 5) 501 then none else
            Option.bind (f157 (wI S 66 6 ((rI S 66 6) + (1 : Int32))) (rA (wI S 66 6 ((rI S 66 6) + (1 : Int32))) 69 (Int32.toNatClampNeg (rI (wI S 66 6 ((rI S 66 6) + (1 : Int32))) 66 5))) (rA (wI S 66 6 ((rI S 66 6) + (1 : Int32))) 70 (Int32.toNatClampNeg (rI (wI S 66 6 ((rI S 66 6) + (1 : Int32))) 66 5))) (rA (wI S 66 6 ((rI S 66 6) + (1 : Int32))) 71 (Int32.toNatClampNeg (rI (wI S 66 6 ((rI S 66 6) + (1 : Int32))) 66 5)))) fun p10 =>
              rc p10 (u2 + (1 : Int32))
        else
          some (false, wI S 66 6 ((rI S 66 6) + (1 : Int32)))
    else
      Option.bind (f114 (wI S 66 6 ((rI S 66 6) + (1 : Int32))) u1 (u3 - (65 : Int32))) fun p11 =>
        if p11 = true then
          Option.bind (f158 (wI S 66 6 ((rI S 66 6) + (1 : Int32))) (rI (wI S 66 6 ((rI S 66 6) + (1 : Int32))) 66 3) ((rI (wI S 66 6 ((rI S 66 6) + (1 : Int32))) 66 4) + (1 : Int32)) (rI (wI S 66 6 ((rI S 66 6) + (1 : Int32))) 66 5)) fun p14 =>
            Option.bind (f157 p14.2 (u3 - (65 : Int32)) (0 : Int32) p14.1) fun p15 =>
              rc p15 (u2 + (1 : Int32))
        else
          Option.bind (f157 (wI S 66 6 ((rI S 66 6) + (1 : Int32))) (u3 - (65 : Int32)) (0 : Int32) (-1 : Int32)) fun p13 =>
            rc p13 (u2 + (1 : Int32))
  else
    some (false, S)
set_option maxHeartbeats 4000000 in
theorem E160_J20_2 {X : rn_X} {N sl : Nat} {M : rn_T} {S : rn_T} {u1 : Nat} {u2 : Int32} {u3 : Int32} {R : (Bool × rn_T)} (hu1 : rn_kd u1 = 1) {rc : (rn_T → Int32 → Option (Bool × rn_T))} (hrc : ∀ (S : rn_T) (v2 : Int32), rc S v2 = some R → rn_rv X 160 (2, [(0, .ref 66), (1, .ref u1), (2, .int v2)], [], N, sl, rn_hp S M) (some (.int (rn_bi R.1)), N, sl, rn_hp R.2 M)) {k : (rn_T → Option (Bool × rn_T))} (hk : ∀ (S : rn_T), k S = some R → rn_rv X 160 (91, [], [], N, sl, rn_hp S M) (some (.int (rn_bi R.1)), N, sl, rn_hp R.2 M)) (h : f160_J20_2 S u1 u2 u3 rc k = some R) : rn_rv X 160 (20, [(0, .ref 66), (1, .ref u1), (2, .int u2), (3, .int u3)], [], N, sl, rn_hp S M) (some (.int (rn_bi R.1)), N, sl, rn_hp R.2 M) := by
  have qm := rn_m160
  unfold f160_J20_2 at h
  refine rn_eg qm 4 (s2 := ((if (rI S 66 6) < (500 : Int32) then 26 else 24), [(0, .ref 66), (1, .ref u1), (2, .int u2), (3, .int u3)], [], N, sl, rn_hp S M)) rfl ?_
  refine rn_ite (fun c5 => ?_) (fun c5 => ?_)
  · rw [if_pos c5] at h
    refine rn_eg qm 5 (s2 := (31, [(0, .ref 66), (1, .ref u1), (2, .int u2), (3, .int u3)], [.int ((rI S 66 6) + (1 : Int32)), .ref 66], N, sl, rn_hp S M)) rfl ?_
    refine rn_e1 qm (s2 := (32, [(0, .ref 66), (1, .ref u1), (2, .int u2), (3, .int u3)], [], N, sl, rn_hp (wI S 66 6 ((rI S 66 6) + (1 : Int32))) M)) (rn_g_putf rfl rfl (en_7 rfl) rfl rfl rfl (wf_7_6 (v := ((rI S 66 6) + (1 : Int32))) rfl)) ?_
    refine rn_eg qm 3 (s2 := ((if u3 = (120 : Int32) then 35 else 63), [(0, .ref 66), (1, .ref u1), (2, .int u2), (3, .int u3)], [], N, sl, rn_hp (wI S 66 6 ((rI S 66 6) + (1 : Int32))) M)) rfl ?_
    refine rn_ite (fun c6 => ?_) (fun c6 => ?_)
    · rw [if_pos c6] at h
      refine rn_eg qm 3 (s2 := ((if (rI (wI S 66 6 ((rI S 66 6) + (1 : Int32))) 66 5) < 0 then 43 else 38), [(0, .ref 66), (1, .ref u1), (2, .int u2), (3, .int u3)], [], N, sl, rn_hp (wI S 66 6 ((rI S 66 6) + (1 : Int32))) M)) rfl ?_
      refine rn_ite (fun c7 => ?_) (fun c7 => ?_)
      · rw [if_pos c7] at h
        refine rn_eg qm 1 (s2 := (44, [], [.int (0 : Int32)], N, sl, rn_hp (wI S 66 6 ((rI S 66 6) + (1 : Int32))) M)) rfl ?_
        cases h
        exact rn_er qm rfl rfl rn_rt0
      · rw [if_neg c7] at h
        refine rn_eg qm 5 (s2 := ((if (rI (wI S 66 6 ((rI S 66 6) + (1 : Int32))) 66 5) < (rI (wI S 66 6 ((rI S 66 6) + (1 : Int32))) 66 10) then 45 else 43), [(0, .ref 66), (1, .ref u1), (2, .int u2), (3, .int u3)], [], N, sl, rn_hp (wI S 66 6 ((rI S 66 6) + (1 : Int32))) M)) rfl ?_
        refine rn_ite (fun c8 => ?_) (fun c8 => ?_)
        · rw [if_pos c8] at h
          refine rn_eg qm 5 (s2 := (50, [(0, .ref 66), (1, .ref u1), (2, .int u2), (3, .int u3)], [.int (rI (wI S 66 6 ((rI S 66 6) + (1 : Int32))) 66 5), .ref 69, .ref 66], N, sl, rn_hp (wI S 66 6 ((rI S 66 6) + (1 : Int32))) M)) rfl ?_
          have c9 : ¬ (rn_ob (rI (wI S 66 6 ((rI S 66 6) + (1 : Int32))) 66 5) 501) := fun c => by rw [if_pos c] at h; cases h
          rw [if_neg c9] at h
          refine rn_e1 qm (s2 := (51, [(0, .ref 66), (1, .ref u1), (2, .int u2), (3, .int u3)], [.int (rA (wI S 66 6 ((rI S 66 6) + (1 : Int32))) 69 (Int32.toNatClampNeg (rI (wI S 66 6 ((rI S 66 6) + (1 : Int32))) 66 5))), .ref 66], N, sl, rn_hp (wI S 66 6 ((rI S 66 6) + (1 : Int32))) M)) (rn_g_iald (n := 501) rfl rfl (ar_x10 rfl rfl (Nat.le_of_ble_eq_true rfl)) c9) ?_
          refine rn_eg qm 4 (s2 := (55, [(0, .ref 66), (1, .ref u1), (2, .int u2), (3, .int u3)], [.int (rI (wI S 66 6 ((rI S 66 6) + (1 : Int32))) 66 5), .ref 70, .int (rA (wI S 66 6 ((rI S 66 6) + (1 : Int32))) 69 (Int32.toNatClampNeg (rI (wI S 66 6 ((rI S 66 6) + (1 : Int32))) 66 5))), .ref 66], N, sl, rn_hp (wI S 66 6 ((rI S 66 6) + (1 : Int32))) M)) rfl ?_
          refine rn_e1 qm (s2 := (56, [(0, .ref 66), (1, .ref u1), (2, .int u2), (3, .int u3)], [.int (rA (wI S 66 6 ((rI S 66 6) + (1 : Int32))) 70 (Int32.toNatClampNeg (rI (wI S 66 6 ((rI S 66 6) + (1 : Int32))) 66 5))), .int (rA (wI S 66 6 ((rI S 66 6) + (1 : Int32))) 69 (Int32.toNatClampNeg (rI (wI S 66 6 ((rI S 66 6) + (1 : Int32))) 66 5))), .ref 66], N, sl, rn_hp (wI S 66 6 ((rI S 66 6) + (1 : Int32))) M)) (rn_g_iald (n := 501) rfl rfl (ar_x10 rfl rfl (Nat.le_of_ble_eq_true rfl)) c9) ?_
          refine rn_eg qm 4 (s2 := (60, [(0, .ref 66), (1, .ref u1), (2, .int u2), (3, .int u3)], [.int (rI (wI S 66 6 ((rI S 66 6) + (1 : Int32))) 66 5), .ref 71, .int (rA (wI S 66 6 ((rI S 66 6) + (1 : Int32))) 70 (Int32.toNatClampNeg (rI (wI S 66 6 ((rI S 66 6) + (1 : Int32))) 66 5))), .int (rA (wI S 66 6 ((rI S 66 6) + (1 : Int32))) 69 (Int32.toNatClampNeg (rI (wI S 66 6 ((rI S 66 6) + (1 : Int32))) 66 5))), .ref 66], N, sl, rn_hp (wI S 66 6 ((rI S 66 6) + (1 : Int32))) M)) rfl ?_
          refine rn_e1 qm (s2 := (61, [(0, .ref 66), (1, .ref u1), (2, .int u2), (3, .int u3)], [.int (rA (wI S 66 6 ((rI S 66 6) + (1 : Int32))) 71 (Int32.toNatClampNeg (rI (wI S 66 6 ((rI S 66 6) + (1 : Int32))) 66 5))), .int (rA (wI S 66 6 ((rI S 66 6) + (1 : Int32))) 70 (Int32.toNatClampNeg (rI (wI S 66 6 ((rI S 66 6) + (1 : Int32))) 66 5))), .int (rA (wI S 66 6 ((rI S 66 6) + (1 : Int32))) 69 (Int32.toNatClampNeg (rI (wI S 66 6 ((rI S 66 6) + (1 : Int32))) 66 5))), .ref 66], N, sl, rn_hp (wI S 66 6 ((rI S 66 6) + (1 : Int32))) M)) (rn_g_iald (n := 501) rfl rfl (ar_x10 rfl rfl (Nat.le_of_ble_eq_true rfl)) c9) ?_
          obtain ⟨p10, hp10, h⟩ := Option.bind_eq_some_iff.mp h
          refine rn_ec qm rfl rfl rfl rfl rn_m157 rfl rfl rfl (fun _ => rn_rc_of (en_7 (q := 66) rfl)) (E157 hp10) ?_
          refine rn_eg qm 0 (s2 := (62, [(0, .ref 66), (1, .ref u1), (2, .int u2), (3, .int u3)], [], N, sl, rn_hp p10 M)) rfl ?_
          refine rn_eg qm 3 (s2 := (2, [(2, .int (u2 + (1 : Int32))), (0, .ref 66), (1, .ref u1)], [], N, sl, rn_hp p10 M)) rfl ?_
          refine rn_kq qm (s2 := (2, [(0, .ref 66), (1, .ref u1), (2, .int (u2 + (1 : Int32)))], [], N, sl, rn_hp p10 M)) rfl rfl ?_
          exact hrc _ _ h
        · rw [if_neg c8] at h
          refine rn_eg qm 1 (s2 := (44, [], [.int (0 : Int32)], N, sl, rn_hp (wI S 66 6 ((rI S 66 6) + (1 : Int32))) M)) rfl ?_
          cases h
          exact rn_er qm rfl rfl rn_rt0
    · rw [if_neg c6] at h
      refine rn_eg qm 4 (s2 := (67, [(0, .ref 66), (1, .ref u1), (2, .int u2), (3, .int u3)], [.int (u3 - (65 : Int32)), .ref u1], N, sl, rn_hp (wI S 66 6 ((rI S 66 6) + (1 : Int32))) M)) rfl ?_
      obtain ⟨p11, hp11, h⟩ := Option.bind_eq_some_iff.mp h
      refine rn_ec qm rfl rfl rfl rfl rn_m114 rfl rfl rfl (fun _ => rn_rc_of (en_1 hu1)) (E114 hp11) ?_
      refine rn_eg qm 0 (s2 := (68, [(0, .ref 66), (1, .ref u1), (2, .int u2), (3, .int u3)], [.int (rn_bi p11)], N, sl, rn_hp (wI S 66 6 ((rI S 66 6) + (1 : Int32))) M)) rfl ?_
      refine rn_eg qm 8 (s2 := ((if (rn_bi p11) = 0 then 87 else 76), [(4, .int (rn_bi p11)), (0, .ref 66), (1, .ref u1), (2, .int u2), (3, .int u3)], [.int (0 : Int32), .int (u3 - (65 : Int32)), .ref 66], N, sl, rn_hp (wI S 66 6 ((rI S 66 6) + (1 : Int32))) M)) rfl ?_
      refine rn_iteb (fun c12 => ?_) (fun c12 => ?_)
      · rw [if_neg (rn_bf c12)] at h
        refine rn_eg qm 1 (s2 := (88, [(4, .int (rn_bi p11)), (0, .ref 66), (1, .ref u1), (2, .int u2), (3, .int u3)], [.int (-1 : Int32), .int (0 : Int32), .int (u3 - (65 : Int32)), .ref 66], N, sl, rn_hp (wI S 66 6 ((rI S 66 6) + (1 : Int32))) M)) rfl ?_
        obtain ⟨p13, hp13, h⟩ := Option.bind_eq_some_iff.mp h
        refine rn_ec qm rfl rfl rfl rfl rn_m157 rfl rfl rfl (fun _ => rn_rc_of (en_7 (q := 66) rfl)) (E157 hp13) ?_
        refine rn_eg qm 0 (s2 := (89, [(0, .ref 66), (1, .ref u1), (2, .int u2)], [], N, sl, rn_hp p13 M)) rfl ?_
        refine rn_eg qm 2 (s2 := (2, [(2, .int (u2 + (1 : Int32))), (0, .ref 66), (1, .ref u1)], [], N, sl, rn_hp p13 M)) rfl ?_
        refine rn_kq qm (s2 := (2, [(0, .ref 66), (1, .ref u1), (2, .int (u2 + (1 : Int32)))], [], N, sl, rn_hp p13 M)) rfl rfl ?_
        exact hrc _ _ h
      · rw [if_pos c12] at h
        refine rn_eg qm 9 (s2 := (85, [(4, .int (rn_bi p11)), (0, .ref 66), (1, .ref u1), (2, .int u2), (3, .int u3)], [.int (rI (wI S 66 6 ((rI S 66 6) + (1 : Int32))) 66 5), .int ((rI (wI S 66 6 ((rI S 66 6) + (1 : Int32))) 66 4) + (1 : Int32)), .int (rI (wI S 66 6 ((rI S 66 6) + (1 : Int32))) 66 3), .ref 66, .int (0 : Int32), .int (u3 - (65 : Int32)), .ref 66], N, sl, rn_hp (wI S 66 6 ((rI S 66 6) + (1 : Int32))) M)) rfl ?_
        obtain ⟨p14, hp14, h⟩ := Option.bind_eq_some_iff.mp h
        refine rn_ec qm rfl rfl rfl rfl rn_m158 rfl rfl rfl (fun _ => rn_rc_of (en_7 (q := 66) rfl)) (E158 hp14) ?_
        refine rn_eg qm 0 (s2 := (86, [(4, .int (rn_bi p11)), (0, .ref 66), (1, .ref u1), (2, .int u2), (3, .int u3)], [.int p14.1, .int (0 : Int32), .int (u3 - (65 : Int32)), .ref 66], N, sl, rn_hp p14.2 M)) rfl ?_
        refine rn_eg qm 1 (s2 := (88, [(4, .int (rn_bi p11)), (0, .ref 66), (1, .ref u1), (2, .int u2), (3, .int u3)], [.int p14.1, .int (0 : Int32), .int (u3 - (65 : Int32)), .ref 66], N, sl, rn_hp p14.2 M)) rfl ?_
        obtain ⟨p15, hp15, h⟩ := Option.bind_eq_some_iff.mp h
        refine rn_ec qm rfl rfl rfl rfl rn_m157 rfl rfl rfl (fun _ => rn_rc_of (en_7 (q := 66) rfl)) (E157 hp15) ?_
        refine rn_eg qm 0 (s2 := (89, [(0, .ref 66), (1, .ref u1), (2, .int u2)], [], N, sl, rn_hp p15 M)) rfl ?_
        refine rn_eg qm 2 (s2 := (2, [(2, .int (u2 + (1 : Int32))), (0, .ref 66), (1, .ref u1)], [], N, sl, rn_hp p15 M)) rfl ?_
        refine rn_kq qm (s2 := (2, [(0, .ref 66), (1, .ref u1), (2, .int (u2 + (1 : Int32)))], [], N, sl, rn_hp p15 M)) rfl rfl ?_
        exact hrc _ _ h
  · rw [if_neg c5] at h
    refine rn_eg qm 1 (s2 := (25, [(0, .ref 66), (1, .ref u1), (2, .int u2), (3, .int u3)], [.int (0 : Int32)], N, sl, rn_hp S M)) rfl ?_
    cases h
    exact rn_er qm rfl rfl rn_rt0
def f160_L2 (b1 : Nat) : Nat → rn_T → Int32 → (rn_T → Option (Bool × rn_T)) → Option (Bool × rn_T)
  | 0, _, _, _ => none
  | fu + 1, S, v2, k =>
    if (500 : Int32) < v2 then
      k S
    else
      if rn_kd b1 = 1 then
        Option.bind (f115 S b1 (rI S 66 3) (rI S 66 4)) fun p3 =>
          if p3 = (120 : Int32) then
            f160_J20_2 S b1 v2 p3 (fun S v2 => f160_L2 b1 fu S v2 k) k
          else
            if (f27 p3) = true then
              f160_J20_2 S b1 v2 p3 (fun S v2 => f160_L2 b1 fu S v2 k) k
            else
              some (true, S)
      else none
set_option maxHeartbeats 4000000 in
theorem E160_L2 {X : rn_X} {N sl : Nat} {M : rn_T} {b1 : Nat} : ∀ (fu : Nat) (S : rn_T) (v2 : Int32) (k : (rn_T → Option (Bool × rn_T))) (R : (Bool × rn_T)), (∀ (S : rn_T), k S = some R → rn_rv X 160 (91, [], [], N, sl, rn_hp S M) (some (.int (rn_bi R.1)), N, sl, rn_hp R.2 M)) → f160_L2 b1 fu S v2 k = some R → rn_rv X 160 (2, [(0, .ref 66), (1, .ref b1), (2, .int v2)], [], N, sl, rn_hp S M) (some (.int (rn_bi R.1)), N, sl, rn_hp R.2 M) := by
  have qm := rn_m160
  intro fu
  induction fu with
  | zero => intro S v2 k R hk h; cases h
  | succ fu ih =>
    intro S v2 k R hk h
    unfold f160_L2 at h
    refine rn_eg qm 3 (s2 := ((if (500 : Int32) < v2 then 91 else 5), [(0, .ref 66), (1, .ref b1), (2, .int v2)], [], N, sl, rn_hp S M)) rfl ?_
    refine rn_ite (fun c1 => ?_) (fun c1 => ?_)
    · rw [if_pos c1] at h
      refine rn_kq qm (s2 := (91, [], [], N, sl, rn_hp S M)) rfl rfl ?_
      exact hk _ h
    · rw [if_neg c1] at h
      refine rn_eg qm 5 (s2 := (10, [(0, .ref 66), (1, .ref b1), (2, .int v2)], [.int (rI S 66 4), .int (rI S 66 3), .ref b1], N, sl, rn_hp S M)) rfl ?_
      have k2 : rn_kd b1 = 1 := Decidable.byContradiction fun c => by rw [if_neg c] at h; cases h
      rw [if_pos k2] at h
      obtain ⟨p3, hp3, h⟩ := Option.bind_eq_some_iff.mp h
      refine rn_ec qm rfl rfl rfl rfl rn_m115 rfl rfl rfl (fun _ => rn_rc_of (en_1 k2)) (E115 hp3) ?_
      refine rn_eg qm 0 (s2 := (11, [(0, .ref 66), (1, .ref b1), (2, .int v2)], [.int p3], N, sl, rn_hp S M)) rfl ?_
      refine rn_eg qm 4 (s2 := ((if p3 = (120 : Int32) then 20 else 15), [(3, .int p3), (0, .ref 66), (1, .ref b1), (2, .int v2)], [], N, sl, rn_hp S M)) rfl ?_
      refine rn_ite (fun c4 => ?_) (fun c4 => ?_)
      · rw [if_pos c4] at h
        refine rn_kq qm (s2 := (20, [(0, .ref 66), (1, .ref b1), (2, .int v2), (3, .int p3)], [], N, sl, rn_hp S M)) rfl rfl ?_
        exact E160_J20_2 k2 (fun S v2 h => ih S v2 k R hk h) hk h
      · rw [if_neg c4] at h
        refine rn_eg qm 1 (s2 := (16, [(3, .int p3), (0, .ref 66), (1, .ref b1), (2, .int v2)], [.int p3], N, sl, rn_hp S M)) rfl ?_
        refine rn_ec qm rfl rfl rfl rfl rn_m27 rfl rfl rfl (fun h => by cases h) (E27 rfl) ?_
        refine rn_eg qm 0 (s2 := (17, [(3, .int p3), (0, .ref 66), (1, .ref b1), (2, .int v2)], [.int (rn_bi (f27 p3))], N, sl, rn_hp S M)) rfl ?_
        refine rn_eg qm 1 (s2 := ((if (rn_bi (f27 p3)) = 0 then 18 else 20), [(3, .int p3), (0, .ref 66), (1, .ref b1), (2, .int v2)], [], N, sl, rn_hp S M)) rfl ?_
        refine rn_iteb (fun c17 => ?_) (fun c17 => ?_)
        · rw [if_neg (rn_bf c17)] at h
          refine rn_eg qm 1 (s2 := (19, [(3, .int p3), (0, .ref 66), (1, .ref b1), (2, .int v2)], [.int (1 : Int32)], N, sl, rn_hp S M)) rfl ?_
          cases h
          exact rn_er qm rfl rfl rn_rt1
        · rw [if_pos c17] at h
          refine rn_kq qm (s2 := (20, [(0, .ref 66), (1, .ref b1), (2, .int v2), (3, .int p3)], [], N, sl, rn_hp S M)) rfl rfl ?_
          exact E160_J20_2 k2 (fun S v2 h => ih S v2 k R hk h) hk h
def f160 (S : rn_T) (a1 : Nat) : Option (Bool × rn_T) :=
  f160_L2 a1 rn_FU S (0 : Int32) (fun S18 =>
    some (false, S18))
set_option maxHeartbeats 4000000 in
theorem E160 {X : rn_X} {N sl : Nat} {S M : rn_T} {a1 : Nat} {R : (Bool × rn_T)} (h : f160 S a1 = some R) : rn_rv X 160 (0, [(0, .ref 66), (1, .ref a1)], [], N, sl, rn_hp S M) (some (.int (rn_bi R.1)), N, sl, rn_hp R.2 M) := by
  have qm := rn_m160
  unfold f160 at h
  refine rn_eg qm 2 (s2 := (2, [(2, .int (0 : Int32)), (0, .ref 66), (1, .ref a1)], [], N, sl, rn_hp S M)) rfl ?_
  refine rn_kq qm (s2 := (2, [(0, .ref 66), (1, .ref a1), (2, .int (0 : Int32))], [], N, sl, rn_hp S M)) rfl rfl ?_
  refine E160_L2 rn_FU _ _ _ R ?_ h
  intro S18 h
  refine rn_eg qm 1 (s2 := (92, [], [.int (0 : Int32)], N, sl, rn_hp S18 M)) rfl ?_
  cases h
  exact rn_er qm rfl rfl rn_rt0
/-! 128: RecordNiches$Node.reset(LRecordNiches$Node;)V -/
def f128 (S : rn_T) (a0 : Nat) (a1 : Option Nat) : Option (rn_T) :=
  rn_om (a1)
    (if rn_kd a0 = 3 then
      some (wI (wR (wI S a0 1 (0 : Int32)) a0 (none)) a0 14 (-6 : Int32))
    else none)
    fun r1 =>
      if rn_kd a0 = 3 then
        if rn_kd r1 = 3 then
          if (rI (wI (wR (wI S a0 1 (0 : Int32)) a0 (some r1)) a0 14 (-6 : Int32)) r1 1) < (6 : Int32) then
            if rn_ob (rI (wI (wI (wR (wI S a0 1 (0 : Int32)) a0 (some r1)) a0 14 (-6 : Int32)) a0 3 (rI (wI (wR (wI S a0 1 (0 : Int32)) a0 (some r1)) a0 14 (-6 : Int32)) r1 1)) a0 3) 6 then none else
              some (wI (wP (wI (wI (wR (wI S a0 1 (0 : Int32)) a0 (some r1)) a0 14 (-6 : Int32)) a0 3 (rI (wI (wR (wI S a0 1 (0 : Int32)) a0 (some r1)) a0 14 (-6 : Int32)) r1 1)) (r1 + 1) (Int32.toNatClampNeg (rI (wI (wI (wR (wI S a0 1 (0 : Int32)) a0 (some r1)) a0 14 (-6 : Int32)) a0 3 (rI (wI (wR (wI S a0 1 (0 : Int32)) a0 (some r1)) a0 14 (-6 : Int32)) r1 1)) a0 3)) (some a0)) r1 1 ((rI (wP (wI (wI (wR (wI S a0 1 (0 : Int32)) a0 (some r1)) a0 14 (-6 : Int32)) a0 3 (rI (wI (wR (wI S a0 1 (0 : Int32)) a0 (some r1)) a0 14 (-6 : Int32)) r1 1)) (r1 + 1) (Int32.toNatClampNeg (rI (wI (wI (wR (wI S a0 1 (0 : Int32)) a0 (some r1)) a0 14 (-6 : Int32)) a0 3 (rI (wI (wR (wI S a0 1 (0 : Int32)) a0 (some r1)) a0 14 (-6 : Int32)) r1 1)) a0 3)) (some a0)) r1 1) + (1 : Int32)))
          else
            some (wI (wR (wI S a0 1 (0 : Int32)) a0 (some r1)) a0 14 (-6 : Int32))
        else none
      else none
set_option maxHeartbeats 4000000 in
theorem E128 {X : rn_X} {N sl : Nat} {S M : rn_T} {a0 : Nat} {a1 : Option Nat} {R : (rn_T)} (h : f128 S a0 a1 = some R) : rn_rv X 128 (0, [(0, .ref a0), (1, va_rf a1)], [], N, sl, rn_hp S M) (none, N, sl, rn_hp R M) := by
  have qm := rn_m128
  unfold f128 at h
  cases a1 with
  | none =>
    rw [rn_om_n rfl] at h
    refine rn_eg qm 2 (s2 := (2, [(0, .ref a0), (1, .null)], [.int (0 : Int32), .ref a0], N, sl, rn_hp S M)) rfl ?_
    have k2 : rn_kd a0 = 3 := Decidable.byContradiction fun c => by rw [if_neg c] at h; cases h
    rw [if_pos k2] at h
    refine rn_e1 qm (s2 := (3, [(0, .ref a0), (1, .null)], [], N, sl, rn_hp (wI S a0 1 (0 : Int32)) M)) (rn_g_putf rfl rfl (en_3 k2) rfl rfl rfl (wf_3_1 (v := (0 : Int32)) k2)) ?_
    refine rn_eg qm 2 (s2 := (5, [(0, .ref a0), (1, .null)], [.null, .ref a0], N, sl, rn_hp (wI S a0 1 (0 : Int32)) M)) rfl ?_
    refine rn_e1 qm (s2 := (6, [(0, .ref a0), (1, .null)], [], N, sl, rn_hp (wR (wI S a0 1 (0 : Int32)) a0 (none)) M)) (rn_g_putf rfl rfl (en_3 k2) rfl rfl rfl (wf_3_2 (v := none) k2)) ?_
    refine rn_eg qm 2 (s2 := (8, [(0, .ref a0), (1, .null)], [.int (-6 : Int32), .ref a0], N, sl, rn_hp (wR (wI S a0 1 (0 : Int32)) a0 (none)) M)) rfl ?_
    refine rn_e1 qm (s2 := (9, [(0, .ref a0), (1, .null)], [], N, sl, rn_hp (wI (wR (wI S a0 1 (0 : Int32)) a0 (none)) a0 14 (-6 : Int32)) M)) (rn_g_putf rfl rfl (en_3 k2) rfl rfl rfl (wf_3_14 (v := (-6 : Int32)) k2)) ?_
    refine rn_eg qm 2 (s2 := (15, [(0, .ref a0), (1, .null)], [], N, sl, rn_hp (wI (wR (wI S a0 1 (0 : Int32)) a0 (none)) a0 14 (-6 : Int32)) M)) rfl ?_
    cases h
    exact rn_er qm rfl rfl rfl
  | some r1 =>
    rw [rn_om_s rfl] at h
    refine rn_eg qm 2 (s2 := (2, [(0, .ref a0), (1, .ref r1)], [.int (0 : Int32), .ref a0], N, sl, rn_hp S M)) rfl ?_
    have k3 : rn_kd a0 = 3 := Decidable.byContradiction fun c => by rw [if_neg c] at h; cases h
    rw [if_pos k3] at h
    refine rn_e1 qm (s2 := (3, [(0, .ref a0), (1, .ref r1)], [], N, sl, rn_hp (wI S a0 1 (0 : Int32)) M)) (rn_g_putf rfl rfl (en_3 k3) rfl rfl rfl (wf_3_1 (v := (0 : Int32)) k3)) ?_
    refine rn_eg qm 2 (s2 := (5, [(0, .ref a0), (1, .ref r1)], [.ref r1, .ref a0], N, sl, rn_hp (wI S a0 1 (0 : Int32)) M)) rfl ?_
    refine rn_e1 qm (s2 := (6, [(0, .ref a0), (1, .ref r1)], [], N, sl, rn_hp (wR (wI S a0 1 (0 : Int32)) a0 (some r1)) M)) (rn_g_putf rfl rfl (en_3 k3) rfl rfl rfl (wf_3_2 (v := some r1) k3)) ?_
    refine rn_eg qm 2 (s2 := (8, [(0, .ref a0), (1, .ref r1)], [.int (-6 : Int32), .ref a0], N, sl, rn_hp (wR (wI S a0 1 (0 : Int32)) a0 (some r1)) M)) rfl ?_
    refine rn_e1 qm (s2 := (9, [(0, .ref a0), (1, .ref r1)], [], N, sl, rn_hp (wI (wR (wI S a0 1 (0 : Int32)) a0 (some r1)) a0 14 (-6 : Int32)) M)) (rn_g_putf rfl rfl (en_3 k3) rfl rfl rfl (wf_3_14 (v := (-6 : Int32)) k3)) ?_
    refine rn_eg qm 3 (s2 := (12, [(0, .ref a0), (1, .ref r1)], [.ref r1], N, sl, rn_hp (wI (wR (wI S a0 1 (0 : Int32)) a0 (some r1)) a0 14 (-6 : Int32)) M)) rfl ?_
    have k4 : rn_kd r1 = 3 := Decidable.byContradiction fun c => by rw [if_neg c] at h; cases h
    rw [if_pos k4] at h
    refine rn_e1 qm (s2 := (13, [(0, .ref a0), (1, .ref r1)], [.int (rI (wI (wR (wI S a0 1 (0 : Int32)) a0 (some r1)) a0 14 (-6 : Int32)) r1 1)], N, sl, rn_hp (wI (wR (wI S a0 1 (0 : Int32)) a0 (some r1)) a0 14 (-6 : Int32)) M)) (rn_g_getf rfl rfl (en_3 k4) rfl) ?_
    refine rn_eg qm 2 (s2 := ((if (rI (wI (wR (wI S a0 1 (0 : Int32)) a0 (some r1)) a0 14 (-6 : Int32)) r1 1) < (6 : Int32) then 16 else 15), [(0, .ref a0), (1, .ref r1)], [], N, sl, rn_hp (wI (wR (wI S a0 1 (0 : Int32)) a0 (some r1)) a0 14 (-6 : Int32)) M)) rfl ?_
    refine rn_ite (fun c5 => ?_) (fun c5 => ?_)
    · rw [if_pos c5] at h
      refine rn_eg qm 2 (s2 := (18, [(0, .ref a0), (1, .ref r1)], [.ref r1, .ref a0], N, sl, rn_hp (wI (wR (wI S a0 1 (0 : Int32)) a0 (some r1)) a0 14 (-6 : Int32)) M)) rfl ?_
      refine rn_e1 qm (s2 := (19, [(0, .ref a0), (1, .ref r1)], [.int (rI (wI (wR (wI S a0 1 (0 : Int32)) a0 (some r1)) a0 14 (-6 : Int32)) r1 1), .ref a0], N, sl, rn_hp (wI (wR (wI S a0 1 (0 : Int32)) a0 (some r1)) a0 14 (-6 : Int32)) M)) (rn_g_getf rfl rfl (en_3 k4) rfl) ?_
      refine rn_e1 qm (s2 := (20, [(0, .ref a0), (1, .ref r1)], [], N, sl, rn_hp (wI (wI (wR (wI S a0 1 (0 : Int32)) a0 (some r1)) a0 14 (-6 : Int32)) a0 3 (rI (wI (wR (wI S a0 1 (0 : Int32)) a0 (some r1)) a0 14 (-6 : Int32)) r1 1)) M)) (rn_g_putf rfl rfl (en_3 k3) rfl rfl rfl (wf_3_3 (v := (rI (wI (wR (wI S a0 1 (0 : Int32)) a0 (some r1)) a0 14 (-6 : Int32)) r1 1)) k3)) ?_
      refine rn_eg qm 1 (s2 := (21, [(0, .ref a0), (1, .ref r1)], [.ref r1], N, sl, rn_hp (wI (wI (wR (wI S a0 1 (0 : Int32)) a0 (some r1)) a0 14 (-6 : Int32)) a0 3 (rI (wI (wR (wI S a0 1 (0 : Int32)) a0 (some r1)) a0 14 (-6 : Int32)) r1 1)) M)) rfl ?_
      refine rn_e1 qm (s2 := (22, [(0, .ref a0), (1, .ref r1)], [.ref (r1 + 1)], N, sl, rn_hp (wI (wI (wR (wI S a0 1 (0 : Int32)) a0 (some r1)) a0 14 (-6 : Int32)) a0 3 (rI (wI (wR (wI S a0 1 (0 : Int32)) a0 (some r1)) a0 14 (-6 : Int32)) r1 1)) M)) (rn_g_getf rfl rfl (en_3 k4) rfl) ?_
      refine rn_eg qm 1 (s2 := (23, [(0, .ref a0), (1, .ref r1)], [.ref a0, .ref (r1 + 1)], N, sl, rn_hp (wI (wI (wR (wI S a0 1 (0 : Int32)) a0 (some r1)) a0 14 (-6 : Int32)) a0 3 (rI (wI (wR (wI S a0 1 (0 : Int32)) a0 (some r1)) a0 14 (-6 : Int32)) r1 1)) M)) rfl ?_
      refine rn_e1 qm (s2 := (24, [(0, .ref a0), (1, .ref r1)], [.int (rI (wI (wI (wR (wI S a0 1 (0 : Int32)) a0 (some r1)) a0 14 (-6 : Int32)) a0 3 (rI (wI (wR (wI S a0 1 (0 : Int32)) a0 (some r1)) a0 14 (-6 : Int32)) r1 1)) a0 3), .ref (r1 + 1)], N, sl, rn_hp (wI (wI (wR (wI S a0 1 (0 : Int32)) a0 (some r1)) a0 14 (-6 : Int32)) a0 3 (rI (wI (wR (wI S a0 1 (0 : Int32)) a0 (some r1)) a0 14 (-6 : Int32)) r1 1)) M)) (rn_g_getf rfl rfl (en_3 k3) rfl) ?_
      refine rn_eg qm 1 (s2 := (25, [(0, .ref a0), (1, .ref r1)], [.ref a0, .int (rI (wI (wI (wR (wI S a0 1 (0 : Int32)) a0 (some r1)) a0 14 (-6 : Int32)) a0 3 (rI (wI (wR (wI S a0 1 (0 : Int32)) a0 (some r1)) a0 14 (-6 : Int32)) r1 1)) a0 3), .ref (r1 + 1)], N, sl, rn_hp (wI (wI (wR (wI S a0 1 (0 : Int32)) a0 (some r1)) a0 14 (-6 : Int32)) a0 3 (rI (wI (wR (wI S a0 1 (0 : Int32)) a0 (some r1)) a0 14 (-6 : Int32)) r1 1)) M)) rfl ?_
      have c6 : ¬ (rn_ob (rI (wI (wI (wR (wI S a0 1 (0 : Int32)) a0 (some r1)) a0 14 (-6 : Int32)) a0 3 (rI (wI (wR (wI S a0 1 (0 : Int32)) a0 (some r1)) a0 14 (-6 : Int32)) r1 1)) a0 3) 6) := fun c => by rw [if_pos c] at h; cases h
      rw [if_neg c6] at h
      refine rn_e1 qm (s2 := (26, [(0, .ref a0), (1, .ref r1)], [], N, sl, rn_hp (wP (wI (wI (wR (wI S a0 1 (0 : Int32)) a0 (some r1)) a0 14 (-6 : Int32)) a0 3 (rI (wI (wR (wI S a0 1 (0 : Int32)) a0 (some r1)) a0 14 (-6 : Int32)) r1 1)) (r1 + 1) (Int32.toNatClampNeg (rI (wI (wI (wR (wI S a0 1 (0 : Int32)) a0 (some r1)) a0 14 (-6 : Int32)) a0 3 (rI (wI (wR (wI S a0 1 (0 : Int32)) a0 (some r1)) a0 14 (-6 : Int32)) r1 1)) a0 3)) (some a0)) M)) (rn_g_aast (n := 6) rfl rfl (ar_x14 (ko_3_0 k4).1 (ko_3_0 k4).2.1 (ko_3_0 k4).2.2) (en_3 k3) c6 (aw_x14 (ko_3_0 k4).1 (ko_3_0 k4).2.1 (ko_3_0 k4).2.2)) ?_
      refine rn_eg qm 2 (s2 := (28, [(0, .ref a0), (1, .ref r1)], [.ref r1, .ref r1], N, sl, rn_hp (wP (wI (wI (wR (wI S a0 1 (0 : Int32)) a0 (some r1)) a0 14 (-6 : Int32)) a0 3 (rI (wI (wR (wI S a0 1 (0 : Int32)) a0 (some r1)) a0 14 (-6 : Int32)) r1 1)) (r1 + 1) (Int32.toNatClampNeg (rI (wI (wI (wR (wI S a0 1 (0 : Int32)) a0 (some r1)) a0 14 (-6 : Int32)) a0 3 (rI (wI (wR (wI S a0 1 (0 : Int32)) a0 (some r1)) a0 14 (-6 : Int32)) r1 1)) a0 3)) (some a0)) M)) rfl ?_
      refine rn_e1 qm (s2 := (29, [(0, .ref a0), (1, .ref r1)], [.int (rI (wP (wI (wI (wR (wI S a0 1 (0 : Int32)) a0 (some r1)) a0 14 (-6 : Int32)) a0 3 (rI (wI (wR (wI S a0 1 (0 : Int32)) a0 (some r1)) a0 14 (-6 : Int32)) r1 1)) (r1 + 1) (Int32.toNatClampNeg (rI (wI (wI (wR (wI S a0 1 (0 : Int32)) a0 (some r1)) a0 14 (-6 : Int32)) a0 3 (rI (wI (wR (wI S a0 1 (0 : Int32)) a0 (some r1)) a0 14 (-6 : Int32)) r1 1)) a0 3)) (some a0)) r1 1), .ref r1], N, sl, rn_hp (wP (wI (wI (wR (wI S a0 1 (0 : Int32)) a0 (some r1)) a0 14 (-6 : Int32)) a0 3 (rI (wI (wR (wI S a0 1 (0 : Int32)) a0 (some r1)) a0 14 (-6 : Int32)) r1 1)) (r1 + 1) (Int32.toNatClampNeg (rI (wI (wI (wR (wI S a0 1 (0 : Int32)) a0 (some r1)) a0 14 (-6 : Int32)) a0 3 (rI (wI (wR (wI S a0 1 (0 : Int32)) a0 (some r1)) a0 14 (-6 : Int32)) r1 1)) a0 3)) (some a0)) M)) (rn_g_getf rfl rfl (en_3 k4) rfl) ?_
      refine rn_eg qm 2 (s2 := (31, [(0, .ref a0), (1, .ref r1)], [.int ((rI (wP (wI (wI (wR (wI S a0 1 (0 : Int32)) a0 (some r1)) a0 14 (-6 : Int32)) a0 3 (rI (wI (wR (wI S a0 1 (0 : Int32)) a0 (some r1)) a0 14 (-6 : Int32)) r1 1)) (r1 + 1) (Int32.toNatClampNeg (rI (wI (wI (wR (wI S a0 1 (0 : Int32)) a0 (some r1)) a0 14 (-6 : Int32)) a0 3 (rI (wI (wR (wI S a0 1 (0 : Int32)) a0 (some r1)) a0 14 (-6 : Int32)) r1 1)) a0 3)) (some a0)) r1 1) + (1 : Int32)), .ref r1], N, sl, rn_hp (wP (wI (wI (wR (wI S a0 1 (0 : Int32)) a0 (some r1)) a0 14 (-6 : Int32)) a0 3 (rI (wI (wR (wI S a0 1 (0 : Int32)) a0 (some r1)) a0 14 (-6 : Int32)) r1 1)) (r1 + 1) (Int32.toNatClampNeg (rI (wI (wI (wR (wI S a0 1 (0 : Int32)) a0 (some r1)) a0 14 (-6 : Int32)) a0 3 (rI (wI (wR (wI S a0 1 (0 : Int32)) a0 (some r1)) a0 14 (-6 : Int32)) r1 1)) a0 3)) (some a0)) M)) rfl ?_
      refine rn_e1 qm (s2 := (32, [(0, .ref a0), (1, .ref r1)], [], N, sl, rn_hp (wI (wP (wI (wI (wR (wI S a0 1 (0 : Int32)) a0 (some r1)) a0 14 (-6 : Int32)) a0 3 (rI (wI (wR (wI S a0 1 (0 : Int32)) a0 (some r1)) a0 14 (-6 : Int32)) r1 1)) (r1 + 1) (Int32.toNatClampNeg (rI (wI (wI (wR (wI S a0 1 (0 : Int32)) a0 (some r1)) a0 14 (-6 : Int32)) a0 3 (rI (wI (wR (wI S a0 1 (0 : Int32)) a0 (some r1)) a0 14 (-6 : Int32)) r1 1)) a0 3)) (some a0)) r1 1 ((rI (wP (wI (wI (wR (wI S a0 1 (0 : Int32)) a0 (some r1)) a0 14 (-6 : Int32)) a0 3 (rI (wI (wR (wI S a0 1 (0 : Int32)) a0 (some r1)) a0 14 (-6 : Int32)) r1 1)) (r1 + 1) (Int32.toNatClampNeg (rI (wI (wI (wR (wI S a0 1 (0 : Int32)) a0 (some r1)) a0 14 (-6 : Int32)) a0 3 (rI (wI (wR (wI S a0 1 (0 : Int32)) a0 (some r1)) a0 14 (-6 : Int32)) r1 1)) a0 3)) (some a0)) r1 1) + (1 : Int32))) M)) (rn_g_putf rfl rfl (en_3 k4) rfl rfl rfl (wf_3_1 (v := ((rI (wP (wI (wI (wR (wI S a0 1 (0 : Int32)) a0 (some r1)) a0 14 (-6 : Int32)) a0 3 (rI (wI (wR (wI S a0 1 (0 : Int32)) a0 (some r1)) a0 14 (-6 : Int32)) r1 1)) (r1 + 1) (Int32.toNatClampNeg (rI (wI (wI (wR (wI S a0 1 (0 : Int32)) a0 (some r1)) a0 14 (-6 : Int32)) a0 3 (rI (wI (wR (wI S a0 1 (0 : Int32)) a0 (some r1)) a0 14 (-6 : Int32)) r1 1)) a0 3)) (some a0)) r1 1) + (1 : Int32))) k4)) ?_
      cases h
      exact rn_er qm rfl rfl rfl
    · rw [if_neg c5] at h
      cases h
      exact rn_er qm rfl rfl rfl
/-! 130: RecordNiches$Node.setGap(IIII)V -/
def f130 (S : rn_T) (a0 : Nat) (a1 : Int32) (a2 : Int32) (a3 : Int32) (a4 : Int32) : Option (rn_T) :=
  if rn_kd a0 = 3 then
    some (wI (wI (wI (wI S a0 8 a1) a0 9 a2) a0 10 a3) a0 11 a4)
  else none
set_option maxHeartbeats 4000000 in
theorem E130 {X : rn_X} {N sl : Nat} {S M : rn_T} {a0 : Nat} {a1 : Int32} {a2 : Int32} {a3 : Int32} {a4 : Int32} {R : (rn_T)} (h : f130 S a0 a1 a2 a3 a4 = some R) : rn_rv X 130 (0, [(0, .ref a0), (1, .int a1), (2, .int a2), (3, .int a3), (4, .int a4)], [], N, sl, rn_hp S M) (none, N, sl, rn_hp R M) := by
  have qm := rn_m130
  unfold f130 at h
  refine rn_eg qm 2 (s2 := (2, [(0, .ref a0), (1, .int a1), (2, .int a2), (3, .int a3), (4, .int a4)], [.int a1, .ref a0], N, sl, rn_hp S M)) rfl ?_
  have k1 : rn_kd a0 = 3 := Decidable.byContradiction fun c => by rw [if_neg c] at h; cases h
  rw [if_pos k1] at h
  refine rn_e1 qm (s2 := (3, [(0, .ref a0), (1, .int a1), (2, .int a2), (3, .int a3), (4, .int a4)], [], N, sl, rn_hp (wI S a0 8 a1) M)) (rn_g_putf rfl rfl (en_3 k1) rfl rfl rfl (wf_3_8 (v := a1) k1)) ?_
  refine rn_eg qm 2 (s2 := (5, [(0, .ref a0), (1, .int a1), (2, .int a2), (3, .int a3), (4, .int a4)], [.int a2, .ref a0], N, sl, rn_hp (wI S a0 8 a1) M)) rfl ?_
  refine rn_e1 qm (s2 := (6, [(0, .ref a0), (1, .int a1), (2, .int a2), (3, .int a3), (4, .int a4)], [], N, sl, rn_hp (wI (wI S a0 8 a1) a0 9 a2) M)) (rn_g_putf rfl rfl (en_3 k1) rfl rfl rfl (wf_3_9 (v := a2) k1)) ?_
  refine rn_eg qm 2 (s2 := (8, [(0, .ref a0), (1, .int a1), (2, .int a2), (3, .int a3), (4, .int a4)], [.int a3, .ref a0], N, sl, rn_hp (wI (wI S a0 8 a1) a0 9 a2) M)) rfl ?_
  refine rn_e1 qm (s2 := (9, [(0, .ref a0), (1, .int a1), (2, .int a2), (3, .int a3), (4, .int a4)], [], N, sl, rn_hp (wI (wI (wI S a0 8 a1) a0 9 a2) a0 10 a3) M)) (rn_g_putf rfl rfl (en_3 k1) rfl rfl rfl (wf_3_10 (v := a3) k1)) ?_
  refine rn_eg qm 2 (s2 := (11, [(0, .ref a0), (1, .int a1), (2, .int a2), (3, .int a3), (4, .int a4)], [.int a4, .ref a0], N, sl, rn_hp (wI (wI (wI S a0 8 a1) a0 9 a2) a0 10 a3) M)) rfl ?_
  refine rn_e1 qm (s2 := (12, [(0, .ref a0), (1, .int a1), (2, .int a2), (3, .int a3), (4, .int a4)], [], N, sl, rn_hp (wI (wI (wI (wI S a0 8 a1) a0 9 a2) a0 10 a3) a0 11 a4) M)) (rn_g_putf rfl rfl (en_3 k1) rfl rfl rfl (wf_3_11 (v := a4) k1)) ?_
  cases h
  exact rn_er qm rfl rfl rfl
/-! 129: RecordNiches$Node.be(II)V -/
def f129_J12 (S : rn_T) (u0 : Nat) (t0 : Nat) (t1 : Int32) : Option (rn_T) :=
  Option.bind (f130 (wI S t0 6 t1) u0 (0 : Int32) (0 : Int32) (0 : Int32) (0 : Int32)) fun p3 =>
    some (p3)
set_option maxHeartbeats 4000000 in
theorem E129_J12 {X : rn_X} {N sl : Nat} {M : rn_T} {S : rn_T} {u0 : Nat} {t0 : Nat} {t1 : Int32} {R : (rn_T)} (hu0 : rn_kd u0 = 3) (ht0 : rn_kd t0 = 3) (h : f129_J12 S u0 t0 t1 = some R) : rn_rv X 129 (12, [(0, .ref u0)], [.int t1, .ref t0], N, sl, rn_hp S M) (none, N, sl, rn_hp R M) := by
  have qm := rn_m129
  unfold f129_J12 at h
  refine rn_e1 qm (s2 := (13, [(0, .ref u0)], [], N, sl, rn_hp (wI S t0 6 t1) M)) (rn_g_putf rfl rfl (en_3 ht0) rfl rfl rfl (wf_3_6 (v := t1) ht0)) ?_
  refine rn_eg qm 5 (s2 := (18, [(0, .ref u0)], [.int (0 : Int32), .int (0 : Int32), .int (0 : Int32), .int (0 : Int32), .ref u0], N, sl, rn_hp (wI S t0 6 t1) M)) rfl ?_
  obtain ⟨p3, hp3, h⟩ := Option.bind_eq_some_iff.mp h
  refine rn_ec qm rfl rfl rfl rfl rn_m130 rfl rfl rfl (fun _ => rn_rc_of (en_3 hu0)) (E130 hp3) ?_
  refine rn_eg qm 0 (s2 := (19, [(0, .ref u0)], [], N, sl, rn_hp p3 M)) rfl ?_
  cases h
  exact rn_er qm rfl rfl rfl
def f129 (S : rn_T) (a0 : Nat) (a1 : Int32) (a2 : Int32) : Option (rn_T) :=
  if rn_kd a0 = 3 then
    if a2 = 0 then
      f129_J12 (wI (wI S a0 4 a1) a0 5 a2) a0 a0 (1 : Int32)
    else
      f129_J12 (wI (wI S a0 4 a1) a0 5 a2) a0 a0 a2
  else none
set_option maxHeartbeats 4000000 in
theorem E129 {X : rn_X} {N sl : Nat} {S M : rn_T} {a0 : Nat} {a1 : Int32} {a2 : Int32} {R : (rn_T)} (h : f129 S a0 a1 a2 = some R) : rn_rv X 129 (0, [(0, .ref a0), (1, .int a1), (2, .int a2)], [], N, sl, rn_hp S M) (none, N, sl, rn_hp R M) := by
  have qm := rn_m129
  unfold f129 at h
  refine rn_eg qm 2 (s2 := (2, [(0, .ref a0), (1, .int a1), (2, .int a2)], [.int a1, .ref a0], N, sl, rn_hp S M)) rfl ?_
  have k1 : rn_kd a0 = 3 := Decidable.byContradiction fun c => by rw [if_neg c] at h; cases h
  rw [if_pos k1] at h
  refine rn_e1 qm (s2 := (3, [(0, .ref a0), (1, .int a1), (2, .int a2)], [], N, sl, rn_hp (wI S a0 4 a1) M)) (rn_g_putf rfl rfl (en_3 k1) rfl rfl rfl (wf_3_4 (v := a1) k1)) ?_
  refine rn_eg qm 2 (s2 := (5, [(0, .ref a0), (1, .int a1), (2, .int a2)], [.int a2, .ref a0], N, sl, rn_hp (wI S a0 4 a1) M)) rfl ?_
  refine rn_e1 qm (s2 := (6, [(0, .ref a0), (1, .int a1), (2, .int a2)], [], N, sl, rn_hp (wI (wI S a0 4 a1) a0 5 a2) M)) (rn_g_putf rfl rfl (en_3 k1) rfl rfl rfl (wf_3_5 (v := a2) k1)) ?_
  refine rn_eg qm 3 (s2 := ((if a2 = 0 then 9 else 11), [(0, .ref a0), (1, .int a1), (2, .int a2)], [.ref a0], N, sl, rn_hp (wI (wI S a0 4 a1) a0 5 a2) M)) rfl ?_
  refine rn_ite (fun c2 => ?_) (fun c2 => ?_)
  · rw [if_pos c2] at h
    refine rn_eg qm 2 (s2 := (12, [(0, .ref a0), (1, .int a1), (2, .int a2)], [.int (1 : Int32), .ref a0], N, sl, rn_hp (wI (wI S a0 4 a1) a0 5 a2) M)) rfl ?_
    refine rn_kq qm (s2 := (12, [(0, .ref a0)], [.int (1 : Int32), .ref a0], N, sl, rn_hp (wI (wI S a0 4 a1) a0 5 a2) M)) rfl rfl ?_
    exact E129_J12 k1 k1 h
  · rw [if_neg c2] at h
    refine rn_eg qm 1 (s2 := (12, [(0, .ref a0), (1, .int a1), (2, .int a2)], [.int a2, .ref a0], N, sl, rn_hp (wI (wI S a0 4 a1) a0 5 a2) M)) rfl ?_
    refine rn_kq qm (s2 := (12, [(0, .ref a0)], [.int a2, .ref a0], N, sl, rn_hp (wI (wI S a0 4 a1) a0 5 a2) M)) rfl rfl ?_
    exact E129_J12 k1 k1 h
/-! 161: RecordNiches$Tree.makeLeaf(LRecordNiches$Node;II)Z -/
def f161 (S : rn_T) (a0 : Nat) (a1 : Int32) (a2 : Int32) : Option (Bool × rn_T) :=
  if a1 = (48 : Int32) then
    if rn_kd a0 = 3 then
      Option.bind (f129 S a0 (0 : Int32) (0 : Int32)) fun p3 =>
        some (true, p3)
    else none
  else
    if a1 = (49 : Int32) then
      if rn_kd a0 = 3 then
        Option.bind (f129 S a0 (1 : Int32) (a1 - (48 : Int32))) fun p6 =>
          some (true, p6)
      else none
    else
      if a1 = (50 : Int32) then
        if rn_kd a0 = 3 then
          Option.bind (f129 S a0 (1 : Int32) (a1 - (48 : Int32))) fun p9 =>
            some (true, p9)
        else none
      else
        if a1 = (52 : Int32) then
          if rn_kd a0 = 3 then
            Option.bind (f129 S a0 (1 : Int32) (a1 - (48 : Int32))) fun p12 =>
              some (true, p12)
          else none
        else
          if a1 = (98 : Int32) then
            if rn_kd a0 = 3 then
              Option.bind (f129 S a0 (2 : Int32) (1 : Int32)) fun p15 =>
                Option.bind (f130 p15 a0 (0 : Int32) (1 : Int32) (2 : Int32) (254 : Int32)) fun p16 =>
                  some (true, p16)
            else none
          else
            if a1 = (101 : Int32) then
              if rn_kd a0 = 3 then
                Option.bind (f129 S a0 (3 : Int32) (1 : Int32)) fun p19 =>
                  Option.bind (f130 p19 a0 (0 : Int32) (1 : Int32) (a2 - (48 : Int32)) ((256 : Int32) - (a2 - (48 : Int32)))) fun p20 =>
                    some (true, p20)
              else none
            else
              if a1 = (112 : Int32) then
                if rn_kd a0 = 3 then
                  Option.bind (f129 S a0 (4 : Int32) (4 : Int32)) fun p23 =>
                    Option.bind (f130 p23 a0 (0 : Int32) (4 : Int32) (0 : Int32) (1 : Int32)) fun p24 =>
                      some (true, p24)
                else none
              else
                some (false, S)
set_option maxHeartbeats 4000000 in
theorem E161 {X : rn_X} {N sl : Nat} {S M : rn_T} {a0 : Nat} {a1 : Int32} {a2 : Int32} {R : (Bool × rn_T)} (h : f161 S a0 a1 a2 = some R) : rn_rv X 161 (0, [(0, .ref a0), (1, .int a1), (2, .int a2)], [], N, sl, rn_hp S M) (some (.int (rn_bi R.1)), N, sl, rn_hp R.2 M) := by
  have qm := rn_m161
  unfold f161 at h
  refine rn_eg qm 2 (s2 := ((if a1 = (48 : Int32) then 2 else (if a1 = (49 : Int32) then 8 else (if a1 = (50 : Int32) then 8 else (if a1 = (52 : Int32) then 8 else (if a1 = (98 : Int32) then 16 else (if a1 = (101 : Int32) then 28 else (if a1 = (112 : Int32) then 46 else 58))))))), [(0, .ref a0), (1, .int a1), (2, .int a2)], [], N, sl, rn_hp S M)) rfl ?_
  refine rn_ite (fun c1 => ?_) (fun c1 => ?_)
  · rw [if_pos c1] at h
    refine rn_eg qm 3 (s2 := (5, [(0, .ref a0), (1, .int a1), (2, .int a2)], [.int (0 : Int32), .int (0 : Int32), .ref a0], N, sl, rn_hp S M)) rfl ?_
    have k2 : rn_kd a0 = 3 := Decidable.byContradiction fun c => by rw [if_neg c] at h; cases h
    rw [if_pos k2] at h
    obtain ⟨p3, hp3, h⟩ := Option.bind_eq_some_iff.mp h
    refine rn_ec qm rfl rfl rfl rfl rn_m129 rfl rfl rfl (fun _ => rn_rc_of (en_3 k2)) (E129 hp3) ?_
    refine rn_eg qm 0 (s2 := (6, [(0, .ref a0), (1, .int a1), (2, .int a2)], [], N, sl, rn_hp p3 M)) rfl ?_
    refine rn_eg qm 1 (s2 := (7, [(0, .ref a0), (1, .int a1), (2, .int a2)], [.int (1 : Int32)], N, sl, rn_hp p3 M)) rfl ?_
    cases h
    exact rn_er qm rfl rfl rn_rt1
  · rw [if_neg c1] at h
    refine rn_ite (fun c4 => ?_) (fun c4 => ?_)
    · rw [if_pos c4] at h
      refine rn_eg qm 5 (s2 := (13, [(0, .ref a0), (1, .int a1), (2, .int a2)], [.int (a1 - (48 : Int32)), .int (1 : Int32), .ref a0], N, sl, rn_hp S M)) rfl ?_
      have k5 : rn_kd a0 = 3 := Decidable.byContradiction fun c => by rw [if_neg c] at h; cases h
      rw [if_pos k5] at h
      obtain ⟨p6, hp6, h⟩ := Option.bind_eq_some_iff.mp h
      refine rn_ec qm rfl rfl rfl rfl rn_m129 rfl rfl rfl (fun _ => rn_rc_of (en_3 k5)) (E129 hp6) ?_
      refine rn_eg qm 0 (s2 := (14, [(0, .ref a0), (1, .int a1), (2, .int a2)], [], N, sl, rn_hp p6 M)) rfl ?_
      refine rn_eg qm 1 (s2 := (15, [(0, .ref a0), (1, .int a1), (2, .int a2)], [.int (1 : Int32)], N, sl, rn_hp p6 M)) rfl ?_
      cases h
      exact rn_er qm rfl rfl rn_rt1
    · rw [if_neg c4] at h
      refine rn_ite (fun c7 => ?_) (fun c7 => ?_)
      · rw [if_pos c7] at h
        refine rn_eg qm 5 (s2 := (13, [(0, .ref a0), (1, .int a1), (2, .int a2)], [.int (a1 - (48 : Int32)), .int (1 : Int32), .ref a0], N, sl, rn_hp S M)) rfl ?_
        have k8 : rn_kd a0 = 3 := Decidable.byContradiction fun c => by rw [if_neg c] at h; cases h
        rw [if_pos k8] at h
        obtain ⟨p9, hp9, h⟩ := Option.bind_eq_some_iff.mp h
        refine rn_ec qm rfl rfl rfl rfl rn_m129 rfl rfl rfl (fun _ => rn_rc_of (en_3 k8)) (E129 hp9) ?_
        refine rn_eg qm 0 (s2 := (14, [(0, .ref a0), (1, .int a1), (2, .int a2)], [], N, sl, rn_hp p9 M)) rfl ?_
        refine rn_eg qm 1 (s2 := (15, [(0, .ref a0), (1, .int a1), (2, .int a2)], [.int (1 : Int32)], N, sl, rn_hp p9 M)) rfl ?_
        cases h
        exact rn_er qm rfl rfl rn_rt1
      · rw [if_neg c7] at h
        refine rn_ite (fun c10 => ?_) (fun c10 => ?_)
        · rw [if_pos c10] at h
          refine rn_eg qm 5 (s2 := (13, [(0, .ref a0), (1, .int a1), (2, .int a2)], [.int (a1 - (48 : Int32)), .int (1 : Int32), .ref a0], N, sl, rn_hp S M)) rfl ?_
          have k11 : rn_kd a0 = 3 := Decidable.byContradiction fun c => by rw [if_neg c] at h; cases h
          rw [if_pos k11] at h
          obtain ⟨p12, hp12, h⟩ := Option.bind_eq_some_iff.mp h
          refine rn_ec qm rfl rfl rfl rfl rn_m129 rfl rfl rfl (fun _ => rn_rc_of (en_3 k11)) (E129 hp12) ?_
          refine rn_eg qm 0 (s2 := (14, [(0, .ref a0), (1, .int a1), (2, .int a2)], [], N, sl, rn_hp p12 M)) rfl ?_
          refine rn_eg qm 1 (s2 := (15, [(0, .ref a0), (1, .int a1), (2, .int a2)], [.int (1 : Int32)], N, sl, rn_hp p12 M)) rfl ?_
          cases h
          exact rn_er qm rfl rfl rn_rt1
        · rw [if_neg c10] at h
          refine rn_ite (fun c13 => ?_) (fun c13 => ?_)
          · rw [if_pos c13] at h
            refine rn_eg qm 3 (s2 := (19, [(0, .ref a0), (1, .int a1), (2, .int a2)], [.int (1 : Int32), .int (2 : Int32), .ref a0], N, sl, rn_hp S M)) rfl ?_
            have k14 : rn_kd a0 = 3 := Decidable.byContradiction fun c => by rw [if_neg c] at h; cases h
            rw [if_pos k14] at h
            obtain ⟨p15, hp15, h⟩ := Option.bind_eq_some_iff.mp h
            refine rn_ec qm rfl rfl rfl rfl rn_m129 rfl rfl rfl (fun _ => rn_rc_of (en_3 k14)) (E129 hp15) ?_
            refine rn_eg qm 0 (s2 := (20, [(0, .ref a0), (1, .int a1), (2, .int a2)], [], N, sl, rn_hp p15 M)) rfl ?_
            refine rn_eg qm 5 (s2 := (25, [(0, .ref a0), (1, .int a1), (2, .int a2)], [.int (254 : Int32), .int (2 : Int32), .int (1 : Int32), .int (0 : Int32), .ref a0], N, sl, rn_hp p15 M)) rfl ?_
            obtain ⟨p16, hp16, h⟩ := Option.bind_eq_some_iff.mp h
            refine rn_ec qm rfl rfl rfl rfl rn_m130 rfl rfl rfl (fun _ => rn_rc_of (en_3 k14)) (E130 hp16) ?_
            refine rn_eg qm 0 (s2 := (26, [(0, .ref a0), (1, .int a1), (2, .int a2)], [], N, sl, rn_hp p16 M)) rfl ?_
            refine rn_eg qm 1 (s2 := (27, [(0, .ref a0), (1, .int a1), (2, .int a2)], [.int (1 : Int32)], N, sl, rn_hp p16 M)) rfl ?_
            cases h
            exact rn_er qm rfl rfl rn_rt1
          · rw [if_neg c13] at h
            refine rn_ite (fun c17 => ?_) (fun c17 => ?_)
            · rw [if_pos c17] at h
              refine rn_eg qm 3 (s2 := (31, [(0, .ref a0), (1, .int a1), (2, .int a2)], [.int (1 : Int32), .int (3 : Int32), .ref a0], N, sl, rn_hp S M)) rfl ?_
              have k18 : rn_kd a0 = 3 := Decidable.byContradiction fun c => by rw [if_neg c] at h; cases h
              rw [if_pos k18] at h
              obtain ⟨p19, hp19, h⟩ := Option.bind_eq_some_iff.mp h
              refine rn_ec qm rfl rfl rfl rfl rn_m129 rfl rfl rfl (fun _ => rn_rc_of (en_3 k18)) (E129 hp19) ?_
              refine rn_eg qm 0 (s2 := (32, [(0, .ref a0), (1, .int a1), (2, .int a2)], [], N, sl, rn_hp p19 M)) rfl ?_
              refine rn_eg qm 11 (s2 := (43, [(0, .ref a0), (1, .int a1), (2, .int a2)], [.int ((256 : Int32) - (a2 - (48 : Int32))), .int (a2 - (48 : Int32)), .int (1 : Int32), .int (0 : Int32), .ref a0], N, sl, rn_hp p19 M)) rfl ?_
              obtain ⟨p20, hp20, h⟩ := Option.bind_eq_some_iff.mp h
              refine rn_ec qm rfl rfl rfl rfl rn_m130 rfl rfl rfl (fun _ => rn_rc_of (en_3 k18)) (E130 hp20) ?_
              refine rn_eg qm 0 (s2 := (44, [(0, .ref a0), (1, .int a1), (2, .int a2)], [], N, sl, rn_hp p20 M)) rfl ?_
              refine rn_eg qm 1 (s2 := (45, [(0, .ref a0), (1, .int a1), (2, .int a2)], [.int (1 : Int32)], N, sl, rn_hp p20 M)) rfl ?_
              cases h
              exact rn_er qm rfl rfl rn_rt1
            · rw [if_neg c17] at h
              refine rn_ite (fun c21 => ?_) (fun c21 => ?_)
              · rw [if_pos c21] at h
                refine rn_eg qm 3 (s2 := (49, [(0, .ref a0), (1, .int a1), (2, .int a2)], [.int (4 : Int32), .int (4 : Int32), .ref a0], N, sl, rn_hp S M)) rfl ?_
                have k22 : rn_kd a0 = 3 := Decidable.byContradiction fun c => by rw [if_neg c] at h; cases h
                rw [if_pos k22] at h
                obtain ⟨p23, hp23, h⟩ := Option.bind_eq_some_iff.mp h
                refine rn_ec qm rfl rfl rfl rfl rn_m129 rfl rfl rfl (fun _ => rn_rc_of (en_3 k22)) (E129 hp23) ?_
                refine rn_eg qm 0 (s2 := (50, [(0, .ref a0), (1, .int a1), (2, .int a2)], [], N, sl, rn_hp p23 M)) rfl ?_
                refine rn_eg qm 5 (s2 := (55, [(0, .ref a0), (1, .int a1), (2, .int a2)], [.int (1 : Int32), .int (0 : Int32), .int (4 : Int32), .int (0 : Int32), .ref a0], N, sl, rn_hp p23 M)) rfl ?_
                obtain ⟨p24, hp24, h⟩ := Option.bind_eq_some_iff.mp h
                refine rn_ec qm rfl rfl rfl rfl rn_m130 rfl rfl rfl (fun _ => rn_rc_of (en_3 k22)) (E130 hp24) ?_
                refine rn_eg qm 0 (s2 := (56, [(0, .ref a0), (1, .int a1), (2, .int a2)], [], N, sl, rn_hp p24 M)) rfl ?_
                refine rn_eg qm 1 (s2 := (57, [(0, .ref a0), (1, .int a1), (2, .int a2)], [.int (1 : Int32)], N, sl, rn_hp p24 M)) rfl ?_
                cases h
                exact rn_er qm rfl rfl rn_rt1
              · rw [if_neg c21] at h
                refine rn_eg qm 1 (s2 := (59, [(0, .ref a0), (1, .int a1), (2, .int a2)], [.int (0 : Int32)], N, sl, rn_hp S M)) rfl ?_
                cases h
                exact rn_er qm rfl rfl rn_rt0
/-! 159: RecordNiches$Tree.grow(LRecordNiches$Holding;LRecordNiches$Node;)Z -/
def f159_J45 (S : rn_T) (u3 : Nat) (t0 : Nat) (t1 : Int32) : Option (Bool × rn_T) :=
  Option.bind (f129 S t0 t1 (0 : Int32)) fun p11 =>
    if rn_ob (rI p11 66 15) 100 then none else
      if rn_ob (rI (wP p11 72 (Int32.toNatClampNeg (rI p11 66 15)) (some u3)) 66 15) 100 then none else
        if rn_ob (rI (wA (wP p11 72 (Int32.toNatClampNeg (rI p11 66 15)) (some u3)) 73 (Int32.toNatClampNeg (rI (wP p11 72 (Int32.toNatClampNeg (rI p11 66 15)) (some u3)) 66 15)) (rI (wP p11 72 (Int32.toNatClampNeg (rI p11 66 15)) (some u3)) 66 3)) 66 15) 100 then none else
          if rn_ob (rI (wA (wA (wP p11 72 (Int32.toNatClampNeg (rI p11 66 15)) (some u3)) 73 (Int32.toNatClampNeg (rI (wP p11 72 (Int32.toNatClampNeg (rI p11 66 15)) (some u3)) 66 15)) (rI (wP p11 72 (Int32.toNatClampNeg (rI p11 66 15)) (some u3)) 66 3)) 74 (Int32.toNatClampNeg (rI (wA (wP p11 72 (Int32.toNatClampNeg (rI p11 66 15)) (some u3)) 73 (Int32.toNatClampNeg (rI (wP p11 72 (Int32.toNatClampNeg (rI p11 66 15)) (some u3)) 66 15)) (rI (wP p11 72 (Int32.toNatClampNeg (rI p11 66 15)) (some u3)) 66 3)) 66 15)) ((rI (wA (wP p11 72 (Int32.toNatClampNeg (rI p11 66 15)) (some u3)) 73 (Int32.toNatClampNeg (rI (wP p11 72 (Int32.toNatClampNeg (rI p11 66 15)) (some u3)) 66 15)) (rI (wP p11 72 (Int32.toNatClampNeg (rI p11 66 15)) (some u3)) 66 3)) 66 4) + (1 : Int32))) 66 15) 100 then none else
            some (true, wI (wA (wA (wA (wP p11 72 (Int32.toNatClampNeg (rI p11 66 15)) (some u3)) 73 (Int32.toNatClampNeg (rI (wP p11 72 (Int32.toNatClampNeg (rI p11 66 15)) (some u3)) 66 15)) (rI (wP p11 72 (Int32.toNatClampNeg (rI p11 66 15)) (some u3)) 66 3)) 74 (Int32.toNatClampNeg (rI (wA (wP p11 72 (Int32.toNatClampNeg (rI p11 66 15)) (some u3)) 73 (Int32.toNatClampNeg (rI (wP p11 72 (Int32.toNatClampNeg (rI p11 66 15)) (some u3)) 66 15)) (rI (wP p11 72 (Int32.toNatClampNeg (rI p11 66 15)) (some u3)) 66 3)) 66 15)) ((rI (wA (wP p11 72 (Int32.toNatClampNeg (rI p11 66 15)) (some u3)) 73 (Int32.toNatClampNeg (rI (wP p11 72 (Int32.toNatClampNeg (rI p11 66 15)) (some u3)) 66 15)) (rI (wP p11 72 (Int32.toNatClampNeg (rI p11 66 15)) (some u3)) 66 3)) 66 4) + (1 : Int32))) 75 (Int32.toNatClampNeg (rI (wA (wA (wP p11 72 (Int32.toNatClampNeg (rI p11 66 15)) (some u3)) 73 (Int32.toNatClampNeg (rI (wP p11 72 (Int32.toNatClampNeg (rI p11 66 15)) (some u3)) 66 15)) (rI (wP p11 72 (Int32.toNatClampNeg (rI p11 66 15)) (some u3)) 66 3)) 74 (Int32.toNatClampNeg (rI (wA (wP p11 72 (Int32.toNatClampNeg (rI p11 66 15)) (some u3)) 73 (Int32.toNatClampNeg (rI (wP p11 72 (Int32.toNatClampNeg (rI p11 66 15)) (some u3)) 66 15)) (rI (wP p11 72 (Int32.toNatClampNeg (rI p11 66 15)) (some u3)) 66 3)) 66 15)) ((rI (wA (wP p11 72 (Int32.toNatClampNeg (rI p11 66 15)) (some u3)) 73 (Int32.toNatClampNeg (rI (wP p11 72 (Int32.toNatClampNeg (rI p11 66 15)) (some u3)) 66 15)) (rI (wP p11 72 (Int32.toNatClampNeg (rI p11 66 15)) (some u3)) 66 3)) 66 4) + (1 : Int32))) 66 15)) (rI (wA (wA (wP p11 72 (Int32.toNatClampNeg (rI p11 66 15)) (some u3)) 73 (Int32.toNatClampNeg (rI (wP p11 72 (Int32.toNatClampNeg (rI p11 66 15)) (some u3)) 66 15)) (rI (wP p11 72 (Int32.toNatClampNeg (rI p11 66 15)) (some u3)) 66 3)) 74 (Int32.toNatClampNeg (rI (wA (wP p11 72 (Int32.toNatClampNeg (rI p11 66 15)) (some u3)) 73 (Int32.toNatClampNeg (rI (wP p11 72 (Int32.toNatClampNeg (rI p11 66 15)) (some u3)) 66 15)) (rI (wP p11 72 (Int32.toNatClampNeg (rI p11 66 15)) (some u3)) 66 3)) 66 15)) ((rI (wA (wP p11 72 (Int32.toNatClampNeg (rI p11 66 15)) (some u3)) 73 (Int32.toNatClampNeg (rI (wP p11 72 (Int32.toNatClampNeg (rI p11 66 15)) (some u3)) 66 15)) (rI (wP p11 72 (Int32.toNatClampNeg (rI p11 66 15)) (some u3)) 66 3)) 66 4) + (1 : Int32))) 66 5)) 66 15 ((rI (wA (wA (wA (wP p11 72 (Int32.toNatClampNeg (rI p11 66 15)) (some u3)) 73 (Int32.toNatClampNeg (rI (wP p11 72 (Int32.toNatClampNeg (rI p11 66 15)) (some u3)) 66 15)) (rI (wP p11 72 (Int32.toNatClampNeg (rI p11 66 15)) (some u3)) 66 3)) 74 (Int32.toNatClampNeg (rI (wA (wP p11 72 (Int32.toNatClampNeg (rI p11 66 15)) (some u3)) 73 (Int32.toNatClampNeg (rI (wP p11 72 (Int32.toNatClampNeg (rI p11 66 15)) (some u3)) 66 15)) (rI (wP p11 72 (Int32.toNatClampNeg (rI p11 66 15)) (some u3)) 66 3)) 66 15)) ((rI (wA (wP p11 72 (Int32.toNatClampNeg (rI p11 66 15)) (some u3)) 73 (Int32.toNatClampNeg (rI (wP p11 72 (Int32.toNatClampNeg (rI p11 66 15)) (some u3)) 66 15)) (rI (wP p11 72 (Int32.toNatClampNeg (rI p11 66 15)) (some u3)) 66 3)) 66 4) + (1 : Int32))) 75 (Int32.toNatClampNeg (rI (wA (wA (wP p11 72 (Int32.toNatClampNeg (rI p11 66 15)) (some u3)) 73 (Int32.toNatClampNeg (rI (wP p11 72 (Int32.toNatClampNeg (rI p11 66 15)) (some u3)) 66 15)) (rI (wP p11 72 (Int32.toNatClampNeg (rI p11 66 15)) (some u3)) 66 3)) 74 (Int32.toNatClampNeg (rI (wA (wP p11 72 (Int32.toNatClampNeg (rI p11 66 15)) (some u3)) 73 (Int32.toNatClampNeg (rI (wP p11 72 (Int32.toNatClampNeg (rI p11 66 15)) (some u3)) 66 15)) (rI (wP p11 72 (Int32.toNatClampNeg (rI p11 66 15)) (some u3)) 66 3)) 66 15)) ((rI (wA (wP p11 72 (Int32.toNatClampNeg (rI p11 66 15)) (some u3)) 73 (Int32.toNatClampNeg (rI (wP p11 72 (Int32.toNatClampNeg (rI p11 66 15)) (some u3)) 66 15)) (rI (wP p11 72 (Int32.toNatClampNeg (rI p11 66 15)) (some u3)) 66 3)) 66 4) + (1 : Int32))) 66 15)) (rI (wA (wA (wP p11 72 (Int32.toNatClampNeg (rI p11 66 15)) (some u3)) 73 (Int32.toNatClampNeg (rI (wP p11 72 (Int32.toNatClampNeg (rI p11 66 15)) (some u3)) 66 15)) (rI (wP p11 72 (Int32.toNatClampNeg (rI p11 66 15)) (some u3)) 66 3)) 74 (Int32.toNatClampNeg (rI (wA (wP p11 72 (Int32.toNatClampNeg (rI p11 66 15)) (some u3)) 73 (Int32.toNatClampNeg (rI (wP p11 72 (Int32.toNatClampNeg (rI p11 66 15)) (some u3)) 66 15)) (rI (wP p11 72 (Int32.toNatClampNeg (rI p11 66 15)) (some u3)) 66 3)) 66 15)) ((rI (wA (wP p11 72 (Int32.toNatClampNeg (rI p11 66 15)) (some u3)) 73 (Int32.toNatClampNeg (rI (wP p11 72 (Int32.toNatClampNeg (rI p11 66 15)) (some u3)) 66 15)) (rI (wP p11 72 (Int32.toNatClampNeg (rI p11 66 15)) (some u3)) 66 3)) 66 4) + (1 : Int32))) 66 5)) 66 15) + (1 : Int32)))
set_option maxHeartbeats 4000000 in
theorem E159_J45 {X : rn_X} {N sl : Nat} {M : rn_T} {S : rn_T} {u3 : Nat} {t0 : Nat} {t1 : Int32} {R : (Bool × rn_T)} (hu3 : rn_kd u3 = 3) (ht0 : rn_kd t0 = 3) (h : f159_J45 S u3 t0 t1 = some R) : rn_rv X 159 (45, [(0, .ref 66), (3, .ref u3)], [.int t1, .ref t0], N, sl, rn_hp S M) (some (.int (rn_bi R.1)), N, sl, rn_hp R.2 M) := by
  have qm := rn_m159
  unfold f159_J45 at h
  refine rn_eg qm 1 (s2 := (46, [(0, .ref 66), (3, .ref u3)], [.int (0 : Int32), .int t1, .ref t0], N, sl, rn_hp S M)) rfl ?_
  obtain ⟨p11, hp11, h⟩ := Option.bind_eq_some_iff.mp h
  refine rn_ec qm rfl rfl rfl rfl rn_m129 rfl rfl rfl (fun _ => rn_rc_of (en_3 ht0)) (E129 hp11) ?_
  refine rn_eg qm 0 (s2 := (47, [(0, .ref 66), (3, .ref u3)], [], N, sl, rn_hp p11 M)) rfl ?_
  refine rn_eg qm 5 (s2 := (52, [(0, .ref 66), (3, .ref u3)], [.ref u3, .int (rI p11 66 15), .ref 72], N, sl, rn_hp p11 M)) rfl ?_
  have c12 : ¬ (rn_ob (rI p11 66 15) 100) := fun c => by rw [if_pos c] at h; cases h
  rw [if_neg c12] at h
  refine rn_e1 qm (s2 := (53, [(0, .ref 66), (3, .ref u3)], [], N, sl, rn_hp (wP p11 72 (Int32.toNatClampNeg (rI p11 66 15)) (some u3)) M)) (rn_g_aast (n := 100) rfl rfl (ar_x14 rfl rfl (Nat.le_of_ble_eq_true rfl)) (en_3 hu3) c12 (aw_x14 rfl rfl (Nat.le_of_ble_eq_true rfl))) ?_
  refine rn_eg qm 6 (s2 := (59, [(0, .ref 66), (3, .ref u3)], [.int (rI (wP p11 72 (Int32.toNatClampNeg (rI p11 66 15)) (some u3)) 66 3), .int (rI (wP p11 72 (Int32.toNatClampNeg (rI p11 66 15)) (some u3)) 66 15), .ref 73], N, sl, rn_hp (wP p11 72 (Int32.toNatClampNeg (rI p11 66 15)) (some u3)) M)) rfl ?_
  have c13 : ¬ (rn_ob (rI (wP p11 72 (Int32.toNatClampNeg (rI p11 66 15)) (some u3)) 66 15) 100) := fun c => by rw [if_pos c] at h; cases h
  rw [if_neg c13] at h
  refine rn_e1 qm (s2 := (60, [(0, .ref 66), (3, .ref u3)], [], N, sl, rn_hp (wA (wP p11 72 (Int32.toNatClampNeg (rI p11 66 15)) (some u3)) 73 (Int32.toNatClampNeg (rI (wP p11 72 (Int32.toNatClampNeg (rI p11 66 15)) (some u3)) 66 15)) (rI (wP p11 72 (Int32.toNatClampNeg (rI p11 66 15)) (some u3)) 66 3)) M)) (rn_g_iast (n := 100) rfl rfl (ar_x10 rfl rfl (Nat.le_of_ble_eq_true rfl)) c13 (aw_x10 rfl rfl (Nat.le_of_ble_eq_true rfl))) ?_
  refine rn_eg qm 8 (s2 := (68, [(0, .ref 66), (3, .ref u3)], [.int ((rI (wA (wP p11 72 (Int32.toNatClampNeg (rI p11 66 15)) (some u3)) 73 (Int32.toNatClampNeg (rI (wP p11 72 (Int32.toNatClampNeg (rI p11 66 15)) (some u3)) 66 15)) (rI (wP p11 72 (Int32.toNatClampNeg (rI p11 66 15)) (some u3)) 66 3)) 66 4) + (1 : Int32)), .int (rI (wA (wP p11 72 (Int32.toNatClampNeg (rI p11 66 15)) (some u3)) 73 (Int32.toNatClampNeg (rI (wP p11 72 (Int32.toNatClampNeg (rI p11 66 15)) (some u3)) 66 15)) (rI (wP p11 72 (Int32.toNatClampNeg (rI p11 66 15)) (some u3)) 66 3)) 66 15), .ref 74], N, sl, rn_hp (wA (wP p11 72 (Int32.toNatClampNeg (rI p11 66 15)) (some u3)) 73 (Int32.toNatClampNeg (rI (wP p11 72 (Int32.toNatClampNeg (rI p11 66 15)) (some u3)) 66 15)) (rI (wP p11 72 (Int32.toNatClampNeg (rI p11 66 15)) (some u3)) 66 3)) M)) rfl ?_
  have c14 : ¬ (rn_ob (rI (wA (wP p11 72 (Int32.toNatClampNeg (rI p11 66 15)) (some u3)) 73 (Int32.toNatClampNeg (rI (wP p11 72 (Int32.toNatClampNeg (rI p11 66 15)) (some u3)) 66 15)) (rI (wP p11 72 (Int32.toNatClampNeg (rI p11 66 15)) (some u3)) 66 3)) 66 15) 100) := fun c => by rw [if_pos c] at h; cases h
  rw [if_neg c14] at h
  refine rn_e1 qm (s2 := (69, [(0, .ref 66), (3, .ref u3)], [], N, sl, rn_hp (wA (wA (wP p11 72 (Int32.toNatClampNeg (rI p11 66 15)) (some u3)) 73 (Int32.toNatClampNeg (rI (wP p11 72 (Int32.toNatClampNeg (rI p11 66 15)) (some u3)) 66 15)) (rI (wP p11 72 (Int32.toNatClampNeg (rI p11 66 15)) (some u3)) 66 3)) 74 (Int32.toNatClampNeg (rI (wA (wP p11 72 (Int32.toNatClampNeg (rI p11 66 15)) (some u3)) 73 (Int32.toNatClampNeg (rI (wP p11 72 (Int32.toNatClampNeg (rI p11 66 15)) (some u3)) 66 15)) (rI (wP p11 72 (Int32.toNatClampNeg (rI p11 66 15)) (some u3)) 66 3)) 66 15)) ((rI (wA (wP p11 72 (Int32.toNatClampNeg (rI p11 66 15)) (some u3)) 73 (Int32.toNatClampNeg (rI (wP p11 72 (Int32.toNatClampNeg (rI p11 66 15)) (some u3)) 66 15)) (rI (wP p11 72 (Int32.toNatClampNeg (rI p11 66 15)) (some u3)) 66 3)) 66 4) + (1 : Int32))) M)) (rn_g_iast (n := 100) rfl rfl (ar_x10 rfl rfl (Nat.le_of_ble_eq_true rfl)) c14 (aw_x10 rfl rfl (Nat.le_of_ble_eq_true rfl))) ?_
  refine rn_eg qm 6 (s2 := (75, [(0, .ref 66), (3, .ref u3)], [.int (rI (wA (wA (wP p11 72 (Int32.toNatClampNeg (rI p11 66 15)) (some u3)) 73 (Int32.toNatClampNeg (rI (wP p11 72 (Int32.toNatClampNeg (rI p11 66 15)) (some u3)) 66 15)) (rI (wP p11 72 (Int32.toNatClampNeg (rI p11 66 15)) (some u3)) 66 3)) 74 (Int32.toNatClampNeg (rI (wA (wP p11 72 (Int32.toNatClampNeg (rI p11 66 15)) (some u3)) 73 (Int32.toNatClampNeg (rI (wP p11 72 (Int32.toNatClampNeg (rI p11 66 15)) (some u3)) 66 15)) (rI (wP p11 72 (Int32.toNatClampNeg (rI p11 66 15)) (some u3)) 66 3)) 66 15)) ((rI (wA (wP p11 72 (Int32.toNatClampNeg (rI p11 66 15)) (some u3)) 73 (Int32.toNatClampNeg (rI (wP p11 72 (Int32.toNatClampNeg (rI p11 66 15)) (some u3)) 66 15)) (rI (wP p11 72 (Int32.toNatClampNeg (rI p11 66 15)) (some u3)) 66 3)) 66 4) + (1 : Int32))) 66 5), .int (rI (wA (wA (wP p11 72 (Int32.toNatClampNeg (rI p11 66 15)) (some u3)) 73 (Int32.toNatClampNeg (rI (wP p11 72 (Int32.toNatClampNeg (rI p11 66 15)) (some u3)) 66 15)) (rI (wP p11 72 (Int32.toNatClampNeg (rI p11 66 15)) (some u3)) 66 3)) 74 (Int32.toNatClampNeg (rI (wA (wP p11 72 (Int32.toNatClampNeg (rI p11 66 15)) (some u3)) 73 (Int32.toNatClampNeg (rI (wP p11 72 (Int32.toNatClampNeg (rI p11 66 15)) (some u3)) 66 15)) (rI (wP p11 72 (Int32.toNatClampNeg (rI p11 66 15)) (some u3)) 66 3)) 66 15)) ((rI (wA (wP p11 72 (Int32.toNatClampNeg (rI p11 66 15)) (some u3)) 73 (Int32.toNatClampNeg (rI (wP p11 72 (Int32.toNatClampNeg (rI p11 66 15)) (some u3)) 66 15)) (rI (wP p11 72 (Int32.toNatClampNeg (rI p11 66 15)) (some u3)) 66 3)) 66 4) + (1 : Int32))) 66 15), .ref 75], N, sl, rn_hp (wA (wA (wP p11 72 (Int32.toNatClampNeg (rI p11 66 15)) (some u3)) 73 (Int32.toNatClampNeg (rI (wP p11 72 (Int32.toNatClampNeg (rI p11 66 15)) (some u3)) 66 15)) (rI (wP p11 72 (Int32.toNatClampNeg (rI p11 66 15)) (some u3)) 66 3)) 74 (Int32.toNatClampNeg (rI (wA (wP p11 72 (Int32.toNatClampNeg (rI p11 66 15)) (some u3)) 73 (Int32.toNatClampNeg (rI (wP p11 72 (Int32.toNatClampNeg (rI p11 66 15)) (some u3)) 66 15)) (rI (wP p11 72 (Int32.toNatClampNeg (rI p11 66 15)) (some u3)) 66 3)) 66 15)) ((rI (wA (wP p11 72 (Int32.toNatClampNeg (rI p11 66 15)) (some u3)) 73 (Int32.toNatClampNeg (rI (wP p11 72 (Int32.toNatClampNeg (rI p11 66 15)) (some u3)) 66 15)) (rI (wP p11 72 (Int32.toNatClampNeg (rI p11 66 15)) (some u3)) 66 3)) 66 4) + (1 : Int32))) M)) rfl ?_
  have c15 : ¬ (rn_ob (rI (wA (wA (wP p11 72 (Int32.toNatClampNeg (rI p11 66 15)) (some u3)) 73 (Int32.toNatClampNeg (rI (wP p11 72 (Int32.toNatClampNeg (rI p11 66 15)) (some u3)) 66 15)) (rI (wP p11 72 (Int32.toNatClampNeg (rI p11 66 15)) (some u3)) 66 3)) 74 (Int32.toNatClampNeg (rI (wA (wP p11 72 (Int32.toNatClampNeg (rI p11 66 15)) (some u3)) 73 (Int32.toNatClampNeg (rI (wP p11 72 (Int32.toNatClampNeg (rI p11 66 15)) (some u3)) 66 15)) (rI (wP p11 72 (Int32.toNatClampNeg (rI p11 66 15)) (some u3)) 66 3)) 66 15)) ((rI (wA (wP p11 72 (Int32.toNatClampNeg (rI p11 66 15)) (some u3)) 73 (Int32.toNatClampNeg (rI (wP p11 72 (Int32.toNatClampNeg (rI p11 66 15)) (some u3)) 66 15)) (rI (wP p11 72 (Int32.toNatClampNeg (rI p11 66 15)) (some u3)) 66 3)) 66 4) + (1 : Int32))) 66 15) 100) := fun c => by rw [if_pos c] at h; cases h
  rw [if_neg c15] at h
  refine rn_e1 qm (s2 := (76, [(0, .ref 66), (3, .ref u3)], [], N, sl, rn_hp (wA (wA (wA (wP p11 72 (Int32.toNatClampNeg (rI p11 66 15)) (some u3)) 73 (Int32.toNatClampNeg (rI (wP p11 72 (Int32.toNatClampNeg (rI p11 66 15)) (some u3)) 66 15)) (rI (wP p11 72 (Int32.toNatClampNeg (rI p11 66 15)) (some u3)) 66 3)) 74 (Int32.toNatClampNeg (rI (wA (wP p11 72 (Int32.toNatClampNeg (rI p11 66 15)) (some u3)) 73 (Int32.toNatClampNeg (rI (wP p11 72 (Int32.toNatClampNeg (rI p11 66 15)) (some u3)) 66 15)) (rI (wP p11 72 (Int32.toNatClampNeg (rI p11 66 15)) (some u3)) 66 3)) 66 15)) ((rI (wA (wP p11 72 (Int32.toNatClampNeg (rI p11 66 15)) (some u3)) 73 (Int32.toNatClampNeg (rI (wP p11 72 (Int32.toNatClampNeg (rI p11 66 15)) (some u3)) 66 15)) (rI (wP p11 72 (Int32.toNatClampNeg (rI p11 66 15)) (some u3)) 66 3)) 66 4) + (1 : Int32))) 75 (Int32.toNatClampNeg (rI (wA (wA (wP p11 72 (Int32.toNatClampNeg (rI p11 66 15)) (some u3)) 73 (Int32.toNatClampNeg (rI (wP p11 72 (Int32.toNatClampNeg (rI p11 66 15)) (some u3)) 66 15)) (rI (wP p11 72 (Int32.toNatClampNeg (rI p11 66 15)) (some u3)) 66 3)) 74 (Int32.toNatClampNeg (rI (wA (wP p11 72 (Int32.toNatClampNeg (rI p11 66 15)) (some u3)) 73 (Int32.toNatClampNeg (rI (wP p11 72 (Int32.toNatClampNeg (rI p11 66 15)) (some u3)) 66 15)) (rI (wP p11 72 (Int32.toNatClampNeg (rI p11 66 15)) (some u3)) 66 3)) 66 15)) ((rI (wA (wP p11 72 (Int32.toNatClampNeg (rI p11 66 15)) (some u3)) 73 (Int32.toNatClampNeg (rI (wP p11 72 (Int32.toNatClampNeg (rI p11 66 15)) (some u3)) 66 15)) (rI (wP p11 72 (Int32.toNatClampNeg (rI p11 66 15)) (some u3)) 66 3)) 66 4) + (1 : Int32))) 66 15)) (rI (wA (wA (wP p11 72 (Int32.toNatClampNeg (rI p11 66 15)) (some u3)) 73 (Int32.toNatClampNeg (rI (wP p11 72 (Int32.toNatClampNeg (rI p11 66 15)) (some u3)) 66 15)) (rI (wP p11 72 (Int32.toNatClampNeg (rI p11 66 15)) (some u3)) 66 3)) 74 (Int32.toNatClampNeg (rI (wA (wP p11 72 (Int32.toNatClampNeg (rI p11 66 15)) (some u3)) 73 (Int32.toNatClampNeg (rI (wP p11 72 (Int32.toNatClampNeg (rI p11 66 15)) (some u3)) 66 15)) (rI (wP p11 72 (Int32.toNatClampNeg (rI p11 66 15)) (some u3)) 66 3)) 66 15)) ((rI (wA (wP p11 72 (Int32.toNatClampNeg (rI p11 66 15)) (some u3)) 73 (Int32.toNatClampNeg (rI (wP p11 72 (Int32.toNatClampNeg (rI p11 66 15)) (some u3)) 66 15)) (rI (wP p11 72 (Int32.toNatClampNeg (rI p11 66 15)) (some u3)) 66 3)) 66 4) + (1 : Int32))) 66 5)) M)) (rn_g_iast (n := 100) rfl rfl (ar_x10 rfl rfl (Nat.le_of_ble_eq_true rfl)) c15 (aw_x10 rfl rfl (Nat.le_of_ble_eq_true rfl))) ?_
  refine rn_eg qm 5 (s2 := (81, [(0, .ref 66), (3, .ref u3)], [.int ((rI (wA (wA (wA (wP p11 72 (Int32.toNatClampNeg (rI p11 66 15)) (some u3)) 73 (Int32.toNatClampNeg (rI (wP p11 72 (Int32.toNatClampNeg (rI p11 66 15)) (some u3)) 66 15)) (rI (wP p11 72 (Int32.toNatClampNeg (rI p11 66 15)) (some u3)) 66 3)) 74 (Int32.toNatClampNeg (rI (wA (wP p11 72 (Int32.toNatClampNeg (rI p11 66 15)) (some u3)) 73 (Int32.toNatClampNeg (rI (wP p11 72 (Int32.toNatClampNeg (rI p11 66 15)) (some u3)) 66 15)) (rI (wP p11 72 (Int32.toNatClampNeg (rI p11 66 15)) (some u3)) 66 3)) 66 15)) ((rI (wA (wP p11 72 (Int32.toNatClampNeg (rI p11 66 15)) (some u3)) 73 (Int32.toNatClampNeg (rI (wP p11 72 (Int32.toNatClampNeg (rI p11 66 15)) (some u3)) 66 15)) (rI (wP p11 72 (Int32.toNatClampNeg (rI p11 66 15)) (some u3)) 66 3)) 66 4) + (1 : Int32))) 75 (Int32.toNatClampNeg (rI (wA (wA (wP p11 72 (Int32.toNatClampNeg (rI p11 66 15)) (some u3)) 73 (Int32.toNatClampNeg (rI (wP p11 72 (Int32.toNatClampNeg (rI p11 66 15)) (some u3)) 66 15)) (rI (wP p11 72 (Int32.toNatClampNeg (rI p11 66 15)) (some u3)) 66 3)) 74 (Int32.toNatClampNeg (rI (wA (wP p11 72 (Int32.toNatClampNeg (rI p11 66 15)) (some u3)) 73 (Int32.toNatClampNeg (rI (wP p11 72 (Int32.toNatClampNeg (rI p11 66 15)) (some u3)) 66 15)) (rI (wP p11 72 (Int32.toNatClampNeg (rI p11 66 15)) (some u3)) 66 3)) 66 15)) ((rI (wA (wP p11 72 (Int32.toNatClampNeg (rI p11 66 15)) (some u3)) 73 (Int32.toNatClampNeg (rI (wP p11 72 (Int32.toNatClampNeg (rI p11 66 15)) (some u3)) 66 15)) (rI (wP p11 72 (Int32.toNatClampNeg (rI p11 66 15)) (some u3)) 66 3)) 66 4) + (1 : Int32))) 66 15)) (rI (wA (wA (wP p11 72 (Int32.toNatClampNeg (rI p11 66 15)) (some u3)) 73 (Int32.toNatClampNeg (rI (wP p11 72 (Int32.toNatClampNeg (rI p11 66 15)) (some u3)) 66 15)) (rI (wP p11 72 (Int32.toNatClampNeg (rI p11 66 15)) (some u3)) 66 3)) 74 (Int32.toNatClampNeg (rI (wA (wP p11 72 (Int32.toNatClampNeg (rI p11 66 15)) (some u3)) 73 (Int32.toNatClampNeg (rI (wP p11 72 (Int32.toNatClampNeg (rI p11 66 15)) (some u3)) 66 15)) (rI (wP p11 72 (Int32.toNatClampNeg (rI p11 66 15)) (some u3)) 66 3)) 66 15)) ((rI (wA (wP p11 72 (Int32.toNatClampNeg (rI p11 66 15)) (some u3)) 73 (Int32.toNatClampNeg (rI (wP p11 72 (Int32.toNatClampNeg (rI p11 66 15)) (some u3)) 66 15)) (rI (wP p11 72 (Int32.toNatClampNeg (rI p11 66 15)) (some u3)) 66 3)) 66 4) + (1 : Int32))) 66 5)) 66 15) + (1 : Int32)), .ref 66], N, sl, rn_hp (wA (wA (wA (wP p11 72 (Int32.toNatClampNeg (rI p11 66 15)) (some u3)) 73 (Int32.toNatClampNeg (rI (wP p11 72 (Int32.toNatClampNeg (rI p11 66 15)) (some u3)) 66 15)) (rI (wP p11 72 (Int32.toNatClampNeg (rI p11 66 15)) (some u3)) 66 3)) 74 (Int32.toNatClampNeg (rI (wA (wP p11 72 (Int32.toNatClampNeg (rI p11 66 15)) (some u3)) 73 (Int32.toNatClampNeg (rI (wP p11 72 (Int32.toNatClampNeg (rI p11 66 15)) (some u3)) 66 15)) (rI (wP p11 72 (Int32.toNatClampNeg (rI p11 66 15)) (some u3)) 66 3)) 66 15)) ((rI (wA (wP p11 72 (Int32.toNatClampNeg (rI p11 66 15)) (some u3)) 73 (Int32.toNatClampNeg (rI (wP p11 72 (Int32.toNatClampNeg (rI p11 66 15)) (some u3)) 66 15)) (rI (wP p11 72 (Int32.toNatClampNeg (rI p11 66 15)) (some u3)) 66 3)) 66 4) + (1 : Int32))) 75 (Int32.toNatClampNeg (rI (wA (wA (wP p11 72 (Int32.toNatClampNeg (rI p11 66 15)) (some u3)) 73 (Int32.toNatClampNeg (rI (wP p11 72 (Int32.toNatClampNeg (rI p11 66 15)) (some u3)) 66 15)) (rI (wP p11 72 (Int32.toNatClampNeg (rI p11 66 15)) (some u3)) 66 3)) 74 (Int32.toNatClampNeg (rI (wA (wP p11 72 (Int32.toNatClampNeg (rI p11 66 15)) (some u3)) 73 (Int32.toNatClampNeg (rI (wP p11 72 (Int32.toNatClampNeg (rI p11 66 15)) (some u3)) 66 15)) (rI (wP p11 72 (Int32.toNatClampNeg (rI p11 66 15)) (some u3)) 66 3)) 66 15)) ((rI (wA (wP p11 72 (Int32.toNatClampNeg (rI p11 66 15)) (some u3)) 73 (Int32.toNatClampNeg (rI (wP p11 72 (Int32.toNatClampNeg (rI p11 66 15)) (some u3)) 66 15)) (rI (wP p11 72 (Int32.toNatClampNeg (rI p11 66 15)) (some u3)) 66 3)) 66 4) + (1 : Int32))) 66 15)) (rI (wA (wA (wP p11 72 (Int32.toNatClampNeg (rI p11 66 15)) (some u3)) 73 (Int32.toNatClampNeg (rI (wP p11 72 (Int32.toNatClampNeg (rI p11 66 15)) (some u3)) 66 15)) (rI (wP p11 72 (Int32.toNatClampNeg (rI p11 66 15)) (some u3)) 66 3)) 74 (Int32.toNatClampNeg (rI (wA (wP p11 72 (Int32.toNatClampNeg (rI p11 66 15)) (some u3)) 73 (Int32.toNatClampNeg (rI (wP p11 72 (Int32.toNatClampNeg (rI p11 66 15)) (some u3)) 66 15)) (rI (wP p11 72 (Int32.toNatClampNeg (rI p11 66 15)) (some u3)) 66 3)) 66 15)) ((rI (wA (wP p11 72 (Int32.toNatClampNeg (rI p11 66 15)) (some u3)) 73 (Int32.toNatClampNeg (rI (wP p11 72 (Int32.toNatClampNeg (rI p11 66 15)) (some u3)) 66 15)) (rI (wP p11 72 (Int32.toNatClampNeg (rI p11 66 15)) (some u3)) 66 3)) 66 4) + (1 : Int32))) 66 5)) M)) rfl ?_
  refine rn_e1 qm (s2 := (82, [(0, .ref 66), (3, .ref u3)], [], N, sl, rn_hp (wI (wA (wA (wA (wP p11 72 (Int32.toNatClampNeg (rI p11 66 15)) (some u3)) 73 (Int32.toNatClampNeg (rI (wP p11 72 (Int32.toNatClampNeg (rI p11 66 15)) (some u3)) 66 15)) (rI (wP p11 72 (Int32.toNatClampNeg (rI p11 66 15)) (some u3)) 66 3)) 74 (Int32.toNatClampNeg (rI (wA (wP p11 72 (Int32.toNatClampNeg (rI p11 66 15)) (some u3)) 73 (Int32.toNatClampNeg (rI (wP p11 72 (Int32.toNatClampNeg (rI p11 66 15)) (some u3)) 66 15)) (rI (wP p11 72 (Int32.toNatClampNeg (rI p11 66 15)) (some u3)) 66 3)) 66 15)) ((rI (wA (wP p11 72 (Int32.toNatClampNeg (rI p11 66 15)) (some u3)) 73 (Int32.toNatClampNeg (rI (wP p11 72 (Int32.toNatClampNeg (rI p11 66 15)) (some u3)) 66 15)) (rI (wP p11 72 (Int32.toNatClampNeg (rI p11 66 15)) (some u3)) 66 3)) 66 4) + (1 : Int32))) 75 (Int32.toNatClampNeg (rI (wA (wA (wP p11 72 (Int32.toNatClampNeg (rI p11 66 15)) (some u3)) 73 (Int32.toNatClampNeg (rI (wP p11 72 (Int32.toNatClampNeg (rI p11 66 15)) (some u3)) 66 15)) (rI (wP p11 72 (Int32.toNatClampNeg (rI p11 66 15)) (some u3)) 66 3)) 74 (Int32.toNatClampNeg (rI (wA (wP p11 72 (Int32.toNatClampNeg (rI p11 66 15)) (some u3)) 73 (Int32.toNatClampNeg (rI (wP p11 72 (Int32.toNatClampNeg (rI p11 66 15)) (some u3)) 66 15)) (rI (wP p11 72 (Int32.toNatClampNeg (rI p11 66 15)) (some u3)) 66 3)) 66 15)) ((rI (wA (wP p11 72 (Int32.toNatClampNeg (rI p11 66 15)) (some u3)) 73 (Int32.toNatClampNeg (rI (wP p11 72 (Int32.toNatClampNeg (rI p11 66 15)) (some u3)) 66 15)) (rI (wP p11 72 (Int32.toNatClampNeg (rI p11 66 15)) (some u3)) 66 3)) 66 4) + (1 : Int32))) 66 15)) (rI (wA (wA (wP p11 72 (Int32.toNatClampNeg (rI p11 66 15)) (some u3)) 73 (Int32.toNatClampNeg (rI (wP p11 72 (Int32.toNatClampNeg (rI p11 66 15)) (some u3)) 66 15)) (rI (wP p11 72 (Int32.toNatClampNeg (rI p11 66 15)) (some u3)) 66 3)) 74 (Int32.toNatClampNeg (rI (wA (wP p11 72 (Int32.toNatClampNeg (rI p11 66 15)) (some u3)) 73 (Int32.toNatClampNeg (rI (wP p11 72 (Int32.toNatClampNeg (rI p11 66 15)) (some u3)) 66 15)) (rI (wP p11 72 (Int32.toNatClampNeg (rI p11 66 15)) (some u3)) 66 3)) 66 15)) ((rI (wA (wP p11 72 (Int32.toNatClampNeg (rI p11 66 15)) (some u3)) 73 (Int32.toNatClampNeg (rI (wP p11 72 (Int32.toNatClampNeg (rI p11 66 15)) (some u3)) 66 15)) (rI (wP p11 72 (Int32.toNatClampNeg (rI p11 66 15)) (some u3)) 66 3)) 66 4) + (1 : Int32))) 66 5)) 66 15 ((rI (wA (wA (wA (wP p11 72 (Int32.toNatClampNeg (rI p11 66 15)) (some u3)) 73 (Int32.toNatClampNeg (rI (wP p11 72 (Int32.toNatClampNeg (rI p11 66 15)) (some u3)) 66 15)) (rI (wP p11 72 (Int32.toNatClampNeg (rI p11 66 15)) (some u3)) 66 3)) 74 (Int32.toNatClampNeg (rI (wA (wP p11 72 (Int32.toNatClampNeg (rI p11 66 15)) (some u3)) 73 (Int32.toNatClampNeg (rI (wP p11 72 (Int32.toNatClampNeg (rI p11 66 15)) (some u3)) 66 15)) (rI (wP p11 72 (Int32.toNatClampNeg (rI p11 66 15)) (some u3)) 66 3)) 66 15)) ((rI (wA (wP p11 72 (Int32.toNatClampNeg (rI p11 66 15)) (some u3)) 73 (Int32.toNatClampNeg (rI (wP p11 72 (Int32.toNatClampNeg (rI p11 66 15)) (some u3)) 66 15)) (rI (wP p11 72 (Int32.toNatClampNeg (rI p11 66 15)) (some u3)) 66 3)) 66 4) + (1 : Int32))) 75 (Int32.toNatClampNeg (rI (wA (wA (wP p11 72 (Int32.toNatClampNeg (rI p11 66 15)) (some u3)) 73 (Int32.toNatClampNeg (rI (wP p11 72 (Int32.toNatClampNeg (rI p11 66 15)) (some u3)) 66 15)) (rI (wP p11 72 (Int32.toNatClampNeg (rI p11 66 15)) (some u3)) 66 3)) 74 (Int32.toNatClampNeg (rI (wA (wP p11 72 (Int32.toNatClampNeg (rI p11 66 15)) (some u3)) 73 (Int32.toNatClampNeg (rI (wP p11 72 (Int32.toNatClampNeg (rI p11 66 15)) (some u3)) 66 15)) (rI (wP p11 72 (Int32.toNatClampNeg (rI p11 66 15)) (some u3)) 66 3)) 66 15)) ((rI (wA (wP p11 72 (Int32.toNatClampNeg (rI p11 66 15)) (some u3)) 73 (Int32.toNatClampNeg (rI (wP p11 72 (Int32.toNatClampNeg (rI p11 66 15)) (some u3)) 66 15)) (rI (wP p11 72 (Int32.toNatClampNeg (rI p11 66 15)) (some u3)) 66 3)) 66 4) + (1 : Int32))) 66 15)) (rI (wA (wA (wP p11 72 (Int32.toNatClampNeg (rI p11 66 15)) (some u3)) 73 (Int32.toNatClampNeg (rI (wP p11 72 (Int32.toNatClampNeg (rI p11 66 15)) (some u3)) 66 15)) (rI (wP p11 72 (Int32.toNatClampNeg (rI p11 66 15)) (some u3)) 66 3)) 74 (Int32.toNatClampNeg (rI (wA (wP p11 72 (Int32.toNatClampNeg (rI p11 66 15)) (some u3)) 73 (Int32.toNatClampNeg (rI (wP p11 72 (Int32.toNatClampNeg (rI p11 66 15)) (some u3)) 66 15)) (rI (wP p11 72 (Int32.toNatClampNeg (rI p11 66 15)) (some u3)) 66 3)) 66 15)) ((rI (wA (wP p11 72 (Int32.toNatClampNeg (rI p11 66 15)) (some u3)) 73 (Int32.toNatClampNeg (rI (wP p11 72 (Int32.toNatClampNeg (rI p11 66 15)) (some u3)) 66 15)) (rI (wP p11 72 (Int32.toNatClampNeg (rI p11 66 15)) (some u3)) 66 3)) 66 4) + (1 : Int32))) 66 5)) 66 15) + (1 : Int32))) M)) (rn_g_putf rfl rfl (en_7 rfl) rfl rfl rfl (wf_7_15 (v := ((rI (wA (wA (wA (wP p11 72 (Int32.toNatClampNeg (rI p11 66 15)) (some u3)) 73 (Int32.toNatClampNeg (rI (wP p11 72 (Int32.toNatClampNeg (rI p11 66 15)) (some u3)) 66 15)) (rI (wP p11 72 (Int32.toNatClampNeg (rI p11 66 15)) (some u3)) 66 3)) 74 (Int32.toNatClampNeg (rI (wA (wP p11 72 (Int32.toNatClampNeg (rI p11 66 15)) (some u3)) 73 (Int32.toNatClampNeg (rI (wP p11 72 (Int32.toNatClampNeg (rI p11 66 15)) (some u3)) 66 15)) (rI (wP p11 72 (Int32.toNatClampNeg (rI p11 66 15)) (some u3)) 66 3)) 66 15)) ((rI (wA (wP p11 72 (Int32.toNatClampNeg (rI p11 66 15)) (some u3)) 73 (Int32.toNatClampNeg (rI (wP p11 72 (Int32.toNatClampNeg (rI p11 66 15)) (some u3)) 66 15)) (rI (wP p11 72 (Int32.toNatClampNeg (rI p11 66 15)) (some u3)) 66 3)) 66 4) + (1 : Int32))) 75 (Int32.toNatClampNeg (rI (wA (wA (wP p11 72 (Int32.toNatClampNeg (rI p11 66 15)) (some u3)) 73 (Int32.toNatClampNeg (rI (wP p11 72 (Int32.toNatClampNeg (rI p11 66 15)) (some u3)) 66 15)) (rI (wP p11 72 (Int32.toNatClampNeg (rI p11 66 15)) (some u3)) 66 3)) 74 (Int32.toNatClampNeg (rI (wA (wP p11 72 (Int32.toNatClampNeg (rI p11 66 15)) (some u3)) 73 (Int32.toNatClampNeg (rI (wP p11 72 (Int32.toNatClampNeg (rI p11 66 15)) (some u3)) 66 15)) (rI (wP p11 72 (Int32.toNatClampNeg (rI p11 66 15)) (some u3)) 66 3)) 66 15)) ((rI (wA (wP p11 72 (Int32.toNatClampNeg (rI p11 66 15)) (some u3)) 73 (Int32.toNatClampNeg (rI (wP p11 72 (Int32.toNatClampNeg (rI p11 66 15)) (some u3)) 66 15)) (rI (wP p11 72 (Int32.toNatClampNeg (rI p11 66 15)) (some u3)) 66 3)) 66 4) + (1 : Int32))) 66 15)) (rI (wA (wA (wP p11 72 (Int32.toNatClampNeg (rI p11 66 15)) (some u3)) 73 (Int32.toNatClampNeg (rI (wP p11 72 (Int32.toNatClampNeg (rI p11 66 15)) (some u3)) 66 15)) (rI (wP p11 72 (Int32.toNatClampNeg (rI p11 66 15)) (some u3)) 66 3)) 74 (Int32.toNatClampNeg (rI (wA (wP p11 72 (Int32.toNatClampNeg (rI p11 66 15)) (some u3)) 73 (Int32.toNatClampNeg (rI (wP p11 72 (Int32.toNatClampNeg (rI p11 66 15)) (some u3)) 66 15)) (rI (wP p11 72 (Int32.toNatClampNeg (rI p11 66 15)) (some u3)) 66 3)) 66 15)) ((rI (wA (wP p11 72 (Int32.toNatClampNeg (rI p11 66 15)) (some u3)) 73 (Int32.toNatClampNeg (rI (wP p11 72 (Int32.toNatClampNeg (rI p11 66 15)) (some u3)) 66 15)) (rI (wP p11 72 (Int32.toNatClampNeg (rI p11 66 15)) (some u3)) 66 3)) 66 4) + (1 : Int32))) 66 5)) 66 15) + (1 : Int32))) rfl)) ?_
  refine rn_eg qm 1 (s2 := (83, [(0, .ref 66), (3, .ref u3)], [.int (1 : Int32)], N, sl, rn_hp (wI (wA (wA (wA (wP p11 72 (Int32.toNatClampNeg (rI p11 66 15)) (some u3)) 73 (Int32.toNatClampNeg (rI (wP p11 72 (Int32.toNatClampNeg (rI p11 66 15)) (some u3)) 66 15)) (rI (wP p11 72 (Int32.toNatClampNeg (rI p11 66 15)) (some u3)) 66 3)) 74 (Int32.toNatClampNeg (rI (wA (wP p11 72 (Int32.toNatClampNeg (rI p11 66 15)) (some u3)) 73 (Int32.toNatClampNeg (rI (wP p11 72 (Int32.toNatClampNeg (rI p11 66 15)) (some u3)) 66 15)) (rI (wP p11 72 (Int32.toNatClampNeg (rI p11 66 15)) (some u3)) 66 3)) 66 15)) ((rI (wA (wP p11 72 (Int32.toNatClampNeg (rI p11 66 15)) (some u3)) 73 (Int32.toNatClampNeg (rI (wP p11 72 (Int32.toNatClampNeg (rI p11 66 15)) (some u3)) 66 15)) (rI (wP p11 72 (Int32.toNatClampNeg (rI p11 66 15)) (some u3)) 66 3)) 66 4) + (1 : Int32))) 75 (Int32.toNatClampNeg (rI (wA (wA (wP p11 72 (Int32.toNatClampNeg (rI p11 66 15)) (some u3)) 73 (Int32.toNatClampNeg (rI (wP p11 72 (Int32.toNatClampNeg (rI p11 66 15)) (some u3)) 66 15)) (rI (wP p11 72 (Int32.toNatClampNeg (rI p11 66 15)) (some u3)) 66 3)) 74 (Int32.toNatClampNeg (rI (wA (wP p11 72 (Int32.toNatClampNeg (rI p11 66 15)) (some u3)) 73 (Int32.toNatClampNeg (rI (wP p11 72 (Int32.toNatClampNeg (rI p11 66 15)) (some u3)) 66 15)) (rI (wP p11 72 (Int32.toNatClampNeg (rI p11 66 15)) (some u3)) 66 3)) 66 15)) ((rI (wA (wP p11 72 (Int32.toNatClampNeg (rI p11 66 15)) (some u3)) 73 (Int32.toNatClampNeg (rI (wP p11 72 (Int32.toNatClampNeg (rI p11 66 15)) (some u3)) 66 15)) (rI (wP p11 72 (Int32.toNatClampNeg (rI p11 66 15)) (some u3)) 66 3)) 66 4) + (1 : Int32))) 66 15)) (rI (wA (wA (wP p11 72 (Int32.toNatClampNeg (rI p11 66 15)) (some u3)) 73 (Int32.toNatClampNeg (rI (wP p11 72 (Int32.toNatClampNeg (rI p11 66 15)) (some u3)) 66 15)) (rI (wP p11 72 (Int32.toNatClampNeg (rI p11 66 15)) (some u3)) 66 3)) 74 (Int32.toNatClampNeg (rI (wA (wP p11 72 (Int32.toNatClampNeg (rI p11 66 15)) (some u3)) 73 (Int32.toNatClampNeg (rI (wP p11 72 (Int32.toNatClampNeg (rI p11 66 15)) (some u3)) 66 15)) (rI (wP p11 72 (Int32.toNatClampNeg (rI p11 66 15)) (some u3)) 66 3)) 66 15)) ((rI (wA (wP p11 72 (Int32.toNatClampNeg (rI p11 66 15)) (some u3)) 73 (Int32.toNatClampNeg (rI (wP p11 72 (Int32.toNatClampNeg (rI p11 66 15)) (some u3)) 66 15)) (rI (wP p11 72 (Int32.toNatClampNeg (rI p11 66 15)) (some u3)) 66 3)) 66 4) + (1 : Int32))) 66 5)) 66 15 ((rI (wA (wA (wA (wP p11 72 (Int32.toNatClampNeg (rI p11 66 15)) (some u3)) 73 (Int32.toNatClampNeg (rI (wP p11 72 (Int32.toNatClampNeg (rI p11 66 15)) (some u3)) 66 15)) (rI (wP p11 72 (Int32.toNatClampNeg (rI p11 66 15)) (some u3)) 66 3)) 74 (Int32.toNatClampNeg (rI (wA (wP p11 72 (Int32.toNatClampNeg (rI p11 66 15)) (some u3)) 73 (Int32.toNatClampNeg (rI (wP p11 72 (Int32.toNatClampNeg (rI p11 66 15)) (some u3)) 66 15)) (rI (wP p11 72 (Int32.toNatClampNeg (rI p11 66 15)) (some u3)) 66 3)) 66 15)) ((rI (wA (wP p11 72 (Int32.toNatClampNeg (rI p11 66 15)) (some u3)) 73 (Int32.toNatClampNeg (rI (wP p11 72 (Int32.toNatClampNeg (rI p11 66 15)) (some u3)) 66 15)) (rI (wP p11 72 (Int32.toNatClampNeg (rI p11 66 15)) (some u3)) 66 3)) 66 4) + (1 : Int32))) 75 (Int32.toNatClampNeg (rI (wA (wA (wP p11 72 (Int32.toNatClampNeg (rI p11 66 15)) (some u3)) 73 (Int32.toNatClampNeg (rI (wP p11 72 (Int32.toNatClampNeg (rI p11 66 15)) (some u3)) 66 15)) (rI (wP p11 72 (Int32.toNatClampNeg (rI p11 66 15)) (some u3)) 66 3)) 74 (Int32.toNatClampNeg (rI (wA (wP p11 72 (Int32.toNatClampNeg (rI p11 66 15)) (some u3)) 73 (Int32.toNatClampNeg (rI (wP p11 72 (Int32.toNatClampNeg (rI p11 66 15)) (some u3)) 66 15)) (rI (wP p11 72 (Int32.toNatClampNeg (rI p11 66 15)) (some u3)) 66 3)) 66 15)) ((rI (wA (wP p11 72 (Int32.toNatClampNeg (rI p11 66 15)) (some u3)) 73 (Int32.toNatClampNeg (rI (wP p11 72 (Int32.toNatClampNeg (rI p11 66 15)) (some u3)) 66 15)) (rI (wP p11 72 (Int32.toNatClampNeg (rI p11 66 15)) (some u3)) 66 3)) 66 4) + (1 : Int32))) 66 15)) (rI (wA (wA (wP p11 72 (Int32.toNatClampNeg (rI p11 66 15)) (some u3)) 73 (Int32.toNatClampNeg (rI (wP p11 72 (Int32.toNatClampNeg (rI p11 66 15)) (some u3)) 66 15)) (rI (wP p11 72 (Int32.toNatClampNeg (rI p11 66 15)) (some u3)) 66 3)) 74 (Int32.toNatClampNeg (rI (wA (wP p11 72 (Int32.toNatClampNeg (rI p11 66 15)) (some u3)) 73 (Int32.toNatClampNeg (rI (wP p11 72 (Int32.toNatClampNeg (rI p11 66 15)) (some u3)) 66 15)) (rI (wP p11 72 (Int32.toNatClampNeg (rI p11 66 15)) (some u3)) 66 3)) 66 15)) ((rI (wA (wP p11 72 (Int32.toNatClampNeg (rI p11 66 15)) (some u3)) 73 (Int32.toNatClampNeg (rI (wP p11 72 (Int32.toNatClampNeg (rI p11 66 15)) (some u3)) 66 15)) (rI (wP p11 72 (Int32.toNatClampNeg (rI p11 66 15)) (some u3)) 66 3)) 66 4) + (1 : Int32))) 66 5)) 66 15) + (1 : Int32))) M)) rfl ?_
  cases h
  exact rn_er qm rfl rfl rn_rt1
def f159_J38 (S : rn_T) (u3 : Nat) (u4 : Int32) : Option (Bool × rn_T) :=
  if u4 = (40 : Int32) then
    f159_J45 S u3 u3 (5 : Int32)
  else
    f159_J45 S u3 u3 (6 : Int32)
set_option maxHeartbeats 4000000 in
theorem E159_J38 {X : rn_X} {N sl : Nat} {M : rn_T} {S : rn_T} {u3 : Nat} {u4 : Int32} {R : (Bool × rn_T)} (hu3 : rn_kd u3 = 3) (h : f159_J38 S u3 u4 = some R) : rn_rv X 159 (38, [(0, .ref 66), (3, .ref u3), (4, .int u4)], [], N, sl, rn_hp S M) (some (.int (rn_bi R.1)), N, sl, rn_hp R.2 M) := by
  have qm := rn_m159
  unfold f159_J38 at h
  refine rn_eg qm 4 (s2 := ((if u4 = (40 : Int32) then 42 else 44), [(0, .ref 66), (3, .ref u3), (4, .int u4)], [.ref u3], N, sl, rn_hp S M)) rfl ?_
  refine rn_ite (fun c10 => ?_) (fun c10 => ?_)
  · rw [if_pos c10] at h
    refine rn_eg qm 2 (s2 := (45, [(0, .ref 66), (3, .ref u3), (4, .int u4)], [.int (5 : Int32), .ref u3], N, sl, rn_hp S M)) rfl ?_
    refine rn_kq qm (s2 := (45, [(0, .ref 66), (3, .ref u3)], [.int (5 : Int32), .ref u3], N, sl, rn_hp S M)) rfl rfl ?_
    exact E159_J45 hu3 hu3 h
  · rw [if_neg c10] at h
    refine rn_eg qm 1 (s2 := (45, [(0, .ref 66), (3, .ref u3), (4, .int u4)], [.int (6 : Int32), .ref u3], N, sl, rn_hp S M)) rfl ?_
    refine rn_kq qm (s2 := (45, [(0, .ref 66), (3, .ref u3)], [.int (6 : Int32), .ref u3], N, sl, rn_hp S M)) rfl rfl ?_
    exact E159_J45 hu3 hu3 h
def f159 (S : rn_T) (a1 : Nat) (a2 : Option Nat) : Option (Bool × rn_T) :=
  rn_om (a2)
    (Option.bind (f160 S a1) fun p2 =>
      if p2.1 = true then
        if (rI p2.2 66 0) < (100 : Int32) then
          if rn_ob (rI p2.2 66 0) 100 then none else
            Option.bind (f128 (wI p2.2 66 0 ((rI p2.2 66 0) + (1 : Int32))) (76 + 2 * (Int32.toNatClampNeg (rI p2.2 66 0))) none) fun p6 =>
              if rn_kd a1 = 1 then
                Option.bind (f115 p6 a1 (rI p6 66 3) (rI p6 66 4)) fun p8 =>
                  if p8 = (40 : Int32) then
                    f159_J38 p6 (76 + 2 * (Int32.toNatClampNeg (rI p2.2 66 0))) p8
                  else
                    if p8 = (91 : Int32) then
                      f159_J38 p6 (76 + 2 * (Int32.toNatClampNeg (rI p2.2 66 0))) p8
                    else
                      Option.bind (f115 p6 a1 (rI p6 66 3) ((rI p6 66 4) + (1 : Int32))) fun p17 =>
                        Option.bind (f161 p6 (76 + 2 * (Int32.toNatClampNeg (rI p2.2 66 0))) p8 p17) fun p18 =>
                          some (p18.1, p18.2)
              else none
        else
          some (false, p2.2)
      else
        some (false, p2.2))
    fun r1 =>
      Option.bind (f160 S a1) fun p19 =>
        if p19.1 = true then
          if (rI p19.2 66 0) < (100 : Int32) then
            if rn_ob (rI p19.2 66 0) 100 then none else
              Option.bind (f128 (wI p19.2 66 0 ((rI p19.2 66 0) + (1 : Int32))) (76 + 2 * (Int32.toNatClampNeg (rI p19.2 66 0))) (some r1)) fun p23 =>
                if rn_kd a1 = 1 then
                  Option.bind (f115 p23 a1 (rI p23 66 3) (rI p23 66 4)) fun p25 =>
                    if p25 = (40 : Int32) then
                      f159_J38 p23 (76 + 2 * (Int32.toNatClampNeg (rI p19.2 66 0))) p25
                    else
                      if p25 = (91 : Int32) then
                        f159_J38 p23 (76 + 2 * (Int32.toNatClampNeg (rI p19.2 66 0))) p25
                      else
                        Option.bind (f115 p23 a1 (rI p23 66 3) ((rI p23 66 4) + (1 : Int32))) fun p28 =>
                          Option.bind (f161 p23 (76 + 2 * (Int32.toNatClampNeg (rI p19.2 66 0))) p25 p28) fun p29 =>
                            some (p29.1, p29.2)
                else none
          else
            some (false, p19.2)
        else
          some (false, p19.2)
set_option maxHeartbeats 4000000 in
theorem E159 {X : rn_X} {N sl : Nat} {S M : rn_T} {a1 : Nat} {a2 : Option Nat} {R : (Bool × rn_T)} (h : f159 S a1 a2 = some R) : rn_rv X 159 (0, [(0, .ref 66), (1, .ref a1), (2, va_rf a2)], [], N, sl, rn_hp S M) (some (.int (rn_bi R.1)), N, sl, rn_hp R.2 M) := by
  have qm := rn_m159
  unfold f159 at h
  cases a2 with
  | none =>
    rw [rn_om_n rfl] at h
    refine rn_eg qm 2 (s2 := (2, [(0, .ref 66), (1, .ref a1), (2, .null)], [.ref a1, .ref 66], N, sl, rn_hp S M)) rfl ?_
    obtain ⟨p2, hp2, h⟩ := Option.bind_eq_some_iff.mp h
    refine rn_ec qm rfl rfl rfl rfl rn_m160 rfl rfl rfl (fun _ => rn_rc_of (en_7 (q := 66) rfl)) (E160 hp2) ?_
    refine rn_eg qm 0 (s2 := (3, [(0, .ref 66), (1, .ref a1), (2, .null)], [.int (rn_bi p2.1)], N, sl, rn_hp p2.2 M)) rfl ?_
    refine rn_eg qm 1 (s2 := ((if (rn_bi p2.1) = 0 then 8 else 4), [(0, .ref 66), (1, .ref a1), (2, .null)], [], N, sl, rn_hp p2.2 M)) rfl ?_
    refine rn_iteb (fun c3 => ?_) (fun c3 => ?_)
    · rw [if_neg (rn_bf c3)] at h
      refine rn_eg qm 1 (s2 := (9, [], [.int (0 : Int32)], N, sl, rn_hp p2.2 M)) rfl ?_
      cases h
      exact rn_er qm rfl rfl rn_rt0
    · rw [if_pos c3] at h
      refine rn_eg qm 4 (s2 := ((if (rI p2.2 66 0) < (100 : Int32) then 10 else 8), [(0, .ref 66), (1, .ref a1), (2, .null)], [], N, sl, rn_hp p2.2 M)) rfl ?_
      refine rn_ite (fun c4 => ?_) (fun c4 => ?_)
      · rw [if_pos c4] at h
        refine rn_eg qm 4 (s2 := (14, [(0, .ref 66), (1, .ref a1), (2, .null)], [.int (rI p2.2 66 0), .ref 67], N, sl, rn_hp p2.2 M)) rfl ?_
        have c5 : ¬ (rn_ob (rI p2.2 66 0) 100) := fun c => by rw [if_pos c] at h; cases h
        rw [if_neg c5] at h
        refine rn_e1 qm (s2 := (15, [(0, .ref 66), (1, .ref a1), (2, .null)], [.ref (76 + 2 * (Int32.toNatClampNeg (rI p2.2 66 0)))], N, sl, rn_hp p2.2 M)) (rn_g_aald (r := some (76 + 2 * (Int32.toNatClampNeg (rI p2.2 66 0)))) rfl rfl (ar_x23 (q := 67) rfl (Nat.le_of_ble_eq_true rfl)) c5 (rn_cr_at (rn_ob_lt c5))) ?_
        refine rn_eg qm 6 (s2 := (21, [(3, .ref (76 + 2 * (Int32.toNatClampNeg (rI p2.2 66 0)))), (0, .ref 66), (1, .ref a1), (2, .null)], [.int ((rI p2.2 66 0) + (1 : Int32)), .ref 66], N, sl, rn_hp p2.2 M)) rfl ?_
        refine rn_e1 qm (s2 := (22, [(3, .ref (76 + 2 * (Int32.toNatClampNeg (rI p2.2 66 0)))), (0, .ref 66), (1, .ref a1), (2, .null)], [], N, sl, rn_hp (wI p2.2 66 0 ((rI p2.2 66 0) + (1 : Int32))) M)) (rn_g_putf rfl rfl (en_7 rfl) rfl rfl rfl (wf_7_0 (v := ((rI p2.2 66 0) + (1 : Int32))) rfl)) ?_
        refine rn_eg qm 2 (s2 := (24, [(3, .ref (76 + 2 * (Int32.toNatClampNeg (rI p2.2 66 0)))), (0, .ref 66), (1, .ref a1), (2, .null)], [.null, .ref (76 + 2 * (Int32.toNatClampNeg (rI p2.2 66 0)))], N, sl, rn_hp (wI p2.2 66 0 ((rI p2.2 66 0) + (1 : Int32))) M)) rfl ?_
        obtain ⟨p6, hp6, h⟩ := Option.bind_eq_some_iff.mp h
        refine rn_ec qm rfl rfl rfl rfl rn_m128 rfl rfl rfl (fun _ => rn_rc_of (en_3 (show rn_kd (76 + 2 * (Int32.toNatClampNeg (rI p2.2 66 0))) = 3 from ck_23 (q := 67) rfl (rn_ob_lt c5)))) (E128 hp6) ?_
        refine rn_eg qm 0 (s2 := (25, [(3, .ref (76 + 2 * (Int32.toNatClampNeg (rI p2.2 66 0)))), (0, .ref 66), (1, .ref a1), (2, .null)], [], N, sl, rn_hp p6 M)) rfl ?_
        refine rn_eg qm 5 (s2 := (30, [(3, .ref (76 + 2 * (Int32.toNatClampNeg (rI p2.2 66 0)))), (0, .ref 66), (1, .ref a1), (2, .null)], [.int (rI p6 66 4), .int (rI p6 66 3), .ref a1], N, sl, rn_hp p6 M)) rfl ?_
        have k7 : rn_kd a1 = 1 := Decidable.byContradiction fun c => by rw [if_neg c] at h; cases h
        rw [if_pos k7] at h
        obtain ⟨p8, hp8, h⟩ := Option.bind_eq_some_iff.mp h
        refine rn_ec qm rfl rfl rfl rfl rn_m115 rfl rfl rfl (fun _ => rn_rc_of (en_1 k7)) (E115 hp8) ?_
        refine rn_eg qm 0 (s2 := (31, [(3, .ref (76 + 2 * (Int32.toNatClampNeg (rI p2.2 66 0)))), (0, .ref 66), (1, .ref a1), (2, .null)], [.int p8], N, sl, rn_hp p6 M)) rfl ?_
        refine rn_eg qm 4 (s2 := ((if p8 = (40 : Int32) then 38 else 35), [(4, .int p8), (3, .ref (76 + 2 * (Int32.toNatClampNeg (rI p2.2 66 0)))), (0, .ref 66), (1, .ref a1), (2, .null)], [], N, sl, rn_hp p6 M)) rfl ?_
        refine rn_ite (fun c9 => ?_) (fun c9 => ?_)
        · rw [if_pos c9] at h
          refine rn_kq qm (s2 := (38, [(0, .ref 66), (3, .ref (76 + 2 * (Int32.toNatClampNeg (rI p2.2 66 0)))), (4, .int p8)], [], N, sl, rn_hp p6 M)) rfl rfl ?_
          exact E159_J38 (show rn_kd (76 + 2 * (Int32.toNatClampNeg (rI p2.2 66 0))) = 3 from ck_23 (q := 67) rfl (rn_ob_lt c5)) h
        · rw [if_neg c9] at h
          refine rn_eg qm 3 (s2 := ((if p8 = (91 : Int32) then 38 else 84), [(4, .int p8), (3, .ref (76 + 2 * (Int32.toNatClampNeg (rI p2.2 66 0)))), (0, .ref 66), (1, .ref a1), (2, .null)], [], N, sl, rn_hp p6 M)) rfl ?_
          refine rn_ite (fun c16 => ?_) (fun c16 => ?_)
          · rw [if_pos c16] at h
            refine rn_kq qm (s2 := (38, [(0, .ref 66), (3, .ref (76 + 2 * (Int32.toNatClampNeg (rI p2.2 66 0)))), (4, .int p8)], [], N, sl, rn_hp p6 M)) rfl rfl ?_
            exact E159_J38 (show rn_kd (76 + 2 * (Int32.toNatClampNeg (rI p2.2 66 0))) = 3 from ck_23 (q := 67) rfl (rn_ob_lt c5)) h
          · rw [if_neg c16] at h
            refine rn_eg qm 9 (s2 := (93, [(4, .int p8), (3, .ref (76 + 2 * (Int32.toNatClampNeg (rI p2.2 66 0)))), (0, .ref 66), (1, .ref a1), (2, .null)], [.int ((rI p6 66 4) + (1 : Int32)), .int (rI p6 66 3), .ref a1, .int p8, .ref (76 + 2 * (Int32.toNatClampNeg (rI p2.2 66 0)))], N, sl, rn_hp p6 M)) rfl ?_
            obtain ⟨p17, hp17, h⟩ := Option.bind_eq_some_iff.mp h
            refine rn_ec qm rfl rfl rfl rfl rn_m115 rfl rfl rfl (fun _ => rn_rc_of (en_1 k7)) (E115 hp17) ?_
            refine rn_eg qm 0 (s2 := (94, [(4, .int p8), (3, .ref (76 + 2 * (Int32.toNatClampNeg (rI p2.2 66 0)))), (0, .ref 66), (1, .ref a1), (2, .null)], [.int p17, .int p8, .ref (76 + 2 * (Int32.toNatClampNeg (rI p2.2 66 0)))], N, sl, rn_hp p6 M)) rfl ?_
            obtain ⟨p18, hp18, h⟩ := Option.bind_eq_some_iff.mp h
            refine rn_ec qm rfl rfl rfl rfl rn_m161 rfl rfl rfl (fun h => by cases h) (E161 hp18) ?_
            refine rn_eg qm 0 (s2 := (95, [(4, .int p8), (3, .ref (76 + 2 * (Int32.toNatClampNeg (rI p2.2 66 0)))), (0, .ref 66), (1, .ref a1), (2, .null)], [.int (rn_bi p18.1)], N, sl, rn_hp p18.2 M)) rfl ?_
            cases h
            exact rn_er qm rfl rfl (rn_rtb _)
      · rw [if_neg c4] at h
        refine rn_eg qm 1 (s2 := (9, [], [.int (0 : Int32)], N, sl, rn_hp p2.2 M)) rfl ?_
        cases h
        exact rn_er qm rfl rfl rn_rt0
  | some r1 =>
    rw [rn_om_s rfl] at h
    refine rn_eg qm 2 (s2 := (2, [(0, .ref 66), (1, .ref a1), (2, .ref r1)], [.ref a1, .ref 66], N, sl, rn_hp S M)) rfl ?_
    obtain ⟨p19, hp19, h⟩ := Option.bind_eq_some_iff.mp h
    refine rn_ec qm rfl rfl rfl rfl rn_m160 rfl rfl rfl (fun _ => rn_rc_of (en_7 (q := 66) rfl)) (E160 hp19) ?_
    refine rn_eg qm 0 (s2 := (3, [(0, .ref 66), (1, .ref a1), (2, .ref r1)], [.int (rn_bi p19.1)], N, sl, rn_hp p19.2 M)) rfl ?_
    refine rn_eg qm 1 (s2 := ((if (rn_bi p19.1) = 0 then 8 else 4), [(0, .ref 66), (1, .ref a1), (2, .ref r1)], [], N, sl, rn_hp p19.2 M)) rfl ?_
    refine rn_iteb (fun c20 => ?_) (fun c20 => ?_)
    · rw [if_neg (rn_bf c20)] at h
      refine rn_eg qm 1 (s2 := (9, [], [.int (0 : Int32)], N, sl, rn_hp p19.2 M)) rfl ?_
      cases h
      exact rn_er qm rfl rfl rn_rt0
    · rw [if_pos c20] at h
      refine rn_eg qm 4 (s2 := ((if (rI p19.2 66 0) < (100 : Int32) then 10 else 8), [(0, .ref 66), (1, .ref a1), (2, .ref r1)], [], N, sl, rn_hp p19.2 M)) rfl ?_
      refine rn_ite (fun c21 => ?_) (fun c21 => ?_)
      · rw [if_pos c21] at h
        refine rn_eg qm 4 (s2 := (14, [(0, .ref 66), (1, .ref a1), (2, .ref r1)], [.int (rI p19.2 66 0), .ref 67], N, sl, rn_hp p19.2 M)) rfl ?_
        have c22 : ¬ (rn_ob (rI p19.2 66 0) 100) := fun c => by rw [if_pos c] at h; cases h
        rw [if_neg c22] at h
        refine rn_e1 qm (s2 := (15, [(0, .ref 66), (1, .ref a1), (2, .ref r1)], [.ref (76 + 2 * (Int32.toNatClampNeg (rI p19.2 66 0)))], N, sl, rn_hp p19.2 M)) (rn_g_aald (r := some (76 + 2 * (Int32.toNatClampNeg (rI p19.2 66 0)))) rfl rfl (ar_x23 (q := 67) rfl (Nat.le_of_ble_eq_true rfl)) c22 (rn_cr_at (rn_ob_lt c22))) ?_
        refine rn_eg qm 6 (s2 := (21, [(3, .ref (76 + 2 * (Int32.toNatClampNeg (rI p19.2 66 0)))), (0, .ref 66), (1, .ref a1), (2, .ref r1)], [.int ((rI p19.2 66 0) + (1 : Int32)), .ref 66], N, sl, rn_hp p19.2 M)) rfl ?_
        refine rn_e1 qm (s2 := (22, [(3, .ref (76 + 2 * (Int32.toNatClampNeg (rI p19.2 66 0)))), (0, .ref 66), (1, .ref a1), (2, .ref r1)], [], N, sl, rn_hp (wI p19.2 66 0 ((rI p19.2 66 0) + (1 : Int32))) M)) (rn_g_putf rfl rfl (en_7 rfl) rfl rfl rfl (wf_7_0 (v := ((rI p19.2 66 0) + (1 : Int32))) rfl)) ?_
        refine rn_eg qm 2 (s2 := (24, [(3, .ref (76 + 2 * (Int32.toNatClampNeg (rI p19.2 66 0)))), (0, .ref 66), (1, .ref a1), (2, .ref r1)], [.ref r1, .ref (76 + 2 * (Int32.toNatClampNeg (rI p19.2 66 0)))], N, sl, rn_hp (wI p19.2 66 0 ((rI p19.2 66 0) + (1 : Int32))) M)) rfl ?_
        obtain ⟨p23, hp23, h⟩ := Option.bind_eq_some_iff.mp h
        refine rn_ec qm rfl rfl rfl rfl rn_m128 rfl rfl rfl (fun _ => rn_rc_of (en_3 (show rn_kd (76 + 2 * (Int32.toNatClampNeg (rI p19.2 66 0))) = 3 from ck_23 (q := 67) rfl (rn_ob_lt c22)))) (E128 hp23) ?_
        refine rn_eg qm 0 (s2 := (25, [(3, .ref (76 + 2 * (Int32.toNatClampNeg (rI p19.2 66 0)))), (0, .ref 66), (1, .ref a1), (2, .ref r1)], [], N, sl, rn_hp p23 M)) rfl ?_
        refine rn_eg qm 5 (s2 := (30, [(3, .ref (76 + 2 * (Int32.toNatClampNeg (rI p19.2 66 0)))), (0, .ref 66), (1, .ref a1), (2, .ref r1)], [.int (rI p23 66 4), .int (rI p23 66 3), .ref a1], N, sl, rn_hp p23 M)) rfl ?_
        have k24 : rn_kd a1 = 1 := Decidable.byContradiction fun c => by rw [if_neg c] at h; cases h
        rw [if_pos k24] at h
        obtain ⟨p25, hp25, h⟩ := Option.bind_eq_some_iff.mp h
        refine rn_ec qm rfl rfl rfl rfl rn_m115 rfl rfl rfl (fun _ => rn_rc_of (en_1 k24)) (E115 hp25) ?_
        refine rn_eg qm 0 (s2 := (31, [(3, .ref (76 + 2 * (Int32.toNatClampNeg (rI p19.2 66 0)))), (0, .ref 66), (1, .ref a1), (2, .ref r1)], [.int p25], N, sl, rn_hp p23 M)) rfl ?_
        refine rn_eg qm 4 (s2 := ((if p25 = (40 : Int32) then 38 else 35), [(4, .int p25), (3, .ref (76 + 2 * (Int32.toNatClampNeg (rI p19.2 66 0)))), (0, .ref 66), (1, .ref a1), (2, .ref r1)], [], N, sl, rn_hp p23 M)) rfl ?_
        refine rn_ite (fun c26 => ?_) (fun c26 => ?_)
        · rw [if_pos c26] at h
          refine rn_kq qm (s2 := (38, [(0, .ref 66), (3, .ref (76 + 2 * (Int32.toNatClampNeg (rI p19.2 66 0)))), (4, .int p25)], [], N, sl, rn_hp p23 M)) rfl rfl ?_
          exact E159_J38 (show rn_kd (76 + 2 * (Int32.toNatClampNeg (rI p19.2 66 0))) = 3 from ck_23 (q := 67) rfl (rn_ob_lt c22)) h
        · rw [if_neg c26] at h
          refine rn_eg qm 3 (s2 := ((if p25 = (91 : Int32) then 38 else 84), [(4, .int p25), (3, .ref (76 + 2 * (Int32.toNatClampNeg (rI p19.2 66 0)))), (0, .ref 66), (1, .ref a1), (2, .ref r1)], [], N, sl, rn_hp p23 M)) rfl ?_
          refine rn_ite (fun c27 => ?_) (fun c27 => ?_)
          · rw [if_pos c27] at h
            refine rn_kq qm (s2 := (38, [(0, .ref 66), (3, .ref (76 + 2 * (Int32.toNatClampNeg (rI p19.2 66 0)))), (4, .int p25)], [], N, sl, rn_hp p23 M)) rfl rfl ?_
            exact E159_J38 (show rn_kd (76 + 2 * (Int32.toNatClampNeg (rI p19.2 66 0))) = 3 from ck_23 (q := 67) rfl (rn_ob_lt c22)) h
          · rw [if_neg c27] at h
            refine rn_eg qm 9 (s2 := (93, [(4, .int p25), (3, .ref (76 + 2 * (Int32.toNatClampNeg (rI p19.2 66 0)))), (0, .ref 66), (1, .ref a1), (2, .ref r1)], [.int ((rI p23 66 4) + (1 : Int32)), .int (rI p23 66 3), .ref a1, .int p25, .ref (76 + 2 * (Int32.toNatClampNeg (rI p19.2 66 0)))], N, sl, rn_hp p23 M)) rfl ?_
            obtain ⟨p28, hp28, h⟩ := Option.bind_eq_some_iff.mp h
            refine rn_ec qm rfl rfl rfl rfl rn_m115 rfl rfl rfl (fun _ => rn_rc_of (en_1 k24)) (E115 hp28) ?_
            refine rn_eg qm 0 (s2 := (94, [(4, .int p25), (3, .ref (76 + 2 * (Int32.toNatClampNeg (rI p19.2 66 0)))), (0, .ref 66), (1, .ref a1), (2, .ref r1)], [.int p28, .int p25, .ref (76 + 2 * (Int32.toNatClampNeg (rI p19.2 66 0)))], N, sl, rn_hp p23 M)) rfl ?_
            obtain ⟨p29, hp29, h⟩ := Option.bind_eq_some_iff.mp h
            refine rn_ec qm rfl rfl rfl rfl rn_m161 rfl rfl rfl (fun h => by cases h) (E161 hp29) ?_
            refine rn_eg qm 0 (s2 := (95, [(4, .int p25), (3, .ref (76 + 2 * (Int32.toNatClampNeg (rI p19.2 66 0)))), (0, .ref 66), (1, .ref a1), (2, .ref r1)], [.int (rn_bi p29.1)], N, sl, rn_hp p29.2 M)) rfl ?_
            cases h
            exact rn_er qm rfl rfl (rn_rtb _)
      · rw [if_neg c21] at h
        refine rn_eg qm 1 (s2 := (9, [], [.int (0 : Int32)], N, sl, rn_hp p19.2 M)) rfl ?_
        cases h
        exact rn_er qm rfl rfl rn_rt0
/-! 135: RecordNiches$Scan.behind(I)I -/
def f135 (S : rn_T) (a0 : Nat) (a1 : Int32) : Option Int32 :=
  if a1 < 0 then
    some (40 : Int32)
  else
    if (40 : Int32) ≤ a1 then
      some (40 : Int32)
    else
      if rn_kd a0 = 4 then
        if rn_ob a1 40 then none else
          some (rA S (a0 + 1) (Int32.toNatClampNeg a1))
      else none
set_option maxHeartbeats 4000000 in
theorem E135 {X : rn_X} {N sl : Nat} {S M : rn_T} {a0 : Nat} {a1 : Int32} {R : (Int32)} (h : f135 S a0 a1 = some R) : rn_rv X 135 (0, [(0, .ref a0), (1, .int a1)], [], N, sl, rn_hp S M) (some (.int R), N, sl, rn_hp S M) := by
  have qm := rn_m135
  unfold f135 at h
  refine rn_eg qm 2 (s2 := ((if a1 < 0 then 10 else 2), [(0, .ref a0), (1, .int a1)], [], N, sl, rn_hp S M)) rfl ?_
  refine rn_ite (fun c1 => ?_) (fun c1 => ?_)
  · rw [if_pos c1] at h
    refine rn_eg qm 1 (s2 := (11, [], [.int (40 : Int32)], N, sl, rn_hp S M)) rfl ?_
    cases h
    exact rn_er qm rfl rfl rfl
  · rw [if_neg c1] at h
    refine rn_eg qm 3 (s2 := ((if (40 : Int32) ≤ a1 then 10 else 5), [(0, .ref a0), (1, .int a1)], [], N, sl, rn_hp S M)) rfl ?_
    refine rn_ite (fun c2 => ?_) (fun c2 => ?_)
    · rw [if_pos c2] at h
      refine rn_eg qm 1 (s2 := (11, [], [.int (40 : Int32)], N, sl, rn_hp S M)) rfl ?_
      cases h
      exact rn_er qm rfl rfl rfl
    · rw [if_neg c2] at h
      refine rn_eg qm 1 (s2 := (6, [(0, .ref a0), (1, .int a1)], [.ref a0], N, sl, rn_hp S M)) rfl ?_
      have k3 : rn_kd a0 = 4 := Decidable.byContradiction fun c => by rw [if_neg c] at h; cases h
      rw [if_pos k3] at h
      refine rn_e1 qm (s2 := (7, [(0, .ref a0), (1, .int a1)], [.ref (a0 + 1)], N, sl, rn_hp S M)) (rn_g_getf rfl rfl (en_4 k3) rfl) ?_
      refine rn_eg qm 1 (s2 := (8, [(0, .ref a0), (1, .int a1)], [.int a1, .ref (a0 + 1)], N, sl, rn_hp S M)) rfl ?_
      have c4 : ¬ (rn_ob a1 40) := fun c => by rw [if_pos c] at h; cases h
      rw [if_neg c4] at h
      refine rn_e1 qm (s2 := (9, [(0, .ref a0), (1, .int a1)], [.int (rA S (a0 + 1) (Int32.toNatClampNeg a1))], N, sl, rn_hp S M)) (rn_g_iald (n := 40) rfl rfl (ar_x10 (ko_4_1 k3).1 (ko_4_1 k3).2.1 (ko_4_1 k3).2.2) c4) ?_
      refine rn_eg qm 1 (s2 := (11, [(0, .ref a0), (1, .int a1)], [.int (rA S (a0 + 1) (Int32.toNatClampNeg a1))], N, sl, rn_hp S M)) rfl ?_
      cases h
      exact rn_er qm rfl rfl rfl
/-! 111: RecordNiches$Grammar.behind(II)I -/
def f111 (S : rn_T) (a1 : Int32) (a2 : Int32) : Option Int32 :=
  if (f22 a1) = true then
    if rn_ob a1 8 then none else
      Option.bind (f135 S (26 + 5 * (Int32.toNatClampNeg a1)) a2) fun p4 =>
        some p4
  else
    some (40 : Int32)
set_option maxHeartbeats 4000000 in
theorem E111 {X : rn_X} {N sl : Nat} {S M : rn_T} {a1 : Int32} {a2 : Int32} {R : (Int32)} (h : f111 S a1 a2 = some R) : rn_rv X 111 (0, [(0, .ref 23), (1, .int a1), (2, .int a2)], [], N, sl, rn_hp S M) (some (.int R), N, sl, rn_hp S M) := by
  have qm := rn_m111
  unfold f111 at h
  refine rn_eg qm 1 (s2 := (1, [(0, .ref 23), (1, .int a1), (2, .int a2)], [.int a1], N, sl, rn_hp S M)) rfl ?_
  refine rn_ec qm rfl rfl rfl rfl rn_m22 rfl rfl rfl (fun h => by cases h) (E22 rfl) ?_
  refine rn_eg qm 0 (s2 := (2, [(0, .ref 23), (1, .int a1), (2, .int a2)], [.int (rn_bi (f22 a1))], N, sl, rn_hp S M)) rfl ?_
  refine rn_eg qm 1 (s2 := ((if (rn_bi (f22 a1)) = 0 then 10 else 3), [(0, .ref 23), (1, .int a1), (2, .int a2)], [], N, sl, rn_hp S M)) rfl ?_
  refine rn_iteb (fun c2 => ?_) (fun c2 => ?_)
  · rw [if_neg (rn_bf c2)] at h
    refine rn_eg qm 1 (s2 := (11, [(0, .ref 23), (1, .int a1), (2, .int a2)], [.int (40 : Int32)], N, sl, rn_hp S M)) rfl ?_
    cases h
    exact rn_er qm rfl rfl rfl
  · rw [if_pos c2] at h
    refine rn_eg qm 3 (s2 := (6, [(0, .ref 23), (1, .int a1), (2, .int a2)], [.int a1, .ref 24], N, sl, rn_hp S M)) rfl ?_
    have c3 : ¬ (rn_ob a1 8) := fun c => by rw [if_pos c] at h; cases h
    rw [if_neg c3] at h
    refine rn_e1 qm (s2 := (7, [(0, .ref 23), (1, .int a1), (2, .int a2)], [.ref (26 + 5 * (Int32.toNatClampNeg a1))], N, sl, rn_hp S M)) (rn_g_aald (r := some (26 + 5 * (Int32.toNatClampNeg a1))) rfl rfl (ar_x22 (q := 24) rfl (Nat.le_of_ble_eq_true rfl)) c3 (rn_cr_at (rn_ob_lt c3))) ?_
    refine rn_eg qm 1 (s2 := (8, [(0, .ref 23), (1, .int a1), (2, .int a2)], [.int a2, .ref (26 + 5 * (Int32.toNatClampNeg a1))], N, sl, rn_hp S M)) rfl ?_
    obtain ⟨p4, hp4, h⟩ := Option.bind_eq_some_iff.mp h
    refine rn_ec qm rfl rfl rfl rfl rn_m135 rfl rfl rfl (fun _ => rn_rc_of (en_4 (show rn_kd (26 + 5 * (Int32.toNatClampNeg a1)) = 4 from ck_22 (q := 24) rfl (rn_ob_lt c3)))) (E135 hp4) ?_
    refine rn_eg qm 0 (s2 := (9, [(0, .ref 23), (1, .int a1), (2, .int a2)], [.int p4], N, sl, rn_hp S M)) rfl ?_
    refine rn_eg qm 1 (s2 := (11, [(0, .ref 23), (1, .int a1), (2, .int a2)], [.int p4], N, sl, rn_hp S M)) rfl ?_
    cases h
    exact rn_er qm rfl rfl rfl
