/-! 93: RecordNichesModel.refusalAt(III)I -/
def f93 (M : rn_T) (a1 : Int32) (a2 : Int32) (a3 : Int32) : Option (Int32 × rn_T) :=
  Option.bind (f71 M a1 a2) fun p1 =>
    if p1.1 = (-6 : Int32) then
      if a3 < 0 then
        some ((-2 : Int32), p1.2)
      else
        if (96 : Int32) < a3 then
          some ((-2 : Int32), p1.2)
        else
          if (rA p1.2 335 (Int32.toNatClampNeg (0 : Int32))) = 0 then none else
            if (a3 - a3 / (rA p1.2 335 (Int32.toNatClampNeg (0 : Int32))) * (rA p1.2 335 (Int32.toNatClampNeg (0 : Int32)))) = 0 then
              if (a3 + (rA p1.2 334 (Int32.toNatClampNeg (0 : Int32)))) ≤ (96 : Int32) then
                some ((-6 : Int32), p1.2)
              else
                some ((-2 : Int32), p1.2)
            else
              some ((-2 : Int32), p1.2)
    else
      some (p1.1, p1.2)
set_option maxHeartbeats 4000000 in
theorem E93 {X : rn_X} {N sl : Nat} {S M : rn_T} {a1 : Int32} {a2 : Int32} {a3 : Int32} {R : (Int32 × rn_T)} (h : f93 M a1 a2 a3 = some R) : rn_rv X 93 (0, [(0, .ref 318), (1, .int a1), (2, .int a2), (3, .int a3)], [], N, sl, rn_hp S M) (some (.int R.1), N, sl, rn_hp S R.2) := by
  have qm := rn_m93
  unfold f93 at h
  refine rn_eg qm 3 (s2 := (3, [(0, .ref 318), (1, .int a1), (2, .int a2), (3, .int a3)], [.int a2, .int a1, .ref 318], N, sl, rn_hp S M)) rfl ?_
  obtain ⟨p1, hp1, h⟩ := Option.bind_eq_some_iff.mp h
  refine rn_ec qm rfl rfl rfl rfl rn_m71 rfl rfl rfl (fun _ => rn_rc_of (en_9 (q := 318) rfl)) (E71 hp1) ?_
  refine rn_eg qm 0 (s2 := (4, [(0, .ref 318), (1, .int a1), (2, .int a2), (3, .int a3)], [.int p1.1], N, sl, rn_hp S p1.2)) rfl ?_
  refine rn_eg qm 4 (s2 := ((if p1.1 = (-6 : Int32) then 10 else 8), [(4, .int p1.1), (0, .ref 318), (1, .int a1), (2, .int a2), (3, .int a3)], [], N, sl, rn_hp S p1.2)) rfl ?_
  refine rn_ite (fun c2 => ?_) (fun c2 => ?_)
  · rw [if_pos c2] at h
    refine rn_eg qm 2 (s2 := ((if a3 < 0 then 30 else 12), [(4, .int p1.1), (0, .ref 318), (1, .int a1), (2, .int a2), (3, .int a3)], [], N, sl, rn_hp S p1.2)) rfl ?_
    refine rn_ite (fun c3 => ?_) (fun c3 => ?_)
    · rw [if_pos c3] at h
      refine rn_eg qm 2 (s2 := (33, [], [.int (-2 : Int32)], N, sl, rn_hp S p1.2)) rfl ?_
      cases h
      exact rn_er qm rfl rfl rfl
    · rw [if_neg c3] at h
      refine rn_eg qm 3 (s2 := ((if (96 : Int32) < a3 then 30 else 15), [(4, .int p1.1), (0, .ref 318), (1, .int a1), (2, .int a2), (3, .int a3)], [], N, sl, rn_hp S p1.2)) rfl ?_
      refine rn_ite (fun c4 => ?_) (fun c4 => ?_)
      · rw [if_pos c4] at h
        refine rn_eg qm 2 (s2 := (33, [], [.int (-2 : Int32)], N, sl, rn_hp S p1.2)) rfl ?_
        cases h
        exact rn_er qm rfl rfl rfl
      · rw [if_neg c4] at h
        refine rn_eg qm 4 (s2 := (19, [(4, .int p1.1), (0, .ref 318), (1, .int a1), (2, .int a2), (3, .int a3)], [.int (0 : Int32), .ref 335, .int a3], N, sl, rn_hp S p1.2)) rfl ?_
        refine rn_e1 qm (s2 := (20, [(4, .int p1.1), (0, .ref 318), (1, .int a1), (2, .int a2), (3, .int a3)], [.int (rA p1.2 335 (Int32.toNatClampNeg (0 : Int32))), .int a3], N, sl, rn_hp S p1.2)) (rn_g_iald (n := 101) rfl rfl (ar_m10 rfl rfl (Nat.le_of_ble_eq_true rfl)) (by decide)) ?_
        have c5 : ¬ ((rA p1.2 335 (Int32.toNatClampNeg (0 : Int32))) = 0) := fun c => by rw [if_pos c] at h; cases h
        rw [if_neg c5] at h
        refine rn_e1 qm (s2 := (21, [(4, .int p1.1), (0, .ref 318), (1, .int a1), (2, .int a2), (3, .int a3)], [.int (a3 - a3 / (rA p1.2 335 (Int32.toNatClampNeg (0 : Int32))) * (rA p1.2 335 (Int32.toNatClampNeg (0 : Int32))))], N, sl, rn_hp S p1.2)) (rn_g_irem rfl rfl c5) ?_
        refine rn_eg qm 1 (s2 := ((if (a3 - a3 / (rA p1.2 335 (Int32.toNatClampNeg (0 : Int32))) * (rA p1.2 335 (Int32.toNatClampNeg (0 : Int32)))) = 0 then 22 else 30), [(4, .int p1.1), (0, .ref 318), (1, .int a1), (2, .int a2), (3, .int a3)], [], N, sl, rn_hp S p1.2)) rfl ?_
        refine rn_ite (fun c6 => ?_) (fun c6 => ?_)
        · rw [if_pos c6] at h
          refine rn_eg qm 4 (s2 := (26, [(4, .int p1.1), (0, .ref 318), (1, .int a1), (2, .int a2), (3, .int a3)], [.int (0 : Int32), .ref 334, .int a3], N, sl, rn_hp S p1.2)) rfl ?_
          refine rn_e1 qm (s2 := (27, [(4, .int p1.1), (0, .ref 318), (1, .int a1), (2, .int a2), (3, .int a3)], [.int (rA p1.2 334 (Int32.toNatClampNeg (0 : Int32))), .int a3], N, sl, rn_hp S p1.2)) (rn_g_iald (n := 101) rfl rfl (ar_m10 rfl rfl (Nat.le_of_ble_eq_true rfl)) (by decide)) ?_
          refine rn_eg qm 3 (s2 := ((if (a3 + (rA p1.2 334 (Int32.toNatClampNeg (0 : Int32)))) ≤ (96 : Int32) then 32 else 30), [(4, .int p1.1), (0, .ref 318), (1, .int a1), (2, .int a2), (3, .int a3)], [], N, sl, rn_hp S p1.2)) rfl ?_
          refine rn_ite (fun c7 => ?_) (fun c7 => ?_)
          · rw [if_pos c7] at h
            refine rn_eg qm 1 (s2 := (33, [(4, .int p1.1), (0, .ref 318), (1, .int a1), (2, .int a2), (3, .int a3)], [.int (-6 : Int32)], N, sl, rn_hp S p1.2)) rfl ?_
            cases h
            exact rn_er qm rfl rfl rfl
          · rw [if_neg c7] at h
            refine rn_eg qm 2 (s2 := (33, [], [.int (-2 : Int32)], N, sl, rn_hp S p1.2)) rfl ?_
            cases h
            exact rn_er qm rfl rfl rfl
        · rw [if_neg c6] at h
          refine rn_eg qm 2 (s2 := (33, [], [.int (-2 : Int32)], N, sl, rn_hp S p1.2)) rfl ?_
          cases h
          exact rn_er qm rfl rfl rfl
  · rw [if_neg c2] at h
    refine rn_eg qm 1 (s2 := (9, [(4, .int p1.1), (0, .ref 318), (1, .int a1), (2, .int a2), (3, .int a3)], [.int p1.1], N, sl, rn_hp S p1.2)) rfl ?_
    cases h
    exact rn_er qm rfl rfl rfl
/-! 94: RecordNichesModel.write(III)I -/
def f94 (M : rn_T) (a1 : Int32) (a2 : Int32) (a3 : Int32) : Option (Int32 × rn_T) :=
  Option.bind (f46 M a1 a2) fun p1 =>
    if p1 = true then
      Option.bind (f93 M a1 a2 a3) fun p3 =>
        if p3.1 = (-6 : Int32) then
          Option.bind (f90 p3.2) fun p5 =>
            if p5.1 = true then
              Option.bind (f92 p5.2 a3) fun p7 =>
                some ((rA p7 334 (Int32.toNatClampNeg (0 : Int32))), p7)
            else
              some ((-3 : Int32), p5.2)
        else
          some (p3.1, p3.2)
    else
      some ((-1 : Int32), M)
set_option maxHeartbeats 4000000 in
theorem E94 {X : rn_X} {N sl : Nat} {S M : rn_T} {a1 : Int32} {a2 : Int32} {a3 : Int32} {R : (Int32 × rn_T)} (h : f94 M a1 a2 a3 = some R) : rn_rv X 94 (0, [(0, .ref 318), (1, .int a1), (2, .int a2), (3, .int a3)], [], N, sl, rn_hp S M) (some (.int R.1), N, sl, rn_hp S R.2) := by
  have qm := rn_m94
  unfold f94 at h
  refine rn_eg qm 3 (s2 := (3, [(0, .ref 318), (1, .int a1), (2, .int a2), (3, .int a3)], [.int a2, .int a1, .ref 318], N, sl, rn_hp S M)) rfl ?_
  obtain ⟨p1, hp1, h⟩ := Option.bind_eq_some_iff.mp h
  refine rn_ec qm rfl rfl rfl rfl rn_m46 rfl rfl rfl (fun _ => rn_rc_of (en_9 (q := 318) rfl)) (E46 hp1) ?_
  refine rn_eg qm 0 (s2 := (4, [(0, .ref 318), (1, .int a1), (2, .int a2), (3, .int a3)], [.int (rn_bi p1)], N, sl, rn_hp S M)) rfl ?_
  refine rn_eg qm 1 (s2 := ((if (rn_bi p1) = 0 then 5 else 7), [(0, .ref 318), (1, .int a1), (2, .int a2), (3, .int a3)], [], N, sl, rn_hp S M)) rfl ?_
  refine rn_iteb (fun c2 => ?_) (fun c2 => ?_)
  · rw [if_neg (rn_bf c2)] at h
    refine rn_eg qm 1 (s2 := (6, [(0, .ref 318), (1, .int a1), (2, .int a2), (3, .int a3)], [.int (-1 : Int32)], N, sl, rn_hp S M)) rfl ?_
    cases h
    exact rn_er qm rfl rfl rfl
  · rw [if_pos c2] at h
    refine rn_eg qm 4 (s2 := (11, [(0, .ref 318), (1, .int a1), (2, .int a2), (3, .int a3)], [.int a3, .int a2, .int a1, .ref 318], N, sl, rn_hp S M)) rfl ?_
    obtain ⟨p3, hp3, h⟩ := Option.bind_eq_some_iff.mp h
    refine rn_ec qm rfl rfl rfl rfl rn_m93 rfl rfl rfl (fun _ => rn_rc_of (en_9 (q := 318) rfl)) (E93 hp3) ?_
    refine rn_eg qm 0 (s2 := (12, [(0, .ref 318), (1, .int a1), (2, .int a2), (3, .int a3)], [.int p3.1], N, sl, rn_hp S p3.2)) rfl ?_
    refine rn_eg qm 4 (s2 := ((if p3.1 = (-6 : Int32) then 18 else 16), [(4, .int p3.1), (0, .ref 318), (1, .int a1), (2, .int a2), (3, .int a3)], [], N, sl, rn_hp S p3.2)) rfl ?_
    refine rn_ite (fun c4 => ?_) (fun c4 => ?_)
    · rw [if_pos c4] at h
      refine rn_eg qm 1 (s2 := (19, [(4, .int p3.1), (0, .ref 318), (1, .int a1), (2, .int a2), (3, .int a3)], [.ref 318], N, sl, rn_hp S p3.2)) rfl ?_
      obtain ⟨p5, hp5, h⟩ := Option.bind_eq_some_iff.mp h
      refine rn_ec qm rfl rfl rfl rfl rn_m90 rfl rfl rfl (fun _ => rn_rc_of (en_9 (q := 318) rfl)) (E90 hp5) ?_
      refine rn_eg qm 0 (s2 := (20, [(4, .int p3.1), (0, .ref 318), (1, .int a1), (2, .int a2), (3, .int a3)], [.int (rn_bi p5.1)], N, sl, rn_hp S p5.2)) rfl ?_
      refine rn_eg qm 1 (s2 := ((if (rn_bi p5.1) = 0 then 21 else 23), [(4, .int p3.1), (0, .ref 318), (1, .int a1), (2, .int a2), (3, .int a3)], [], N, sl, rn_hp S p5.2)) rfl ?_
      refine rn_iteb (fun c6 => ?_) (fun c6 => ?_)
      · rw [if_neg (rn_bf c6)] at h
        refine rn_eg qm 1 (s2 := (22, [(4, .int p3.1), (0, .ref 318), (1, .int a1), (2, .int a2), (3, .int a3)], [.int (-3 : Int32)], N, sl, rn_hp S p5.2)) rfl ?_
        cases h
        exact rn_er qm rfl rfl rfl
      · rw [if_pos c6] at h
        refine rn_eg qm 2 (s2 := (25, [(4, .int p3.1), (0, .ref 318), (1, .int a1), (2, .int a2), (3, .int a3)], [.int a3, .ref 318], N, sl, rn_hp S p5.2)) rfl ?_
        obtain ⟨p7, hp7, h⟩ := Option.bind_eq_some_iff.mp h
        refine rn_ec qm rfl rfl rfl rfl rn_m92 rfl rfl rfl (fun _ => rn_rc_of (en_9 (q := 318) rfl)) (E92 hp7) ?_
        refine rn_eg qm 0 (s2 := (26, [(4, .int p3.1), (0, .ref 318), (1, .int a1), (2, .int a2), (3, .int a3)], [], N, sl, rn_hp S p7)) rfl ?_
        refine rn_eg qm 3 (s2 := (29, [(4, .int p3.1), (0, .ref 318), (1, .int a1), (2, .int a2), (3, .int a3)], [.int (0 : Int32), .ref 334], N, sl, rn_hp S p7)) rfl ?_
        refine rn_e1 qm (s2 := (30, [(4, .int p3.1), (0, .ref 318), (1, .int a1), (2, .int a2), (3, .int a3)], [.int (rA p7 334 (Int32.toNatClampNeg (0 : Int32)))], N, sl, rn_hp S p7)) (rn_g_iald (n := 101) rfl rfl (ar_m10 rfl rfl (Nat.le_of_ble_eq_true rfl)) (by decide)) ?_
        cases h
        exact rn_er qm rfl rfl rfl
    · rw [if_neg c4] at h
      refine rn_eg qm 1 (s2 := (17, [(4, .int p3.1), (0, .ref 318), (1, .int a1), (2, .int a2), (3, .int a3)], [.int p3.1], N, sl, rn_hp S p3.2)) rfl ?_
      cases h
      exact rn_er qm rfl rfl rfl
/-! 95: RecordNichesModel.lies(II)J -/
def f95_L6 (b1 : Int32) : Nat → rn_T → Int64 → Int32 → (rn_T → Int64 → Option Int64) → Option Int64
  | 0, _, _, _, _ => none
  | fu + 1, M, v3, v5, k =>
    if v5 < 0 then
      k M v3
    else
      if rn_ob (b1 + v5) 96 then none else
        f95_L6 b1 fu M ((v3 <<< ((8 : Int32).toInt64 &&& 63)) ||| (Int32.toInt64 (rA M 346 (Int32.toNatClampNeg (b1 + v5))))) (v5 + (-1 : Int32)) k
set_option maxHeartbeats 4000000 in
theorem E95_L6 {X : rn_X} {N sl : Nat} {S : rn_T} {b1 : Int32} : ∀ (fu : Nat) (M : rn_T) (v3 : Int64) (v5 : Int32) (k : (rn_T → Int64 → Option Int64)) (R : (Int64)), (∀ (M : rn_T) (w_3 : Int64), k M w_3 = some R → rn_rv X 95 (22, [(3, .long w_3)], [], N, sl, rn_hp S M) (some (.long R), N, sl, rn_hp S M)) → f95_L6 b1 fu M v3 v5 k = some R → rn_rv X 95 (6, [(0, .ref 318), (1, .int b1), (3, .long v3), (5, .int v5)], [], N, sl, rn_hp S M) (some (.long R), N, sl, rn_hp S M) := by
  have qm := rn_m95
  intro fu
  induction fu with
  | zero => intro M v3 v5 k R hk h; cases h
  | succ fu ih =>
    intro M v3 v5 k R hk h
    unfold f95_L6 at h
    refine rn_eg qm 2 (s2 := ((if v5 < 0 then 22 else 8), [(0, .ref 318), (1, .int b1), (3, .long v3), (5, .int v5)], [], N, sl, rn_hp S M)) rfl ?_
    refine rn_ite (fun c1 => ?_) (fun c1 => ?_)
    · rw [if_pos c1] at h
      refine rn_kq qm (s2 := (22, [(3, .long v3)], [], N, sl, rn_hp S M)) rfl rfl ?_
      exact hk _ _ h
    · rw [if_neg c1] at h
      refine rn_eg qm 8 (s2 := (16, [(0, .ref 318), (1, .int b1), (3, .long v3), (5, .int v5)], [.int (b1 + v5), .ref 346, .long (v3 <<< ((8 : Int32).toInt64 &&& 63))], N, sl, rn_hp S M)) rfl ?_
      have c2 : ¬ (rn_ob (b1 + v5) 96) := fun c => by rw [if_pos c] at h; cases h
      rw [if_neg c2] at h
      refine rn_e1 qm (s2 := (17, [(0, .ref 318), (1, .int b1), (3, .long v3), (5, .int v5)], [.int (rA M 346 (Int32.toNatClampNeg (b1 + v5))), .long (v3 <<< ((8 : Int32).toInt64 &&& 63))], N, sl, rn_hp S M)) (rn_g_iald (n := 96) rfl rfl (ar_m10 rfl rfl (Nat.le_of_ble_eq_true rfl)) c2) ?_
      refine rn_eg qm 5 (s2 := (6, [(5, .int (v5 + (-1 : Int32))), (3, .long ((v3 <<< ((8 : Int32).toInt64 &&& 63)) ||| (Int32.toInt64 (rA M 346 (Int32.toNatClampNeg (b1 + v5)))))), (0, .ref 318), (1, .int b1)], [], N, sl, rn_hp S M)) rfl ?_
      refine rn_kq qm (s2 := (6, [(0, .ref 318), (1, .int b1), (3, .long ((v3 <<< ((8 : Int32).toInt64 &&& 63)) ||| (Int32.toInt64 (rA M 346 (Int32.toNatClampNeg (b1 + v5)))))), (5, .int (v5 + (-1 : Int32)))], [], N, sl, rn_hp S M)) rfl rfl ?_
      exact ih _ _ _ k R hk h
def f95 (M : rn_T) (a1 : Int32) (a2 : Int32) : Option Int64 :=
  f95_L6 a1 rn_FU M (0 : Int64) (a2 - (1 : Int32)) (fun M3 w3_3 =>
    some w3_3)
set_option maxHeartbeats 4000000 in
theorem E95 {X : rn_X} {N sl : Nat} {S M : rn_T} {a1 : Int32} {a2 : Int32} {R : (Int64)} (h : f95 M a1 a2 = some R) : rn_rv X 95 (0, [(0, .ref 318), (1, .int a1), (2, .int a2)], [], N, sl, rn_hp S M) (some (.long R), N, sl, rn_hp S M) := by
  have qm := rn_m95
  unfold f95 at h
  refine rn_eg qm 6 (s2 := (6, [(5, .int (a2 - (1 : Int32))), (3, .long (0 : Int64)), (0, .ref 318), (1, .int a1), (2, .int a2)], [], N, sl, rn_hp S M)) rfl ?_
  refine rn_kq qm (s2 := (6, [(0, .ref 318), (1, .int a1), (3, .long (0 : Int64)), (5, .int (a2 - (1 : Int32)))], [], N, sl, rn_hp S M)) rfl rfl ?_
  refine E95_L6 rn_FU _ _ _ _ R ?_ h
  intro M3 w3_3 h
  refine rn_eg qm 1 (s2 := (23, [(3, .long w3_3)], [.long w3_3], N, sl, rn_hp S M3)) rfl ?_
  cases h
  exact rn_er qm rfl rfl rfl
/-! 96: RecordNichesModel.hiddenAt(II)J -/
def f96 (M : rn_T) (a1 : Int32) (a2 : Int32) : Option Int64 :=
  if rn_ob a1 101 then none else
    Option.bind (f57 M a1 (rA M 342 (Int32.toNatClampNeg a1))) fun p2 =>
      if rn_ob p2 101 then none else
        Option.bind (f95 M (a2 + (rA M 337 (Int32.toNatClampNeg p2))) (rA M 338 (Int32.toNatClampNeg p2))) fun p4 =>
          if (f29 (p4 - (Int32.toInt64 (rA M 339 (Int32.toNatClampNeg p2)))) (0 : Int64) (Int32.toInt64 ((rA M 326 (Int32.toNatClampNeg a1)) - (2 : Int32)))) = true then
            if 0 ≤ (lg_cmp (p4 - (Int32.toInt64 (rA M 339 (Int32.toNatClampNeg p2)))) (Int32.toInt64 (rA M 342 (Int32.toNatClampNeg a1)))) then
              some ((p4 - (Int32.toInt64 (rA M 339 (Int32.toNatClampNeg p2)))) + (1 : Int64))
            else
              some (p4 - (Int32.toInt64 (rA M 339 (Int32.toNatClampNeg p2))))
          else
            some (Int32.toInt64 (rA M 342 (Int32.toNatClampNeg a1)))
set_option maxHeartbeats 4000000 in
theorem E96 {X : rn_X} {N sl : Nat} {S M : rn_T} {a1 : Int32} {a2 : Int32} {R : (Int64)} (h : f96 M a1 a2 = some R) : rn_rv X 96 (0, [(0, .ref 318), (1, .int a1), (2, .int a2)], [], N, sl, rn_hp S M) (some (.long R), N, sl, rn_hp S M) := by
  have qm := rn_m96
  unfold f96 at h
  refine rn_eg qm 5 (s2 := (5, [(0, .ref 318), (1, .int a1), (2, .int a2)], [.int a1, .ref 342, .int a1, .ref 318], N, sl, rn_hp S M)) rfl ?_
  have c1 : ¬ (rn_ob a1 101) := fun c => by rw [if_pos c] at h; cases h
  rw [if_neg c1] at h
  refine rn_e1 qm (s2 := (6, [(0, .ref 318), (1, .int a1), (2, .int a2)], [.int (rA M 342 (Int32.toNatClampNeg a1)), .int a1, .ref 318], N, sl, rn_hp S M)) (rn_g_iald (n := 101) rfl rfl (ar_m10 rfl rfl (Nat.le_of_ble_eq_true rfl)) c1) ?_
  obtain ⟨p2, hp2, h⟩ := Option.bind_eq_some_iff.mp h
  refine rn_ec qm rfl rfl rfl rfl rn_m57 rfl rfl rfl (fun _ => rn_rc_of (en_9 (q := 318) rfl)) (E57 hp2) ?_
  refine rn_eg qm 0 (s2 := (7, [(0, .ref 318), (1, .int a1), (2, .int a2)], [.int p2], N, sl, rn_hp S M)) rfl ?_
  refine rn_eg qm 6 (s2 := (13, [(3, .int p2), (0, .ref 318), (1, .int a1), (2, .int a2)], [.int p2, .ref 337, .int a2, .ref 318], N, sl, rn_hp S M)) rfl ?_
  have c3 : ¬ (rn_ob p2 101) := fun c => by rw [if_pos c] at h; cases h
  rw [if_neg c3] at h
  refine rn_e1 qm (s2 := (14, [(3, .int p2), (0, .ref 318), (1, .int a1), (2, .int a2)], [.int (rA M 337 (Int32.toNatClampNeg p2)), .int a2, .ref 318], N, sl, rn_hp S M)) (rn_g_iald (n := 101) rfl rfl (ar_m10 rfl rfl (Nat.le_of_ble_eq_true rfl)) c3) ?_
  refine rn_eg qm 4 (s2 := (18, [(3, .int p2), (0, .ref 318), (1, .int a1), (2, .int a2)], [.int p2, .ref 338, .int (a2 + (rA M 337 (Int32.toNatClampNeg p2))), .ref 318], N, sl, rn_hp S M)) rfl ?_
  refine rn_e1 qm (s2 := (19, [(3, .int p2), (0, .ref 318), (1, .int a1), (2, .int a2)], [.int (rA M 338 (Int32.toNatClampNeg p2)), .int (a2 + (rA M 337 (Int32.toNatClampNeg p2))), .ref 318], N, sl, rn_hp S M)) (rn_g_iald (n := 101) rfl rfl (ar_m10 rfl rfl (Nat.le_of_ble_eq_true rfl)) c3) ?_
  obtain ⟨p4, hp4, h⟩ := Option.bind_eq_some_iff.mp h
  refine rn_ec qm rfl rfl rfl rfl rn_m95 rfl rfl rfl (fun _ => rn_rc_of (en_9 (q := 318) rfl)) (E95 hp4) ?_
  refine rn_eg qm 0 (s2 := (20, [(3, .int p2), (0, .ref 318), (1, .int a1), (2, .int a2)], [.long p4], N, sl, rn_hp S M)) rfl ?_
  refine rn_eg qm 3 (s2 := (23, [(3, .int p2), (0, .ref 318), (1, .int a1), (2, .int a2)], [.int p2, .ref 339, .long p4], N, sl, rn_hp S M)) rfl ?_
  refine rn_e1 qm (s2 := (24, [(3, .int p2), (0, .ref 318), (1, .int a1), (2, .int a2)], [.int (rA M 339 (Int32.toNatClampNeg p2)), .long p4], N, sl, rn_hp S M)) (rn_g_iald (n := 101) rfl rfl (ar_m10 rfl rfl (Nat.le_of_ble_eq_true rfl)) c3) ?_
  refine rn_eg qm 8 (s2 := (32, [(4, .long (p4 - (Int32.toInt64 (rA M 339 (Int32.toNatClampNeg p2))))), (3, .int p2), (0, .ref 318), (1, .int a1), (2, .int a2)], [.int a1, .ref 326, .long (0 : Int64), .long (p4 - (Int32.toInt64 (rA M 339 (Int32.toNatClampNeg p2))))], N, sl, rn_hp S M)) rfl ?_
  refine rn_e1 qm (s2 := (33, [(4, .long (p4 - (Int32.toInt64 (rA M 339 (Int32.toNatClampNeg p2))))), (3, .int p2), (0, .ref 318), (1, .int a1), (2, .int a2)], [.int (rA M 326 (Int32.toNatClampNeg a1)), .long (0 : Int64), .long (p4 - (Int32.toInt64 (rA M 339 (Int32.toNatClampNeg p2))))], N, sl, rn_hp S M)) (rn_g_iald (n := 101) rfl rfl (ar_m10 rfl rfl (Nat.le_of_ble_eq_true rfl)) c1) ?_
  refine rn_eg qm 3 (s2 := (36, [(4, .long (p4 - (Int32.toInt64 (rA M 339 (Int32.toNatClampNeg p2))))), (3, .int p2), (0, .ref 318), (1, .int a1), (2, .int a2)], [.long (Int32.toInt64 ((rA M 326 (Int32.toNatClampNeg a1)) - (2 : Int32))), .long (0 : Int64), .long (p4 - (Int32.toInt64 (rA M 339 (Int32.toNatClampNeg p2))))], N, sl, rn_hp S M)) rfl ?_
  refine rn_ec qm rfl rfl rfl rfl rn_m29 rfl rfl rfl (fun h => by cases h) (E29 rfl) ?_
  refine rn_eg qm 0 (s2 := (37, [(4, .long (p4 - (Int32.toInt64 (rA M 339 (Int32.toNatClampNeg p2))))), (3, .int p2), (0, .ref 318), (1, .int a1), (2, .int a2)], [.int (rn_bi (f29 (p4 - (Int32.toInt64 (rA M 339 (Int32.toNatClampNeg p2)))) (0 : Int64) (Int32.toInt64 ((rA M 326 (Int32.toNatClampNeg a1)) - (2 : Int32)))))], N, sl, rn_hp S M)) rfl ?_
  refine rn_eg qm 1 (s2 := ((if (rn_bi (f29 (p4 - (Int32.toInt64 (rA M 339 (Int32.toNatClampNeg p2)))) (0 : Int64) (Int32.toInt64 ((rA M 326 (Int32.toNatClampNeg a1)) - (2 : Int32))))) = 0 then 38 else 44), [(4, .long (p4 - (Int32.toInt64 (rA M 339 (Int32.toNatClampNeg p2))))), (3, .int p2), (0, .ref 318), (1, .int a1), (2, .int a2)], [], N, sl, rn_hp S M)) rfl ?_
  refine rn_iteb (fun c6 => ?_) (fun c6 => ?_)
  · rw [if_neg (rn_bf c6)] at h
    refine rn_eg qm 3 (s2 := (41, [(4, .long (p4 - (Int32.toInt64 (rA M 339 (Int32.toNatClampNeg p2))))), (3, .int p2), (0, .ref 318), (1, .int a1), (2, .int a2)], [.int a1, .ref 342], N, sl, rn_hp S M)) rfl ?_
    refine rn_e1 qm (s2 := (42, [(4, .long (p4 - (Int32.toInt64 (rA M 339 (Int32.toNatClampNeg p2))))), (3, .int p2), (0, .ref 318), (1, .int a1), (2, .int a2)], [.int (rA M 342 (Int32.toNatClampNeg a1))], N, sl, rn_hp S M)) (rn_g_iald (n := 101) rfl rfl (ar_m10 rfl rfl (Nat.le_of_ble_eq_true rfl)) c1) ?_
    refine rn_eg qm 1 (s2 := (43, [(4, .long (p4 - (Int32.toInt64 (rA M 339 (Int32.toNatClampNeg p2))))), (3, .int p2), (0, .ref 318), (1, .int a1), (2, .int a2)], [.long (Int32.toInt64 (rA M 342 (Int32.toNatClampNeg a1)))], N, sl, rn_hp S M)) rfl ?_
    cases h
    exact rn_er qm rfl rfl rfl
  · rw [if_pos c6] at h
    refine rn_eg qm 4 (s2 := (48, [(4, .long (p4 - (Int32.toInt64 (rA M 339 (Int32.toNatClampNeg p2))))), (3, .int p2), (0, .ref 318), (1, .int a1), (2, .int a2)], [.int a1, .ref 342, .long (p4 - (Int32.toInt64 (rA M 339 (Int32.toNatClampNeg p2))))], N, sl, rn_hp S M)) rfl ?_
    refine rn_e1 qm (s2 := (49, [(4, .long (p4 - (Int32.toInt64 (rA M 339 (Int32.toNatClampNeg p2))))), (3, .int p2), (0, .ref 318), (1, .int a1), (2, .int a2)], [.int (rA M 342 (Int32.toNatClampNeg a1)), .long (p4 - (Int32.toInt64 (rA M 339 (Int32.toNatClampNeg p2))))], N, sl, rn_hp S M)) (rn_g_iald (n := 101) rfl rfl (ar_m10 rfl rfl (Nat.le_of_ble_eq_true rfl)) c1) ?_
    refine rn_eg qm 3 (s2 := ((if 0 ≤ (lg_cmp (p4 - (Int32.toInt64 (rA M 339 (Int32.toNatClampNeg p2)))) (Int32.toInt64 (rA M 342 (Int32.toNatClampNeg a1)))) then 54 else 52), [(4, .long (p4 - (Int32.toInt64 (rA M 339 (Int32.toNatClampNeg p2))))), (3, .int p2), (0, .ref 318), (1, .int a1), (2, .int a2)], [], N, sl, rn_hp S M)) rfl ?_
    refine rn_ite (fun c7 => ?_) (fun c7 => ?_)
    · rw [if_pos c7] at h
      refine rn_eg qm 3 (s2 := (57, [(4, .long (p4 - (Int32.toInt64 (rA M 339 (Int32.toNatClampNeg p2))))), (3, .int p2), (0, .ref 318), (1, .int a1), (2, .int a2)], [.long ((p4 - (Int32.toInt64 (rA M 339 (Int32.toNatClampNeg p2)))) + (1 : Int64))], N, sl, rn_hp S M)) rfl ?_
      cases h
      exact rn_er qm rfl rfl rfl
    · rw [if_neg c7] at h
      refine rn_eg qm 2 (s2 := (57, [(4, .long (p4 - (Int32.toInt64 (rA M 339 (Int32.toNatClampNeg p2))))), (3, .int p2), (0, .ref 318), (1, .int a1), (2, .int a2)], [.long (p4 - (Int32.toInt64 (rA M 339 (Int32.toNatClampNeg p2))))], N, sl, rn_hp S M)) rfl ?_
      cases h
      exact rn_er qm rfl rfl rfl
/-! 97: RecordNichesModel.numberAt(II)J -/
def f97 (M : rn_T) (a1 : Int32) (a2 : Int32) : Option Int64 :=
  Option.bind (f81 M a1) fun p1 =>
    if rn_ob a1 101 then none else
      if (rA M 322 (Int32.toNatClampNeg a1)) = (6 : Int32) then
        if (rA M 341 (Int32.toNatClampNeg a1)) = 0 then
          some (0 : Int64)
        else
          if (rA M 341 (Int32.toNatClampNeg a1)) = (2 : Int32) then
            if rn_ob (a2 + p1) 96 then none else
              some (Int32.toInt64 (rA M 346 (Int32.toNatClampNeg (a2 + p1))))
          else
            Option.bind (f96 M a1 (a2 + p1)) fun p7 =>
              some p7
      else
        Option.bind (f95 M (a2 + p1) (rA M 334 (Int32.toNatClampNeg a1))) fun p8 =>
          some p8
set_option maxHeartbeats 4000000 in
theorem E97 {X : rn_X} {N sl : Nat} {S M : rn_T} {a1 : Int32} {a2 : Int32} {R : (Int64)} (h : f97 M a1 a2 = some R) : rn_rv X 97 (0, [(0, .ref 318), (1, .int a1), (2, .int a2)], [], N, sl, rn_hp S M) (some (.long R), N, sl, rn_hp S M) := by
  have qm := rn_m97
  unfold f97 at h
  refine rn_eg qm 3 (s2 := (3, [(0, .ref 318), (1, .int a1), (2, .int a2)], [.int a1, .ref 318, .int a2], N, sl, rn_hp S M)) rfl ?_
  obtain ⟨p1, hp1, h⟩ := Option.bind_eq_some_iff.mp h
  refine rn_ec qm rfl rfl rfl rfl rn_m81 rfl rfl rfl (fun _ => rn_rc_of (en_9 (q := 318) rfl)) (E81 hp1) ?_
  refine rn_eg qm 0 (s2 := (4, [(0, .ref 318), (1, .int a1), (2, .int a2)], [.int p1, .int a2], N, sl, rn_hp S M)) rfl ?_
  refine rn_eg qm 5 (s2 := (9, [(3, .int (a2 + p1)), (0, .ref 318), (1, .int a1), (2, .int a2)], [.int a1, .ref 322], N, sl, rn_hp S M)) rfl ?_
  have c2 : ¬ (rn_ob a1 101) := fun c => by rw [if_pos c] at h; cases h
  rw [if_neg c2] at h
  refine rn_e1 qm (s2 := (10, [(3, .int (a2 + p1)), (0, .ref 318), (1, .int a1), (2, .int a2)], [.int (rA M 322 (Int32.toNatClampNeg a1))], N, sl, rn_hp S M)) (rn_g_iald (n := 101) rfl rfl (ar_m10 rfl rfl (Nat.le_of_ble_eq_true rfl)) c2) ?_
  refine rn_eg qm 2 (s2 := ((if (rA M 322 (Int32.toNatClampNeg a1)) = (6 : Int32) then 20 else 12), [(3, .int (a2 + p1)), (0, .ref 318), (1, .int a1), (2, .int a2)], [], N, sl, rn_hp S M)) rfl ?_
  refine rn_ite (fun c3 => ?_) (fun c3 => ?_)
  · rw [if_pos c3] at h
    refine rn_eg qm 3 (s2 := (23, [(3, .int (a2 + p1)), (0, .ref 318), (1, .int a1), (2, .int a2)], [.int a1, .ref 341], N, sl, rn_hp S M)) rfl ?_
    refine rn_e1 qm (s2 := (24, [(3, .int (a2 + p1)), (0, .ref 318), (1, .int a1), (2, .int a2)], [.int (rA M 341 (Int32.toNatClampNeg a1))], N, sl, rn_hp S M)) (rn_g_iald (n := 101) rfl rfl (ar_m10 rfl rfl (Nat.le_of_ble_eq_true rfl)) c2) ?_
    refine rn_eg qm 1 (s2 := ((if (rA M 341 (Int32.toNatClampNeg a1)) = 0 then 25 else 27), [(3, .int (a2 + p1)), (0, .ref 318), (1, .int a1), (2, .int a2)], [], N, sl, rn_hp S M)) rfl ?_
    refine rn_ite (fun c4 => ?_) (fun c4 => ?_)
    · rw [if_pos c4] at h
      refine rn_eg qm 2 (s2 := (43, [(3, .int (a2 + p1)), (0, .ref 318), (1, .int a1), (2, .int a2)], [.long (0 : Int64)], N, sl, rn_hp S M)) rfl ?_
      cases h
      exact rn_er qm rfl rfl rfl
    · rw [if_neg c4] at h
      refine rn_eg qm 3 (s2 := (30, [(3, .int (a2 + p1)), (0, .ref 318), (1, .int a1), (2, .int a2)], [.int a1, .ref 341], N, sl, rn_hp S M)) rfl ?_
      refine rn_e1 qm (s2 := (31, [(3, .int (a2 + p1)), (0, .ref 318), (1, .int a1), (2, .int a2)], [.int (rA M 341 (Int32.toNatClampNeg a1))], N, sl, rn_hp S M)) (rn_g_iald (n := 101) rfl rfl (ar_m10 rfl rfl (Nat.le_of_ble_eq_true rfl)) c2) ?_
      refine rn_eg qm 2 (s2 := ((if (rA M 341 (Int32.toNatClampNeg a1)) = (2 : Int32) then 33 else 39), [(3, .int (a2 + p1)), (0, .ref 318), (1, .int a1), (2, .int a2)], [], N, sl, rn_hp S M)) rfl ?_
      refine rn_ite (fun c5 => ?_) (fun c5 => ?_)
      · rw [if_pos c5] at h
        refine rn_eg qm 3 (s2 := (36, [(3, .int (a2 + p1)), (0, .ref 318), (1, .int a1), (2, .int a2)], [.int (a2 + p1), .ref 346], N, sl, rn_hp S M)) rfl ?_
        have c6 : ¬ (rn_ob (a2 + p1) 96) := fun c => by rw [if_pos c] at h; cases h
        rw [if_neg c6] at h
        refine rn_e1 qm (s2 := (37, [(3, .int (a2 + p1)), (0, .ref 318), (1, .int a1), (2, .int a2)], [.int (rA M 346 (Int32.toNatClampNeg (a2 + p1)))], N, sl, rn_hp S M)) (rn_g_iald (n := 96) rfl rfl (ar_m10 rfl rfl (Nat.le_of_ble_eq_true rfl)) c6) ?_
        refine rn_eg qm 2 (s2 := (43, [(3, .int (a2 + p1)), (0, .ref 318), (1, .int a1), (2, .int a2)], [.long (Int32.toInt64 (rA M 346 (Int32.toNatClampNeg (a2 + p1))))], N, sl, rn_hp S M)) rfl ?_
        cases h
        exact rn_er qm rfl rfl rfl
      · rw [if_neg c5] at h
        refine rn_eg qm 3 (s2 := (42, [(3, .int (a2 + p1)), (0, .ref 318), (1, .int a1), (2, .int a2)], [.int (a2 + p1), .int a1, .ref 318], N, sl, rn_hp S M)) rfl ?_
        obtain ⟨p7, hp7, h⟩ := Option.bind_eq_some_iff.mp h
        refine rn_ec qm rfl rfl rfl rfl rn_m96 rfl rfl rfl (fun _ => rn_rc_of (en_9 (q := 318) rfl)) (E96 hp7) ?_
        refine rn_eg qm 0 (s2 := (43, [(3, .int (a2 + p1)), (0, .ref 318), (1, .int a1), (2, .int a2)], [.long p7], N, sl, rn_hp S M)) rfl ?_
        cases h
        exact rn_er qm rfl rfl rfl
  · rw [if_neg c3] at h
    refine rn_eg qm 5 (s2 := (17, [(3, .int (a2 + p1)), (0, .ref 318), (1, .int a1), (2, .int a2)], [.int a1, .ref 334, .int (a2 + p1), .ref 318], N, sl, rn_hp S M)) rfl ?_
    refine rn_e1 qm (s2 := (18, [(3, .int (a2 + p1)), (0, .ref 318), (1, .int a1), (2, .int a2)], [.int (rA M 334 (Int32.toNatClampNeg a1)), .int (a2 + p1), .ref 318], N, sl, rn_hp S M)) (rn_g_iald (n := 101) rfl rfl (ar_m10 rfl rfl (Nat.le_of_ble_eq_true rfl)) c2) ?_
    obtain ⟨p8, hp8, h⟩ := Option.bind_eq_some_iff.mp h
    refine rn_ec qm rfl rfl rfl rfl rn_m95 rfl rfl rfl (fun _ => rn_rc_of (en_9 (q := 318) rfl)) (E95 hp8) ?_
    refine rn_eg qm 0 (s2 := (19, [(3, .int (a2 + p1)), (0, .ref 318), (1, .int a1), (2, .int a2)], [.long p8], N, sl, rn_hp S M)) rfl ?_
    cases h
    exact rn_er qm rfl rfl rfl
/-! 98: RecordNichesModel.valueAt(I)I -/
def f98_L4 (b1 : Int32) : Nat → rn_T → Int32 → Int32 → (rn_T → Int32 → Option (Int32 × rn_T)) → Option (Int32 × rn_T)
  | 0, _, _, _, _ => none
  | fu + 1, M, v2, v3, k =>
    if (rI M 318 10) ≤ v3 then
      k M v2
    else
      Option.bind (f87 M v3) fun p2 =>
        if rn_ob v3 101 then none else
          if (rA (wA M 347 (Int32.toNatClampNeg v3) (rn_bi p2)) 347 (Int32.toNatClampNeg v3)) = 0 then
            f98_L4 b1 fu (wA M 347 (Int32.toNatClampNeg v3) (rn_bi p2)) v2 (v3 + (1 : Int32)) k
          else
            Option.bind (f88 (wA M 347 (Int32.toNatClampNeg v3) (rn_bi p2)) v3) fun p5 =>
              if p5 = true then
                Option.bind (f97 (wA M 347 (Int32.toNatClampNeg v3) (rn_bi p2)) v3 b1) fun p7 =>
                  Option.bind (f89 (wA (wL (wA M 347 (Int32.toNatClampNeg v3) (rn_bi p2)) 349 (Int32.toNatClampNeg v3) p7) 348 (Int32.toNatClampNeg v3) (Int64.toInt32 (rL (wL (wA M 347 (Int32.toNatClampNeg v3) (rn_bi p2)) 349 (Int32.toNatClampNeg v3) p7) 349 (Int32.toNatClampNeg v3)))) v3 (rL (wA (wL (wA M 347 (Int32.toNatClampNeg v3) (rn_bi p2)) 349 (Int32.toNatClampNeg v3) p7) 348 (Int32.toNatClampNeg v3) (Int64.toInt32 (rL (wL (wA M 347 (Int32.toNatClampNeg v3) (rn_bi p2)) 349 (Int32.toNatClampNeg v3) p7) 349 (Int32.toNatClampNeg v3)))) 349 (Int32.toNatClampNeg v3))) fun p8 =>
                    if p8 = true then
                      f98_L4 b1 fu (wA (wL (wA M 347 (Int32.toNatClampNeg v3) (rn_bi p2)) 349 (Int32.toNatClampNeg v3) p7) 348 (Int32.toNatClampNeg v3) (Int64.toInt32 (rL (wL (wA M 347 (Int32.toNatClampNeg v3) (rn_bi p2)) 349 (Int32.toNatClampNeg v3) p7) 349 (Int32.toNatClampNeg v3)))) (v2 + (1 : Int32)) (v3 + (1 : Int32)) k
                    else
                      some ((-3 : Int32), wA (wL (wA M 347 (Int32.toNatClampNeg v3) (rn_bi p2)) 349 (Int32.toNatClampNeg v3) p7) 348 (Int32.toNatClampNeg v3) (Int64.toInt32 (rL (wL (wA M 347 (Int32.toNatClampNeg v3) (rn_bi p2)) 349 (Int32.toNatClampNeg v3) p7) 349 (Int32.toNatClampNeg v3))))
              else
                f98_L4 b1 fu (wA M 347 (Int32.toNatClampNeg v3) (rn_bi p2)) v2 (v3 + (1 : Int32)) k
set_option maxHeartbeats 4000000 in
theorem E98_L4 {X : rn_X} {N sl : Nat} {S : rn_T} {b1 : Int32} : ∀ (fu : Nat) (M : rn_T) (v2 : Int32) (v3 : Int32) (k : (rn_T → Int32 → Option (Int32 × rn_T))) (R : (Int32 × rn_T)), (∀ (M : rn_T) (w_2 : Int32), k M w_2 = some R → rn_rv X 98 (54, [(2, .int w_2)], [], N, sl, rn_hp S M) (some (.int R.1), N, sl, rn_hp S R.2)) → f98_L4 b1 fu M v2 v3 k = some R → rn_rv X 98 (4, [(0, .ref 318), (1, .int b1), (2, .int v2), (3, .int v3)], [], N, sl, rn_hp S M) (some (.int R.1), N, sl, rn_hp S R.2) := by
  have qm := rn_m98
  intro fu
  induction fu with
  | zero => intro M v2 v3 k R hk h; cases h
  | succ fu ih =>
    intro M v2 v3 k R hk h
    unfold f98_L4 at h
    refine rn_eg qm 4 (s2 := ((if (rI M 318 10) ≤ v3 then 54 else 8), [(0, .ref 318), (1, .int b1), (2, .int v2), (3, .int v3)], [], N, sl, rn_hp S M)) rfl ?_
    refine rn_ite (fun c1 => ?_) (fun c1 => ?_)
    · rw [if_pos c1] at h
      refine rn_kq qm (s2 := (54, [(2, .int v2)], [], N, sl, rn_hp S M)) rfl rfl ?_
      exact hk _ _ h
    · rw [if_neg c1] at h
      refine rn_eg qm 5 (s2 := (13, [(0, .ref 318), (1, .int b1), (2, .int v2), (3, .int v3)], [.int v3, .ref 318, .int v3, .ref 347], N, sl, rn_hp S M)) rfl ?_
      obtain ⟨p2, hp2, h⟩ := Option.bind_eq_some_iff.mp h
      refine rn_ec qm rfl rfl rfl rfl rn_m87 rfl rfl rfl (fun _ => rn_rc_of (en_9 (q := 318) rfl)) (E87 hp2) ?_
      refine rn_eg qm 0 (s2 := (14, [(0, .ref 318), (1, .int b1), (2, .int v2), (3, .int v3)], [.int (rn_bi p2), .int v3, .ref 347], N, sl, rn_hp S M)) rfl ?_
      have c3 : ¬ (rn_ob v3 101) := fun c => by rw [if_pos c] at h; cases h
      rw [if_neg c3] at h
      refine rn_e1 qm (s2 := (15, [(0, .ref 318), (1, .int b1), (2, .int v2), (3, .int v3)], [], N, sl, rn_hp S (wA M 347 (Int32.toNatClampNeg v3) (rn_bi p2)))) (rn_g_bast (n := 101) rfl rfl (ar_m12 rfl rfl (Nat.le_of_ble_eq_true rfl)) c3 (rn_bi01 _) (aw_m12 rfl rfl (Nat.le_of_ble_eq_true rfl))) ?_
      refine rn_eg qm 3 (s2 := (18, [(0, .ref 318), (1, .int b1), (2, .int v2), (3, .int v3)], [.int v3, .ref 347], N, sl, rn_hp S (wA M 347 (Int32.toNatClampNeg v3) (rn_bi p2)))) rfl ?_
      refine rn_e1 qm (s2 := (19, [(0, .ref 318), (1, .int b1), (2, .int v2), (3, .int v3)], [.int (rA (wA M 347 (Int32.toNatClampNeg v3) (rn_bi p2)) 347 (Int32.toNatClampNeg v3))], N, sl, rn_hp S (wA M 347 (Int32.toNatClampNeg v3) (rn_bi p2)))) (rn_g_bald (n := 101) rfl rfl (ar_m12 rfl rfl (Nat.le_of_ble_eq_true rfl)) c3) ?_
      refine rn_eg qm 1 (s2 := ((if (rA (wA M 347 (Int32.toNatClampNeg v3) (rn_bi p2)) 347 (Int32.toNatClampNeg v3)) = 0 then 52 else 20), [(0, .ref 318), (1, .int b1), (2, .int v2), (3, .int v3)], [], N, sl, rn_hp S (wA M 347 (Int32.toNatClampNeg v3) (rn_bi p2)))) rfl ?_
      refine rn_ite (fun c4 => ?_) (fun c4 => ?_)
      · rw [if_pos c4] at h
        refine rn_eg qm 2 (s2 := (4, [(3, .int (v3 + (1 : Int32))), (0, .ref 318), (1, .int b1), (2, .int v2)], [], N, sl, rn_hp S (wA M 347 (Int32.toNatClampNeg v3) (rn_bi p2)))) rfl ?_
        refine rn_kq qm (s2 := (4, [(0, .ref 318), (1, .int b1), (2, .int v2), (3, .int (v3 + (1 : Int32)))], [], N, sl, rn_hp S (wA M 347 (Int32.toNatClampNeg v3) (rn_bi p2)))) rfl rfl ?_
        exact ih _ _ _ k R hk h
      · rw [if_neg c4] at h
        refine rn_eg qm 2 (s2 := (22, [(0, .ref 318), (1, .int b1), (2, .int v2), (3, .int v3)], [.int v3, .ref 318], N, sl, rn_hp S (wA M 347 (Int32.toNatClampNeg v3) (rn_bi p2)))) rfl ?_
        obtain ⟨p5, hp5, h⟩ := Option.bind_eq_some_iff.mp h
        refine rn_ec qm rfl rfl rfl rfl rn_m88 rfl rfl rfl (fun _ => rn_rc_of (en_9 (q := 318) rfl)) (E88 hp5) ?_
        refine rn_eg qm 0 (s2 := (23, [(0, .ref 318), (1, .int b1), (2, .int v2), (3, .int v3)], [.int (rn_bi p5)], N, sl, rn_hp S (wA M 347 (Int32.toNatClampNeg v3) (rn_bi p2)))) rfl ?_
        refine rn_eg qm 1 (s2 := ((if (rn_bi p5) = 0 then 52 else 24), [(0, .ref 318), (1, .int b1), (2, .int v2), (3, .int v3)], [], N, sl, rn_hp S (wA M 347 (Int32.toNatClampNeg v3) (rn_bi p2)))) rfl ?_
        refine rn_iteb (fun c6 => ?_) (fun c6 => ?_)
        · rw [if_neg (rn_bf c6)] at h
          refine rn_eg qm 2 (s2 := (4, [(3, .int (v3 + (1 : Int32))), (0, .ref 318), (1, .int b1), (2, .int v2)], [], N, sl, rn_hp S (wA M 347 (Int32.toNatClampNeg v3) (rn_bi p2)))) rfl ?_
          refine rn_kq qm (s2 := (4, [(0, .ref 318), (1, .int b1), (2, .int v2), (3, .int (v3 + (1 : Int32)))], [], N, sl, rn_hp S (wA M 347 (Int32.toNatClampNeg v3) (rn_bi p2)))) rfl rfl ?_
          exact ih _ _ _ k R hk h
        · rw [if_pos c6] at h
          refine rn_eg qm 6 (s2 := (30, [(0, .ref 318), (1, .int b1), (2, .int v2), (3, .int v3)], [.int b1, .int v3, .ref 318, .int v3, .ref 349], N, sl, rn_hp S (wA M 347 (Int32.toNatClampNeg v3) (rn_bi p2)))) rfl ?_
          obtain ⟨p7, hp7, h⟩ := Option.bind_eq_some_iff.mp h
          refine rn_ec qm rfl rfl rfl rfl rn_m97 rfl rfl rfl (fun _ => rn_rc_of (en_9 (q := 318) rfl)) (E97 hp7) ?_
          refine rn_eg qm 0 (s2 := (31, [(0, .ref 318), (1, .int b1), (2, .int v2), (3, .int v3)], [.long p7, .int v3, .ref 349], N, sl, rn_hp S (wA M 347 (Int32.toNatClampNeg v3) (rn_bi p2)))) rfl ?_
          refine rn_e1 qm (s2 := (32, [(0, .ref 318), (1, .int b1), (2, .int v2), (3, .int v3)], [], N, sl, rn_hp S (wL (wA M 347 (Int32.toNatClampNeg v3) (rn_bi p2)) 349 (Int32.toNatClampNeg v3) p7))) (rn_g_last (n := 101) rfl rfl (ar_m11 rfl rfl (Nat.le_of_ble_eq_true rfl)) c3 (aw_m11 rfl rfl (Nat.le_of_ble_eq_true rfl))) ?_
          refine rn_eg qm 6 (s2 := (38, [(0, .ref 318), (1, .int b1), (2, .int v2), (3, .int v3)], [.int v3, .ref 349, .int v3, .ref 348], N, sl, rn_hp S (wL (wA M 347 (Int32.toNatClampNeg v3) (rn_bi p2)) 349 (Int32.toNatClampNeg v3) p7))) rfl ?_
          refine rn_e1 qm (s2 := (39, [(0, .ref 318), (1, .int b1), (2, .int v2), (3, .int v3)], [.long (rL (wL (wA M 347 (Int32.toNatClampNeg v3) (rn_bi p2)) 349 (Int32.toNatClampNeg v3) p7) 349 (Int32.toNatClampNeg v3)), .int v3, .ref 348], N, sl, rn_hp S (wL (wA M 347 (Int32.toNatClampNeg v3) (rn_bi p2)) 349 (Int32.toNatClampNeg v3) p7))) (rn_g_lald (n := 101) rfl rfl (ar_m11 rfl rfl (Nat.le_of_ble_eq_true rfl)) c3) ?_
          refine rn_eg qm 1 (s2 := (40, [(0, .ref 318), (1, .int b1), (2, .int v2), (3, .int v3)], [.int (Int64.toInt32 (rL (wL (wA M 347 (Int32.toNatClampNeg v3) (rn_bi p2)) 349 (Int32.toNatClampNeg v3) p7) 349 (Int32.toNatClampNeg v3))), .int v3, .ref 348], N, sl, rn_hp S (wL (wA M 347 (Int32.toNatClampNeg v3) (rn_bi p2)) 349 (Int32.toNatClampNeg v3) p7))) rfl ?_
          refine rn_e1 qm (s2 := (41, [(0, .ref 318), (1, .int b1), (2, .int v2), (3, .int v3)], [], N, sl, rn_hp S (wA (wL (wA M 347 (Int32.toNatClampNeg v3) (rn_bi p2)) 349 (Int32.toNatClampNeg v3) p7) 348 (Int32.toNatClampNeg v3) (Int64.toInt32 (rL (wL (wA M 347 (Int32.toNatClampNeg v3) (rn_bi p2)) 349 (Int32.toNatClampNeg v3) p7) 349 (Int32.toNatClampNeg v3)))))) (rn_g_iast (n := 101) rfl rfl (ar_m10 rfl rfl (Nat.le_of_ble_eq_true rfl)) c3 (aw_m10 rfl rfl (Nat.le_of_ble_eq_true rfl))) ?_
          refine rn_eg qm 5 (s2 := (46, [(0, .ref 318), (1, .int b1), (2, .int v2), (3, .int v3)], [.int v3, .ref 349, .int v3, .ref 318], N, sl, rn_hp S (wA (wL (wA M 347 (Int32.toNatClampNeg v3) (rn_bi p2)) 349 (Int32.toNatClampNeg v3) p7) 348 (Int32.toNatClampNeg v3) (Int64.toInt32 (rL (wL (wA M 347 (Int32.toNatClampNeg v3) (rn_bi p2)) 349 (Int32.toNatClampNeg v3) p7) 349 (Int32.toNatClampNeg v3)))))) rfl ?_
          refine rn_e1 qm (s2 := (47, [(0, .ref 318), (1, .int b1), (2, .int v2), (3, .int v3)], [.long (rL (wA (wL (wA M 347 (Int32.toNatClampNeg v3) (rn_bi p2)) 349 (Int32.toNatClampNeg v3) p7) 348 (Int32.toNatClampNeg v3) (Int64.toInt32 (rL (wL (wA M 347 (Int32.toNatClampNeg v3) (rn_bi p2)) 349 (Int32.toNatClampNeg v3) p7) 349 (Int32.toNatClampNeg v3)))) 349 (Int32.toNatClampNeg v3)), .int v3, .ref 318], N, sl, rn_hp S (wA (wL (wA M 347 (Int32.toNatClampNeg v3) (rn_bi p2)) 349 (Int32.toNatClampNeg v3) p7) 348 (Int32.toNatClampNeg v3) (Int64.toInt32 (rL (wL (wA M 347 (Int32.toNatClampNeg v3) (rn_bi p2)) 349 (Int32.toNatClampNeg v3) p7) 349 (Int32.toNatClampNeg v3)))))) (rn_g_lald (n := 101) rfl rfl (ar_m11 rfl rfl (Nat.le_of_ble_eq_true rfl)) c3) ?_
          obtain ⟨p8, hp8, h⟩ := Option.bind_eq_some_iff.mp h
          refine rn_ec qm rfl rfl rfl rfl rn_m89 rfl rfl rfl (fun _ => rn_rc_of (en_9 (q := 318) rfl)) (E89 hp8) ?_
          refine rn_eg qm 0 (s2 := (48, [(0, .ref 318), (1, .int b1), (2, .int v2), (3, .int v3)], [.int (rn_bi p8)], N, sl, rn_hp S (wA (wL (wA M 347 (Int32.toNatClampNeg v3) (rn_bi p2)) 349 (Int32.toNatClampNeg v3) p7) 348 (Int32.toNatClampNeg v3) (Int64.toInt32 (rL (wL (wA M 347 (Int32.toNatClampNeg v3) (rn_bi p2)) 349 (Int32.toNatClampNeg v3) p7) 349 (Int32.toNatClampNeg v3)))))) rfl ?_
          refine rn_eg qm 1 (s2 := ((if (rn_bi p8) = 0 then 49 else 51), [(0, .ref 318), (1, .int b1), (2, .int v2), (3, .int v3)], [], N, sl, rn_hp S (wA (wL (wA M 347 (Int32.toNatClampNeg v3) (rn_bi p2)) 349 (Int32.toNatClampNeg v3) p7) 348 (Int32.toNatClampNeg v3) (Int64.toInt32 (rL (wL (wA M 347 (Int32.toNatClampNeg v3) (rn_bi p2)) 349 (Int32.toNatClampNeg v3) p7) 349 (Int32.toNatClampNeg v3)))))) rfl ?_
          refine rn_iteb (fun c9 => ?_) (fun c9 => ?_)
          · rw [if_neg (rn_bf c9)] at h
            refine rn_eg qm 1 (s2 := (50, [(0, .ref 318), (1, .int b1), (2, .int v2), (3, .int v3)], [.int (-3 : Int32)], N, sl, rn_hp S (wA (wL (wA M 347 (Int32.toNatClampNeg v3) (rn_bi p2)) 349 (Int32.toNatClampNeg v3) p7) 348 (Int32.toNatClampNeg v3) (Int64.toInt32 (rL (wL (wA M 347 (Int32.toNatClampNeg v3) (rn_bi p2)) 349 (Int32.toNatClampNeg v3) p7) 349 (Int32.toNatClampNeg v3)))))) rfl ?_
            cases h
            exact rn_er qm rfl rfl rfl
          · rw [if_pos c9] at h
            refine rn_eg qm 3 (s2 := (4, [(3, .int (v3 + (1 : Int32))), (0, .ref 318), (1, .int b1), (2, .int (v2 + (1 : Int32)))], [], N, sl, rn_hp S (wA (wL (wA M 347 (Int32.toNatClampNeg v3) (rn_bi p2)) 349 (Int32.toNatClampNeg v3) p7) 348 (Int32.toNatClampNeg v3) (Int64.toInt32 (rL (wL (wA M 347 (Int32.toNatClampNeg v3) (rn_bi p2)) 349 (Int32.toNatClampNeg v3) p7) 349 (Int32.toNatClampNeg v3)))))) rfl ?_
            refine rn_kq qm (s2 := (4, [(0, .ref 318), (1, .int b1), (2, .int (v2 + (1 : Int32))), (3, .int (v3 + (1 : Int32)))], [], N, sl, rn_hp S (wA (wL (wA M 347 (Int32.toNatClampNeg v3) (rn_bi p2)) 349 (Int32.toNatClampNeg v3) p7) 348 (Int32.toNatClampNeg v3) (Int64.toInt32 (rL (wL (wA M 347 (Int32.toNatClampNeg v3) (rn_bi p2)) 349 (Int32.toNatClampNeg v3) p7) 349 (Int32.toNatClampNeg v3)))))) rfl rfl ?_
            exact ih _ _ _ k R hk h
def f98 (M : rn_T) (a1 : Int32) : Option (Int32 × rn_T) :=
  f98_L4 a1 rn_FU M (0 : Int32) (0 : Int32) (fun M10 w10_2 =>
    some (w10_2, M10))
set_option maxHeartbeats 4000000 in
theorem E98 {X : rn_X} {N sl : Nat} {S M : rn_T} {a1 : Int32} {R : (Int32 × rn_T)} (h : f98 M a1 = some R) : rn_rv X 98 (0, [(0, .ref 318), (1, .int a1)], [], N, sl, rn_hp S M) (some (.int R.1), N, sl, rn_hp S R.2) := by
  have qm := rn_m98
  unfold f98 at h
  refine rn_eg qm 4 (s2 := (4, [(3, .int (0 : Int32)), (2, .int (0 : Int32)), (0, .ref 318), (1, .int a1)], [], N, sl, rn_hp S M)) rfl ?_
  refine rn_kq qm (s2 := (4, [(0, .ref 318), (1, .int a1), (2, .int (0 : Int32)), (3, .int (0 : Int32))], [], N, sl, rn_hp S M)) rfl rfl ?_
  refine E98_L4 rn_FU _ _ _ _ R ?_ h
  intro M10 w10_2 h
  refine rn_eg qm 1 (s2 := (55, [(2, .int w10_2)], [.int w10_2], N, sl, rn_hp S M10)) rfl ?_
  cases h
  exact rn_er qm rfl rfl rfl
/-! 99: RecordNichesModel.read(III)I -/
def f99_L38 (b5 : Int32) : Nat → rn_T → Int32 → (rn_T → Option (Int32 × rn_T)) → Option (Int32 × rn_T)
  | 0, _, _, _ => none
  | fu + 1, M, v6, k =>
    if (rI M 318 10) ≤ v6 then
      k M
    else
      if rn_ob v6 101 then none else
        if (rA M 347 (Int32.toNatClampNeg v6)) = 0 then
          f99_L38 b5 fu M (v6 + (1 : Int32)) k
        else
          Option.bind (f88 M v6) fun p12 =>
            if p12 = true then
              if rn_ob (rI M 318 33) 60 then none else
                f99_L38 b5 fu (wI (wL M 345 (Int32.toNatClampNeg (rI M 318 33)) (rL M 349 (Int32.toNatClampNeg v6))) 318 33 ((rI (wL M 345 (Int32.toNatClampNeg (rI M 318 33)) (rL M 349 (Int32.toNatClampNeg v6))) 318 33) + (1 : Int32))) (v6 + (1 : Int32)) k
            else
              f99_L38 b5 fu M (v6 + (1 : Int32)) k
set_option maxHeartbeats 4000000 in
theorem E99_L38 {X : rn_X} {N sl : Nat} {S : rn_T} {b5 : Int32} : ∀ (fu : Nat) (M : rn_T) (v6 : Int32) (k : (rn_T → Option (Int32 × rn_T))) (R : (Int32 × rn_T)), (∀ (M : rn_T), k M = some R → rn_rv X 99 (68, [(5, .int b5)], [], N, sl, rn_hp S M) (some (.int R.1), N, sl, rn_hp S R.2)) → f99_L38 b5 fu M v6 k = some R → rn_rv X 99 (38, [(0, .ref 318), (5, .int b5), (6, .int v6)], [], N, sl, rn_hp S M) (some (.int R.1), N, sl, rn_hp S R.2) := by
  have qm := rn_m99
  intro fu
  induction fu with
  | zero => intro M v6 k R hk h; cases h
  | succ fu ih =>
    intro M v6 k R hk h
    unfold f99_L38 at h
    refine rn_eg qm 4 (s2 := ((if (rI M 318 10) ≤ v6 then 68 else 42), [(0, .ref 318), (5, .int b5), (6, .int v6)], [], N, sl, rn_hp S M)) rfl ?_
    refine rn_ite (fun c9 => ?_) (fun c9 => ?_)
    · rw [if_pos c9] at h
      refine rn_kq qm (s2 := (68, [(5, .int b5)], [], N, sl, rn_hp S M)) rfl rfl ?_
      exact hk _ h
    · rw [if_neg c9] at h
      refine rn_eg qm 3 (s2 := (45, [(0, .ref 318), (5, .int b5), (6, .int v6)], [.int v6, .ref 347], N, sl, rn_hp S M)) rfl ?_
      have c10 : ¬ (rn_ob v6 101) := fun c => by rw [if_pos c] at h; cases h
      rw [if_neg c10] at h
      refine rn_e1 qm (s2 := (46, [(0, .ref 318), (5, .int b5), (6, .int v6)], [.int (rA M 347 (Int32.toNatClampNeg v6))], N, sl, rn_hp S M)) (rn_g_bald (n := 101) rfl rfl (ar_m12 rfl rfl (Nat.le_of_ble_eq_true rfl)) c10) ?_
      refine rn_eg qm 1 (s2 := ((if (rA M 347 (Int32.toNatClampNeg v6)) = 0 then 66 else 47), [(0, .ref 318), (5, .int b5), (6, .int v6)], [], N, sl, rn_hp S M)) rfl ?_
      refine rn_ite (fun c11 => ?_) (fun c11 => ?_)
      · rw [if_pos c11] at h
        refine rn_eg qm 2 (s2 := (38, [(6, .int (v6 + (1 : Int32))), (0, .ref 318), (5, .int b5)], [], N, sl, rn_hp S M)) rfl ?_
        refine rn_kq qm (s2 := (38, [(0, .ref 318), (5, .int b5), (6, .int (v6 + (1 : Int32)))], [], N, sl, rn_hp S M)) rfl rfl ?_
        exact ih _ _ k R hk h
      · rw [if_neg c11] at h
        refine rn_eg qm 2 (s2 := (49, [(0, .ref 318), (5, .int b5), (6, .int v6)], [.int v6, .ref 318], N, sl, rn_hp S M)) rfl ?_
        obtain ⟨p12, hp12, h⟩ := Option.bind_eq_some_iff.mp h
        refine rn_ec qm rfl rfl rfl rfl rn_m88 rfl rfl rfl (fun _ => rn_rc_of (en_9 (q := 318) rfl)) (E88 hp12) ?_
        refine rn_eg qm 0 (s2 := (50, [(0, .ref 318), (5, .int b5), (6, .int v6)], [.int (rn_bi p12)], N, sl, rn_hp S M)) rfl ?_
        refine rn_eg qm 1 (s2 := ((if (rn_bi p12) = 0 then 66 else 51), [(0, .ref 318), (5, .int b5), (6, .int v6)], [], N, sl, rn_hp S M)) rfl ?_
        refine rn_iteb (fun c13 => ?_) (fun c13 => ?_)
        · rw [if_neg (rn_bf c13)] at h
          refine rn_eg qm 2 (s2 := (38, [(6, .int (v6 + (1 : Int32))), (0, .ref 318), (5, .int b5)], [], N, sl, rn_hp S M)) rfl ?_
          refine rn_kq qm (s2 := (38, [(0, .ref 318), (5, .int b5), (6, .int (v6 + (1 : Int32)))], [], N, sl, rn_hp S M)) rfl rfl ?_
          exact ih _ _ k R hk h
        · rw [if_pos c13] at h
          refine rn_eg qm 7 (s2 := (58, [(0, .ref 318), (5, .int b5), (6, .int v6)], [.int v6, .ref 349, .int (rI M 318 33), .ref 345], N, sl, rn_hp S M)) rfl ?_
          refine rn_e1 qm (s2 := (59, [(0, .ref 318), (5, .int b5), (6, .int v6)], [.long (rL M 349 (Int32.toNatClampNeg v6)), .int (rI M 318 33), .ref 345], N, sl, rn_hp S M)) (rn_g_lald (n := 101) rfl rfl (ar_m11 rfl rfl (Nat.le_of_ble_eq_true rfl)) c10) ?_
          have c14 : ¬ (rn_ob (rI M 318 33) 60) := fun c => by rw [if_pos c] at h; cases h
          rw [if_neg c14] at h
          refine rn_e1 qm (s2 := (60, [(0, .ref 318), (5, .int b5), (6, .int v6)], [], N, sl, rn_hp S (wL M 345 (Int32.toNatClampNeg (rI M 318 33)) (rL M 349 (Int32.toNatClampNeg v6))))) (rn_g_last (n := 60) rfl rfl (ar_m11 rfl rfl (Nat.le_of_ble_eq_true rfl)) c14 (aw_m11 rfl rfl (Nat.le_of_ble_eq_true rfl))) ?_
          refine rn_eg qm 5 (s2 := (65, [(0, .ref 318), (5, .int b5), (6, .int v6)], [.int ((rI (wL M 345 (Int32.toNatClampNeg (rI M 318 33)) (rL M 349 (Int32.toNatClampNeg v6))) 318 33) + (1 : Int32)), .ref 318], N, sl, rn_hp S (wL M 345 (Int32.toNatClampNeg (rI M 318 33)) (rL M 349 (Int32.toNatClampNeg v6))))) rfl ?_
          refine rn_e1 qm (s2 := (66, [(0, .ref 318), (5, .int b5), (6, .int v6)], [], N, sl, rn_hp S (wI (wL M 345 (Int32.toNatClampNeg (rI M 318 33)) (rL M 349 (Int32.toNatClampNeg v6))) 318 33 ((rI (wL M 345 (Int32.toNatClampNeg (rI M 318 33)) (rL M 349 (Int32.toNatClampNeg v6))) 318 33) + (1 : Int32))))) (rn_g_putf rfl rfl (en_9 rfl) rfl rfl rfl (wf_9_33 (v := ((rI (wL M 345 (Int32.toNatClampNeg (rI M 318 33)) (rL M 349 (Int32.toNatClampNeg v6))) 318 33) + (1 : Int32))) rfl)) ?_
          refine rn_eg qm 2 (s2 := (38, [(6, .int (v6 + (1 : Int32))), (0, .ref 318), (5, .int b5)], [], N, sl, rn_hp S (wI (wL M 345 (Int32.toNatClampNeg (rI M 318 33)) (rL M 349 (Int32.toNatClampNeg v6))) 318 33 ((rI (wL M 345 (Int32.toNatClampNeg (rI M 318 33)) (rL M 349 (Int32.toNatClampNeg v6))) 318 33) + (1 : Int32))))) rfl ?_
          refine rn_kq qm (s2 := (38, [(0, .ref 318), (5, .int b5), (6, .int (v6 + (1 : Int32)))], [], N, sl, rn_hp S (wI (wL M 345 (Int32.toNatClampNeg (rI M 318 33)) (rL M 349 (Int32.toNatClampNeg v6))) 318 33 ((rI (wL M 345 (Int32.toNatClampNeg (rI M 318 33)) (rL M 349 (Int32.toNatClampNeg v6))) 318 33) + (1 : Int32))))) rfl rfl ?_
          exact ih _ _ k R hk h
def f99 (M : rn_T) (a1 : Int32) (a2 : Int32) (a3 : Int32) : Option (Int32 × rn_T) :=
  Option.bind (f46 M a1 a2) fun p1 =>
    if p1 = true then
      Option.bind (f93 M a1 a2 a3) fun p3 =>
        if p3.1 = (-6 : Int32) then
          Option.bind (f98 p3.2 a3) fun p5 =>
            if p5.1 < 0 then
              if 0 ≤ p5.1 then
                some ((-4 : Int32), p5.2)
              else
                some (p5.1, p5.2)
            else
              if p5.1 ≤ (60 : Int32) then
                f99_L38 p5.1 rn_FU (wI p5.2 318 33 (0 : Int32)) (0 : Int32) (fun M15 =>
                  some (p5.1, M15))
              else
                if 0 ≤ p5.1 then
                  some ((-4 : Int32), p5.2)
                else
                  some (p5.1, p5.2)
        else
          some (p3.1, p3.2)
    else
      some ((-1 : Int32), M)
set_option maxHeartbeats 4000000 in
theorem E99 {X : rn_X} {N sl : Nat} {S M : rn_T} {a1 : Int32} {a2 : Int32} {a3 : Int32} {R : (Int32 × rn_T)} (h : f99 M a1 a2 a3 = some R) : rn_rv X 99 (0, [(0, .ref 318), (1, .int a1), (2, .int a2), (3, .int a3)], [], N, sl, rn_hp S M) (some (.int R.1), N, sl, rn_hp S R.2) := by
  have qm := rn_m99
  unfold f99 at h
  refine rn_eg qm 3 (s2 := (3, [(0, .ref 318), (1, .int a1), (2, .int a2), (3, .int a3)], [.int a2, .int a1, .ref 318], N, sl, rn_hp S M)) rfl ?_
  obtain ⟨p1, hp1, h⟩ := Option.bind_eq_some_iff.mp h
  refine rn_ec qm rfl rfl rfl rfl rn_m46 rfl rfl rfl (fun _ => rn_rc_of (en_9 (q := 318) rfl)) (E46 hp1) ?_
  refine rn_eg qm 0 (s2 := (4, [(0, .ref 318), (1, .int a1), (2, .int a2), (3, .int a3)], [.int (rn_bi p1)], N, sl, rn_hp S M)) rfl ?_
  refine rn_eg qm 1 (s2 := ((if (rn_bi p1) = 0 then 5 else 7), [(0, .ref 318), (1, .int a1), (2, .int a2), (3, .int a3)], [], N, sl, rn_hp S M)) rfl ?_
  refine rn_iteb (fun c2 => ?_) (fun c2 => ?_)
  · rw [if_neg (rn_bf c2)] at h
    refine rn_eg qm 1 (s2 := (6, [(0, .ref 318), (1, .int a1), (2, .int a2), (3, .int a3)], [.int (-1 : Int32)], N, sl, rn_hp S M)) rfl ?_
    cases h
    exact rn_er qm rfl rfl rfl
  · rw [if_pos c2] at h
    refine rn_eg qm 4 (s2 := (11, [(0, .ref 318), (1, .int a1), (2, .int a2), (3, .int a3)], [.int a3, .int a2, .int a1, .ref 318], N, sl, rn_hp S M)) rfl ?_
    obtain ⟨p3, hp3, h⟩ := Option.bind_eq_some_iff.mp h
    refine rn_ec qm rfl rfl rfl rfl rn_m93 rfl rfl rfl (fun _ => rn_rc_of (en_9 (q := 318) rfl)) (E93 hp3) ?_
    refine rn_eg qm 0 (s2 := (12, [(0, .ref 318), (1, .int a1), (2, .int a2), (3, .int a3)], [.int p3.1], N, sl, rn_hp S p3.2)) rfl ?_
    refine rn_eg qm 4 (s2 := ((if p3.1 = (-6 : Int32) then 18 else 16), [(4, .int p3.1), (0, .ref 318), (1, .int a1), (2, .int a2), (3, .int a3)], [], N, sl, rn_hp S p3.2)) rfl ?_
    refine rn_ite (fun c4 => ?_) (fun c4 => ?_)
    · rw [if_pos c4] at h
      refine rn_eg qm 2 (s2 := (20, [(4, .int p3.1), (0, .ref 318), (1, .int a1), (2, .int a2), (3, .int a3)], [.int a3, .ref 318], N, sl, rn_hp S p3.2)) rfl ?_
      obtain ⟨p5, hp5, h⟩ := Option.bind_eq_some_iff.mp h
      refine rn_ec qm rfl rfl rfl rfl rn_m98 rfl rfl rfl (fun _ => rn_rc_of (en_9 (q := 318) rfl)) (E98 hp5) ?_
      refine rn_eg qm 0 (s2 := (21, [(4, .int p3.1), (0, .ref 318), (1, .int a1), (2, .int a2), (3, .int a3)], [.int p5.1], N, sl, rn_hp S p5.2)) rfl ?_
      refine rn_eg qm 3 (s2 := ((if p5.1 < 0 then 27 else 24), [(5, .int p5.1), (4, .int p3.1), (0, .ref 318), (1, .int a1), (2, .int a2), (3, .int a3)], [], N, sl, rn_hp S p5.2)) rfl ?_
      refine rn_ite (fun c6 => ?_) (fun c6 => ?_)
      · rw [if_pos c6] at h
        refine rn_eg qm 2 (s2 := ((if 0 ≤ p5.1 then 31 else 29), [(5, .int p5.1)], [], N, sl, rn_hp S p5.2)) rfl ?_
        refine rn_ite (fun c7 => ?_) (fun c7 => ?_)
        · rw [if_pos c7] at h
          refine rn_eg qm 1 (s2 := (32, [(5, .int p5.1)], [.int (-4 : Int32)], N, sl, rn_hp S p5.2)) rfl ?_
          cases h
          exact rn_er qm rfl rfl rfl
        · rw [if_neg c7] at h
          refine rn_eg qm 2 (s2 := (32, [(5, .int p5.1)], [.int p5.1], N, sl, rn_hp S p5.2)) rfl ?_
          cases h
          exact rn_er qm rfl rfl rfl
      · rw [if_neg c6] at h
        refine rn_eg qm 3 (s2 := ((if p5.1 ≤ (60 : Int32) then 33 else 27), [(5, .int p5.1), (4, .int p3.1), (0, .ref 318), (1, .int a1), (2, .int a2), (3, .int a3)], [], N, sl, rn_hp S p5.2)) rfl ?_
        refine rn_ite (fun c8 => ?_) (fun c8 => ?_)
        · rw [if_pos c8] at h
          refine rn_eg qm 2 (s2 := (35, [(5, .int p5.1), (4, .int p3.1), (0, .ref 318), (1, .int a1), (2, .int a2), (3, .int a3)], [.int (0 : Int32), .ref 318], N, sl, rn_hp S p5.2)) rfl ?_
          refine rn_e1 qm (s2 := (36, [(5, .int p5.1), (4, .int p3.1), (0, .ref 318), (1, .int a1), (2, .int a2), (3, .int a3)], [], N, sl, rn_hp S (wI p5.2 318 33 (0 : Int32)))) (rn_g_putf rfl rfl (en_9 rfl) rfl rfl rfl (wf_9_33 (v := (0 : Int32)) rfl)) ?_
          refine rn_eg qm 2 (s2 := (38, [(6, .int (0 : Int32)), (5, .int p5.1), (4, .int p3.1), (0, .ref 318), (1, .int a1), (2, .int a2), (3, .int a3)], [], N, sl, rn_hp S (wI p5.2 318 33 (0 : Int32)))) rfl ?_
          refine rn_kq qm (s2 := (38, [(0, .ref 318), (5, .int p5.1), (6, .int (0 : Int32))], [], N, sl, rn_hp S (wI p5.2 318 33 (0 : Int32)))) rfl rfl ?_
          refine E99_L38 rn_FU _ _ _ R ?_ h
          intro M15 h
          refine rn_eg qm 1 (s2 := (69, [(5, .int p5.1)], [.int p5.1], N, sl, rn_hp S M15)) rfl ?_
          cases h
          exact rn_er qm rfl rfl rfl
        · rw [if_neg c8] at h
          refine rn_eg qm 2 (s2 := ((if 0 ≤ p5.1 then 31 else 29), [(5, .int p5.1)], [], N, sl, rn_hp S p5.2)) rfl ?_
          refine rn_ite (fun c16 => ?_) (fun c16 => ?_)
          · rw [if_pos c16] at h
            refine rn_eg qm 1 (s2 := (32, [(5, .int p5.1)], [.int (-4 : Int32)], N, sl, rn_hp S p5.2)) rfl ?_
            cases h
            exact rn_er qm rfl rfl rfl
          · rw [if_neg c16] at h
            refine rn_eg qm 2 (s2 := (32, [(5, .int p5.1)], [.int p5.1], N, sl, rn_hp S p5.2)) rfl ?_
            cases h
            exact rn_er qm rfl rfl rfl
    · rw [if_neg c4] at h
      refine rn_eg qm 1 (s2 := (17, [(4, .int p3.1), (0, .ref 318), (1, .int a1), (2, .int a2), (3, .int a3)], [.int p3.1], N, sl, rn_hp S p3.2)) rfl ?_
      cases h
      exact rn_er qm rfl rfl rfl
/-! 100: RecordNichesModel.which(III)I -/
def f100 (M : rn_T) (a1 : Int32) (a2 : Int32) (a3 : Int32) : Option (Int32 × rn_T) :=
  Option.bind (f46 M a1 a2) fun p1 =>
    if p1 = true then
      Option.bind (f93 M a1 a2 a3) fun p3 =>
        if p3.1 = (-6 : Int32) then
          if (rA p3.2 322 (Int32.toNatClampNeg (0 : Int32))) = (6 : Int32) then
            Option.bind (f97 p3.2 (0 : Int32) a3) fun p6 =>
              if (rA p3.2 326 (Int32.toNatClampNeg (0 : Int32))) ≤ (Int64.toInt32 p6) then
                some ((-3 : Int32), p3.2)
              else
                some ((Int64.toInt32 p6), p3.2)
          else
            some (p3.1, p3.2)
        else
          some (p3.1, p3.2)
    else
      some ((-1 : Int32), M)
set_option maxHeartbeats 4000000 in
theorem E100 {X : rn_X} {N sl : Nat} {S M : rn_T} {a1 : Int32} {a2 : Int32} {a3 : Int32} {R : (Int32 × rn_T)} (h : f100 M a1 a2 a3 = some R) : rn_rv X 100 (0, [(0, .ref 318), (1, .int a1), (2, .int a2), (3, .int a3)], [], N, sl, rn_hp S M) (some (.int R.1), N, sl, rn_hp S R.2) := by
  have qm := rn_m100
  unfold f100 at h
  refine rn_eg qm 3 (s2 := (3, [(0, .ref 318), (1, .int a1), (2, .int a2), (3, .int a3)], [.int a2, .int a1, .ref 318], N, sl, rn_hp S M)) rfl ?_
  obtain ⟨p1, hp1, h⟩ := Option.bind_eq_some_iff.mp h
  refine rn_ec qm rfl rfl rfl rfl rn_m46 rfl rfl rfl (fun _ => rn_rc_of (en_9 (q := 318) rfl)) (E46 hp1) ?_
  refine rn_eg qm 0 (s2 := (4, [(0, .ref 318), (1, .int a1), (2, .int a2), (3, .int a3)], [.int (rn_bi p1)], N, sl, rn_hp S M)) rfl ?_
  refine rn_eg qm 1 (s2 := ((if (rn_bi p1) = 0 then 5 else 7), [(0, .ref 318), (1, .int a1), (2, .int a2), (3, .int a3)], [], N, sl, rn_hp S M)) rfl ?_
  refine rn_iteb (fun c2 => ?_) (fun c2 => ?_)
  · rw [if_neg (rn_bf c2)] at h
    refine rn_eg qm 1 (s2 := (6, [(0, .ref 318), (1, .int a1), (2, .int a2), (3, .int a3)], [.int (-1 : Int32)], N, sl, rn_hp S M)) rfl ?_
    cases h
    exact rn_er qm rfl rfl rfl
  · rw [if_pos c2] at h
    refine rn_eg qm 4 (s2 := (11, [(0, .ref 318), (1, .int a1), (2, .int a2), (3, .int a3)], [.int a3, .int a2, .int a1, .ref 318], N, sl, rn_hp S M)) rfl ?_
    obtain ⟨p3, hp3, h⟩ := Option.bind_eq_some_iff.mp h
    refine rn_ec qm rfl rfl rfl rfl rn_m93 rfl rfl rfl (fun _ => rn_rc_of (en_9 (q := 318) rfl)) (E93 hp3) ?_
    refine rn_eg qm 0 (s2 := (12, [(0, .ref 318), (1, .int a1), (2, .int a2), (3, .int a3)], [.int p3.1], N, sl, rn_hp S p3.2)) rfl ?_
    refine rn_eg qm 4 (s2 := ((if p3.1 = (-6 : Int32) then 16 else 22), [(4, .int p3.1), (0, .ref 318), (1, .int a1), (2, .int a2), (3, .int a3)], [], N, sl, rn_hp S p3.2)) rfl ?_
    refine rn_ite (fun c4 => ?_) (fun c4 => ?_)
    · rw [if_pos c4] at h
      refine rn_eg qm 3 (s2 := (19, [(4, .int p3.1), (0, .ref 318), (1, .int a1), (2, .int a2), (3, .int a3)], [.int (0 : Int32), .ref 322], N, sl, rn_hp S p3.2)) rfl ?_
      refine rn_e1 qm (s2 := (20, [(4, .int p3.1), (0, .ref 318), (1, .int a1), (2, .int a2), (3, .int a3)], [.int (rA p3.2 322 (Int32.toNatClampNeg (0 : Int32)))], N, sl, rn_hp S p3.2)) (rn_g_iald (n := 101) rfl rfl (ar_m10 rfl rfl (Nat.le_of_ble_eq_true rfl)) (by decide)) ?_
      refine rn_eg qm 2 (s2 := ((if (rA p3.2 322 (Int32.toNatClampNeg (0 : Int32))) = (6 : Int32) then 24 else 22), [(4, .int p3.1), (0, .ref 318), (1, .int a1), (2, .int a2), (3, .int a3)], [], N, sl, rn_hp S p3.2)) rfl ?_
      refine rn_ite (fun c5 => ?_) (fun c5 => ?_)
      · rw [if_pos c5] at h
        refine rn_eg qm 3 (s2 := (27, [(4, .int p3.1), (0, .ref 318), (1, .int a1), (2, .int a2), (3, .int a3)], [.int a3, .int (0 : Int32), .ref 318], N, sl, rn_hp S p3.2)) rfl ?_
        obtain ⟨p6, hp6, h⟩ := Option.bind_eq_some_iff.mp h
        refine rn_ec qm rfl rfl rfl rfl rn_m97 rfl rfl rfl (fun _ => rn_rc_of (en_9 (q := 318) rfl)) (E97 hp6) ?_
        refine rn_eg qm 0 (s2 := (28, [(4, .int p3.1), (0, .ref 318), (1, .int a1), (2, .int a2), (3, .int a3)], [.long p6], N, sl, rn_hp S p3.2)) rfl ?_
        refine rn_eg qm 6 (s2 := (34, [(5, .int (Int64.toInt32 p6)), (4, .int p3.1), (0, .ref 318), (1, .int a1), (2, .int a2), (3, .int a3)], [.int (0 : Int32), .ref 326, .int (Int64.toInt32 p6)], N, sl, rn_hp S p3.2)) rfl ?_
        refine rn_e1 qm (s2 := (35, [(5, .int (Int64.toInt32 p6)), (4, .int p3.1), (0, .ref 318), (1, .int a1), (2, .int a2), (3, .int a3)], [.int (rA p3.2 326 (Int32.toNatClampNeg (0 : Int32))), .int (Int64.toInt32 p6)], N, sl, rn_hp S p3.2)) (rn_g_iald (n := 101) rfl rfl (ar_m10 rfl rfl (Nat.le_of_ble_eq_true rfl)) (by decide)) ?_
        refine rn_eg qm 1 (s2 := ((if (rA p3.2 326 (Int32.toNatClampNeg (0 : Int32))) ≤ (Int64.toInt32 p6) then 38 else 36), [(5, .int (Int64.toInt32 p6)), (4, .int p3.1), (0, .ref 318), (1, .int a1), (2, .int a2), (3, .int a3)], [], N, sl, rn_hp S p3.2)) rfl ?_
        refine rn_ite (fun c7 => ?_) (fun c7 => ?_)
        · rw [if_pos c7] at h
          refine rn_eg qm 1 (s2 := (39, [(5, .int (Int64.toInt32 p6)), (4, .int p3.1), (0, .ref 318), (1, .int a1), (2, .int a2), (3, .int a3)], [.int (-3 : Int32)], N, sl, rn_hp S p3.2)) rfl ?_
          cases h
          exact rn_er qm rfl rfl rfl
        · rw [if_neg c7] at h
          refine rn_eg qm 2 (s2 := (39, [(5, .int (Int64.toInt32 p6)), (4, .int p3.1), (0, .ref 318), (1, .int a1), (2, .int a2), (3, .int a3)], [.int (Int64.toInt32 p6)], N, sl, rn_hp S p3.2)) rfl ?_
          cases h
          exact rn_er qm rfl rfl rfl
      · rw [if_neg c5] at h
        refine rn_eg qm 1 (s2 := (23, [(4, .int p3.1)], [.int p3.1], N, sl, rn_hp S p3.2)) rfl ?_
        cases h
        exact rn_er qm rfl rfl rfl
    · rw [if_neg c4] at h
      refine rn_eg qm 1 (s2 := (23, [(4, .int p3.1)], [.int p3.1], N, sl, rn_hp S p3.2)) rfl ?_
      cases h
      exact rn_er qm rfl rfl rfl
/-! 101: RecordNichesModel.poke(II)I -/
def f101 (M : rn_T) (a1 : Int32) (a2 : Int32) : Option (Int32 × rn_T) :=
  if (f29 (Int32.toInt64 a1) (0 : Int64) (95 : Int64)) = true then
    if (f29 (Int32.toInt64 a2) (0 : Int64) (255 : Int64)) = true then
      if rn_ob a1 96 then none else
        some ((rA M 346 (Int32.toNatClampNeg a1)), wA M 346 (Int32.toNatClampNeg a1) a2)
    else
      some ((-2 : Int32), M)
  else
    some ((-2 : Int32), M)
set_option maxHeartbeats 4000000 in
theorem E101 {X : rn_X} {N sl : Nat} {S M : rn_T} {a1 : Int32} {a2 : Int32} {R : (Int32 × rn_T)} (h : f101 M a1 a2 = some R) : rn_rv X 101 (0, [(0, .ref 318), (1, .int a1), (2, .int a2)], [], N, sl, rn_hp S M) (some (.int R.1), N, sl, rn_hp S R.2) := by
  have qm := rn_m101
  unfold f101 at h
  refine rn_eg qm 4 (s2 := (4, [(0, .ref 318), (1, .int a1), (2, .int a2)], [.long (95 : Int64), .long (0 : Int64), .long (Int32.toInt64 a1)], N, sl, rn_hp S M)) rfl ?_
  refine rn_ec qm rfl rfl rfl rfl rn_m29 rfl rfl rfl (fun h => by cases h) (E29 rfl) ?_
  refine rn_eg qm 0 (s2 := (5, [(0, .ref 318), (1, .int a1), (2, .int a2)], [.int (rn_bi (f29 (Int32.toInt64 a1) (0 : Int64) (95 : Int64)))], N, sl, rn_hp S M)) rfl ?_
  refine rn_eg qm 1 (s2 := ((if (rn_bi (f29 (Int32.toInt64 a1) (0 : Int64) (95 : Int64))) = 0 then 12 else 6), [(0, .ref 318), (1, .int a1), (2, .int a2)], [], N, sl, rn_hp S M)) rfl ?_
  refine rn_iteb (fun c2 => ?_) (fun c2 => ?_)
  · rw [if_neg (rn_bf c2)] at h
    refine rn_eg qm 1 (s2 := (13, [], [.int (-2 : Int32)], N, sl, rn_hp S M)) rfl ?_
    cases h
    exact rn_er qm rfl rfl rfl
  · rw [if_pos c2] at h
    refine rn_eg qm 4 (s2 := (10, [(0, .ref 318), (1, .int a1), (2, .int a2)], [.long (255 : Int64), .long (0 : Int64), .long (Int32.toInt64 a2)], N, sl, rn_hp S M)) rfl ?_
    refine rn_ec qm rfl rfl rfl rfl rn_m29 rfl rfl rfl (fun h => by cases h) (E29 rfl) ?_
    refine rn_eg qm 0 (s2 := (11, [(0, .ref 318), (1, .int a1), (2, .int a2)], [.int (rn_bi (f29 (Int32.toInt64 a2) (0 : Int64) (255 : Int64)))], N, sl, rn_hp S M)) rfl ?_
    refine rn_eg qm 1 (s2 := ((if (rn_bi (f29 (Int32.toInt64 a2) (0 : Int64) (255 : Int64))) = 0 then 12 else 14), [(0, .ref 318), (1, .int a1), (2, .int a2)], [], N, sl, rn_hp S M)) rfl ?_
    refine rn_iteb (fun c4 => ?_) (fun c4 => ?_)
    · rw [if_neg (rn_bf c4)] at h
      refine rn_eg qm 1 (s2 := (13, [], [.int (-2 : Int32)], N, sl, rn_hp S M)) rfl ?_
      cases h
      exact rn_er qm rfl rfl rfl
    · rw [if_pos c4] at h
      refine rn_eg qm 3 (s2 := (17, [(0, .ref 318), (1, .int a1), (2, .int a2)], [.int a1, .ref 346], N, sl, rn_hp S M)) rfl ?_
      have c5 : ¬ (rn_ob a1 96) := fun c => by rw [if_pos c] at h; cases h
      rw [if_neg c5] at h
      refine rn_e1 qm (s2 := (18, [(0, .ref 318), (1, .int a1), (2, .int a2)], [.int (rA M 346 (Int32.toNatClampNeg a1))], N, sl, rn_hp S M)) (rn_g_iald (n := 96) rfl rfl (ar_m10 rfl rfl (Nat.le_of_ble_eq_true rfl)) c5) ?_
      refine rn_eg qm 5 (s2 := (23, [(3, .int (rA M 346 (Int32.toNatClampNeg a1))), (0, .ref 318), (1, .int a1), (2, .int a2)], [.int a2, .int a1, .ref 346], N, sl, rn_hp S M)) rfl ?_
      refine rn_e1 qm (s2 := (24, [(3, .int (rA M 346 (Int32.toNatClampNeg a1))), (0, .ref 318), (1, .int a1), (2, .int a2)], [], N, sl, rn_hp S (wA M 346 (Int32.toNatClampNeg a1) a2))) (rn_g_iast (n := 96) rfl rfl (ar_m10 rfl rfl (Nat.le_of_ble_eq_true rfl)) c5 (aw_m10 rfl rfl (Nat.le_of_ble_eq_true rfl))) ?_
      refine rn_eg qm 1 (s2 := (25, [(3, .int (rA M 346 (Int32.toNatClampNeg a1))), (0, .ref 318), (1, .int a1), (2, .int a2)], [.int (rA M 346 (Int32.toNatClampNeg a1))], N, sl, rn_hp S (wA M 346 (Int32.toNatClampNeg a1) a2))) rfl ?_
      cases h
      exact rn_er qm rfl rfl rfl
/-! 102: RecordNichesModel.peek(I)I -/
def f102 (M : rn_T) (a1 : Int32) : Option Int32 :=
  if (f29 (Int32.toInt64 a1) (0 : Int64) (95 : Int64)) = true then
    if rn_ob a1 96 then none else
      some (rA M 346 (Int32.toNatClampNeg a1))
  else
    some (-2 : Int32)
set_option maxHeartbeats 4000000 in
theorem E102 {X : rn_X} {N sl : Nat} {S M : rn_T} {a1 : Int32} {R : (Int32)} (h : f102 M a1 = some R) : rn_rv X 102 (0, [(0, .ref 318), (1, .int a1)], [], N, sl, rn_hp S M) (some (.int R), N, sl, rn_hp S M) := by
  have qm := rn_m102
  unfold f102 at h
  refine rn_eg qm 4 (s2 := (4, [(0, .ref 318), (1, .int a1)], [.long (95 : Int64), .long (0 : Int64), .long (Int32.toInt64 a1)], N, sl, rn_hp S M)) rfl ?_
  refine rn_ec qm rfl rfl rfl rfl rn_m29 rfl rfl rfl (fun h => by cases h) (E29 rfl) ?_
  refine rn_eg qm 0 (s2 := (5, [(0, .ref 318), (1, .int a1)], [.int (rn_bi (f29 (Int32.toInt64 a1) (0 : Int64) (95 : Int64)))], N, sl, rn_hp S M)) rfl ?_
  refine rn_eg qm 1 (s2 := ((if (rn_bi (f29 (Int32.toInt64 a1) (0 : Int64) (95 : Int64))) = 0 then 11 else 6), [(0, .ref 318), (1, .int a1)], [], N, sl, rn_hp S M)) rfl ?_
  refine rn_iteb (fun c2 => ?_) (fun c2 => ?_)
  · rw [if_neg (rn_bf c2)] at h
    refine rn_eg qm 1 (s2 := (12, [(0, .ref 318), (1, .int a1)], [.int (-2 : Int32)], N, sl, rn_hp S M)) rfl ?_
    cases h
    exact rn_er qm rfl rfl rfl
  · rw [if_pos c2] at h
    refine rn_eg qm 3 (s2 := (9, [(0, .ref 318), (1, .int a1)], [.int a1, .ref 346], N, sl, rn_hp S M)) rfl ?_
    have c3 : ¬ (rn_ob a1 96) := fun c => by rw [if_pos c] at h; cases h
    rw [if_neg c3] at h
    refine rn_e1 qm (s2 := (10, [(0, .ref 318), (1, .int a1)], [.int (rA M 346 (Int32.toNatClampNeg a1))], N, sl, rn_hp S M)) (rn_g_iald (n := 96) rfl rfl (ar_m10 rfl rfl (Nat.le_of_ble_eq_true rfl)) c3) ?_
    refine rn_eg qm 1 (s2 := (12, [(0, .ref 318), (1, .int a1)], [.int (rA M 346 (Int32.toNatClampNeg a1))], N, sl, rn_hp S M)) rfl ?_
    cases h
    exact rn_er qm rfl rfl rfl
/-! 103: RecordNichesModel.pass(I)I -/
def f103_J10 (M : rn_T) (t0 : Int32) : Option (Int32 × rn_T) :=
  if rn_ob (rI M 318 41) 852 then none else
    some (t0, wI (wA M 350 (Int32.toNatClampNeg (rI M 318 41)) t0) 318 41 ((rI (wA M 350 (Int32.toNatClampNeg (rI M 318 41)) t0) 318 41) + (1 : Int32)))
set_option maxHeartbeats 4000000 in
theorem E103_J10 {X : rn_X} {N sl : Nat} {S : rn_T} {M : rn_T} {t0 : Int32} {R : (Int32 × rn_T)} (h : f103_J10 M t0 = some R) : rn_rv X 103 (10, [(0, .ref 318)], [.int t0], N, sl, rn_hp S M) (some (.int R.1), N, sl, rn_hp S R.2) := by
  have qm := rn_m103
  unfold f103_J10 at h
  refine rn_eg qm 6 (s2 := (16, [(2, .int t0), (0, .ref 318)], [.int t0, .int (rI M 318 41), .ref 350], N, sl, rn_hp S M)) rfl ?_
  have c3 : ¬ (rn_ob (rI M 318 41) 852) := fun c => by rw [if_pos c] at h; cases h
  rw [if_neg c3] at h
  refine rn_e1 qm (s2 := (17, [(2, .int t0), (0, .ref 318)], [], N, sl, rn_hp S (wA M 350 (Int32.toNatClampNeg (rI M 318 41)) t0))) (rn_g_iast (n := 852) rfl rfl (ar_m10 rfl rfl (Nat.le_of_ble_eq_true rfl)) c3 (aw_m10 rfl rfl (Nat.le_of_ble_eq_true rfl))) ?_
  refine rn_eg qm 5 (s2 := (22, [(2, .int t0), (0, .ref 318)], [.int ((rI (wA M 350 (Int32.toNatClampNeg (rI M 318 41)) t0) 318 41) + (1 : Int32)), .ref 318], N, sl, rn_hp S (wA M 350 (Int32.toNatClampNeg (rI M 318 41)) t0))) rfl ?_
  refine rn_e1 qm (s2 := (23, [(2, .int t0), (0, .ref 318)], [], N, sl, rn_hp S (wI (wA M 350 (Int32.toNatClampNeg (rI M 318 41)) t0) 318 41 ((rI (wA M 350 (Int32.toNatClampNeg (rI M 318 41)) t0) 318 41) + (1 : Int32))))) (rn_g_putf rfl rfl (en_9 rfl) rfl rfl rfl (wf_9_41 (v := ((rI (wA M 350 (Int32.toNatClampNeg (rI M 318 41)) t0) 318 41) + (1 : Int32))) rfl)) ?_
  refine rn_eg qm 1 (s2 := (24, [(2, .int t0), (0, .ref 318)], [.int t0], N, sl, rn_hp S (wI (wA M 350 (Int32.toNatClampNeg (rI M 318 41)) t0) 318 41 ((rI (wA M 350 (Int32.toNatClampNeg (rI M 318 41)) t0) 318 41) + (1 : Int32))))) rfl ?_
  cases h
  exact rn_er qm rfl rfl rfl
def f103 (M : rn_T) (a1 : Int32) : Option (Int32 × rn_T) :=
  if (rI M 318 42) = 0 then
    if rn_ob (rI M 318 41) 852 then none else
      f103_J10 M (rA M 350 (Int32.toNatClampNeg (rI M 318 41)))
  else
    f103_J10 M a1
set_option maxHeartbeats 4000000 in
theorem E103 {X : rn_X} {N sl : Nat} {S M : rn_T} {a1 : Int32} {R : (Int32 × rn_T)} (h : f103 M a1 = some R) : rn_rv X 103 (0, [(0, .ref 318), (1, .int a1)], [], N, sl, rn_hp S M) (some (.int R.1), N, sl, rn_hp S R.2) := by
  have qm := rn_m103
  unfold f103 at h
  refine rn_eg qm 3 (s2 := ((if (rI M 318 42) = 0 then 5 else 3), [(0, .ref 318), (1, .int a1)], [], N, sl, rn_hp S M)) rfl ?_
  refine rn_ite (fun c1 => ?_) (fun c1 => ?_)
  · rw [if_pos c1] at h
    refine rn_eg qm 4 (s2 := (9, [(0, .ref 318), (1, .int a1)], [.int (rI M 318 41), .ref 350], N, sl, rn_hp S M)) rfl ?_
    have c2 : ¬ (rn_ob (rI M 318 41) 852) := fun c => by rw [if_pos c] at h; cases h
    rw [if_neg c2] at h
    refine rn_e1 qm (s2 := (10, [(0, .ref 318), (1, .int a1)], [.int (rA M 350 (Int32.toNatClampNeg (rI M 318 41)))], N, sl, rn_hp S M)) (rn_g_iald (n := 852) rfl rfl (ar_m10 rfl rfl (Nat.le_of_ble_eq_true rfl)) c2) ?_
    refine rn_kq qm (s2 := (10, [(0, .ref 318)], [.int (rA M 350 (Int32.toNatClampNeg (rI M 318 41)))], N, sl, rn_hp S M)) rfl rfl ?_
    exact E103_J10 h
  · rw [if_neg c1] at h
    refine rn_eg qm 2 (s2 := (10, [(0, .ref 318), (1, .int a1)], [.int a1], N, sl, rn_hp S M)) rfl ?_
    refine rn_kq qm (s2 := (10, [(0, .ref 318)], [.int a1], N, sl, rn_hp S M)) rfl rfl ?_
    exact E103_J10 h
/-! 104: RecordNichesModel.passRow([II)V -/
def f104_L2 (b1 : Nat) (b2 : Int32) : Nat → rn_T → Int32 → (rn_T → Option (rn_T)) → Option (rn_T)
  | 0, _, _, _ => none
  | fu + 1, M, v3, k =>
    if b2 ≤ v3 then
      k M
    else
      if rn_kd b1 = 10 ∧ 318 ≤ b1 then
        if rn_ob v3 (rn_ln_ b1) then none else
          Option.bind (f103 M (rA M b1 (Int32.toNatClampNeg v3))) fun p4 =>
            f104_L2 b1 b2 fu (wA p4.2 b1 (Int32.toNatClampNeg v3) p4.1) (v3 + (1 : Int32)) k
      else none
set_option maxHeartbeats 4000000 in
theorem E104_L2 {X : rn_X} {N sl : Nat} {S : rn_T} {b1 : Nat} {b2 : Int32} : ∀ (fu : Nat) (M : rn_T) (v3 : Int32) (k : (rn_T → Option (rn_T))) (R : (rn_T)), (∀ (M : rn_T), k M = some R → rn_rv X 104 (15, [], [], N, sl, rn_hp S M) (none, N, sl, rn_hp S R)) → f104_L2 b1 b2 fu M v3 k = some R → rn_rv X 104 (2, [(0, .ref 318), (1, .ref b1), (2, .int b2), (3, .int v3)], [], N, sl, rn_hp S M) (none, N, sl, rn_hp S R) := by
  have qm := rn_m104
  intro fu
  induction fu with
  | zero => intro M v3 k R hk h; cases h
  | succ fu ih =>
    intro M v3 k R hk h
    unfold f104_L2 at h
    refine rn_eg qm 3 (s2 := ((if b2 ≤ v3 then 15 else 5), [(0, .ref 318), (1, .ref b1), (2, .int b2), (3, .int v3)], [], N, sl, rn_hp S M)) rfl ?_
    refine rn_ite (fun c1 => ?_) (fun c1 => ?_)
    · rw [if_pos c1] at h
      refine rn_kq qm (s2 := (15, [], [], N, sl, rn_hp S M)) rfl rfl ?_
      exact hk _ h
    · rw [if_neg c1] at h
      refine rn_eg qm 5 (s2 := (10, [(0, .ref 318), (1, .ref b1), (2, .int b2), (3, .int v3)], [.int v3, .ref b1, .ref 318, .int v3, .ref b1], N, sl, rn_hp S M)) rfl ?_
      have k2 : rn_kd b1 = 10 ∧ 318 ≤ b1 := Decidable.byContradiction fun c => by rw [if_neg c] at h; cases h
      rw [if_pos k2] at h
      have c3 : ¬ (rn_ob v3 (rn_ln_ b1)) := fun c => by rw [if_pos c] at h; cases h
      rw [if_neg c3] at h
      refine rn_e1 qm (s2 := (11, [(0, .ref 318), (1, .ref b1), (2, .int b2), (3, .int v3)], [.int (rA M b1 (Int32.toNatClampNeg v3)), .ref 318, .int v3, .ref b1], N, sl, rn_hp S M)) (rn_g_iald (n := (rn_ln_ b1)) rfl rfl (ar_m10 k2.1 rfl k2.2) c3) ?_
      obtain ⟨p4, hp4, h⟩ := Option.bind_eq_some_iff.mp h
      refine rn_ec qm rfl rfl rfl rfl rn_m103 rfl rfl rfl (fun _ => rn_rc_of (en_9 (q := 318) rfl)) (E103 hp4) ?_
      refine rn_eg qm 0 (s2 := (12, [(0, .ref 318), (1, .ref b1), (2, .int b2), (3, .int v3)], [.int p4.1, .int v3, .ref b1], N, sl, rn_hp S p4.2)) rfl ?_
      refine rn_e1 qm (s2 := (13, [(0, .ref 318), (1, .ref b1), (2, .int b2), (3, .int v3)], [], N, sl, rn_hp S (wA p4.2 b1 (Int32.toNatClampNeg v3) p4.1))) (rn_g_iast (n := (rn_ln_ b1)) rfl rfl (ar_m10 k2.1 rfl k2.2) c3 (aw_m10 k2.1 rfl k2.2)) ?_
      refine rn_eg qm 2 (s2 := (2, [(3, .int (v3 + (1 : Int32))), (0, .ref 318), (1, .ref b1), (2, .int b2)], [], N, sl, rn_hp S (wA p4.2 b1 (Int32.toNatClampNeg v3) p4.1))) rfl ?_
      refine rn_kq qm (s2 := (2, [(0, .ref 318), (1, .ref b1), (2, .int b2), (3, .int (v3 + (1 : Int32)))], [], N, sl, rn_hp S (wA p4.2 b1 (Int32.toNatClampNeg v3) p4.1))) rfl rfl ?_
      exact ih _ _ k R hk h
def f104 (M : rn_T) (a1 : Nat) (a2 : Int32) : Option (rn_T) :=
  f104_L2 a1 a2 rn_FU M (0 : Int32) (fun M5 =>
    some (M5))
set_option maxHeartbeats 4000000 in
theorem E104 {X : rn_X} {N sl : Nat} {S M : rn_T} {a1 : Nat} {a2 : Int32} {R : (rn_T)} (h : f104 M a1 a2 = some R) : rn_rv X 104 (0, [(0, .ref 318), (1, .ref a1), (2, .int a2)], [], N, sl, rn_hp S M) (none, N, sl, rn_hp S R) := by
  have qm := rn_m104
  unfold f104 at h
  refine rn_eg qm 2 (s2 := (2, [(3, .int (0 : Int32)), (0, .ref 318), (1, .ref a1), (2, .int a2)], [], N, sl, rn_hp S M)) rfl ?_
  refine rn_kq qm (s2 := (2, [(0, .ref 318), (1, .ref a1), (2, .int a2), (3, .int (0 : Int32))], [], N, sl, rn_hp S M)) rfl rfl ?_
  refine E104_L2 rn_FU _ _ _ R ?_ h
  intro M5 h
  cases h
  exact rn_er qm rfl rfl rfl
/-! 105: RecordNichesModel.passAll(I)V -/
def f105_J56_34 (M : rn_T) (u1 : Int32) (u2 : Int32) (t1 : Int32) (t2 : Int64) (rc : (rn_T → Int32 → Option (rn_T))) (k : (rn_T → Option (rn_T))) : Option (rn_T) :=
  if rn_ob t1 60 then none else
    if rn_ob u2 60 then none else
      if rn_ob (((60 : Int32) * u1) + u2) 120 then none else
        rc (wL (wL M 345 (Int32.toNatClampNeg t1) t2) 351 (Int32.toNatClampNeg (((60 : Int32) * u1) + u2)) (rL (wL M 345 (Int32.toNatClampNeg t1) t2) 345 (Int32.toNatClampNeg u2))) (u2 + (1 : Int32))
set_option maxHeartbeats 4000000 in
theorem E105_J56_34 {X : rn_X} {N sl : Nat} {S : rn_T} {M : rn_T} {u1 : Int32} {u2 : Int32} {t1 : Int32} {t2 : Int64} {R : (rn_T)} {rc : (rn_T → Int32 → Option (rn_T))} (hrc : ∀ (M : rn_T) (v2 : Int32), rc M v2 = some R → rn_rv X 105 (34, [(0, .ref 318), (1, .int u1), (2, .int v2)], [], N, sl, rn_hp S M) (none, N, sl, rn_hp S R)) {k : (rn_T → Option (rn_T))} (hk : ∀ (M : rn_T), k M = some R → rn_rv X 105 (71, [], [], N, sl, rn_hp S M) (none, N, sl, rn_hp S R)) (h : f105_J56_34 M u1 u2 t1 t2 rc k = some R) : rn_rv X 105 (56, [(0, .ref 318), (1, .int u1), (2, .int u2)], [.long t2, .int t1, .ref 345], N, sl, rn_hp S M) (none, N, sl, rn_hp S R) := by
  have qm := rn_m105
  unfold f105_J56_34 at h
  have c9 : ¬ (rn_ob t1 60) := fun c => by rw [if_pos c] at h; cases h
  rw [if_neg c9] at h
  refine rn_e1 qm (s2 := (57, [(0, .ref 318), (1, .int u1), (2, .int u2)], [], N, sl, rn_hp S (wL M 345 (Int32.toNatClampNeg t1) t2))) (rn_g_last (n := 60) rfl rfl (ar_m11 rfl rfl (Nat.le_of_ble_eq_true rfl)) c9 (aw_m11 rfl rfl (Nat.le_of_ble_eq_true rfl))) ?_
  refine rn_eg qm 10 (s2 := (67, [(0, .ref 318), (1, .int u1), (2, .int u2)], [.int u2, .ref 345, .int (((60 : Int32) * u1) + u2), .ref 351], N, sl, rn_hp S (wL M 345 (Int32.toNatClampNeg t1) t2))) rfl ?_
  have c10 : ¬ (rn_ob u2 60) := fun c => by rw [if_pos c] at h; cases h
  rw [if_neg c10] at h
  refine rn_e1 qm (s2 := (68, [(0, .ref 318), (1, .int u1), (2, .int u2)], [.long (rL (wL M 345 (Int32.toNatClampNeg t1) t2) 345 (Int32.toNatClampNeg u2)), .int (((60 : Int32) * u1) + u2), .ref 351], N, sl, rn_hp S (wL M 345 (Int32.toNatClampNeg t1) t2))) (rn_g_lald (n := 60) rfl rfl (ar_m11 rfl rfl (Nat.le_of_ble_eq_true rfl)) c10) ?_
  have c11 : ¬ (rn_ob (((60 : Int32) * u1) + u2) 120) := fun c => by rw [if_pos c] at h; cases h
  rw [if_neg c11] at h
  refine rn_e1 qm (s2 := (69, [(0, .ref 318), (1, .int u1), (2, .int u2)], [], N, sl, rn_hp S (wL (wL M 345 (Int32.toNatClampNeg t1) t2) 351 (Int32.toNatClampNeg (((60 : Int32) * u1) + u2)) (rL (wL M 345 (Int32.toNatClampNeg t1) t2) 345 (Int32.toNatClampNeg u2))))) (rn_g_last (n := 120) rfl rfl (ar_m11 rfl rfl (Nat.le_of_ble_eq_true rfl)) c11 (aw_m11 rfl rfl (Nat.le_of_ble_eq_true rfl))) ?_
  refine rn_eg qm 2 (s2 := (34, [(2, .int (u2 + (1 : Int32))), (0, .ref 318), (1, .int u1)], [], N, sl, rn_hp S (wL (wL M 345 (Int32.toNatClampNeg t1) t2) 351 (Int32.toNatClampNeg (((60 : Int32) * u1) + u2)) (rL (wL M 345 (Int32.toNatClampNeg t1) t2) 345 (Int32.toNatClampNeg u2))))) rfl ?_
  refine rn_kq qm (s2 := (34, [(0, .ref 318), (1, .int u1), (2, .int (u2 + (1 : Int32)))], [], N, sl, rn_hp S (wL (wL M 345 (Int32.toNatClampNeg t1) t2) 351 (Int32.toNatClampNeg (((60 : Int32) * u1) + u2)) (rL (wL M 345 (Int32.toNatClampNeg t1) t2) 345 (Int32.toNatClampNeg u2))))) rfl rfl ?_
  exact hrc _ _ h
def f105_L34 (b1 : Int32) : Nat → rn_T → Int32 → (rn_T → Option (rn_T)) → Option (rn_T)
  | 0, _, _, _ => none
  | fu + 1, M, v2, k =>
    if (60 : Int32) ≤ v2 then
      k M
    else
      if (rI M 318 42) = 0 then
        if rn_ob (((60 : Int32) * b1) + v2) 120 then none else
          f105_J56_34 M b1 v2 v2 (rL M 351 (Int32.toNatClampNeg (((60 : Int32) * b1) + v2))) (fun M v2 => f105_L34 b1 fu M v2 k) k
      else
        if rn_ob v2 60 then none else
          f105_J56_34 M b1 v2 v2 (rL M 345 (Int32.toNatClampNeg v2)) (fun M v2 => f105_L34 b1 fu M v2 k) k
set_option maxHeartbeats 4000000 in
theorem E105_L34 {X : rn_X} {N sl : Nat} {S : rn_T} {b1 : Int32} : ∀ (fu : Nat) (M : rn_T) (v2 : Int32) (k : (rn_T → Option (rn_T))) (R : (rn_T)), (∀ (M : rn_T), k M = some R → rn_rv X 105 (71, [], [], N, sl, rn_hp S M) (none, N, sl, rn_hp S R)) → f105_L34 b1 fu M v2 k = some R → rn_rv X 105 (34, [(0, .ref 318), (1, .int b1), (2, .int v2)], [], N, sl, rn_hp S M) (none, N, sl, rn_hp S R) := by
  have qm := rn_m105
  intro fu
  induction fu with
  | zero => intro M v2 k R hk h; cases h
  | succ fu ih =>
    intro M v2 k R hk h
    unfold f105_L34 at h
    refine rn_eg qm 3 (s2 := ((if (60 : Int32) ≤ v2 then 71 else 37), [(0, .ref 318), (1, .int b1), (2, .int v2)], [], N, sl, rn_hp S M)) rfl ?_
    refine rn_ite (fun c6 => ?_) (fun c6 => ?_)
    · rw [if_pos c6] at h
      refine rn_kq qm (s2 := (71, [], [], N, sl, rn_hp S M)) rfl rfl ?_
      exact hk _ h
    · rw [if_neg c6] at h
      refine rn_eg qm 6 (s2 := ((if (rI M 318 42) = 0 then 48 else 43), [(0, .ref 318), (1, .int b1), (2, .int v2)], [.int v2, .ref 345], N, sl, rn_hp S M)) rfl ?_
      refine rn_ite (fun c7 => ?_) (fun c7 => ?_)
      · rw [if_pos c7] at h
        refine rn_eg qm 7 (s2 := (55, [(0, .ref 318), (1, .int b1), (2, .int v2)], [.int (((60 : Int32) * b1) + v2), .ref 351, .int v2, .ref 345], N, sl, rn_hp S M)) rfl ?_
        have c8 : ¬ (rn_ob (((60 : Int32) * b1) + v2) 120) := fun c => by rw [if_pos c] at h; cases h
        rw [if_neg c8] at h
        refine rn_e1 qm (s2 := (56, [(0, .ref 318), (1, .int b1), (2, .int v2)], [.long (rL M 351 (Int32.toNatClampNeg (((60 : Int32) * b1) + v2))), .int v2, .ref 345], N, sl, rn_hp S M)) (rn_g_lald (n := 120) rfl rfl (ar_m11 rfl rfl (Nat.le_of_ble_eq_true rfl)) c8) ?_
        refine rn_kq qm (s2 := (56, [(0, .ref 318), (1, .int b1), (2, .int v2)], [.long (rL M 351 (Int32.toNatClampNeg (((60 : Int32) * b1) + v2))), .int v2, .ref 345], N, sl, rn_hp S M)) rfl rfl ?_
        exact E105_J56_34 (fun M v2 h => ih M v2 k R hk h) hk h
      · rw [if_neg c7] at h
        refine rn_eg qm 3 (s2 := (46, [(0, .ref 318), (1, .int b1), (2, .int v2)], [.int v2, .ref 345, .int v2, .ref 345], N, sl, rn_hp S M)) rfl ?_
        have c12 : ¬ (rn_ob v2 60) := fun c => by rw [if_pos c] at h; cases h
        rw [if_neg c12] at h
        refine rn_e1 qm (s2 := (47, [(0, .ref 318), (1, .int b1), (2, .int v2)], [.long (rL M 345 (Int32.toNatClampNeg v2)), .int v2, .ref 345], N, sl, rn_hp S M)) (rn_g_lald (n := 60) rfl rfl (ar_m11 rfl rfl (Nat.le_of_ble_eq_true rfl)) c12) ?_
        refine rn_eg qm 1 (s2 := (56, [(0, .ref 318), (1, .int b1), (2, .int v2)], [.long (rL M 345 (Int32.toNatClampNeg v2)), .int v2, .ref 345], N, sl, rn_hp S M)) rfl ?_
        refine rn_kq qm (s2 := (56, [(0, .ref 318), (1, .int b1), (2, .int v2)], [.long (rL M 345 (Int32.toNatClampNeg v2)), .int v2, .ref 345], N, sl, rn_hp S M)) rfl rfl ?_
        exact E105_J56_34 (fun M v2 h => ih M v2 k R hk h) hk h
def f105 (M : rn_T) (a1 : Int32) : Option (rn_T) :=
  Option.bind (f103 (wI M 318 41 ((426 : Int32) * a1)) (rI (wI M 318 41 ((426 : Int32) * a1)) 318 2)) fun p1 =>
    Option.bind (f103 (wI p1.2 318 2 p1.1) (rI (wI p1.2 318 2 p1.1) 318 33)) fun p2 =>
      Option.bind (f104 (wI p2.2 318 33 p2.1) 319 (320 : Int32)) fun p3 =>
        Option.bind (f104 p3 320 (8 : Int32)) fun p4 =>
          Option.bind (f104 p4 346 (96 : Int32)) fun p5 =>
            f105_L34 a1 rn_FU p5 (0 : Int32) (fun M13 =>
              some (M13))
set_option maxHeartbeats 4000000 in
theorem E105 {X : rn_X} {N sl : Nat} {S M : rn_T} {a1 : Int32} {R : (rn_T)} (h : f105 M a1 = some R) : rn_rv X 105 (0, [(0, .ref 318), (1, .int a1)], [], N, sl, rn_hp S M) (none, N, sl, rn_hp S R) := by
  have qm := rn_m105
  unfold f105 at h
  refine rn_eg qm 4 (s2 := (4, [(0, .ref 318), (1, .int a1)], [.int ((426 : Int32) * a1), .ref 318], N, sl, rn_hp S M)) rfl ?_
  refine rn_e1 qm (s2 := (5, [(0, .ref 318), (1, .int a1)], [], N, sl, rn_hp S (wI M 318 41 ((426 : Int32) * a1)))) (rn_g_putf rfl rfl (en_9 rfl) rfl rfl rfl (wf_9_41 (v := ((426 : Int32) * a1)) rfl)) ?_
  refine rn_eg qm 4 (s2 := (9, [(0, .ref 318), (1, .int a1)], [.int (rI (wI M 318 41 ((426 : Int32) * a1)) 318 2), .ref 318, .ref 318], N, sl, rn_hp S (wI M 318 41 ((426 : Int32) * a1)))) rfl ?_
  obtain ⟨p1, hp1, h⟩ := Option.bind_eq_some_iff.mp h
  refine rn_ec qm rfl rfl rfl rfl rn_m103 rfl rfl rfl (fun _ => rn_rc_of (en_9 (q := 318) rfl)) (E103 hp1) ?_
  refine rn_eg qm 0 (s2 := (10, [(0, .ref 318), (1, .int a1)], [.int p1.1, .ref 318], N, sl, rn_hp S p1.2)) rfl ?_
  refine rn_e1 qm (s2 := (11, [(0, .ref 318), (1, .int a1)], [], N, sl, rn_hp S (wI p1.2 318 2 p1.1))) (rn_g_putf rfl rfl (en_9 rfl) rfl rfl rfl (wf_9_2 (v := p1.1) rfl)) ?_
  refine rn_eg qm 4 (s2 := (15, [(0, .ref 318), (1, .int a1)], [.int (rI (wI p1.2 318 2 p1.1) 318 33), .ref 318, .ref 318], N, sl, rn_hp S (wI p1.2 318 2 p1.1))) rfl ?_
  obtain ⟨p2, hp2, h⟩ := Option.bind_eq_some_iff.mp h
  refine rn_ec qm rfl rfl rfl rfl rn_m103 rfl rfl rfl (fun _ => rn_rc_of (en_9 (q := 318) rfl)) (E103 hp2) ?_
  refine rn_eg qm 0 (s2 := (16, [(0, .ref 318), (1, .int a1)], [.int p2.1, .ref 318], N, sl, rn_hp S p2.2)) rfl ?_
  refine rn_e1 qm (s2 := (17, [(0, .ref 318), (1, .int a1)], [], N, sl, rn_hp S (wI p2.2 318 33 p2.1))) (rn_g_putf rfl rfl (en_9 rfl) rfl rfl rfl (wf_9_33 (v := p2.1) rfl)) ?_
  refine rn_eg qm 4 (s2 := (21, [(0, .ref 318), (1, .int a1)], [.int (320 : Int32), .ref 319, .ref 318], N, sl, rn_hp S (wI p2.2 318 33 p2.1))) rfl ?_
  obtain ⟨p3, hp3, h⟩ := Option.bind_eq_some_iff.mp h
  refine rn_ec qm rfl rfl rfl rfl rn_m104 rfl rfl rfl (fun _ => rn_rc_of (en_9 (q := 318) rfl)) (E104 hp3) ?_
  refine rn_eg qm 0 (s2 := (22, [(0, .ref 318), (1, .int a1)], [], N, sl, rn_hp S p3)) rfl ?_
  refine rn_eg qm 4 (s2 := (26, [(0, .ref 318), (1, .int a1)], [.int (8 : Int32), .ref 320, .ref 318], N, sl, rn_hp S p3)) rfl ?_
  obtain ⟨p4, hp4, h⟩ := Option.bind_eq_some_iff.mp h
  refine rn_ec qm rfl rfl rfl rfl rn_m104 rfl rfl rfl (fun _ => rn_rc_of (en_9 (q := 318) rfl)) (E104 hp4) ?_
  refine rn_eg qm 0 (s2 := (27, [(0, .ref 318), (1, .int a1)], [], N, sl, rn_hp S p4)) rfl ?_
  refine rn_eg qm 4 (s2 := (31, [(0, .ref 318), (1, .int a1)], [.int (96 : Int32), .ref 346, .ref 318], N, sl, rn_hp S p4)) rfl ?_
  obtain ⟨p5, hp5, h⟩ := Option.bind_eq_some_iff.mp h
  refine rn_ec qm rfl rfl rfl rfl rn_m104 rfl rfl rfl (fun _ => rn_rc_of (en_9 (q := 318) rfl)) (E104 hp5) ?_
  refine rn_eg qm 0 (s2 := (32, [(0, .ref 318), (1, .int a1)], [], N, sl, rn_hp S p5)) rfl ?_
  refine rn_eg qm 2 (s2 := (34, [(2, .int (0 : Int32)), (0, .ref 318), (1, .int a1)], [], N, sl, rn_hp S p5)) rfl ?_
  refine rn_kq qm (s2 := (34, [(0, .ref 318), (1, .int a1), (2, .int (0 : Int32))], [], N, sl, rn_hp S p5)) rfl rfl ?_
  refine E105_L34 rn_FU _ _ _ R ?_ h
  intro M13 h
  cases h
  exact rn_er qm rfl rfl rfl
/-! 106: RecordNichesModel.image(I)I -/
def f106 (M : rn_T) (a1 : Int32) : Option (Int32 × rn_T) :=
  if (f29 (Int32.toInt64 a1) (0 : Int64) (1 : Int64)) = true then
    Option.bind (f105 (wI M 318 42 (1 : Int32)) a1) fun p3 =>
      if rn_ob a1 2 then none else
        some ((1 : Int32), wA p3 352 (Int32.toNatClampNeg a1) (1 : Int32))
  else
    some ((-2 : Int32), M)
set_option maxHeartbeats 4000000 in
theorem E106 {X : rn_X} {N sl : Nat} {S M : rn_T} {a1 : Int32} {R : (Int32 × rn_T)} (h : f106 M a1 = some R) : rn_rv X 106 (0, [(0, .ref 318), (1, .int a1)], [], N, sl, rn_hp S M) (some (.int R.1), N, sl, rn_hp S R.2) := by
  have qm := rn_m106
  unfold f106 at h
  refine rn_eg qm 4 (s2 := (4, [(0, .ref 318), (1, .int a1)], [.long (1 : Int64), .long (0 : Int64), .long (Int32.toInt64 a1)], N, sl, rn_hp S M)) rfl ?_
  refine rn_ec qm rfl rfl rfl rfl rn_m29 rfl rfl rfl (fun h => by cases h) (E29 rfl) ?_
  refine rn_eg qm 0 (s2 := (5, [(0, .ref 318), (1, .int a1)], [.int (rn_bi (f29 (Int32.toInt64 a1) (0 : Int64) (1 : Int64)))], N, sl, rn_hp S M)) rfl ?_
  refine rn_eg qm 1 (s2 := ((if (rn_bi (f29 (Int32.toInt64 a1) (0 : Int64) (1 : Int64))) = 0 then 6 else 8), [(0, .ref 318), (1, .int a1)], [], N, sl, rn_hp S M)) rfl ?_
  refine rn_iteb (fun c2 => ?_) (fun c2 => ?_)
  · rw [if_neg (rn_bf c2)] at h
    refine rn_eg qm 1 (s2 := (7, [(0, .ref 318), (1, .int a1)], [.int (-2 : Int32)], N, sl, rn_hp S M)) rfl ?_
    cases h
    exact rn_er qm rfl rfl rfl
  · rw [if_pos c2] at h
    refine rn_eg qm 2 (s2 := (10, [(0, .ref 318), (1, .int a1)], [.int (1 : Int32), .ref 318], N, sl, rn_hp S M)) rfl ?_
    refine rn_e1 qm (s2 := (11, [(0, .ref 318), (1, .int a1)], [], N, sl, rn_hp S (wI M 318 42 (1 : Int32)))) (rn_g_putf rfl rfl (en_9 rfl) rfl rfl rfl (wf_9_42 (v := (1 : Int32)) rfl)) ?_
    refine rn_eg qm 2 (s2 := (13, [(0, .ref 318), (1, .int a1)], [.int a1, .ref 318], N, sl, rn_hp S (wI M 318 42 (1 : Int32)))) rfl ?_
    obtain ⟨p3, hp3, h⟩ := Option.bind_eq_some_iff.mp h
    refine rn_ec qm rfl rfl rfl rfl rn_m105 rfl rfl rfl (fun _ => rn_rc_of (en_9 (q := 318) rfl)) (E105 hp3) ?_
    refine rn_eg qm 0 (s2 := (14, [(0, .ref 318), (1, .int a1)], [], N, sl, rn_hp S p3)) rfl ?_
    refine rn_eg qm 4 (s2 := (18, [(0, .ref 318), (1, .int a1)], [.int (1 : Int32), .int a1, .ref 352], N, sl, rn_hp S p3)) rfl ?_
    have c4 : ¬ (rn_ob a1 2) := fun c => by rw [if_pos c] at h; cases h
    rw [if_neg c4] at h
    refine rn_e1 qm (s2 := (19, [(0, .ref 318), (1, .int a1)], [], N, sl, rn_hp S (wA p3 352 (Int32.toNatClampNeg a1) (1 : Int32)))) (rn_g_bast (n := 2) rfl rfl (ar_m12 rfl rfl (Nat.le_of_ble_eq_true rfl)) c4 (by decide) (aw_m12 rfl rfl (Nat.le_of_ble_eq_true rfl))) ?_
    refine rn_eg qm 1 (s2 := (20, [(0, .ref 318), (1, .int a1)], [.int (1 : Int32)], N, sl, rn_hp S (wA p3 352 (Int32.toNatClampNeg a1) (1 : Int32)))) rfl ?_
    cases h
    exact rn_er qm rfl rfl rfl
/-! 107: RecordNichesModel.restore(I)I -/
def f107 (M : rn_T) (a1 : Int32) : Option (Int32 × rn_T) :=
  if (f29 (Int32.toInt64 a1) (0 : Int64) (1 : Int64)) = true then
    if rn_ob a1 2 then none else
      if (rA M 352 (Int32.toNatClampNeg a1)) = 0 then
        some ((-3 : Int32), M)
      else
        Option.bind (f105 (wI M 318 42 (0 : Int32)) a1) fun p5 =>
          some ((1 : Int32), p5)
  else
    some ((-2 : Int32), M)
set_option maxHeartbeats 4000000 in
theorem E107 {X : rn_X} {N sl : Nat} {S M : rn_T} {a1 : Int32} {R : (Int32 × rn_T)} (h : f107 M a1 = some R) : rn_rv X 107 (0, [(0, .ref 318), (1, .int a1)], [], N, sl, rn_hp S M) (some (.int R.1), N, sl, rn_hp S R.2) := by
  have qm := rn_m107
  unfold f107 at h
  refine rn_eg qm 4 (s2 := (4, [(0, .ref 318), (1, .int a1)], [.long (1 : Int64), .long (0 : Int64), .long (Int32.toInt64 a1)], N, sl, rn_hp S M)) rfl ?_
  refine rn_ec qm rfl rfl rfl rfl rn_m29 rfl rfl rfl (fun h => by cases h) (E29 rfl) ?_
  refine rn_eg qm 0 (s2 := (5, [(0, .ref 318), (1, .int a1)], [.int (rn_bi (f29 (Int32.toInt64 a1) (0 : Int64) (1 : Int64)))], N, sl, rn_hp S M)) rfl ?_
  refine rn_eg qm 1 (s2 := ((if (rn_bi (f29 (Int32.toInt64 a1) (0 : Int64) (1 : Int64))) = 0 then 6 else 8), [(0, .ref 318), (1, .int a1)], [], N, sl, rn_hp S M)) rfl ?_
  refine rn_iteb (fun c2 => ?_) (fun c2 => ?_)
  · rw [if_neg (rn_bf c2)] at h
    refine rn_eg qm 1 (s2 := (7, [(0, .ref 318), (1, .int a1)], [.int (-2 : Int32)], N, sl, rn_hp S M)) rfl ?_
    cases h
    exact rn_er qm rfl rfl rfl
  · rw [if_pos c2] at h
    refine rn_eg qm 3 (s2 := (11, [(0, .ref 318), (1, .int a1)], [.int a1, .ref 352], N, sl, rn_hp S M)) rfl ?_
    have c3 : ¬ (rn_ob a1 2) := fun c => by rw [if_pos c] at h; cases h
    rw [if_neg c3] at h
    refine rn_e1 qm (s2 := (12, [(0, .ref 318), (1, .int a1)], [.int (rA M 352 (Int32.toNatClampNeg a1))], N, sl, rn_hp S M)) (rn_g_bald (n := 2) rfl rfl (ar_m12 rfl rfl (Nat.le_of_ble_eq_true rfl)) c3) ?_
    refine rn_eg qm 1 (s2 := ((if (rA M 352 (Int32.toNatClampNeg a1)) = 0 then 13 else 15), [(0, .ref 318), (1, .int a1)], [], N, sl, rn_hp S M)) rfl ?_
    refine rn_ite (fun c4 => ?_) (fun c4 => ?_)
    · rw [if_pos c4] at h
      refine rn_eg qm 1 (s2 := (14, [(0, .ref 318), (1, .int a1)], [.int (-3 : Int32)], N, sl, rn_hp S M)) rfl ?_
      cases h
      exact rn_er qm rfl rfl rfl
    · rw [if_neg c4] at h
      refine rn_eg qm 2 (s2 := (17, [(0, .ref 318), (1, .int a1)], [.int (0 : Int32), .ref 318], N, sl, rn_hp S M)) rfl ?_
      refine rn_e1 qm (s2 := (18, [(0, .ref 318), (1, .int a1)], [], N, sl, rn_hp S (wI M 318 42 (0 : Int32)))) (rn_g_putf rfl rfl (en_9 rfl) rfl rfl rfl (wf_9_42 (v := (0 : Int32)) rfl)) ?_
      refine rn_eg qm 2 (s2 := (20, [(0, .ref 318), (1, .int a1)], [.int a1, .ref 318], N, sl, rn_hp S (wI M 318 42 (0 : Int32)))) rfl ?_
      obtain ⟨p5, hp5, h⟩ := Option.bind_eq_some_iff.mp h
      refine rn_ec qm rfl rfl rfl rfl rn_m105 rfl rfl rfl (fun _ => rn_rc_of (en_9 (q := 318) rfl)) (E105 hp5) ?_
      refine rn_eg qm 0 (s2 := (21, [(0, .ref 318), (1, .int a1)], [], N, sl, rn_hp S p5)) rfl ?_
      refine rn_eg qm 1 (s2 := (22, [(0, .ref 318), (1, .int a1)], [.int (1 : Int32)], N, sl, rn_hp S p5)) rfl ?_
      cases h
      exact rn_er qm rfl rfl rfl
/-! 108: RecordNichesModel.told(I)I -/
def f108 (M : rn_T) (a1 : Int32) : Option Int32 :=
  if (f29 (Int32.toInt64 a1) (100 : Int64) (899 : Int64)) = true then
    if rn_ob ((a1 / (100 : Int32)) - (1 : Int32)) 8 then none else
      if (rA M 320 (Int32.toNatClampNeg ((a1 / (100 : Int32)) - (1 : Int32)))) ≤ (a1 - a1 / (100 : Int32) * (100 : Int32)) then
        some (-2 : Int32)
      else
        Option.bind (f33 M ((a1 / (100 : Int32)) - (1 : Int32)) (a1 - a1 / (100 : Int32) * (100 : Int32))) fun p14 =>
          some p14
  else
    if (f29 (Int32.toInt64 a1) (10 : Int64) (17 : Int64)) = true then
      if rn_ob (a1 - (10 : Int32)) 8 then none else
        some (rA M 320 (Int32.toNatClampNeg (a1 - (10 : Int32))))
    else
      if (f29 (Int32.toInt64 a1) (20 : Int64) (27 : Int64)) = true then
        Option.bind (f36 M (a1 - (20 : Int32))) fun p9 =>
          if p9 = true then
            some (1 : Int32)
          else
            some (0 : Int32)
      else
        if a1 = 0 then
          some (rI M 318 2)
        else
          if a1 = (1 : Int32) then
            some (rI M 318 33)
          else
            some (-2 : Int32)
set_option maxHeartbeats 4000000 in
theorem E108 {X : rn_X} {N sl : Nat} {S M : rn_T} {a1 : Int32} {R : (Int32)} (h : f108 M a1 = some R) : rn_rv X 108 (0, [(0, .ref 318), (1, .int a1)], [], N, sl, rn_hp S M) (some (.int R), N, sl, rn_hp S M) := by
  have qm := rn_m108
  unfold f108 at h
  refine rn_eg qm 4 (s2 := (4, [(0, .ref 318), (1, .int a1)], [.long (899 : Int64), .long (100 : Int64), .long (Int32.toInt64 a1)], N, sl, rn_hp S M)) rfl ?_
  refine rn_ec qm rfl rfl rfl rfl rn_m29 rfl rfl rfl (fun h => by cases h) (E29 rfl) ?_
  refine rn_eg qm 0 (s2 := (5, [(0, .ref 318), (1, .int a1)], [.int (rn_bi (f29 (Int32.toInt64 a1) (100 : Int64) (899 : Int64)))], N, sl, rn_hp S M)) rfl ?_
  refine rn_eg qm 1 (s2 := ((if (rn_bi (f29 (Int32.toInt64 a1) (100 : Int64) (899 : Int64))) = 0 then 29 else 6), [(0, .ref 318), (1, .int a1)], [], N, sl, rn_hp S M)) rfl ?_
  refine rn_iteb (fun c2 => ?_) (fun c2 => ?_)
  · rw [if_neg (rn_bf c2)] at h
    refine rn_eg qm 4 (s2 := (33, [(0, .ref 318), (1, .int a1)], [.long (17 : Int64), .long (10 : Int64), .long (Int32.toInt64 a1)], N, sl, rn_hp S M)) rfl ?_
    refine rn_ec qm rfl rfl rfl rfl rn_m29 rfl rfl rfl (fun h => by cases h) (E29 rfl) ?_
    refine rn_eg qm 0 (s2 := (34, [(0, .ref 318), (1, .int a1)], [.int (rn_bi (f29 (Int32.toInt64 a1) (10 : Int64) (17 : Int64)))], N, sl, rn_hp S M)) rfl ?_
    refine rn_eg qm 1 (s2 := ((if (rn_bi (f29 (Int32.toInt64 a1) (10 : Int64) (17 : Int64))) = 0 then 42 else 35), [(0, .ref 318), (1, .int a1)], [], N, sl, rn_hp S M)) rfl ?_
    refine rn_iteb (fun c4 => ?_) (fun c4 => ?_)
    · rw [if_neg (rn_bf c4)] at h
      refine rn_eg qm 4 (s2 := (46, [(0, .ref 318), (1, .int a1)], [.long (27 : Int64), .long (20 : Int64), .long (Int32.toInt64 a1)], N, sl, rn_hp S M)) rfl ?_
      refine rn_ec qm rfl rfl rfl rfl rn_m29 rfl rfl rfl (fun h => by cases h) (E29 rfl) ?_
      refine rn_eg qm 0 (s2 := (47, [(0, .ref 318), (1, .int a1)], [.int (rn_bi (f29 (Int32.toInt64 a1) (20 : Int64) (27 : Int64)))], N, sl, rn_hp S M)) rfl ?_
      refine rn_eg qm 1 (s2 := ((if (rn_bi (f29 (Int32.toInt64 a1) (20 : Int64) (27 : Int64))) = 0 then 58 else 48), [(0, .ref 318), (1, .int a1)], [], N, sl, rn_hp S M)) rfl ?_
      refine rn_iteb (fun c6 => ?_) (fun c6 => ?_)
      · rw [if_neg (rn_bf c6)] at h
        refine rn_eg qm 2 (s2 := ((if a1 = 0 then 60 else 63), [(0, .ref 318), (1, .int a1)], [], N, sl, rn_hp S M)) rfl ?_
        refine rn_ite (fun c7 => ?_) (fun c7 => ?_)
        · rw [if_pos c7] at h
          refine rn_eg qm 3 (s2 := (70, [(0, .ref 318), (1, .int a1)], [.int (rI M 318 2)], N, sl, rn_hp S M)) rfl ?_
          cases h
          exact rn_er qm rfl rfl rfl
        · rw [if_neg c7] at h
          refine rn_eg qm 3 (s2 := ((if a1 = (1 : Int32) then 66 else 69), [(0, .ref 318), (1, .int a1)], [], N, sl, rn_hp S M)) rfl ?_
          refine rn_ite (fun c8 => ?_) (fun c8 => ?_)
          · rw [if_pos c8] at h
            refine rn_eg qm 3 (s2 := (70, [(0, .ref 318), (1, .int a1)], [.int (rI M 318 33)], N, sl, rn_hp S M)) rfl ?_
            cases h
            exact rn_er qm rfl rfl rfl
          · rw [if_neg c8] at h
            refine rn_eg qm 1 (s2 := (70, [(0, .ref 318), (1, .int a1)], [.int (-2 : Int32)], N, sl, rn_hp S M)) rfl ?_
            cases h
            exact rn_er qm rfl rfl rfl
      · rw [if_pos c6] at h
        refine rn_eg qm 4 (s2 := (52, [(0, .ref 318), (1, .int a1)], [.int (a1 - (20 : Int32)), .ref 318], N, sl, rn_hp S M)) rfl ?_
        obtain ⟨p9, hp9, h⟩ := Option.bind_eq_some_iff.mp h
        refine rn_ec qm rfl rfl rfl rfl rn_m36 rfl rfl rfl (fun _ => rn_rc_of (en_9 (q := 318) rfl)) (E36 hp9) ?_
        refine rn_eg qm 0 (s2 := (53, [(0, .ref 318), (1, .int a1)], [.int (rn_bi p9)], N, sl, rn_hp S M)) rfl ?_
        refine rn_eg qm 1 (s2 := ((if (rn_bi p9) = 0 then 56 else 54), [(0, .ref 318), (1, .int a1)], [], N, sl, rn_hp S M)) rfl ?_
        refine rn_iteb (fun c10 => ?_) (fun c10 => ?_)
        · rw [if_neg (rn_bf c10)] at h
          refine rn_eg qm 1 (s2 := (57, [(0, .ref 318), (1, .int a1)], [.int (0 : Int32)], N, sl, rn_hp S M)) rfl ?_
          cases h
          exact rn_er qm rfl rfl rfl
        · rw [if_pos c10] at h
          refine rn_eg qm 2 (s2 := (57, [(0, .ref 318), (1, .int a1)], [.int (1 : Int32)], N, sl, rn_hp S M)) rfl ?_
          cases h
          exact rn_er qm rfl rfl rfl
    · rw [if_pos c4] at h
      refine rn_eg qm 5 (s2 := (40, [(0, .ref 318), (1, .int a1)], [.int (a1 - (10 : Int32)), .ref 320], N, sl, rn_hp S M)) rfl ?_
      have c11 : ¬ (rn_ob (a1 - (10 : Int32)) 8) := fun c => by rw [if_pos c] at h; cases h
      rw [if_neg c11] at h
      refine rn_e1 qm (s2 := (41, [(0, .ref 318), (1, .int a1)], [.int (rA M 320 (Int32.toNatClampNeg (a1 - (10 : Int32))))], N, sl, rn_hp S M)) (rn_g_iald (n := 8) rfl rfl (ar_m10 rfl rfl (Nat.le_of_ble_eq_true rfl)) c11) ?_
      cases h
      exact rn_er qm rfl rfl rfl
  · rw [if_pos c2] at h
    refine rn_eg qm 2 (s2 := (8, [(0, .ref 318), (1, .int a1)], [.int (100 : Int32), .int a1], N, sl, rn_hp S M)) rfl ?_
    refine rn_e1 qm (s2 := (9, [(0, .ref 318), (1, .int a1)], [.int (a1 / (100 : Int32))], N, sl, rn_hp S M)) (rn_g_idiv rfl rfl (by decide)) ?_
    refine rn_eg qm 5 (s2 := (14, [(2, .int ((a1 / (100 : Int32)) - (1 : Int32))), (0, .ref 318), (1, .int a1)], [.int (100 : Int32), .int a1], N, sl, rn_hp S M)) rfl ?_
    refine rn_e1 qm (s2 := (15, [(2, .int ((a1 / (100 : Int32)) - (1 : Int32))), (0, .ref 318), (1, .int a1)], [.int (a1 - a1 / (100 : Int32) * (100 : Int32))], N, sl, rn_hp S M)) (rn_g_irem rfl rfl (by decide)) ?_
    refine rn_eg qm 3 (s2 := (18, [(2, .int ((a1 / (100 : Int32)) - (1 : Int32))), (0, .ref 318), (1, .int a1)], [.int ((a1 / (100 : Int32)) - (1 : Int32)), .ref 320, .int (a1 - a1 / (100 : Int32) * (100 : Int32))], N, sl, rn_hp S M)) rfl ?_
    have c12 : ¬ (rn_ob ((a1 / (100 : Int32)) - (1 : Int32)) 8) := fun c => by rw [if_pos c] at h; cases h
    rw [if_neg c12] at h
    refine rn_e1 qm (s2 := (19, [(2, .int ((a1 / (100 : Int32)) - (1 : Int32))), (0, .ref 318), (1, .int a1)], [.int (rA M 320 (Int32.toNatClampNeg ((a1 / (100 : Int32)) - (1 : Int32)))), .int (a1 - a1 / (100 : Int32) * (100 : Int32))], N, sl, rn_hp S M)) (rn_g_iald (n := 8) rfl rfl (ar_m10 rfl rfl (Nat.le_of_ble_eq_true rfl)) c12) ?_
    refine rn_eg qm 1 (s2 := ((if (rA M 320 (Int32.toNatClampNeg ((a1 / (100 : Int32)) - (1 : Int32)))) ≤ (a1 - a1 / (100 : Int32) * (100 : Int32)) then 27 else 20), [(2, .int ((a1 / (100 : Int32)) - (1 : Int32))), (0, .ref 318), (1, .int a1)], [], N, sl, rn_hp S M)) rfl ?_
    refine rn_ite (fun c13 => ?_) (fun c13 => ?_)
    · rw [if_pos c13] at h
      refine rn_eg qm 1 (s2 := (28, [(2, .int ((a1 / (100 : Int32)) - (1 : Int32))), (0, .ref 318), (1, .int a1)], [.int (-2 : Int32)], N, sl, rn_hp S M)) rfl ?_
      cases h
      exact rn_er qm rfl rfl rfl
    · rw [if_neg c13] at h
      refine rn_eg qm 4 (s2 := (24, [(2, .int ((a1 / (100 : Int32)) - (1 : Int32))), (0, .ref 318), (1, .int a1)], [.int (100 : Int32), .int a1, .int ((a1 / (100 : Int32)) - (1 : Int32)), .ref 318], N, sl, rn_hp S M)) rfl ?_
      refine rn_e1 qm (s2 := (25, [(2, .int ((a1 / (100 : Int32)) - (1 : Int32))), (0, .ref 318), (1, .int a1)], [.int (a1 - a1 / (100 : Int32) * (100 : Int32)), .int ((a1 / (100 : Int32)) - (1 : Int32)), .ref 318], N, sl, rn_hp S M)) (rn_g_irem rfl rfl (by decide)) ?_
      obtain ⟨p14, hp14, h⟩ := Option.bind_eq_some_iff.mp h
      refine rn_ec qm rfl rfl rfl rfl rn_m33 rfl rfl rfl (fun _ => rn_rc_of (en_9 (q := 318) rfl)) (E33 hp14) ?_
      refine rn_eg qm 0 (s2 := (26, [(2, .int ((a1 / (100 : Int32)) - (1 : Int32))), (0, .ref 318), (1, .int a1)], [.int p14], N, sl, rn_hp S M)) rfl ?_
      refine rn_eg qm 1 (s2 := (28, [(2, .int ((a1 / (100 : Int32)) - (1 : Int32))), (0, .ref 318), (1, .int a1)], [.int p14], N, sl, rn_hp S M)) rfl ?_
      cases h
      exact rn_er qm rfl rfl rfl
