/-! 146: RecordNiches$Transfer.store(LRecordNiches$Tree;LRecordNiches$Holding;I)V -/
def f146_L11 (b2 : Nat) (b3 : Int32) : Nat → rn_T → Int32 → Int32 → (rn_T → Option (rn_T)) → Option (rn_T)
  | 0, _, _, _, _ => none
  | fu + 1, S, v4, v5, k =>
    if (rI S 66 0) ≤ v5 then
      k S
    else
      if (rI S 276 1) ≤ v4 then
        k S
      else
        Option.bind (f155 S v5) fun p7 =>
          if rn_kd p7 = 3 then
            if (rI S p7 17) = 0 then
              f146_L11 b2 b3 fu S v4 (v5 + (1 : Int32)) k
            else
              Option.bind (f151 S p7) fun p10 =>
                if p10 = true then
                  if (rI S p7 4) = (6 : Int32) then
                    Option.bind (f149 S p7 b2 (b3 + (rI S p7 15))) fun p13 =>
                      f146_L11 b2 b3 fu p13 (v4 + (1 : Int32)) (v5 + (1 : Int32)) k
                  else
                    if rn_ob v4 100 then none else
                      Option.bind (f116 S b2 (b3 + (rI S p7 15)) (rI S p7 5) (rL S 277 (Int32.toNatClampNeg v4))) fun p15 =>
                        f146_L11 b2 b3 fu p15 (v4 + (1 : Int32)) (v5 + (1 : Int32)) k
                else
                  f146_L11 b2 b3 fu S v4 (v5 + (1 : Int32)) k
          else none
set_option maxHeartbeats 4000000 in
theorem E146_L11 {X : rn_X} {N sl : Nat} {M : rn_T} {b2 : Nat} {b3 : Int32} (hb2 : rn_kd b2 = 1) : ∀ (fu : Nat) (S : rn_T) (v4 : Int32) (v5 : Int32) (k : (rn_T → Option (rn_T))) (R : (rn_T)), (∀ (S : rn_T), k S = some R → rn_rv X 146 (57, [], [], N, sl, rn_hp S M) (none, N, sl, rn_hp R M)) → f146_L11 b2 b3 fu S v4 v5 k = some R → rn_rv X 146 (11, [(0, .ref 276), (1, .ref 66), (2, .ref b2), (3, .int b3), (4, .int v4), (5, .int v5)], [], N, sl, rn_hp S M) (none, N, sl, rn_hp R M) := by
  have qm := rn_m146
  intro fu
  induction fu with
  | zero => intro S v4 v5 k R hk h; cases h
  | succ fu ih =>
    intro S v4 v5 k R hk h
    unfold f146_L11 at h
    refine rn_eg qm 4 (s2 := ((if (rI S 66 0) ≤ v5 then 57 else 15), [(0, .ref 276), (1, .ref 66), (2, .ref b2), (3, .int b3), (4, .int v4), (5, .int v5)], [], N, sl, rn_hp S M)) rfl ?_
    refine rn_ite (fun c5 => ?_) (fun c5 => ?_)
    · rw [if_pos c5] at h
      refine rn_kq qm (s2 := (57, [], [], N, sl, rn_hp S M)) rfl rfl ?_
      exact hk _ h
    · rw [if_neg c5] at h
      refine rn_eg qm 4 (s2 := ((if (rI S 276 1) ≤ v4 then 57 else 19), [(0, .ref 276), (1, .ref 66), (2, .ref b2), (3, .int b3), (4, .int v4), (5, .int v5)], [], N, sl, rn_hp S M)) rfl ?_
      refine rn_ite (fun c6 => ?_) (fun c6 => ?_)
      · rw [if_pos c6] at h
        refine rn_kq qm (s2 := (57, [], [], N, sl, rn_hp S M)) rfl rfl ?_
        exact hk _ h
      · rw [if_neg c6] at h
        refine rn_eg qm 2 (s2 := (21, [(0, .ref 276), (1, .ref 66), (2, .ref b2), (3, .int b3), (4, .int v4), (5, .int v5)], [.int v5, .ref 66], N, sl, rn_hp S M)) rfl ?_
        obtain ⟨p7, hp7, h⟩ := Option.bind_eq_some_iff.mp h
        refine rn_ec qm rfl rfl rfl rfl rn_m155 rfl rfl rfl (fun _ => rn_rc_of (en_7 (q := 66) rfl)) (E155 hp7) ?_
        refine rn_eg qm 0 (s2 := (22, [(0, .ref 276), (1, .ref 66), (2, .ref b2), (3, .int b3), (4, .int v4), (5, .int v5)], [.ref p7], N, sl, rn_hp S M)) rfl ?_
        refine rn_eg qm 2 (s2 := (24, [(6, .ref p7), (0, .ref 276), (1, .ref 66), (2, .ref b2), (3, .int b3), (4, .int v4), (5, .int v5)], [.ref p7], N, sl, rn_hp S M)) rfl ?_
        have k8 : rn_kd p7 = 3 := Decidable.byContradiction fun c => by rw [if_neg c] at h; cases h
        rw [if_pos k8] at h
        refine rn_e1 qm (s2 := (25, [(6, .ref p7), (0, .ref 276), (1, .ref 66), (2, .ref b2), (3, .int b3), (4, .int v4), (5, .int v5)], [.int (rI S p7 17)], N, sl, rn_hp S M)) (rn_g_getf rfl rfl (en_3 k8) rfl) ?_
        refine rn_eg qm 1 (s2 := ((if (rI S p7 17) = 0 then 55 else 26), [(6, .ref p7), (0, .ref 276), (1, .ref 66), (2, .ref b2), (3, .int b3), (4, .int v4), (5, .int v5)], [], N, sl, rn_hp S M)) rfl ?_
        refine rn_ite (fun c9 => ?_) (fun c9 => ?_)
        · rw [if_pos c9] at h
          refine rn_eg qm 2 (s2 := (11, [(5, .int (v5 + (1 : Int32))), (0, .ref 276), (1, .ref 66), (2, .ref b2), (3, .int b3), (4, .int v4)], [], N, sl, rn_hp S M)) rfl ?_
          refine rn_kq qm (s2 := (11, [(0, .ref 276), (1, .ref 66), (2, .ref b2), (3, .int b3), (4, .int v4), (5, .int (v5 + (1 : Int32)))], [], N, sl, rn_hp S M)) rfl rfl ?_
          exact ih _ _ _ k R hk h
        · rw [if_neg c9] at h
          refine rn_eg qm 1 (s2 := (27, [(6, .ref p7), (0, .ref 276), (1, .ref 66), (2, .ref b2), (3, .int b3), (4, .int v4), (5, .int v5)], [.ref p7], N, sl, rn_hp S M)) rfl ?_
          obtain ⟨p10, hp10, h⟩ := Option.bind_eq_some_iff.mp h
          refine rn_ec qm rfl rfl rfl rfl rn_m151 rfl rfl rfl (fun h => by cases h) (E151 hp10) ?_
          refine rn_eg qm 0 (s2 := (28, [(6, .ref p7), (0, .ref 276), (1, .ref 66), (2, .ref b2), (3, .int b3), (4, .int v4), (5, .int v5)], [.int (rn_bi p10)], N, sl, rn_hp S M)) rfl ?_
          refine rn_eg qm 1 (s2 := ((if (rn_bi p10) = 0 then 29 else 30), [(6, .ref p7), (0, .ref 276), (1, .ref 66), (2, .ref b2), (3, .int b3), (4, .int v4), (5, .int v5)], [], N, sl, rn_hp S M)) rfl ?_
          refine rn_iteb (fun c11 => ?_) (fun c11 => ?_)
          · rw [if_neg (rn_bf c11)] at h
            refine rn_eg qm 3 (s2 := (11, [(5, .int (v5 + (1 : Int32))), (0, .ref 276), (1, .ref 66), (2, .ref b2), (3, .int b3), (4, .int v4)], [], N, sl, rn_hp S M)) rfl ?_
            refine rn_kq qm (s2 := (11, [(0, .ref 276), (1, .ref 66), (2, .ref b2), (3, .int b3), (4, .int v4), (5, .int (v5 + (1 : Int32)))], [], N, sl, rn_hp S M)) rfl rfl ?_
            exact ih _ _ _ k R hk h
          · rw [if_pos c11] at h
            refine rn_eg qm 1 (s2 := (31, [(6, .ref p7), (0, .ref 276), (1, .ref 66), (2, .ref b2), (3, .int b3), (4, .int v4), (5, .int v5)], [.ref p7], N, sl, rn_hp S M)) rfl ?_
            refine rn_e1 qm (s2 := (32, [(6, .ref p7), (0, .ref 276), (1, .ref 66), (2, .ref b2), (3, .int b3), (4, .int v4), (5, .int v5)], [.int (rI S p7 4)], N, sl, rn_hp S M)) (rn_g_getf rfl rfl (en_3 k8) rfl) ?_
            refine rn_eg qm 2 (s2 := ((if (rI S p7 4) = (6 : Int32) then 34 else 42), [(6, .ref p7), (0, .ref 276), (1, .ref 66), (2, .ref b2), (3, .int b3), (4, .int v4), (5, .int v5)], [], N, sl, rn_hp S M)) rfl ?_
            refine rn_ite (fun c12 => ?_) (fun c12 => ?_)
            · rw [if_pos c12] at h
              refine rn_eg qm 4 (s2 := (38, [(6, .ref p7), (0, .ref 276), (1, .ref 66), (2, .ref b2), (3, .int b3), (4, .int v4), (5, .int v5)], [.ref p7, .int b3, .ref b2, .ref p7], N, sl, rn_hp S M)) rfl ?_
              refine rn_e1 qm (s2 := (39, [(6, .ref p7), (0, .ref 276), (1, .ref 66), (2, .ref b2), (3, .int b3), (4, .int v4), (5, .int v5)], [.int (rI S p7 15), .int b3, .ref b2, .ref p7], N, sl, rn_hp S M)) (rn_g_getf rfl rfl (en_3 k8) rfl) ?_
              refine rn_eg qm 1 (s2 := (40, [(6, .ref p7), (0, .ref 276), (1, .ref 66), (2, .ref b2), (3, .int b3), (4, .int v4), (5, .int v5)], [.int (b3 + (rI S p7 15)), .ref b2, .ref p7], N, sl, rn_hp S M)) rfl ?_
              obtain ⟨p13, hp13, h⟩ := Option.bind_eq_some_iff.mp h
              refine rn_ec qm rfl rfl rfl rfl rn_m149 rfl rfl rfl (fun h => by cases h) (E149 hp13) ?_
              refine rn_eg qm 0 (s2 := (41, [(6, .ref p7), (0, .ref 276), (1, .ref 66), (2, .ref b2), (3, .int b3), (4, .int v4), (5, .int v5)], [], N, sl, rn_hp p13 M)) rfl ?_
              refine rn_eg qm 4 (s2 := (11, [(5, .int (v5 + (1 : Int32))), (0, .ref 276), (1, .ref 66), (2, .ref b2), (3, .int b3), (4, .int (v4 + (1 : Int32)))], [], N, sl, rn_hp p13 M)) rfl ?_
              refine rn_kq qm (s2 := (11, [(0, .ref 276), (1, .ref 66), (2, .ref b2), (3, .int b3), (4, .int (v4 + (1 : Int32))), (5, .int (v5 + (1 : Int32)))], [], N, sl, rn_hp p13 M)) rfl rfl ?_
              exact ih _ _ _ k R hk h
            · rw [if_neg c12] at h
              refine rn_eg qm 3 (s2 := (45, [(6, .ref p7), (0, .ref 276), (1, .ref 66), (2, .ref b2), (3, .int b3), (4, .int v4), (5, .int v5)], [.ref p7, .int b3, .ref b2], N, sl, rn_hp S M)) rfl ?_
              refine rn_e1 qm (s2 := (46, [(6, .ref p7), (0, .ref 276), (1, .ref 66), (2, .ref b2), (3, .int b3), (4, .int v4), (5, .int v5)], [.int (rI S p7 15), .int b3, .ref b2], N, sl, rn_hp S M)) (rn_g_getf rfl rfl (en_3 k8) rfl) ?_
              refine rn_eg qm 2 (s2 := (48, [(6, .ref p7), (0, .ref 276), (1, .ref 66), (2, .ref b2), (3, .int b3), (4, .int v4), (5, .int v5)], [.ref p7, .int (b3 + (rI S p7 15)), .ref b2], N, sl, rn_hp S M)) rfl ?_
              refine rn_e1 qm (s2 := (49, [(6, .ref p7), (0, .ref 276), (1, .ref 66), (2, .ref b2), (3, .int b3), (4, .int v4), (5, .int v5)], [.int (rI S p7 5), .int (b3 + (rI S p7 15)), .ref b2], N, sl, rn_hp S M)) (rn_g_getf rfl rfl (en_3 k8) rfl) ?_
              refine rn_eg qm 3 (s2 := (52, [(6, .ref p7), (0, .ref 276), (1, .ref 66), (2, .ref b2), (3, .int b3), (4, .int v4), (5, .int v5)], [.int v4, .ref 277, .int (rI S p7 5), .int (b3 + (rI S p7 15)), .ref b2], N, sl, rn_hp S M)) rfl ?_
              have c14 : ¬ (rn_ob v4 100) := fun c => by rw [if_pos c] at h; cases h
              rw [if_neg c14] at h
              refine rn_e1 qm (s2 := (53, [(6, .ref p7), (0, .ref 276), (1, .ref 66), (2, .ref b2), (3, .int b3), (4, .int v4), (5, .int v5)], [.long (rL S 277 (Int32.toNatClampNeg v4)), .int (rI S p7 5), .int (b3 + (rI S p7 15)), .ref b2], N, sl, rn_hp S M)) (rn_g_lald (n := 100) rfl rfl (ar_x11 rfl rfl (Nat.le_of_ble_eq_true rfl)) c14) ?_
              obtain ⟨p15, hp15, h⟩ := Option.bind_eq_some_iff.mp h
              refine rn_ec qm rfl rfl rfl rfl rn_m116 rfl rfl rfl (fun _ => rn_rc_of (en_1 hb2)) (E116 hp15) ?_
              refine rn_eg qm 0 (s2 := (54, [(6, .ref p7), (0, .ref 276), (1, .ref 66), (2, .ref b2), (3, .int b3), (4, .int v4), (5, .int v5)], [], N, sl, rn_hp p15 M)) rfl ?_
              refine rn_eg qm 3 (s2 := (11, [(5, .int (v5 + (1 : Int32))), (0, .ref 276), (1, .ref 66), (2, .ref b2), (3, .int b3), (4, .int (v4 + (1 : Int32)))], [], N, sl, rn_hp p15 M)) rfl ?_
              refine rn_kq qm (s2 := (11, [(0, .ref 276), (1, .ref 66), (2, .ref b2), (3, .int b3), (4, .int (v4 + (1 : Int32))), (5, .int (v5 + (1 : Int32)))], [], N, sl, rn_hp p15 M)) rfl rfl ?_
              exact ih _ _ _ k R hk h
def f146 (S : rn_T) (a2 : Nat) (a3 : Int32) : Option (rn_T) :=
  if rn_kd (f154 S) = 3 then
    if rn_kd a2 = 1 then
      Option.bind (f116 S a2 a3 (rI S (f154 S) 5) (0 : Int64)) fun p4 =>
        f146_L11 a2 a3 rn_FU p4 (0 : Int32) (0 : Int32) (fun S16 =>
          some (S16))
    else none
  else none
set_option maxHeartbeats 4000000 in
theorem E146 {X : rn_X} {N sl : Nat} {S M : rn_T} {a2 : Nat} {a3 : Int32} {R : (rn_T)} (h : f146 S a2 a3 = some R) : rn_rv X 146 (0, [(0, .ref 276), (1, .ref 66), (2, .ref a2), (3, .int a3)], [], N, sl, rn_hp S M) (none, N, sl, rn_hp R M) := by
  have qm := rn_m146
  unfold f146 at h
  refine rn_eg qm 3 (s2 := (3, [(0, .ref 276), (1, .ref 66), (2, .ref a2), (3, .int a3)], [.ref 66, .int a3, .ref a2], N, sl, rn_hp S M)) rfl ?_
  refine rn_ec qm rfl rfl rfl rfl rn_m154 rfl rfl rfl (fun _ => rn_rc_of (en_7 (q := 66) rfl)) (E154 rfl) ?_
  refine rn_eg qm 0 (s2 := (4, [(0, .ref 276), (1, .ref 66), (2, .ref a2), (3, .int a3)], [.ref (f154 S), .int a3, .ref a2], N, sl, rn_hp S M)) rfl ?_
  have k2 : rn_kd (f154 S) = 3 := Decidable.byContradiction fun c => by rw [if_neg c] at h; cases h
  rw [if_pos k2] at h
  refine rn_e1 qm (s2 := (5, [(0, .ref 276), (1, .ref 66), (2, .ref a2), (3, .int a3)], [.int (rI S (f154 S) 5), .int a3, .ref a2], N, sl, rn_hp S M)) (rn_g_getf rfl rfl (en_3 k2) rfl) ?_
  refine rn_eg qm 1 (s2 := (6, [(0, .ref 276), (1, .ref 66), (2, .ref a2), (3, .int a3)], [.long (0 : Int64), .int (rI S (f154 S) 5), .int a3, .ref a2], N, sl, rn_hp S M)) rfl ?_
  have k3 : rn_kd a2 = 1 := Decidable.byContradiction fun c => by rw [if_neg c] at h; cases h
  rw [if_pos k3] at h
  obtain ⟨p4, hp4, h⟩ := Option.bind_eq_some_iff.mp h
  refine rn_ec qm rfl rfl rfl rfl rn_m116 rfl rfl rfl (fun _ => rn_rc_of (en_1 k3)) (E116 hp4) ?_
  refine rn_eg qm 0 (s2 := (7, [(0, .ref 276), (1, .ref 66), (2, .ref a2), (3, .int a3)], [], N, sl, rn_hp p4 M)) rfl ?_
  refine rn_eg qm 4 (s2 := (11, [(5, .int (0 : Int32)), (4, .int (0 : Int32)), (0, .ref 276), (1, .ref 66), (2, .ref a2), (3, .int a3)], [], N, sl, rn_hp p4 M)) rfl ?_
  refine rn_kq qm (s2 := (11, [(0, .ref 276), (1, .ref 66), (2, .ref a2), (3, .int a3), (4, .int (0 : Int32)), (5, .int (0 : Int32))], [], N, sl, rn_hp p4 M)) rfl rfl ?_
  refine E146_L11 k3 rn_FU _ _ _ _ R ?_ h
  intro S16 h
  cases h
  exact rn_er qm rfl rfl rfl
/-! 14: RecordNiches.write(III)I -/
def f14 (S : rn_T) (a1 : Int32) (a2 : Int32) (a3 : Int32) : Option (Int32 × rn_T) :=
  Option.bind (f23 S a1 a2) fun p1 =>
    if p1 = true then
      Option.bind (f24 S a1 a2) fun p3 =>
        if p3.1 = 0 then
          Option.bind (f25 p3.2 a3) fun p5 =>
            if p5 = true then
              Option.bind (f145 p3.2 1) fun p7 =>
                if p7.1 = true then
                  Option.bind (f146 p7.2 1 a3) fun p9 =>
                    if rn_kd (f154 p9) = 3 then
                      some ((rI p9 (f154 p9) 5), p9)
                    else none
                else
                  some ((-3 : Int32), p7.2)
            else
              some ((-2 : Int32), p3.2)
        else
          some (p3.1, p3.2)
    else
      some ((-1 : Int32), S)
set_option maxHeartbeats 4000000 in
theorem E14 {X : rn_X} {N sl : Nat} {S M : rn_T} {a1 : Int32} {a2 : Int32} {a3 : Int32} {R : (Int32 × rn_T)} (h : f14 S a1 a2 a3 = some R) : rn_rv X 14 (0, [(0, .ref 0), (1, .int a1), (2, .int a2), (3, .int a3)], [], N, sl, rn_hp S M) (some (.int R.1), N, sl, rn_hp R.2 M) := by
  have qm := rn_m14
  unfold f14 at h
  refine rn_eg qm 3 (s2 := (3, [(0, .ref 0), (1, .int a1), (2, .int a2), (3, .int a3)], [.int a2, .int a1, .ref 0], N, sl, rn_hp S M)) rfl ?_
  obtain ⟨p1, hp1, h⟩ := Option.bind_eq_some_iff.mp h
  refine rn_ec qm rfl rfl rfl rfl rn_m23 rfl rfl rfl (fun _ => rn_rc_of (en_8 (q := 0) rfl)) (E23 hp1) ?_
  refine rn_eg qm 0 (s2 := (4, [(0, .ref 0), (1, .int a1), (2, .int a2), (3, .int a3)], [.int (rn_bi p1)], N, sl, rn_hp S M)) rfl ?_
  refine rn_eg qm 1 (s2 := ((if (rn_bi p1) = 0 then 5 else 7), [(0, .ref 0), (1, .int a1), (2, .int a2), (3, .int a3)], [], N, sl, rn_hp S M)) rfl ?_
  refine rn_iteb (fun c2 => ?_) (fun c2 => ?_)
  · rw [if_neg (rn_bf c2)] at h
    refine rn_eg qm 1 (s2 := (6, [(0, .ref 0), (1, .int a1), (2, .int a2), (3, .int a3)], [.int (-1 : Int32)], N, sl, rn_hp S M)) rfl ?_
    cases h
    exact rn_er qm rfl rfl rfl
  · rw [if_pos c2] at h
    refine rn_eg qm 3 (s2 := (10, [(0, .ref 0), (1, .int a1), (2, .int a2), (3, .int a3)], [.int a2, .int a1, .ref 0], N, sl, rn_hp S M)) rfl ?_
    obtain ⟨p3, hp3, h⟩ := Option.bind_eq_some_iff.mp h
    refine rn_ec qm rfl rfl rfl rfl rn_m24 rfl rfl rfl (fun _ => rn_rc_of (en_8 (q := 0) rfl)) (E24 hp3) ?_
    refine rn_eg qm 0 (s2 := (11, [(0, .ref 0), (1, .int a1), (2, .int a2), (3, .int a3)], [.int p3.1], N, sl, rn_hp p3.2 M)) rfl ?_
    refine rn_eg qm 3 (s2 := ((if p3.1 = 0 then 16 else 14), [(4, .int p3.1), (0, .ref 0), (1, .int a1), (2, .int a2), (3, .int a3)], [], N, sl, rn_hp p3.2 M)) rfl ?_
    refine rn_ite (fun c4 => ?_) (fun c4 => ?_)
    · rw [if_pos c4] at h
      refine rn_eg qm 2 (s2 := (18, [(4, .int p3.1), (0, .ref 0), (1, .int a1), (2, .int a2), (3, .int a3)], [.int a3, .ref 0], N, sl, rn_hp p3.2 M)) rfl ?_
      obtain ⟨p5, hp5, h⟩ := Option.bind_eq_some_iff.mp h
      refine rn_ec qm rfl rfl rfl rfl rn_m25 rfl rfl rfl (fun _ => rn_rc_of (en_8 (q := 0) rfl)) (E25 hp5) ?_
      refine rn_eg qm 0 (s2 := (19, [(4, .int p3.1), (0, .ref 0), (1, .int a1), (2, .int a2), (3, .int a3)], [.int (rn_bi p5)], N, sl, rn_hp p3.2 M)) rfl ?_
      refine rn_eg qm 1 (s2 := ((if (rn_bi p5) = 0 then 20 else 22), [(4, .int p3.1), (0, .ref 0), (1, .int a1), (2, .int a2), (3, .int a3)], [], N, sl, rn_hp p3.2 M)) rfl ?_
      refine rn_iteb (fun c6 => ?_) (fun c6 => ?_)
      · rw [if_neg (rn_bf c6)] at h
        refine rn_eg qm 1 (s2 := (21, [(4, .int p3.1), (0, .ref 0), (1, .int a1), (2, .int a2), (3, .int a3)], [.int (-2 : Int32)], N, sl, rn_hp p3.2 M)) rfl ?_
        cases h
        exact rn_er qm rfl rfl rfl
      · rw [if_pos c6] at h
        refine rn_eg qm 6 (s2 := (28, [(4, .int p3.1), (0, .ref 0), (1, .int a1), (2, .int a2), (3, .int a3)], [.ref 1, .ref 66, .ref 276], N, sl, rn_hp p3.2 M)) rfl ?_
        obtain ⟨p7, hp7, h⟩ := Option.bind_eq_some_iff.mp h
        refine rn_ec qm rfl rfl rfl rfl rn_m145 rfl rfl rfl (fun _ => rn_rc_of (en_6 (q := 276) rfl)) (E145 hp7) ?_
        refine rn_eg qm 0 (s2 := (29, [(4, .int p3.1), (0, .ref 0), (1, .int a1), (2, .int a2), (3, .int a3)], [.int (rn_bi p7.1)], N, sl, rn_hp p7.2 M)) rfl ?_
        refine rn_eg qm 1 (s2 := ((if (rn_bi p7.1) = 0 then 30 else 32), [(4, .int p3.1), (0, .ref 0), (1, .int a1), (2, .int a2), (3, .int a3)], [], N, sl, rn_hp p7.2 M)) rfl ?_
        refine rn_iteb (fun c8 => ?_) (fun c8 => ?_)
        · rw [if_neg (rn_bf c8)] at h
          refine rn_eg qm 1 (s2 := (31, [(4, .int p3.1), (0, .ref 0), (1, .int a1), (2, .int a2), (3, .int a3)], [.int (-3 : Int32)], N, sl, rn_hp p7.2 M)) rfl ?_
          cases h
          exact rn_er qm rfl rfl rfl
        · rw [if_pos c8] at h
          refine rn_eg qm 7 (s2 := (39, [(4, .int p3.1), (0, .ref 0), (1, .int a1), (2, .int a2), (3, .int a3)], [.int a3, .ref 1, .ref 66, .ref 276], N, sl, rn_hp p7.2 M)) rfl ?_
          obtain ⟨p9, hp9, h⟩ := Option.bind_eq_some_iff.mp h
          refine rn_ec qm rfl rfl rfl rfl rn_m146 rfl rfl rfl (fun _ => rn_rc_of (en_6 (q := 276) rfl)) (E146 hp9) ?_
          refine rn_eg qm 0 (s2 := (40, [(4, .int p3.1), (0, .ref 0), (1, .int a1), (2, .int a2), (3, .int a3)], [], N, sl, rn_hp p9 M)) rfl ?_
          refine rn_eg qm 2 (s2 := (42, [(4, .int p3.1), (0, .ref 0), (1, .int a1), (2, .int a2), (3, .int a3)], [.ref 66], N, sl, rn_hp p9 M)) rfl ?_
          refine rn_ec qm rfl rfl rfl rfl rn_m154 rfl rfl rfl (fun _ => rn_rc_of (en_7 (q := 66) rfl)) (E154 rfl) ?_
          refine rn_eg qm 0 (s2 := (43, [(4, .int p3.1), (0, .ref 0), (1, .int a1), (2, .int a2), (3, .int a3)], [.ref (f154 p9)], N, sl, rn_hp p9 M)) rfl ?_
          have k11 : rn_kd (f154 p9) = 3 := Decidable.byContradiction fun c => by rw [if_neg c] at h; cases h
          rw [if_pos k11] at h
          refine rn_e1 qm (s2 := (44, [(4, .int p3.1), (0, .ref 0), (1, .int a1), (2, .int a2), (3, .int a3)], [.int (rI p9 (f154 p9) 5)], N, sl, rn_hp p9 M)) (rn_g_getf rfl rfl (en_3 k11) rfl) ?_
          cases h
          exact rn_er qm rfl rfl rfl
    · rw [if_neg c4] at h
      refine rn_eg qm 1 (s2 := (15, [(4, .int p3.1), (0, .ref 0), (1, .int a1), (2, .int a2), (3, .int a3)], [.int p3.1], N, sl, rn_hp p3.2 M)) rfl ?_
      cases h
      exact rn_er qm rfl rfl rfl
/-! 117: RecordNiches$Holding.numberAt(II)J -/
def f117_L4 (b0 : Nat) (b1 : Int32) (b2 : Int32) : Nat → rn_T → Int64 → Int32 → (rn_T → Int64 → Option Int64) → Option Int64
  | 0, _, _, _, _ => none
  | fu + 1, S, v3, v5, k =>
    if b2 ≤ v5 then
      k S v3
    else
      if (b1 + v5) < 0 then
        f117_L4 b0 b1 b2 fu S v3 (v5 + (1 : Int32)) k
      else
        if (96 : Int32) ≤ (b1 + v5) then
          f117_L4 b0 b1 b2 fu S v3 (v5 + (1 : Int32)) k
        else
          if rn_kd b0 = 1 then
            if rn_ob (b1 + v5) 96 then none else
              f117_L4 b0 b1 b2 fu S (v3 ||| ((Int32.toInt64 (rA S (b0 + 3) (Int32.toNatClampNeg (b1 + v5)))) <<< (((8 : Int32) * v5).toInt64 &&& 63))) (v5 + (1 : Int32)) k
          else none
set_option maxHeartbeats 4000000 in
theorem E117_L4 {X : rn_X} {N sl : Nat} {M : rn_T} {b0 : Nat} {b1 : Int32} {b2 : Int32} : ∀ (fu : Nat) (S : rn_T) (v3 : Int64) (v5 : Int32) (k : (rn_T → Int64 → Option Int64)) (R : (Int64)), (∀ (S : rn_T) (w_3 : Int64), k S w_3 = some R → rn_rv X 117 (30, [(3, .long w_3)], [], N, sl, rn_hp S M) (some (.long R), N, sl, rn_hp S M)) → f117_L4 b0 b1 b2 fu S v3 v5 k = some R → rn_rv X 117 (4, [(0, .ref b0), (1, .int b1), (2, .int b2), (3, .long v3), (5, .int v5)], [], N, sl, rn_hp S M) (some (.long R), N, sl, rn_hp S M) := by
  have qm := rn_m117
  intro fu
  induction fu with
  | zero => intro S v3 v5 k R hk h; cases h
  | succ fu ih =>
    intro S v3 v5 k R hk h
    unfold f117_L4 at h
    refine rn_eg qm 3 (s2 := ((if b2 ≤ v5 then 30 else 7), [(0, .ref b0), (1, .int b1), (2, .int b2), (3, .long v3), (5, .int v5)], [], N, sl, rn_hp S M)) rfl ?_
    refine rn_ite (fun c1 => ?_) (fun c1 => ?_)
    · rw [if_pos c1] at h
      refine rn_kq qm (s2 := (30, [(3, .long v3)], [], N, sl, rn_hp S M)) rfl rfl ?_
      exact hk _ _ h
    · rw [if_neg c1] at h
      refine rn_eg qm 6 (s2 := ((if (b1 + v5) < 0 then 28 else 13), [(6, .int (b1 + v5)), (0, .ref b0), (1, .int b1), (2, .int b2), (3, .long v3), (5, .int v5)], [], N, sl, rn_hp S M)) rfl ?_
      refine rn_ite (fun c2 => ?_) (fun c2 => ?_)
      · rw [if_pos c2] at h
        refine rn_eg qm 2 (s2 := (4, [(5, .int (v5 + (1 : Int32))), (0, .ref b0), (1, .int b1), (2, .int b2), (3, .long v3)], [], N, sl, rn_hp S M)) rfl ?_
        refine rn_kq qm (s2 := (4, [(0, .ref b0), (1, .int b1), (2, .int b2), (3, .long v3), (5, .int (v5 + (1 : Int32)))], [], N, sl, rn_hp S M)) rfl rfl ?_
        exact ih _ _ _ k R hk h
      · rw [if_neg c2] at h
        refine rn_eg qm 3 (s2 := ((if (96 : Int32) ≤ (b1 + v5) then 28 else 16), [(6, .int (b1 + v5)), (0, .ref b0), (1, .int b1), (2, .int b2), (3, .long v3), (5, .int v5)], [], N, sl, rn_hp S M)) rfl ?_
        refine rn_ite (fun c3 => ?_) (fun c3 => ?_)
        · rw [if_pos c3] at h
          refine rn_eg qm 2 (s2 := (4, [(5, .int (v5 + (1 : Int32))), (0, .ref b0), (1, .int b1), (2, .int b2), (3, .long v3)], [], N, sl, rn_hp S M)) rfl ?_
          refine rn_kq qm (s2 := (4, [(0, .ref b0), (1, .int b1), (2, .int b2), (3, .long v3), (5, .int (v5 + (1 : Int32)))], [], N, sl, rn_hp S M)) rfl rfl ?_
          exact ih _ _ _ k R hk h
        · rw [if_neg c3] at h
          refine rn_eg qm 2 (s2 := (18, [(6, .int (b1 + v5)), (0, .ref b0), (1, .int b1), (2, .int b2), (3, .long v3), (5, .int v5)], [.ref b0, .long v3], N, sl, rn_hp S M)) rfl ?_
          have k4 : rn_kd b0 = 1 := Decidable.byContradiction fun c => by rw [if_neg c] at h; cases h
          rw [if_pos k4] at h
          refine rn_e1 qm (s2 := (19, [(6, .int (b1 + v5)), (0, .ref b0), (1, .int b1), (2, .int b2), (3, .long v3), (5, .int v5)], [.ref (b0 + 3), .long v3], N, sl, rn_hp S M)) (rn_g_getf rfl rfl (en_1 k4) rfl) ?_
          refine rn_eg qm 1 (s2 := (20, [(6, .int (b1 + v5)), (0, .ref b0), (1, .int b1), (2, .int b2), (3, .long v3), (5, .int v5)], [.int (b1 + v5), .ref (b0 + 3), .long v3], N, sl, rn_hp S M)) rfl ?_
          have c5 : ¬ (rn_ob (b1 + v5) 96) := fun c => by rw [if_pos c] at h; cases h
          rw [if_neg c5] at h
          refine rn_e1 qm (s2 := (21, [(6, .int (b1 + v5)), (0, .ref b0), (1, .int b1), (2, .int b2), (3, .long v3), (5, .int v5)], [.int (rA S (b0 + 3) (Int32.toNatClampNeg (b1 + v5))), .long v3], N, sl, rn_hp S M)) (rn_g_iald (n := 96) rfl rfl (ar_x10 (ko_1_2 k4).1 (ko_1_2 k4).2.1 (ko_1_2 k4).2.2) c5) ?_
          refine rn_eg qm 9 (s2 := (4, [(5, .int (v5 + (1 : Int32))), (0, .ref b0), (1, .int b1), (2, .int b2), (3, .long (v3 ||| ((Int32.toInt64 (rA S (b0 + 3) (Int32.toNatClampNeg (b1 + v5)))) <<< (((8 : Int32) * v5).toInt64 &&& 63))))], [], N, sl, rn_hp S M)) rfl ?_
          refine rn_kq qm (s2 := (4, [(0, .ref b0), (1, .int b1), (2, .int b2), (3, .long (v3 ||| ((Int32.toInt64 (rA S (b0 + 3) (Int32.toNatClampNeg (b1 + v5)))) <<< (((8 : Int32) * v5).toInt64 &&& 63)))), (5, .int (v5 + (1 : Int32)))], [], N, sl, rn_hp S M)) rfl rfl ?_
          exact ih _ _ _ k R hk h
def f117 (S : rn_T) (a0 : Nat) (a1 : Int32) (a2 : Int32) : Option Int64 :=
  f117_L4 a0 a1 a2 rn_FU S (0 : Int64) (0 : Int32) (fun S6 w6_3 =>
    some w6_3)
set_option maxHeartbeats 4000000 in
theorem E117 {X : rn_X} {N sl : Nat} {S M : rn_T} {a0 : Nat} {a1 : Int32} {a2 : Int32} {R : (Int64)} (h : f117 S a0 a1 a2 = some R) : rn_rv X 117 (0, [(0, .ref a0), (1, .int a1), (2, .int a2)], [], N, sl, rn_hp S M) (some (.long R), N, sl, rn_hp S M) := by
  have qm := rn_m117
  unfold f117 at h
  refine rn_eg qm 4 (s2 := (4, [(5, .int (0 : Int32)), (3, .long (0 : Int64)), (0, .ref a0), (1, .int a1), (2, .int a2)], [], N, sl, rn_hp S M)) rfl ?_
  refine rn_kq qm (s2 := (4, [(0, .ref a0), (1, .int a1), (2, .int a2), (3, .long (0 : Int64)), (5, .int (0 : Int32))], [], N, sl, rn_hp S M)) rfl rfl ?_
  refine E117_L4 rn_FU _ _ _ _ R ?_ h
  intro S6 w6_3 h
  refine rn_eg qm 1 (s2 := (31, [(3, .long w6_3)], [.long w6_3], N, sl, rn_hp S6 M)) rfl ?_
  cases h
  exact rn_er qm rfl rfl rfl
/-! 148: RecordNiches$Transfer.chosenAt(LRecordNiches$Node;LRecordNiches$Holding;I)I -/
def f148_L40 (b0 : Nat) (b4 : Int64) : Nat → rn_T → Int32 → (rn_T → Option Int32) → Option Int32
  | 0, _, _, _ => none
  | fu + 1, S, v6, k =>
    if (rI S b0 1) ≤ v6 then
      k S
    else
      if v6 = (rI S b0 13) then
        f148_L40 b0 b4 fu S (v6 + (1 : Int32)) k
      else
        if rn_ob v6 6 then none else
          rn_om (rP S (b0 + 1) (Int32.toNatClampNeg v6))
            (none)
            fun r16 =>
              if rn_kd r16 = 3 then
                if (lg_cmp (Int32.toInt64 (rI S r16 14)) b4) = 0 then
                  some v6
                else
                  f148_L40 b0 b4 fu S (v6 + (1 : Int32)) k
              else none
set_option maxHeartbeats 4000000 in
theorem E148_L40 {X : rn_X} {N sl : Nat} {M : rn_T} {b0 : Nat} {b4 : Int64} (hb0 : rn_kd b0 = 3) : ∀ (fu : Nat) (S : rn_T) (v6 : Int32) (k : (rn_T → Option Int32)) (R : (Int32)), (∀ (S : rn_T), k S = some R → rn_rv X 148 (61, [(0, .ref b0)], [], N, sl, rn_hp S M) (some (.int R), N, sl, rn_hp S M)) → f148_L40 b0 b4 fu S v6 k = some R → rn_rv X 148 (40, [(0, .ref b0), (4, .long b4), (6, .int v6)], [], N, sl, rn_hp S M) (some (.int R), N, sl, rn_hp S M) := by
  have qm := rn_m148
  intro fu
  induction fu with
  | zero => intro S v6 k R hk h; cases h
  | succ fu ih =>
    intro S v6 k R hk h
    unfold f148_L40 at h
    refine rn_eg qm 2 (s2 := (42, [(0, .ref b0), (4, .long b4), (6, .int v6)], [.ref b0, .int v6], N, sl, rn_hp S M)) rfl ?_
    refine rn_e1 qm (s2 := (43, [(0, .ref b0), (4, .long b4), (6, .int v6)], [.int (rI S b0 1), .int v6], N, sl, rn_hp S M)) (rn_g_getf rfl rfl (en_3 hb0) rfl) ?_
    refine rn_eg qm 1 (s2 := ((if (rI S b0 1) ≤ v6 then 61 else 44), [(0, .ref b0), (4, .long b4), (6, .int v6)], [], N, sl, rn_hp S M)) rfl ?_
    refine rn_ite (fun c13 => ?_) (fun c13 => ?_)
    · rw [if_pos c13] at h
      refine rn_kq qm (s2 := (61, [(0, .ref b0)], [], N, sl, rn_hp S M)) rfl rfl ?_
      exact hk _ h
    · rw [if_neg c13] at h
      refine rn_eg qm 2 (s2 := (46, [(0, .ref b0), (4, .long b4), (6, .int v6)], [.ref b0, .int v6], N, sl, rn_hp S M)) rfl ?_
      refine rn_e1 qm (s2 := (47, [(0, .ref b0), (4, .long b4), (6, .int v6)], [.int (rI S b0 13), .int v6], N, sl, rn_hp S M)) (rn_g_getf rfl rfl (en_3 hb0) rfl) ?_
      refine rn_eg qm 1 (s2 := ((if v6 = (rI S b0 13) then 59 else 48), [(0, .ref b0), (4, .long b4), (6, .int v6)], [], N, sl, rn_hp S M)) rfl ?_
      refine rn_ite (fun c14 => ?_) (fun c14 => ?_)
      · rw [if_pos c14] at h
        refine rn_eg qm 2 (s2 := (40, [(6, .int (v6 + (1 : Int32))), (0, .ref b0), (4, .long b4)], [], N, sl, rn_hp S M)) rfl ?_
        refine rn_kq qm (s2 := (40, [(0, .ref b0), (4, .long b4), (6, .int (v6 + (1 : Int32)))], [], N, sl, rn_hp S M)) rfl rfl ?_
        exact ih _ _ k R hk h
      · rw [if_neg c14] at h
        refine rn_eg qm 1 (s2 := (49, [(0, .ref b0), (4, .long b4), (6, .int v6)], [.ref b0], N, sl, rn_hp S M)) rfl ?_
        refine rn_e1 qm (s2 := (50, [(0, .ref b0), (4, .long b4), (6, .int v6)], [.ref (b0 + 1)], N, sl, rn_hp S M)) (rn_g_getf rfl rfl (en_3 hb0) rfl) ?_
        refine rn_eg qm 1 (s2 := (51, [(0, .ref b0), (4, .long b4), (6, .int v6)], [.int v6, .ref (b0 + 1)], N, sl, rn_hp S M)) rfl ?_
        have c15 : ¬ (rn_ob v6 6) := fun c => by rw [if_pos c] at h; cases h
        rw [if_neg c15] at h
        cases o17 : rP S (b0 + 1) (Int32.toNatClampNeg v6) with
        | none =>
          rw [rn_om_n o17] at h
          refine rn_e1 qm (s2 := (52, [(0, .ref b0), (4, .long b4), (6, .int v6)], [.null], N, sl, rn_hp S M)) (rn_g_aald (n := 6) (r := none) rfl rfl (ar_x14 (ko_3_0 hb0).1 (ko_3_0 hb0).2.1 (ko_3_0 hb0).2.2) c15 o17) ?_
          cases h
        | some r16 =>
          rw [rn_om_s o17] at h
          refine rn_e1 qm (s2 := (52, [(0, .ref b0), (4, .long b4), (6, .int v6)], [.ref r16], N, sl, rn_hp S M)) (rn_g_aald (n := 6) (r := some r16) rfl rfl (ar_x14 (ko_3_0 hb0).1 (ko_3_0 hb0).2.1 (ko_3_0 hb0).2.2) c15 o17) ?_
          have k18 : rn_kd r16 = 3 := Decidable.byContradiction fun c => by rw [if_neg c] at h; cases h
          rw [if_pos k18] at h
          refine rn_e1 qm (s2 := (53, [(0, .ref b0), (4, .long b4), (6, .int v6)], [.int (rI S r16 14)], N, sl, rn_hp S M)) (rn_g_getf rfl rfl (en_3 k18) rfl) ?_
          refine rn_eg qm 4 (s2 := ((if (lg_cmp (Int32.toInt64 (rI S r16 14)) b4) = 0 then 57 else 59), [(0, .ref b0), (4, .long b4), (6, .int v6)], [], N, sl, rn_hp S M)) rfl ?_
          refine rn_ite (fun c19 => ?_) (fun c19 => ?_)
          · rw [if_pos c19] at h
            refine rn_eg qm 1 (s2 := (58, [(0, .ref b0), (4, .long b4), (6, .int v6)], [.int v6], N, sl, rn_hp S M)) rfl ?_
            cases h
            exact rn_er qm rfl rfl rfl
          · rw [if_neg c19] at h
            refine rn_eg qm 2 (s2 := (40, [(6, .int (v6 + (1 : Int32))), (0, .ref b0), (4, .long b4)], [], N, sl, rn_hp S M)) rfl ?_
            refine rn_kq qm (s2 := (40, [(0, .ref b0), (4, .long b4), (6, .int (v6 + (1 : Int32)))], [], N, sl, rn_hp S M)) rfl rfl ?_
            exact ih _ _ k R hk h
def f148 (S : rn_T) (a0 : Nat) (a1 : Nat) (a2 : Int32) : Option Int32 :=
  if rn_kd a0 = 3 then
    if (rI S a0 12) = 0 then
      some (0 : Int32)
    else
      if (rI S a0 12) = (2 : Int32) then
        if rn_kd a1 = 1 then
          Option.bind (f117 S a1 a2 (1 : Int32)) fun p5 =>
            if (rI S a0 1) ≤ (Int64.toInt32 p5) then
              some (-1 : Int32)
            else
              some (Int64.toInt32 p5)
        else none
      else
        if rn_ob (rI S a0 13) 6 then none else
          rn_om (rP S (a0 + 1) (Int32.toNatClampNeg (rI S a0 13)))
            (none)
            fun r8 =>
              if rn_kd r8 = 3 then
                if rn_kd a1 = 1 then
                  Option.bind (f117 S a1 (a2 + (rI S r8 8)) (rI S r8 9)) fun p12 =>
                    f148_L40 a0 p12 rn_FU S (0 : Int32) (fun S20 =>
                      some (rI S20 a0 13))
                else none
              else none
  else none
set_option maxHeartbeats 4000000 in
theorem E148 {X : rn_X} {N sl : Nat} {S M : rn_T} {a0 : Nat} {a1 : Nat} {a2 : Int32} {R : (Int32)} (h : f148 S a0 a1 a2 = some R) : rn_rv X 148 (0, [(0, .ref a0), (1, .ref a1), (2, .int a2)], [], N, sl, rn_hp S M) (some (.int R), N, sl, rn_hp S M) := by
  have qm := rn_m148
  unfold f148 at h
  refine rn_eg qm 1 (s2 := (1, [(0, .ref a0), (1, .ref a1), (2, .int a2)], [.ref a0], N, sl, rn_hp S M)) rfl ?_
  have k1 : rn_kd a0 = 3 := Decidable.byContradiction fun c => by rw [if_neg c] at h; cases h
  rw [if_pos k1] at h
  refine rn_e1 qm (s2 := (2, [(0, .ref a0), (1, .ref a1), (2, .int a2)], [.int (rI S a0 12)], N, sl, rn_hp S M)) (rn_g_getf rfl rfl (en_3 k1) rfl) ?_
  refine rn_eg qm 1 (s2 := ((if (rI S a0 12) = 0 then 3 else 5), [(0, .ref a0), (1, .ref a1), (2, .int a2)], [], N, sl, rn_hp S M)) rfl ?_
  refine rn_ite (fun c2 => ?_) (fun c2 => ?_)
  · rw [if_pos c2] at h
    refine rn_eg qm 1 (s2 := (4, [(0, .ref a0), (1, .ref a1), (2, .int a2)], [.int (0 : Int32)], N, sl, rn_hp S M)) rfl ?_
    cases h
    exact rn_er qm rfl rfl rfl
  · rw [if_neg c2] at h
    refine rn_eg qm 1 (s2 := (6, [(0, .ref a0), (1, .ref a1), (2, .int a2)], [.ref a0], N, sl, rn_hp S M)) rfl ?_
    refine rn_e1 qm (s2 := (7, [(0, .ref a0), (1, .ref a1), (2, .int a2)], [.int (rI S a0 12)], N, sl, rn_hp S M)) (rn_g_getf rfl rfl (en_3 k1) rfl) ?_
    refine rn_eg qm 2 (s2 := ((if (rI S a0 12) = (2 : Int32) then 9 else 23), [(0, .ref a0), (1, .ref a1), (2, .int a2)], [], N, sl, rn_hp S M)) rfl ?_
    refine rn_ite (fun c3 => ?_) (fun c3 => ?_)
    · rw [if_pos c3] at h
      refine rn_eg qm 3 (s2 := (12, [(0, .ref a0), (1, .ref a1), (2, .int a2)], [.int (1 : Int32), .int a2, .ref a1], N, sl, rn_hp S M)) rfl ?_
      have k4 : rn_kd a1 = 1 := Decidable.byContradiction fun c => by rw [if_neg c] at h; cases h
      rw [if_pos k4] at h
      obtain ⟨p5, hp5, h⟩ := Option.bind_eq_some_iff.mp h
      refine rn_ec qm rfl rfl rfl rfl rn_m117 rfl rfl rfl (fun _ => rn_rc_of (en_1 k4)) (E117 hp5) ?_
      refine rn_eg qm 0 (s2 := (13, [(0, .ref a0), (1, .ref a1), (2, .int a2)], [.long p5], N, sl, rn_hp S M)) rfl ?_
      refine rn_eg qm 4 (s2 := (17, [(3, .int (Int64.toInt32 p5)), (0, .ref a0), (1, .ref a1), (2, .int a2)], [.ref a0, .int (Int64.toInt32 p5)], N, sl, rn_hp S M)) rfl ?_
      refine rn_e1 qm (s2 := (18, [(3, .int (Int64.toInt32 p5)), (0, .ref a0), (1, .ref a1), (2, .int a2)], [.int (rI S a0 1), .int (Int64.toInt32 p5)], N, sl, rn_hp S M)) (rn_g_getf rfl rfl (en_3 k1) rfl) ?_
      refine rn_eg qm 1 (s2 := ((if (rI S a0 1) ≤ (Int64.toInt32 p5) then 21 else 19), [(3, .int (Int64.toInt32 p5)), (0, .ref a0), (1, .ref a1), (2, .int a2)], [], N, sl, rn_hp S M)) rfl ?_
      refine rn_ite (fun c6 => ?_) (fun c6 => ?_)
      · rw [if_pos c6] at h
        refine rn_eg qm 1 (s2 := (22, [(3, .int (Int64.toInt32 p5)), (0, .ref a0), (1, .ref a1), (2, .int a2)], [.int (-1 : Int32)], N, sl, rn_hp S M)) rfl ?_
        cases h
        exact rn_er qm rfl rfl rfl
      · rw [if_neg c6] at h
        refine rn_eg qm 2 (s2 := (22, [(3, .int (Int64.toInt32 p5)), (0, .ref a0), (1, .ref a1), (2, .int a2)], [.int (Int64.toInt32 p5)], N, sl, rn_hp S M)) rfl ?_
        cases h
        exact rn_er qm rfl rfl rfl
    · rw [if_neg c3] at h
      refine rn_eg qm 1 (s2 := (24, [(0, .ref a0), (1, .ref a1), (2, .int a2)], [.ref a0], N, sl, rn_hp S M)) rfl ?_
      refine rn_e1 qm (s2 := (25, [(0, .ref a0), (1, .ref a1), (2, .int a2)], [.ref (a0 + 1)], N, sl, rn_hp S M)) (rn_g_getf rfl rfl (en_3 k1) rfl) ?_
      refine rn_eg qm 1 (s2 := (26, [(0, .ref a0), (1, .ref a1), (2, .int a2)], [.ref a0, .ref (a0 + 1)], N, sl, rn_hp S M)) rfl ?_
      refine rn_e1 qm (s2 := (27, [(0, .ref a0), (1, .ref a1), (2, .int a2)], [.int (rI S a0 13), .ref (a0 + 1)], N, sl, rn_hp S M)) (rn_g_getf rfl rfl (en_3 k1) rfl) ?_
      have c7 : ¬ (rn_ob (rI S a0 13) 6) := fun c => by rw [if_pos c] at h; cases h
      rw [if_neg c7] at h
      cases o9 : rP S (a0 + 1) (Int32.toNatClampNeg (rI S a0 13)) with
      | none =>
        rw [rn_om_n o9] at h
        refine rn_e1 qm (s2 := (28, [(0, .ref a0), (1, .ref a1), (2, .int a2)], [.null], N, sl, rn_hp S M)) (rn_g_aald (n := 6) (r := none) rfl rfl (ar_x14 (ko_3_0 k1).1 (ko_3_0 k1).2.1 (ko_3_0 k1).2.2) c7 o9) ?_
        cases h
      | some r8 =>
        rw [rn_om_s o9] at h
        refine rn_e1 qm (s2 := (28, [(0, .ref a0), (1, .ref a1), (2, .int a2)], [.ref r8], N, sl, rn_hp S M)) (rn_g_aald (n := 6) (r := some r8) rfl rfl (ar_x14 (ko_3_0 k1).1 (ko_3_0 k1).2.1 (ko_3_0 k1).2.2) c7 o9) ?_
        refine rn_eg qm 4 (s2 := (32, [(3, .ref r8), (0, .ref a0), (1, .ref a1), (2, .int a2)], [.ref r8, .int a2, .ref a1], N, sl, rn_hp S M)) rfl ?_
        have k10 : rn_kd r8 = 3 := Decidable.byContradiction fun c => by rw [if_neg c] at h; cases h
        rw [if_pos k10] at h
        refine rn_e1 qm (s2 := (33, [(3, .ref r8), (0, .ref a0), (1, .ref a1), (2, .int a2)], [.int (rI S r8 8), .int a2, .ref a1], N, sl, rn_hp S M)) (rn_g_getf rfl rfl (en_3 k10) rfl) ?_
        refine rn_eg qm 2 (s2 := (35, [(3, .ref r8), (0, .ref a0), (1, .ref a1), (2, .int a2)], [.ref r8, .int (a2 + (rI S r8 8)), .ref a1], N, sl, rn_hp S M)) rfl ?_
        refine rn_e1 qm (s2 := (36, [(3, .ref r8), (0, .ref a0), (1, .ref a1), (2, .int a2)], [.int (rI S r8 9), .int (a2 + (rI S r8 8)), .ref a1], N, sl, rn_hp S M)) (rn_g_getf rfl rfl (en_3 k10) rfl) ?_
        have k11 : rn_kd a1 = 1 := Decidable.byContradiction fun c => by rw [if_neg c] at h; cases h
        rw [if_pos k11] at h
        obtain ⟨p12, hp12, h⟩ := Option.bind_eq_some_iff.mp h
        refine rn_ec qm rfl rfl rfl rfl rn_m117 rfl rfl rfl (fun _ => rn_rc_of (en_1 k11)) (E117 hp12) ?_
        refine rn_eg qm 0 (s2 := (37, [(3, .ref r8), (0, .ref a0), (1, .ref a1), (2, .int a2)], [.long p12], N, sl, rn_hp S M)) rfl ?_
        refine rn_eg qm 3 (s2 := (40, [(6, .int (0 : Int32)), (4, .long p12), (3, .ref r8), (0, .ref a0), (1, .ref a1), (2, .int a2)], [], N, sl, rn_hp S M)) rfl ?_
        refine rn_kq qm (s2 := (40, [(0, .ref a0), (4, .long p12), (6, .int (0 : Int32))], [], N, sl, rn_hp S M)) rfl rfl ?_
        refine E148_L40 k1 rn_FU _ _ _ R ?_ h
        intro S20 h
        refine rn_eg qm 1 (s2 := (62, [(0, .ref a0)], [.ref a0], N, sl, rn_hp S20 M)) rfl ?_
        refine rn_e1 qm (s2 := (63, [(0, .ref a0)], [.int (rI S20 a0 13)], N, sl, rn_hp S20 M)) (rn_g_getf rfl rfl (en_3 k1) rfl) ?_
        cases h
        exact rn_er qm rfl rfl rfl
/-! 147: RecordNiches$Transfer.load(LRecordNiches$Tree;LRecordNiches$Holding;I)Z -/
def f147_J44_5 (S : rn_T) (u2 : Nat) (u3 : Int32) (u4 : Int32) (u5 : Nat) (t0 : Int64) (rc : (rn_T → Int32 → Option (Bool × rn_T))) (k : (rn_T → Option (Bool × rn_T))) : Option (Bool × rn_T) :=
  Option.bind (f132 S u5 t0) fun p10 =>
    if p10 = true then
      Option.bind (f152 S u5 t0) fun p12 =>
        rc p12 (u4 + (1 : Int32))
    else
      some (false, S)
set_option maxHeartbeats 4000000 in
theorem E147_J44_5 {X : rn_X} {N sl : Nat} {M : rn_T} {S : rn_T} {u2 : Nat} {u3 : Int32} {u4 : Int32} {u5 : Nat} {t0 : Int64} {R : (Bool × rn_T)} (hu5 : rn_kd u5 = 3) {rc : (rn_T → Int32 → Option (Bool × rn_T))} (hrc : ∀ (S : rn_T) (v4 : Int32), rc S v4 = some R → rn_rv X 147 (5, [(0, .ref 276), (1, .ref 66), (2, .ref u2), (3, .int u3), (4, .int v4)], [], N, sl, rn_hp S M) (some (.int (rn_bi R.1)), N, sl, rn_hp R.2 M)) {k : (rn_T → Option (Bool × rn_T))} (hk : ∀ (S : rn_T), k S = some R → rn_rv X 147 (57, [], [], N, sl, rn_hp S M) (some (.int (rn_bi R.1)), N, sl, rn_hp R.2 M)) (h : f147_J44_5 S u2 u3 u4 u5 t0 rc k = some R) : rn_rv X 147 (44, [(0, .ref 276), (1, .ref 66), (2, .ref u2), (3, .int u3), (4, .int u4), (5, .ref u5)], [.long t0], N, sl, rn_hp S M) (some (.int (rn_bi R.1)), N, sl, rn_hp R.2 M) := by
  have qm := rn_m147
  unfold f147_J44_5 at h
  refine rn_eg qm 3 (s2 := (47, [(7, .long t0), (0, .ref 276), (1, .ref 66), (2, .ref u2), (3, .int u3), (4, .int u4), (5, .ref u5)], [.long t0, .ref u5], N, sl, rn_hp S M)) rfl ?_
  obtain ⟨p10, hp10, h⟩ := Option.bind_eq_some_iff.mp h
  refine rn_ec qm rfl rfl rfl rfl rn_m132 rfl rfl rfl (fun _ => rn_rc_of (en_3 hu5)) (E132 hp10) ?_
  refine rn_eg qm 0 (s2 := (48, [(7, .long t0), (0, .ref 276), (1, .ref 66), (2, .ref u2), (3, .int u3), (4, .int u4), (5, .ref u5)], [.int (rn_bi p10)], N, sl, rn_hp S M)) rfl ?_
  refine rn_eg qm 1 (s2 := ((if (rn_bi p10) = 0 then 49 else 51), [(7, .long t0), (0, .ref 276), (1, .ref 66), (2, .ref u2), (3, .int u3), (4, .int u4), (5, .ref u5)], [], N, sl, rn_hp S M)) rfl ?_
  refine rn_iteb (fun c11 => ?_) (fun c11 => ?_)
  · rw [if_neg (rn_bf c11)] at h
    refine rn_eg qm 1 (s2 := (50, [(7, .long t0), (0, .ref 276), (1, .ref 66), (2, .ref u2), (3, .int u3), (4, .int u4), (5, .ref u5)], [.int (0 : Int32)], N, sl, rn_hp S M)) rfl ?_
    cases h
    exact rn_er qm rfl rfl rn_rt0
  · rw [if_pos c11] at h
    refine rn_eg qm 3 (s2 := (54, [(7, .long t0), (0, .ref 276), (1, .ref 66), (2, .ref u2), (3, .int u3), (4, .int u4), (5, .ref u5)], [.long t0, .ref u5, .ref 276], N, sl, rn_hp S M)) rfl ?_
    obtain ⟨p12, hp12, h⟩ := Option.bind_eq_some_iff.mp h
    refine rn_ec qm rfl rfl rfl rfl rn_m152 rfl rfl rfl (fun _ => rn_rc_of (en_6 (q := 276) rfl)) (E152 hp12) ?_
    refine rn_eg qm 0 (s2 := (55, [(7, .long t0), (0, .ref 276), (1, .ref 66), (2, .ref u2), (3, .int u3), (4, .int u4), (5, .ref u5)], [], N, sl, rn_hp p12 M)) rfl ?_
    refine rn_eg qm 2 (s2 := (5, [(4, .int (u4 + (1 : Int32))), (0, .ref 276), (1, .ref 66), (2, .ref u2), (3, .int u3)], [], N, sl, rn_hp p12 M)) rfl ?_
    refine rn_kq qm (s2 := (5, [(0, .ref 276), (1, .ref 66), (2, .ref u2), (3, .int u3), (4, .int (u4 + (1 : Int32)))], [], N, sl, rn_hp p12 M)) rfl rfl ?_
    exact hrc _ _ h
def f147_L5 (b2 : Nat) (b3 : Int32) : Nat → rn_T → Int32 → (rn_T → Option (Bool × rn_T)) → Option (Bool × rn_T)
  | 0, _, _, _ => none
  | fu + 1, S, v4, k =>
    if (rI S 66 0) ≤ v4 then
      k S
    else
      Option.bind (f155 S v4) fun p2 =>
        Option.bind (f150 S p2) fun p3 =>
          if rn_kd p2 = 3 then
            if (rI (wI S p2 17 (rn_bi p3)) p2 17) = 0 then
              f147_L5 b2 b3 fu (wI S p2 17 (rn_bi p3)) (v4 + (1 : Int32)) k
            else
              Option.bind (f151 (wI S p2 17 (rn_bi p3)) p2) fun p6 =>
                if p6 = true then
                  if (rI (wI S p2 17 (rn_bi p3)) p2 4) = (6 : Int32) then
                    Option.bind (f148 (wI S p2 17 (rn_bi p3)) p2 b2 (b3 + (rI (wI S p2 17 (rn_bi p3)) p2 15))) fun p9 =>
                      f147_J44_5 (wI S p2 17 (rn_bi p3)) b2 b3 v4 p2 (Int32.toInt64 p9) (fun S v4 => f147_L5 b2 b3 fu S v4 k) k
                  else
                    if rn_kd b2 = 1 then
                      Option.bind (f117 (wI S p2 17 (rn_bi p3)) b2 (b3 + (rI (wI S p2 17 (rn_bi p3)) p2 15)) (rI (wI S p2 17 (rn_bi p3)) p2 5)) fun p14 =>
                        f147_J44_5 (wI S p2 17 (rn_bi p3)) b2 b3 v4 p2 p14 (fun S v4 => f147_L5 b2 b3 fu S v4 k) k
                    else none
                else
                  f147_L5 b2 b3 fu (wI S p2 17 (rn_bi p3)) (v4 + (1 : Int32)) k
          else none
set_option maxHeartbeats 4000000 in
theorem E147_L5 {X : rn_X} {N sl : Nat} {M : rn_T} {b2 : Nat} {b3 : Int32} : ∀ (fu : Nat) (S : rn_T) (v4 : Int32) (k : (rn_T → Option (Bool × rn_T))) (R : (Bool × rn_T)), (∀ (S : rn_T), k S = some R → rn_rv X 147 (57, [], [], N, sl, rn_hp S M) (some (.int (rn_bi R.1)), N, sl, rn_hp R.2 M)) → f147_L5 b2 b3 fu S v4 k = some R → rn_rv X 147 (5, [(0, .ref 276), (1, .ref 66), (2, .ref b2), (3, .int b3), (4, .int v4)], [], N, sl, rn_hp S M) (some (.int (rn_bi R.1)), N, sl, rn_hp R.2 M) := by
  have qm := rn_m147
  intro fu
  induction fu with
  | zero => intro S v4 k R hk h; cases h
  | succ fu ih =>
    intro S v4 k R hk h
    unfold f147_L5 at h
    refine rn_eg qm 4 (s2 := ((if (rI S 66 0) ≤ v4 then 57 else 9), [(0, .ref 276), (1, .ref 66), (2, .ref b2), (3, .int b3), (4, .int v4)], [], N, sl, rn_hp S M)) rfl ?_
    refine rn_ite (fun c1 => ?_) (fun c1 => ?_)
    · rw [if_pos c1] at h
      refine rn_kq qm (s2 := (57, [], [], N, sl, rn_hp S M)) rfl rfl ?_
      exact hk _ h
    · rw [if_neg c1] at h
      refine rn_eg qm 2 (s2 := (11, [(0, .ref 276), (1, .ref 66), (2, .ref b2), (3, .int b3), (4, .int v4)], [.int v4, .ref 66], N, sl, rn_hp S M)) rfl ?_
      obtain ⟨p2, hp2, h⟩ := Option.bind_eq_some_iff.mp h
      refine rn_ec qm rfl rfl rfl rfl rn_m155 rfl rfl rfl (fun _ => rn_rc_of (en_7 (q := 66) rfl)) (E155 hp2) ?_
      refine rn_eg qm 0 (s2 := (12, [(0, .ref 276), (1, .ref 66), (2, .ref b2), (3, .int b3), (4, .int v4)], [.ref p2], N, sl, rn_hp S M)) rfl ?_
      refine rn_eg qm 3 (s2 := (15, [(5, .ref p2), (0, .ref 276), (1, .ref 66), (2, .ref b2), (3, .int b3), (4, .int v4)], [.ref p2, .ref p2], N, sl, rn_hp S M)) rfl ?_
      obtain ⟨p3, hp3, h⟩ := Option.bind_eq_some_iff.mp h
      refine rn_ec qm rfl rfl rfl rfl rn_m150 rfl rfl rfl (fun h => by cases h) (E150 hp3) ?_
      refine rn_eg qm 0 (s2 := (16, [(5, .ref p2), (0, .ref 276), (1, .ref 66), (2, .ref b2), (3, .int b3), (4, .int v4)], [.int (rn_bi p3), .ref p2], N, sl, rn_hp S M)) rfl ?_
      have k4 : rn_kd p2 = 3 := Decidable.byContradiction fun c => by rw [if_neg c] at h; cases h
      rw [if_pos k4] at h
      refine rn_e1 qm (s2 := (17, [(5, .ref p2), (0, .ref 276), (1, .ref 66), (2, .ref b2), (3, .int b3), (4, .int v4)], [], N, sl, rn_hp (wI S p2 17 (rn_bi p3)) M)) (rn_g_putf rfl rfl (en_3 k4) (rn_tyb _) rfl rfl (wf_3_17 (v := (rn_bi p3)) k4)) ?_
      refine rn_eg qm 1 (s2 := (18, [(5, .ref p2), (0, .ref 276), (1, .ref 66), (2, .ref b2), (3, .int b3), (4, .int v4)], [.ref p2], N, sl, rn_hp (wI S p2 17 (rn_bi p3)) M)) rfl ?_
      refine rn_e1 qm (s2 := (19, [(5, .ref p2), (0, .ref 276), (1, .ref 66), (2, .ref b2), (3, .int b3), (4, .int v4)], [.int (rI (wI S p2 17 (rn_bi p3)) p2 17)], N, sl, rn_hp (wI S p2 17 (rn_bi p3)) M)) (rn_g_getf rfl rfl (en_3 k4) rfl) ?_
      refine rn_eg qm 1 (s2 := ((if (rI (wI S p2 17 (rn_bi p3)) p2 17) = 0 then 55 else 20), [(5, .ref p2), (0, .ref 276), (1, .ref 66), (2, .ref b2), (3, .int b3), (4, .int v4)], [], N, sl, rn_hp (wI S p2 17 (rn_bi p3)) M)) rfl ?_
      refine rn_ite (fun c5 => ?_) (fun c5 => ?_)
      · rw [if_pos c5] at h
        refine rn_eg qm 2 (s2 := (5, [(4, .int (v4 + (1 : Int32))), (0, .ref 276), (1, .ref 66), (2, .ref b2), (3, .int b3)], [], N, sl, rn_hp (wI S p2 17 (rn_bi p3)) M)) rfl ?_
        refine rn_kq qm (s2 := (5, [(0, .ref 276), (1, .ref 66), (2, .ref b2), (3, .int b3), (4, .int (v4 + (1 : Int32)))], [], N, sl, rn_hp (wI S p2 17 (rn_bi p3)) M)) rfl rfl ?_
        exact ih _ _ k R hk h
      · rw [if_neg c5] at h
        refine rn_eg qm 1 (s2 := (21, [(5, .ref p2), (0, .ref 276), (1, .ref 66), (2, .ref b2), (3, .int b3), (4, .int v4)], [.ref p2], N, sl, rn_hp (wI S p2 17 (rn_bi p3)) M)) rfl ?_
        obtain ⟨p6, hp6, h⟩ := Option.bind_eq_some_iff.mp h
        refine rn_ec qm rfl rfl rfl rfl rn_m151 rfl rfl rfl (fun h => by cases h) (E151 hp6) ?_
        refine rn_eg qm 0 (s2 := (22, [(5, .ref p2), (0, .ref 276), (1, .ref 66), (2, .ref b2), (3, .int b3), (4, .int v4)], [.int (rn_bi p6)], N, sl, rn_hp (wI S p2 17 (rn_bi p3)) M)) rfl ?_
        refine rn_eg qm 1 (s2 := ((if (rn_bi p6) = 0 then 23 else 24), [(5, .ref p2), (0, .ref 276), (1, .ref 66), (2, .ref b2), (3, .int b3), (4, .int v4)], [], N, sl, rn_hp (wI S p2 17 (rn_bi p3)) M)) rfl ?_
        refine rn_iteb (fun c7 => ?_) (fun c7 => ?_)
        · rw [if_neg (rn_bf c7)] at h
          refine rn_eg qm 3 (s2 := (5, [(4, .int (v4 + (1 : Int32))), (0, .ref 276), (1, .ref 66), (2, .ref b2), (3, .int b3)], [], N, sl, rn_hp (wI S p2 17 (rn_bi p3)) M)) rfl ?_
          refine rn_kq qm (s2 := (5, [(0, .ref 276), (1, .ref 66), (2, .ref b2), (3, .int b3), (4, .int (v4 + (1 : Int32)))], [], N, sl, rn_hp (wI S p2 17 (rn_bi p3)) M)) rfl rfl ?_
          exact ih _ _ k R hk h
        · rw [if_pos c7] at h
          refine rn_eg qm 2 (s2 := (26, [(5, .ref p2), (0, .ref 276), (1, .ref 66), (2, .ref b2), (3, .int b3), (4, .int v4)], [.ref p2, .int b3], N, sl, rn_hp (wI S p2 17 (rn_bi p3)) M)) rfl ?_
          refine rn_e1 qm (s2 := (27, [(5, .ref p2), (0, .ref 276), (1, .ref 66), (2, .ref b2), (3, .int b3), (4, .int v4)], [.int (rI (wI S p2 17 (rn_bi p3)) p2 15), .int b3], N, sl, rn_hp (wI S p2 17 (rn_bi p3)) M)) (rn_g_getf rfl rfl (en_3 k4) rfl) ?_
          refine rn_eg qm 3 (s2 := (30, [(6, .int (b3 + (rI (wI S p2 17 (rn_bi p3)) p2 15))), (5, .ref p2), (0, .ref 276), (1, .ref 66), (2, .ref b2), (3, .int b3), (4, .int v4)], [.ref p2], N, sl, rn_hp (wI S p2 17 (rn_bi p3)) M)) rfl ?_
          refine rn_e1 qm (s2 := (31, [(6, .int (b3 + (rI (wI S p2 17 (rn_bi p3)) p2 15))), (5, .ref p2), (0, .ref 276), (1, .ref 66), (2, .ref b2), (3, .int b3), (4, .int v4)], [.int (rI (wI S p2 17 (rn_bi p3)) p2 4)], N, sl, rn_hp (wI S p2 17 (rn_bi p3)) M)) (rn_g_getf rfl rfl (en_3 k4) rfl) ?_
          refine rn_eg qm 2 (s2 := ((if (rI (wI S p2 17 (rn_bi p3)) p2 4) = (6 : Int32) then 33 else 39), [(6, .int (b3 + (rI (wI S p2 17 (rn_bi p3)) p2 15))), (5, .ref p2), (0, .ref 276), (1, .ref 66), (2, .ref b2), (3, .int b3), (4, .int v4)], [], N, sl, rn_hp (wI S p2 17 (rn_bi p3)) M)) rfl ?_
          refine rn_ite (fun c8 => ?_) (fun c8 => ?_)
          · rw [if_pos c8] at h
            refine rn_eg qm 3 (s2 := (36, [(6, .int (b3 + (rI (wI S p2 17 (rn_bi p3)) p2 15))), (5, .ref p2), (0, .ref 276), (1, .ref 66), (2, .ref b2), (3, .int b3), (4, .int v4)], [.int (b3 + (rI (wI S p2 17 (rn_bi p3)) p2 15)), .ref b2, .ref p2], N, sl, rn_hp (wI S p2 17 (rn_bi p3)) M)) rfl ?_
            obtain ⟨p9, hp9, h⟩ := Option.bind_eq_some_iff.mp h
            refine rn_ec qm rfl rfl rfl rfl rn_m148 rfl rfl rfl (fun h => by cases h) (E148 hp9) ?_
            refine rn_eg qm 0 (s2 := (37, [(6, .int (b3 + (rI (wI S p2 17 (rn_bi p3)) p2 15))), (5, .ref p2), (0, .ref 276), (1, .ref 66), (2, .ref b2), (3, .int b3), (4, .int v4)], [.int p9], N, sl, rn_hp (wI S p2 17 (rn_bi p3)) M)) rfl ?_
            refine rn_eg qm 2 (s2 := (44, [(6, .int (b3 + (rI (wI S p2 17 (rn_bi p3)) p2 15))), (5, .ref p2), (0, .ref 276), (1, .ref 66), (2, .ref b2), (3, .int b3), (4, .int v4)], [.long (Int32.toInt64 p9)], N, sl, rn_hp (wI S p2 17 (rn_bi p3)) M)) rfl ?_
            refine rn_kq qm (s2 := (44, [(0, .ref 276), (1, .ref 66), (2, .ref b2), (3, .int b3), (4, .int v4), (5, .ref p2)], [.long (Int32.toInt64 p9)], N, sl, rn_hp (wI S p2 17 (rn_bi p3)) M)) rfl rfl ?_
            exact E147_J44_5 k4 (fun S v4 h => ih S v4 k R hk h) hk h
          · rw [if_neg c8] at h
            refine rn_eg qm 3 (s2 := (42, [(6, .int (b3 + (rI (wI S p2 17 (rn_bi p3)) p2 15))), (5, .ref p2), (0, .ref 276), (1, .ref 66), (2, .ref b2), (3, .int b3), (4, .int v4)], [.ref p2, .int (b3 + (rI (wI S p2 17 (rn_bi p3)) p2 15)), .ref b2], N, sl, rn_hp (wI S p2 17 (rn_bi p3)) M)) rfl ?_
            refine rn_e1 qm (s2 := (43, [(6, .int (b3 + (rI (wI S p2 17 (rn_bi p3)) p2 15))), (5, .ref p2), (0, .ref 276), (1, .ref 66), (2, .ref b2), (3, .int b3), (4, .int v4)], [.int (rI (wI S p2 17 (rn_bi p3)) p2 5), .int (b3 + (rI (wI S p2 17 (rn_bi p3)) p2 15)), .ref b2], N, sl, rn_hp (wI S p2 17 (rn_bi p3)) M)) (rn_g_getf rfl rfl (en_3 k4) rfl) ?_
            have k13 : rn_kd b2 = 1 := Decidable.byContradiction fun c => by rw [if_neg c] at h; cases h
            rw [if_pos k13] at h
            obtain ⟨p14, hp14, h⟩ := Option.bind_eq_some_iff.mp h
            refine rn_ec qm rfl rfl rfl rfl rn_m117 rfl rfl rfl (fun _ => rn_rc_of (en_1 k13)) (E117 hp14) ?_
            refine rn_eg qm 0 (s2 := (44, [(6, .int (b3 + (rI (wI S p2 17 (rn_bi p3)) p2 15))), (5, .ref p2), (0, .ref 276), (1, .ref 66), (2, .ref b2), (3, .int b3), (4, .int v4)], [.long p14], N, sl, rn_hp (wI S p2 17 (rn_bi p3)) M)) rfl ?_
            refine rn_kq qm (s2 := (44, [(0, .ref 276), (1, .ref 66), (2, .ref b2), (3, .int b3), (4, .int v4), (5, .ref p2)], [.long p14], N, sl, rn_hp (wI S p2 17 (rn_bi p3)) M)) rfl rfl ?_
            exact E147_J44_5 k4 (fun S v4 h => ih S v4 k R hk h) hk h
def f147 (S : rn_T) (a2 : Nat) (a3 : Int32) : Option (Bool × rn_T) :=
  f147_L5 a2 a3 rn_FU (wI S 276 1 (0 : Int32)) (0 : Int32) (fun S15 =>
    some (true, S15))
set_option maxHeartbeats 4000000 in
theorem E147 {X : rn_X} {N sl : Nat} {S M : rn_T} {a2 : Nat} {a3 : Int32} {R : (Bool × rn_T)} (h : f147 S a2 a3 = some R) : rn_rv X 147 (0, [(0, .ref 276), (1, .ref 66), (2, .ref a2), (3, .int a3)], [], N, sl, rn_hp S M) (some (.int (rn_bi R.1)), N, sl, rn_hp R.2 M) := by
  have qm := rn_m147
  unfold f147 at h
  refine rn_eg qm 2 (s2 := (2, [(0, .ref 276), (1, .ref 66), (2, .ref a2), (3, .int a3)], [.int (0 : Int32), .ref 276], N, sl, rn_hp S M)) rfl ?_
  refine rn_e1 qm (s2 := (3, [(0, .ref 276), (1, .ref 66), (2, .ref a2), (3, .int a3)], [], N, sl, rn_hp (wI S 276 1 (0 : Int32)) M)) (rn_g_putf rfl rfl (en_6 rfl) rfl rfl rfl (wf_6_1 (v := (0 : Int32)) rfl)) ?_
  refine rn_eg qm 2 (s2 := (5, [(4, .int (0 : Int32)), (0, .ref 276), (1, .ref 66), (2, .ref a2), (3, .int a3)], [], N, sl, rn_hp (wI S 276 1 (0 : Int32)) M)) rfl ?_
  refine rn_kq qm (s2 := (5, [(0, .ref 276), (1, .ref 66), (2, .ref a2), (3, .int a3), (4, .int (0 : Int32))], [], N, sl, rn_hp (wI S 276 1 (0 : Int32)) M)) rfl rfl ?_
  refine E147_L5 rn_FU _ _ _ R ?_ h
  intro S15 h
  refine rn_eg qm 1 (s2 := (58, [], [.int (1 : Int32)], N, sl, rn_hp S15 M)) rfl ?_
  cases h
  exact rn_er qm rfl rfl rn_rt1
/-! 15: RecordNiches.read(III)I -/
def f15_L42 : Nat → rn_T → Int32 → (rn_T → Option (Int32 × rn_T)) → Option (Int32 × rn_T)
  | 0, _, _, _ => none
  | fu + 1, S, v5, k =>
    if (rI S 276 1) ≤ v5 then
      k S
    else
      if rn_ob v5 100 then none else
        if rn_ob v5 60 then none else
          f15_L42 fu (wL S 3 (Int32.toNatClampNeg v5) (rL S 277 (Int32.toNatClampNeg v5))) (v5 + (1 : Int32)) k
set_option maxHeartbeats 4000000 in
theorem E15_L42 {X : rn_X} {N sl : Nat} {M : rn_T} : ∀ (fu : Nat) (S : rn_T) (v5 : Int32) (k : (rn_T → Option (Int32 × rn_T))) (R : (Int32 × rn_T)), (∀ (S : rn_T), k S = some R → rn_rv X 15 (59, [(0, .ref 0)], [], N, sl, rn_hp S M) (some (.int R.1), N, sl, rn_hp R.2 M)) → f15_L42 fu S v5 k = some R → rn_rv X 15 (42, [(0, .ref 0), (5, .int v5)], [], N, sl, rn_hp S M) (some (.int R.1), N, sl, rn_hp R.2 M) := by
  have qm := rn_m15
  intro fu
  induction fu with
  | zero => intro S v5 k R hk h; cases h
  | succ fu ih =>
    intro S v5 k R hk h
    unfold f15_L42 at h
    refine rn_eg qm 5 (s2 := ((if (rI S 276 1) ≤ v5 then 59 else 47), [(0, .ref 0), (5, .int v5)], [], N, sl, rn_hp S M)) rfl ?_
    refine rn_ite (fun c10 => ?_) (fun c10 => ?_)
    · rw [if_pos c10] at h
      refine rn_kq qm (s2 := (59, [(0, .ref 0)], [], N, sl, rn_hp S M)) rfl rfl ?_
      exact hk _ h
    · rw [if_neg c10] at h
      refine rn_eg qm 8 (s2 := (55, [(0, .ref 0), (5, .int v5)], [.int v5, .ref 277, .int v5, .ref 3], N, sl, rn_hp S M)) rfl ?_
      have c11 : ¬ (rn_ob v5 100) := fun c => by rw [if_pos c] at h; cases h
      rw [if_neg c11] at h
      refine rn_e1 qm (s2 := (56, [(0, .ref 0), (5, .int v5)], [.long (rL S 277 (Int32.toNatClampNeg v5)), .int v5, .ref 3], N, sl, rn_hp S M)) (rn_g_lald (n := 100) rfl rfl (ar_x11 rfl rfl (Nat.le_of_ble_eq_true rfl)) c11) ?_
      have c12 : ¬ (rn_ob v5 60) := fun c => by rw [if_pos c] at h; cases h
      rw [if_neg c12] at h
      refine rn_e1 qm (s2 := (57, [(0, .ref 0), (5, .int v5)], [], N, sl, rn_hp (wL S 3 (Int32.toNatClampNeg v5) (rL S 277 (Int32.toNatClampNeg v5))) M)) (rn_g_last (n := 60) rfl rfl (ar_x11 rfl rfl (Nat.le_of_ble_eq_true rfl)) c12 (aw_x11 rfl rfl (Nat.le_of_ble_eq_true rfl))) ?_
      refine rn_eg qm 2 (s2 := (42, [(5, .int (v5 + (1 : Int32))), (0, .ref 0)], [], N, sl, rn_hp (wL S 3 (Int32.toNatClampNeg v5) (rL S 277 (Int32.toNatClampNeg v5))) M)) rfl ?_
      refine rn_kq qm (s2 := (42, [(0, .ref 0), (5, .int (v5 + (1 : Int32)))], [], N, sl, rn_hp (wL S 3 (Int32.toNatClampNeg v5) (rL S 277 (Int32.toNatClampNeg v5))) M)) rfl rfl ?_
      exact ih _ _ k R hk h
def f15 (S : rn_T) (a1 : Int32) (a2 : Int32) (a3 : Int32) : Option (Int32 × rn_T) :=
  Option.bind (f23 S a1 a2) fun p1 =>
    if p1 = true then
      Option.bind (f24 S a1 a2) fun p3 =>
        if p3.1 = 0 then
          Option.bind (f25 p3.2 a3) fun p5 =>
            if p5 = true then
              Option.bind (f147 p3.2 1 a3) fun p7 =>
                if p7.1 = true then
                  if (rI p7.2 276 1) ≤ (60 : Int32) then
                    f15_L42 rn_FU p7.2 (0 : Int32) (fun S13 =>
                      some ((rI (wI S13 1 3 (rI S13 276 1)) 1 3), wI S13 1 3 (rI S13 276 1)))
                  else
                    some ((-4 : Int32), p7.2)
                else
                  some ((-3 : Int32), p7.2)
            else
              some ((-2 : Int32), p3.2)
        else
          some (p3.1, p3.2)
    else
      some ((-1 : Int32), S)
set_option maxHeartbeats 4000000 in
theorem E15 {X : rn_X} {N sl : Nat} {S M : rn_T} {a1 : Int32} {a2 : Int32} {a3 : Int32} {R : (Int32 × rn_T)} (h : f15 S a1 a2 a3 = some R) : rn_rv X 15 (0, [(0, .ref 0), (1, .int a1), (2, .int a2), (3, .int a3)], [], N, sl, rn_hp S M) (some (.int R.1), N, sl, rn_hp R.2 M) := by
  have qm := rn_m15
  unfold f15 at h
  refine rn_eg qm 3 (s2 := (3, [(0, .ref 0), (1, .int a1), (2, .int a2), (3, .int a3)], [.int a2, .int a1, .ref 0], N, sl, rn_hp S M)) rfl ?_
  obtain ⟨p1, hp1, h⟩ := Option.bind_eq_some_iff.mp h
  refine rn_ec qm rfl rfl rfl rfl rn_m23 rfl rfl rfl (fun _ => rn_rc_of (en_8 (q := 0) rfl)) (E23 hp1) ?_
  refine rn_eg qm 0 (s2 := (4, [(0, .ref 0), (1, .int a1), (2, .int a2), (3, .int a3)], [.int (rn_bi p1)], N, sl, rn_hp S M)) rfl ?_
  refine rn_eg qm 1 (s2 := ((if (rn_bi p1) = 0 then 5 else 7), [(0, .ref 0), (1, .int a1), (2, .int a2), (3, .int a3)], [], N, sl, rn_hp S M)) rfl ?_
  refine rn_iteb (fun c2 => ?_) (fun c2 => ?_)
  · rw [if_neg (rn_bf c2)] at h
    refine rn_eg qm 1 (s2 := (6, [(0, .ref 0), (1, .int a1), (2, .int a2), (3, .int a3)], [.int (-1 : Int32)], N, sl, rn_hp S M)) rfl ?_
    cases h
    exact rn_er qm rfl rfl rfl
  · rw [if_pos c2] at h
    refine rn_eg qm 3 (s2 := (10, [(0, .ref 0), (1, .int a1), (2, .int a2), (3, .int a3)], [.int a2, .int a1, .ref 0], N, sl, rn_hp S M)) rfl ?_
    obtain ⟨p3, hp3, h⟩ := Option.bind_eq_some_iff.mp h
    refine rn_ec qm rfl rfl rfl rfl rn_m24 rfl rfl rfl (fun _ => rn_rc_of (en_8 (q := 0) rfl)) (E24 hp3) ?_
    refine rn_eg qm 0 (s2 := (11, [(0, .ref 0), (1, .int a1), (2, .int a2), (3, .int a3)], [.int p3.1], N, sl, rn_hp p3.2 M)) rfl ?_
    refine rn_eg qm 3 (s2 := ((if p3.1 = 0 then 16 else 14), [(4, .int p3.1), (0, .ref 0), (1, .int a1), (2, .int a2), (3, .int a3)], [], N, sl, rn_hp p3.2 M)) rfl ?_
    refine rn_ite (fun c4 => ?_) (fun c4 => ?_)
    · rw [if_pos c4] at h
      refine rn_eg qm 2 (s2 := (18, [(4, .int p3.1), (0, .ref 0), (1, .int a1), (2, .int a2), (3, .int a3)], [.int a3, .ref 0], N, sl, rn_hp p3.2 M)) rfl ?_
      obtain ⟨p5, hp5, h⟩ := Option.bind_eq_some_iff.mp h
      refine rn_ec qm rfl rfl rfl rfl rn_m25 rfl rfl rfl (fun _ => rn_rc_of (en_8 (q := 0) rfl)) (E25 hp5) ?_
      refine rn_eg qm 0 (s2 := (19, [(4, .int p3.1), (0, .ref 0), (1, .int a1), (2, .int a2), (3, .int a3)], [.int (rn_bi p5)], N, sl, rn_hp p3.2 M)) rfl ?_
      refine rn_eg qm 1 (s2 := ((if (rn_bi p5) = 0 then 20 else 22), [(4, .int p3.1), (0, .ref 0), (1, .int a1), (2, .int a2), (3, .int a3)], [], N, sl, rn_hp p3.2 M)) rfl ?_
      refine rn_iteb (fun c6 => ?_) (fun c6 => ?_)
      · rw [if_neg (rn_bf c6)] at h
        refine rn_eg qm 1 (s2 := (21, [(4, .int p3.1), (0, .ref 0), (1, .int a1), (2, .int a2), (3, .int a3)], [.int (-2 : Int32)], N, sl, rn_hp p3.2 M)) rfl ?_
        cases h
        exact rn_er qm rfl rfl rfl
      · rw [if_pos c6] at h
        refine rn_eg qm 7 (s2 := (29, [(4, .int p3.1), (0, .ref 0), (1, .int a1), (2, .int a2), (3, .int a3)], [.int a3, .ref 1, .ref 66, .ref 276], N, sl, rn_hp p3.2 M)) rfl ?_
        obtain ⟨p7, hp7, h⟩ := Option.bind_eq_some_iff.mp h
        refine rn_ec qm rfl rfl rfl rfl rn_m147 rfl rfl rfl (fun _ => rn_rc_of (en_6 (q := 276) rfl)) (E147 hp7) ?_
        refine rn_eg qm 0 (s2 := (30, [(4, .int p3.1), (0, .ref 0), (1, .int a1), (2, .int a2), (3, .int a3)], [.int (rn_bi p7.1)], N, sl, rn_hp p7.2 M)) rfl ?_
        refine rn_eg qm 1 (s2 := ((if (rn_bi p7.1) = 0 then 31 else 33), [(4, .int p3.1), (0, .ref 0), (1, .int a1), (2, .int a2), (3, .int a3)], [], N, sl, rn_hp p7.2 M)) rfl ?_
        refine rn_iteb (fun c8 => ?_) (fun c8 => ?_)
        · rw [if_neg (rn_bf c8)] at h
          refine rn_eg qm 1 (s2 := (32, [(4, .int p3.1), (0, .ref 0), (1, .int a1), (2, .int a2), (3, .int a3)], [.int (-3 : Int32)], N, sl, rn_hp p7.2 M)) rfl ?_
          cases h
          exact rn_er qm rfl rfl rfl
        · rw [if_pos c8] at h
          refine rn_eg qm 5 (s2 := ((if (rI p7.2 276 1) ≤ (60 : Int32) then 40 else 38), [(4, .int p3.1), (0, .ref 0), (1, .int a1), (2, .int a2), (3, .int a3)], [], N, sl, rn_hp p7.2 M)) rfl ?_
          refine rn_ite (fun c9 => ?_) (fun c9 => ?_)
          · rw [if_pos c9] at h
            refine rn_eg qm 2 (s2 := (42, [(5, .int (0 : Int32)), (4, .int p3.1), (0, .ref 0), (1, .int a1), (2, .int a2), (3, .int a3)], [], N, sl, rn_hp p7.2 M)) rfl ?_
            refine rn_kq qm (s2 := (42, [(0, .ref 0), (5, .int (0 : Int32))], [], N, sl, rn_hp p7.2 M)) rfl rfl ?_
            refine E15_L42 rn_FU _ _ _ R ?_ h
            intro S13 h
            refine rn_eg qm 5 (s2 := (64, [(0, .ref 0)], [.int (rI S13 276 1), .ref 1], N, sl, rn_hp S13 M)) rfl ?_
            refine rn_e1 qm (s2 := (65, [(0, .ref 0)], [], N, sl, rn_hp (wI S13 1 3 (rI S13 276 1)) M)) (rn_g_putf rfl rfl (en_1 rfl) rfl rfl rfl (wf_1_3 (v := (rI S13 276 1)) rfl)) ?_
            refine rn_eg qm 3 (s2 := (68, [(0, .ref 0)], [.int (rI (wI S13 1 3 (rI S13 276 1)) 1 3)], N, sl, rn_hp (wI S13 1 3 (rI S13 276 1)) M)) rfl ?_
            cases h
            exact rn_er qm rfl rfl rfl
          · rw [if_neg c9] at h
            refine rn_eg qm 1 (s2 := (39, [(4, .int p3.1), (0, .ref 0), (1, .int a1), (2, .int a2), (3, .int a3)], [.int (-4 : Int32)], N, sl, rn_hp p7.2 M)) rfl ?_
            cases h
            exact rn_er qm rfl rfl rfl
    · rw [if_neg c4] at h
      refine rn_eg qm 1 (s2 := (15, [(4, .int p3.1), (0, .ref 0), (1, .int a1), (2, .int a2), (3, .int a3)], [.int p3.1], N, sl, rn_hp p3.2 M)) rfl ?_
      cases h
      exact rn_er qm rfl rfl rfl
/-! 16: RecordNiches.which(III)I -/
def f16 (S : rn_T) (a1 : Int32) (a2 : Int32) (a3 : Int32) : Option (Int32 × rn_T) :=
  Option.bind (f23 S a1 a2) fun p1 =>
    if p1 = true then
      Option.bind (f24 S a1 a2) fun p3 =>
        if p3.1 = 0 then
          Option.bind (f25 p3.2 a3) fun p5 =>
            if p5 = true then
              if rn_kd (f154 p3.2) = 3 then
                if (rI p3.2 (f154 p3.2) 4) = (6 : Int32) then
                  Option.bind (f148 p3.2 (f154 p3.2) 1 a3) fun p10 =>
                    if 0 ≤ p10 then
                      some (p10, p3.2)
                    else
                      some ((-3 : Int32), p3.2)
                else
                  some ((-6 : Int32), p3.2)
              else none
            else
              some ((-2 : Int32), p3.2)
        else
          some (p3.1, p3.2)
    else
      some ((-1 : Int32), S)
set_option maxHeartbeats 4000000 in
theorem E16 {X : rn_X} {N sl : Nat} {S M : rn_T} {a1 : Int32} {a2 : Int32} {a3 : Int32} {R : (Int32 × rn_T)} (h : f16 S a1 a2 a3 = some R) : rn_rv X 16 (0, [(0, .ref 0), (1, .int a1), (2, .int a2), (3, .int a3)], [], N, sl, rn_hp S M) (some (.int R.1), N, sl, rn_hp R.2 M) := by
  have qm := rn_m16
  unfold f16 at h
  refine rn_eg qm 3 (s2 := (3, [(0, .ref 0), (1, .int a1), (2, .int a2), (3, .int a3)], [.int a2, .int a1, .ref 0], N, sl, rn_hp S M)) rfl ?_
  obtain ⟨p1, hp1, h⟩ := Option.bind_eq_some_iff.mp h
  refine rn_ec qm rfl rfl rfl rfl rn_m23 rfl rfl rfl (fun _ => rn_rc_of (en_8 (q := 0) rfl)) (E23 hp1) ?_
  refine rn_eg qm 0 (s2 := (4, [(0, .ref 0), (1, .int a1), (2, .int a2), (3, .int a3)], [.int (rn_bi p1)], N, sl, rn_hp S M)) rfl ?_
  refine rn_eg qm 1 (s2 := ((if (rn_bi p1) = 0 then 5 else 7), [(0, .ref 0), (1, .int a1), (2, .int a2), (3, .int a3)], [], N, sl, rn_hp S M)) rfl ?_
  refine rn_iteb (fun c2 => ?_) (fun c2 => ?_)
  · rw [if_neg (rn_bf c2)] at h
    refine rn_eg qm 1 (s2 := (6, [(0, .ref 0), (1, .int a1), (2, .int a2), (3, .int a3)], [.int (-1 : Int32)], N, sl, rn_hp S M)) rfl ?_
    cases h
    exact rn_er qm rfl rfl rfl
  · rw [if_pos c2] at h
    refine rn_eg qm 3 (s2 := (10, [(0, .ref 0), (1, .int a1), (2, .int a2), (3, .int a3)], [.int a2, .int a1, .ref 0], N, sl, rn_hp S M)) rfl ?_
    obtain ⟨p3, hp3, h⟩ := Option.bind_eq_some_iff.mp h
    refine rn_ec qm rfl rfl rfl rfl rn_m24 rfl rfl rfl (fun _ => rn_rc_of (en_8 (q := 0) rfl)) (E24 hp3) ?_
    refine rn_eg qm 0 (s2 := (11, [(0, .ref 0), (1, .int a1), (2, .int a2), (3, .int a3)], [.int p3.1], N, sl, rn_hp p3.2 M)) rfl ?_
    refine rn_eg qm 3 (s2 := ((if p3.1 = 0 then 16 else 14), [(4, .int p3.1), (0, .ref 0), (1, .int a1), (2, .int a2), (3, .int a3)], [], N, sl, rn_hp p3.2 M)) rfl ?_
    refine rn_ite (fun c4 => ?_) (fun c4 => ?_)
    · rw [if_pos c4] at h
      refine rn_eg qm 2 (s2 := (18, [(4, .int p3.1), (0, .ref 0), (1, .int a1), (2, .int a2), (3, .int a3)], [.int a3, .ref 0], N, sl, rn_hp p3.2 M)) rfl ?_
      obtain ⟨p5, hp5, h⟩ := Option.bind_eq_some_iff.mp h
      refine rn_ec qm rfl rfl rfl rfl rn_m25 rfl rfl rfl (fun _ => rn_rc_of (en_8 (q := 0) rfl)) (E25 hp5) ?_
      refine rn_eg qm 0 (s2 := (19, [(4, .int p3.1), (0, .ref 0), (1, .int a1), (2, .int a2), (3, .int a3)], [.int (rn_bi p5)], N, sl, rn_hp p3.2 M)) rfl ?_
      refine rn_eg qm 1 (s2 := ((if (rn_bi p5) = 0 then 20 else 22), [(4, .int p3.1), (0, .ref 0), (1, .int a1), (2, .int a2), (3, .int a3)], [], N, sl, rn_hp p3.2 M)) rfl ?_
      refine rn_iteb (fun c6 => ?_) (fun c6 => ?_)
      · rw [if_neg (rn_bf c6)] at h
        refine rn_eg qm 1 (s2 := (21, [(4, .int p3.1), (0, .ref 0), (1, .int a1), (2, .int a2), (3, .int a3)], [.int (-2 : Int32)], N, sl, rn_hp p3.2 M)) rfl ?_
        cases h
        exact rn_er qm rfl rfl rfl
      · rw [if_pos c6] at h
        refine rn_eg qm 2 (s2 := (24, [(4, .int p3.1), (0, .ref 0), (1, .int a1), (2, .int a2), (3, .int a3)], [.ref 66], N, sl, rn_hp p3.2 M)) rfl ?_
        refine rn_ec qm rfl rfl rfl rfl rn_m154 rfl rfl rfl (fun _ => rn_rc_of (en_7 (q := 66) rfl)) (E154 rfl) ?_
        refine rn_eg qm 0 (s2 := (25, [(4, .int p3.1), (0, .ref 0), (1, .int a1), (2, .int a2), (3, .int a3)], [.ref (f154 p3.2)], N, sl, rn_hp p3.2 M)) rfl ?_
        refine rn_eg qm 2 (s2 := (27, [(5, .ref (f154 p3.2)), (4, .int p3.1), (0, .ref 0), (1, .int a1), (2, .int a2), (3, .int a3)], [.ref (f154 p3.2)], N, sl, rn_hp p3.2 M)) rfl ?_
        have k8 : rn_kd (f154 p3.2) = 3 := Decidable.byContradiction fun c => by rw [if_neg c] at h; cases h
        rw [if_pos k8] at h
        refine rn_e1 qm (s2 := (28, [(5, .ref (f154 p3.2)), (4, .int p3.1), (0, .ref 0), (1, .int a1), (2, .int a2), (3, .int a3)], [.int (rI p3.2 (f154 p3.2) 4)], N, sl, rn_hp p3.2 M)) (rn_g_getf rfl rfl (en_3 k8) rfl) ?_
        refine rn_eg qm 2 (s2 := ((if (rI p3.2 (f154 p3.2) 4) = (6 : Int32) then 32 else 30), [(5, .ref (f154 p3.2)), (4, .int p3.1), (0, .ref 0), (1, .int a1), (2, .int a2), (3, .int a3)], [], N, sl, rn_hp p3.2 M)) rfl ?_
        refine rn_ite (fun c9 => ?_) (fun c9 => ?_)
        · rw [if_pos c9] at h
          refine rn_eg qm 4 (s2 := (36, [(5, .ref (f154 p3.2)), (4, .int p3.1), (0, .ref 0), (1, .int a1), (2, .int a2), (3, .int a3)], [.int a3, .ref 1, .ref (f154 p3.2)], N, sl, rn_hp p3.2 M)) rfl ?_
          obtain ⟨p10, hp10, h⟩ := Option.bind_eq_some_iff.mp h
          refine rn_ec qm rfl rfl rfl rfl rn_m148 rfl rfl rfl (fun h => by cases h) (E148 hp10) ?_
          refine rn_eg qm 0 (s2 := (37, [(5, .ref (f154 p3.2)), (4, .int p3.1), (0, .ref 0), (1, .int a1), (2, .int a2), (3, .int a3)], [.int p10], N, sl, rn_hp p3.2 M)) rfl ?_
          refine rn_eg qm 3 (s2 := ((if 0 ≤ p10 then 42 else 40), [(6, .int p10), (5, .ref (f154 p3.2)), (4, .int p3.1), (0, .ref 0), (1, .int a1), (2, .int a2), (3, .int a3)], [], N, sl, rn_hp p3.2 M)) rfl ?_
          refine rn_ite (fun c11 => ?_) (fun c11 => ?_)
          · rw [if_pos c11] at h
            refine rn_eg qm 1 (s2 := (43, [(6, .int p10), (5, .ref (f154 p3.2)), (4, .int p3.1), (0, .ref 0), (1, .int a1), (2, .int a2), (3, .int a3)], [.int p10], N, sl, rn_hp p3.2 M)) rfl ?_
            cases h
            exact rn_er qm rfl rfl rfl
          · rw [if_neg c11] at h
            refine rn_eg qm 2 (s2 := (43, [(6, .int p10), (5, .ref (f154 p3.2)), (4, .int p3.1), (0, .ref 0), (1, .int a1), (2, .int a2), (3, .int a3)], [.int (-3 : Int32)], N, sl, rn_hp p3.2 M)) rfl ?_
            cases h
            exact rn_er qm rfl rfl rfl
        · rw [if_neg c9] at h
          refine rn_eg qm 1 (s2 := (31, [(5, .ref (f154 p3.2)), (4, .int p3.1), (0, .ref 0), (1, .int a1), (2, .int a2), (3, .int a3)], [.int (-6 : Int32)], N, sl, rn_hp p3.2 M)) rfl ?_
          cases h
          exact rn_er qm rfl rfl rfl
    · rw [if_neg c4] at h
      refine rn_eg qm 1 (s2 := (15, [(4, .int p3.1), (0, .ref 0), (1, .int a1), (2, .int a2), (3, .int a3)], [.int p3.1], N, sl, rn_hp p3.2 M)) rfl ?_
      cases h
      exact rn_er qm rfl rfl rfl
/-! 17: RecordNiches.poke(II)I -/
def f17 (S : rn_T) (a1 : Int32) (a2 : Int32) : Option (Int32 × rn_T) :=
  if a1 < 0 then
    some ((-2 : Int32), S)
  else
    if (96 : Int32) ≤ a1 then
      some ((-2 : Int32), S)
    else
      if a2 < 0 then
        some ((-2 : Int32), S)
      else
        if a2 ≤ (255 : Int32) then
          if rn_ob a1 96 then none else
            some ((rA S 4 (Int32.toNatClampNeg a1)), wA S 4 (Int32.toNatClampNeg a1) a2)
        else
          some ((-2 : Int32), S)
set_option maxHeartbeats 4000000 in
theorem E17 {X : rn_X} {N sl : Nat} {S M : rn_T} {a1 : Int32} {a2 : Int32} {R : (Int32 × rn_T)} (h : f17 S a1 a2 = some R) : rn_rv X 17 (0, [(0, .ref 0), (1, .int a1), (2, .int a2)], [], N, sl, rn_hp S M) (some (.int R.1), N, sl, rn_hp R.2 M) := by
  have qm := rn_m17
  unfold f17 at h
  refine rn_eg qm 2 (s2 := ((if a1 < 0 then 10 else 2), [(0, .ref 0), (1, .int a1), (2, .int a2)], [], N, sl, rn_hp S M)) rfl ?_
  refine rn_ite (fun c1 => ?_) (fun c1 => ?_)
  · rw [if_pos c1] at h
    refine rn_eg qm 1 (s2 := (11, [], [.int (-2 : Int32)], N, sl, rn_hp S M)) rfl ?_
    cases h
    exact rn_er qm rfl rfl rfl
  · rw [if_neg c1] at h
    refine rn_eg qm 3 (s2 := ((if (96 : Int32) ≤ a1 then 10 else 5), [(0, .ref 0), (1, .int a1), (2, .int a2)], [], N, sl, rn_hp S M)) rfl ?_
    refine rn_ite (fun c2 => ?_) (fun c2 => ?_)
    · rw [if_pos c2] at h
      refine rn_eg qm 1 (s2 := (11, [], [.int (-2 : Int32)], N, sl, rn_hp S M)) rfl ?_
      cases h
      exact rn_er qm rfl rfl rfl
    · rw [if_neg c2] at h
      refine rn_eg qm 2 (s2 := ((if a2 < 0 then 10 else 7), [(0, .ref 0), (1, .int a1), (2, .int a2)], [], N, sl, rn_hp S M)) rfl ?_
      refine rn_ite (fun c3 => ?_) (fun c3 => ?_)
      · rw [if_pos c3] at h
        refine rn_eg qm 1 (s2 := (11, [], [.int (-2 : Int32)], N, sl, rn_hp S M)) rfl ?_
        cases h
        exact rn_er qm rfl rfl rfl
      · rw [if_neg c3] at h
        refine rn_eg qm 3 (s2 := ((if a2 ≤ (255 : Int32) then 12 else 10), [(0, .ref 0), (1, .int a1), (2, .int a2)], [], N, sl, rn_hp S M)) rfl ?_
        refine rn_ite (fun c4 => ?_) (fun c4 => ?_)
        · rw [if_pos c4] at h
          refine rn_eg qm 4 (s2 := (16, [(0, .ref 0), (1, .int a1), (2, .int a2)], [.int a1, .ref 4], N, sl, rn_hp S M)) rfl ?_
          have c5 : ¬ (rn_ob a1 96) := fun c => by rw [if_pos c] at h; cases h
          rw [if_neg c5] at h
          refine rn_e1 qm (s2 := (17, [(0, .ref 0), (1, .int a1), (2, .int a2)], [.int (rA S 4 (Int32.toNatClampNeg a1))], N, sl, rn_hp S M)) (rn_g_iald (n := 96) rfl rfl (ar_x10 rfl rfl (Nat.le_of_ble_eq_true rfl)) c5) ?_
          refine rn_eg qm 6 (s2 := (23, [(3, .int (rA S 4 (Int32.toNatClampNeg a1))), (0, .ref 0), (1, .int a1), (2, .int a2)], [.int a2, .int a1, .ref 4], N, sl, rn_hp S M)) rfl ?_
          refine rn_e1 qm (s2 := (24, [(3, .int (rA S 4 (Int32.toNatClampNeg a1))), (0, .ref 0), (1, .int a1), (2, .int a2)], [], N, sl, rn_hp (wA S 4 (Int32.toNatClampNeg a1) a2) M)) (rn_g_iast (n := 96) rfl rfl (ar_x10 rfl rfl (Nat.le_of_ble_eq_true rfl)) c5 (aw_x10 rfl rfl (Nat.le_of_ble_eq_true rfl))) ?_
          refine rn_eg qm 1 (s2 := (25, [(3, .int (rA S 4 (Int32.toNatClampNeg a1))), (0, .ref 0), (1, .int a1), (2, .int a2)], [.int (rA S 4 (Int32.toNatClampNeg a1))], N, sl, rn_hp (wA S 4 (Int32.toNatClampNeg a1) a2) M)) rfl ?_
          cases h
          exact rn_er qm rfl rfl rfl
        · rw [if_neg c4] at h
          refine rn_eg qm 1 (s2 := (11, [], [.int (-2 : Int32)], N, sl, rn_hp S M)) rfl ?_
          cases h
          exact rn_er qm rfl rfl rfl
/-! 18: RecordNiches.peek(I)I -/
def f18 (S : rn_T) (a1 : Int32) : Option Int32 :=
  if a1 < 0 then
    some (-2 : Int32)
  else
    if a1 < (96 : Int32) then
      if rn_ob a1 96 then none else
        some (rA S 4 (Int32.toNatClampNeg a1))
    else
      some (-2 : Int32)
set_option maxHeartbeats 4000000 in
theorem E18 {X : rn_X} {N sl : Nat} {S M : rn_T} {a1 : Int32} {R : (Int32)} (h : f18 S a1 = some R) : rn_rv X 18 (0, [(0, .ref 0), (1, .int a1)], [], N, sl, rn_hp S M) (some (.int R), N, sl, rn_hp S M) := by
  have qm := rn_m18
  unfold f18 at h
  refine rn_eg qm 2 (s2 := ((if a1 < 0 then 5 else 2), [(0, .ref 0), (1, .int a1)], [], N, sl, rn_hp S M)) rfl ?_
  refine rn_ite (fun c1 => ?_) (fun c1 => ?_)
  · rw [if_pos c1] at h
    refine rn_eg qm 1 (s2 := (6, [], [.int (-2 : Int32)], N, sl, rn_hp S M)) rfl ?_
    cases h
    exact rn_er qm rfl rfl rfl
  · rw [if_neg c1] at h
    refine rn_eg qm 3 (s2 := ((if a1 < (96 : Int32) then 7 else 5), [(0, .ref 0), (1, .int a1)], [], N, sl, rn_hp S M)) rfl ?_
    refine rn_ite (fun c2 => ?_) (fun c2 => ?_)
    · rw [if_pos c2] at h
      refine rn_eg qm 4 (s2 := (11, [(0, .ref 0), (1, .int a1)], [.int a1, .ref 4], N, sl, rn_hp S M)) rfl ?_
      have c3 : ¬ (rn_ob a1 96) := fun c => by rw [if_pos c] at h; cases h
      rw [if_neg c3] at h
      refine rn_e1 qm (s2 := (12, [(0, .ref 0), (1, .int a1)], [.int (rA S 4 (Int32.toNatClampNeg a1))], N, sl, rn_hp S M)) (rn_g_iald (n := 96) rfl rfl (ar_x10 rfl rfl (Nat.le_of_ble_eq_true rfl)) c3) ?_
      cases h
      exact rn_er qm rfl rfl rfl
    · rw [if_neg c2] at h
      refine rn_eg qm 1 (s2 := (6, [], [.int (-2 : Int32)], N, sl, rn_hp S M)) rfl ?_
      cases h
      exact rn_er qm rfl rfl rfl
/-! 143: RecordNiches$Text.copyFrom(LRecordNiches$Text;)V -/
def f143 (S : rn_T) (a0 : Nat) (a1 : Nat) : Option (rn_T) :=
  if rn_kd a1 = 5 then
    if rn_kd a0 = 5 then
      some (wI (wAc S (a0 + 1) (va_cpy (rA S (a1 + 1)) (rA S (a0 + 1)) 0 0 40)) a0 1 (rI (wAc S (a0 + 1) (va_cpy (rA S (a1 + 1)) (rA S (a0 + 1)) 0 0 40)) a1 1))
    else none
  else none
set_option maxHeartbeats 4000000 in
theorem E143 {X : rn_X} {N sl : Nat} {S M : rn_T} {a0 : Nat} {a1 : Nat} {R : (rn_T)} (h : f143 S a0 a1 = some R) : rn_rv X 143 (0, [(0, .ref a0), (1, .ref a1)], [], N, sl, rn_hp S M) (none, N, sl, rn_hp R M) := by
  have qm := rn_m143
  unfold f143 at h
  refine rn_eg qm 1 (s2 := (1, [(0, .ref a0), (1, .ref a1)], [.ref a1], N, sl, rn_hp S M)) rfl ?_
  have k1 : rn_kd a1 = 5 := Decidable.byContradiction fun c => by rw [if_neg c] at h; cases h
  rw [if_pos k1] at h
  refine rn_e1 qm (s2 := (2, [(0, .ref a0), (1, .ref a1)], [.ref (a1 + 1)], N, sl, rn_hp S M)) (rn_g_getf rfl rfl (en_5 k1) rfl) ?_
  refine rn_eg qm 2 (s2 := (4, [(0, .ref a0), (1, .ref a1)], [.ref a0, .int (0 : Int32), .ref (a1 + 1)], N, sl, rn_hp S M)) rfl ?_
  have k2 : rn_kd a0 = 5 := Decidable.byContradiction fun c => by rw [if_neg c] at h; cases h
  rw [if_pos k2] at h
  refine rn_e1 qm (s2 := (5, [(0, .ref a0), (1, .ref a1)], [.ref (a0 + 1), .int (0 : Int32), .ref (a1 + 1)], N, sl, rn_hp S M)) (rn_g_getf rfl rfl (en_5 k2) rfl) ?_
  refine rn_eg qm 2 (s2 := (7, [(0, .ref a0), (1, .ref a1)], [.int (40 : Int32), .int (0 : Int32), .ref (a0 + 1), .int (0 : Int32), .ref (a1 + 1)], N, sl, rn_hp S M)) rfl ?_
  refine rn_e1 qm (s2 := (8, [(0, .ref a0), (1, .ref a1)], [], N, sl, rn_hp (wAc S (a0 + 1) (va_cpy (rA S (a1 + 1)) (rA S (a0 + 1)) 0 0 40)) M)) (rn_g_cpi (n0 := 40) (n1 := 40) (m := 40) rfl rfl (ar_x10 (ko_5_0 k1).1 (ko_5_0 k1).2.1 (ko_5_0 k1).2.2) (ar_x10 (ko_5_0 k2).1 (ko_5_0 k2).2.1 (ko_5_0 k2).2.2) rfl (by decide) (by decide) rfl rfl (ac_x10 (ko_5_0 k2).1 (ko_5_0 k2).2.1 (ko_5_0 k2).2.2)) ?_
  refine rn_eg qm 2 (s2 := (10, [(0, .ref a0), (1, .ref a1)], [.ref a1, .ref a0], N, sl, rn_hp (wAc S (a0 + 1) (va_cpy (rA S (a1 + 1)) (rA S (a0 + 1)) 0 0 40)) M)) rfl ?_
  refine rn_e1 qm (s2 := (11, [(0, .ref a0), (1, .ref a1)], [.int (rI (wAc S (a0 + 1) (va_cpy (rA S (a1 + 1)) (rA S (a0 + 1)) 0 0 40)) a1 1), .ref a0], N, sl, rn_hp (wAc S (a0 + 1) (va_cpy (rA S (a1 + 1)) (rA S (a0 + 1)) 0 0 40)) M)) (rn_g_getf rfl rfl (en_5 k1) rfl) ?_
  refine rn_e1 qm (s2 := (12, [(0, .ref a0), (1, .ref a1)], [], N, sl, rn_hp (wI (wAc S (a0 + 1) (va_cpy (rA S (a1 + 1)) (rA S (a0 + 1)) 0 0 40)) a0 1 (rI (wAc S (a0 + 1) (va_cpy (rA S (a1 + 1)) (rA S (a0 + 1)) 0 0 40)) a1 1)) M)) (rn_g_putf rfl rfl (en_5 k2) rfl rfl rfl (wf_5_1 (v := (rI (wAc S (a0 + 1) (va_cpy (rA S (a1 + 1)) (rA S (a0 + 1)) 0 0 40)) a1 1)) k2)) ?_
  cases h
  exact rn_er qm rfl rfl rfl
/-! 113: RecordNiches$Holding.copyFrom(LRecordNiches$Holding;)V -/
def f113_L2 (b0 : Nat) (b1 : Nat) : Nat → rn_T → Int32 → (rn_T → Option (rn_T)) → Option (rn_T)
  | 0, _, _, _ => none
  | fu + 1, S, v2, k =>
    if (8 : Int32) ≤ v2 then
      k S
    else
      if rn_kd b0 = 1 then
        if rn_ob v2 8 then none else
          if rn_kd b1 = 1 then
            Option.bind (f143 S (b0 + 4 + 2 * (Int32.toNatClampNeg v2)) (b1 + 4 + 2 * (Int32.toNatClampNeg v2))) fun p5 =>
              f113_L2 b0 b1 fu p5 (v2 + (1 : Int32)) k
          else none
      else none
set_option maxHeartbeats 4000000 in
theorem E113_L2 {X : rn_X} {N sl : Nat} {M : rn_T} {b0 : Nat} {b1 : Nat} : ∀ (fu : Nat) (S : rn_T) (v2 : Int32) (k : (rn_T → Option (rn_T))) (R : (rn_T)), (∀ (S : rn_T), k S = some R → rn_rv X 113 (16, [(0, .ref b0), (1, .ref b1)], [], N, sl, rn_hp S M) (none, N, sl, rn_hp R M)) → f113_L2 b0 b1 fu S v2 k = some R → rn_rv X 113 (2, [(0, .ref b0), (1, .ref b1), (2, .int v2)], [], N, sl, rn_hp S M) (none, N, sl, rn_hp R M) := by
  have qm := rn_m113
  intro fu
  induction fu with
  | zero => intro S v2 k R hk h; cases h
  | succ fu ih =>
    intro S v2 k R hk h
    unfold f113_L2 at h
    refine rn_eg qm 3 (s2 := ((if (8 : Int32) ≤ v2 then 16 else 5), [(0, .ref b0), (1, .ref b1), (2, .int v2)], [], N, sl, rn_hp S M)) rfl ?_
    refine rn_ite (fun c1 => ?_) (fun c1 => ?_)
    · rw [if_pos c1] at h
      refine rn_kq qm (s2 := (16, [(0, .ref b0), (1, .ref b1)], [], N, sl, rn_hp S M)) rfl rfl ?_
      exact hk _ h
    · rw [if_neg c1] at h
      refine rn_eg qm 1 (s2 := (6, [(0, .ref b0), (1, .ref b1), (2, .int v2)], [.ref b0], N, sl, rn_hp S M)) rfl ?_
      have k2 : rn_kd b0 = 1 := Decidable.byContradiction fun c => by rw [if_neg c] at h; cases h
      rw [if_pos k2] at h
      refine rn_e1 qm (s2 := (7, [(0, .ref b0), (1, .ref b1), (2, .int v2)], [.ref (b0 + 1)], N, sl, rn_hp S M)) (rn_g_getf rfl rfl (en_1 k2) rfl) ?_
      refine rn_eg qm 1 (s2 := (8, [(0, .ref b0), (1, .ref b1), (2, .int v2)], [.int v2, .ref (b0 + 1)], N, sl, rn_hp S M)) rfl ?_
      have c3 : ¬ (rn_ob v2 8) := fun c => by rw [if_pos c] at h; cases h
      rw [if_neg c3] at h
      refine rn_e1 qm (s2 := (9, [(0, .ref b0), (1, .ref b1), (2, .int v2)], [.ref (b0 + 4 + 2 * (Int32.toNatClampNeg v2))], N, sl, rn_hp S M)) (rn_g_aald (r := some (b0 + 4 + 2 * (Int32.toNatClampNeg v2))) rfl rfl (ar_x20 (ko_1_0 k2).1 (ko_1_0 k2).2.2) c3 (rn_cr_at (rn_ob_lt c3))) ?_
      refine rn_eg qm 1 (s2 := (10, [(0, .ref b0), (1, .ref b1), (2, .int v2)], [.ref b1, .ref (b0 + 4 + 2 * (Int32.toNatClampNeg v2))], N, sl, rn_hp S M)) rfl ?_
      have k4 : rn_kd b1 = 1 := Decidable.byContradiction fun c => by rw [if_neg c] at h; cases h
      rw [if_pos k4] at h
      refine rn_e1 qm (s2 := (11, [(0, .ref b0), (1, .ref b1), (2, .int v2)], [.ref (b1 + 1), .ref (b0 + 4 + 2 * (Int32.toNatClampNeg v2))], N, sl, rn_hp S M)) (rn_g_getf rfl rfl (en_1 k4) rfl) ?_
      refine rn_eg qm 1 (s2 := (12, [(0, .ref b0), (1, .ref b1), (2, .int v2)], [.int v2, .ref (b1 + 1), .ref (b0 + 4 + 2 * (Int32.toNatClampNeg v2))], N, sl, rn_hp S M)) rfl ?_
      refine rn_e1 qm (s2 := (13, [(0, .ref b0), (1, .ref b1), (2, .int v2)], [.ref (b1 + 4 + 2 * (Int32.toNatClampNeg v2)), .ref (b0 + 4 + 2 * (Int32.toNatClampNeg v2))], N, sl, rn_hp S M)) (rn_g_aald (r := some (b1 + 4 + 2 * (Int32.toNatClampNeg v2))) rfl rfl (ar_x20 (ko_1_0 k4).1 (ko_1_0 k4).2.2) c3 (rn_cr_at (rn_ob_lt c3))) ?_
      obtain ⟨p5, hp5, h⟩ := Option.bind_eq_some_iff.mp h
      refine rn_ec qm rfl rfl rfl rfl rn_m143 rfl rfl rfl (fun _ => rn_rc_of (en_5 (show rn_kd (b0 + 4 + 2 * (Int32.toNatClampNeg v2)) = 5 from ck_20 (ko_1_0 k2).1 (rn_ob_lt c3)))) (E143 hp5) ?_
      refine rn_eg qm 0 (s2 := (14, [(0, .ref b0), (1, .ref b1), (2, .int v2)], [], N, sl, rn_hp p5 M)) rfl ?_
      refine rn_eg qm 2 (s2 := (2, [(2, .int (v2 + (1 : Int32))), (0, .ref b0), (1, .ref b1)], [], N, sl, rn_hp p5 M)) rfl ?_
      refine rn_kq qm (s2 := (2, [(0, .ref b0), (1, .ref b1), (2, .int (v2 + (1 : Int32)))], [], N, sl, rn_hp p5 M)) rfl rfl ?_
      exact ih _ _ k R hk h
def f113 (S : rn_T) (a0 : Nat) (a1 : Nat) : Option (rn_T) :=
  f113_L2 a0 a1 rn_FU S (0 : Int32) (fun S6 =>
    if rn_kd a1 = 1 then
      if rn_kd a0 = 1 then
        some (wI (wI (wAc (wLc S6 (a0 + 2) (va_cpy (rL S6 (a1 + 2)) (rL S6 (a0 + 2)) 0 0 60)) (a0 + 3) (va_cpy (rA (wLc S6 (a0 + 2) (va_cpy (rL S6 (a1 + 2)) (rL S6 (a0 + 2)) 0 0 60)) (a1 + 3)) (rA (wLc S6 (a0 + 2) (va_cpy (rL S6 (a1 + 2)) (rL S6 (a0 + 2)) 0 0 60)) (a0 + 3)) 0 0 96)) a0 3 (rI (wAc (wLc S6 (a0 + 2) (va_cpy (rL S6 (a1 + 2)) (rL S6 (a0 + 2)) 0 0 60)) (a0 + 3) (va_cpy (rA (wLc S6 (a0 + 2) (va_cpy (rL S6 (a1 + 2)) (rL S6 (a0 + 2)) 0 0 60)) (a1 + 3)) (rA (wLc S6 (a0 + 2) (va_cpy (rL S6 (a1 + 2)) (rL S6 (a0 + 2)) 0 0 60)) (a0 + 3)) 0 0 96)) a1 3)) a0 4 (rI (wI (wAc (wLc S6 (a0 + 2) (va_cpy (rL S6 (a1 + 2)) (rL S6 (a0 + 2)) 0 0 60)) (a0 + 3) (va_cpy (rA (wLc S6 (a0 + 2) (va_cpy (rL S6 (a1 + 2)) (rL S6 (a0 + 2)) 0 0 60)) (a1 + 3)) (rA (wLc S6 (a0 + 2) (va_cpy (rL S6 (a1 + 2)) (rL S6 (a0 + 2)) 0 0 60)) (a0 + 3)) 0 0 96)) a0 3 (rI (wAc (wLc S6 (a0 + 2) (va_cpy (rL S6 (a1 + 2)) (rL S6 (a0 + 2)) 0 0 60)) (a0 + 3) (va_cpy (rA (wLc S6 (a0 + 2) (va_cpy (rL S6 (a1 + 2)) (rL S6 (a0 + 2)) 0 0 60)) (a1 + 3)) (rA (wLc S6 (a0 + 2) (va_cpy (rL S6 (a1 + 2)) (rL S6 (a0 + 2)) 0 0 60)) (a0 + 3)) 0 0 96)) a1 3)) a1 4))
      else none
    else none)
set_option maxHeartbeats 4000000 in
theorem E113 {X : rn_X} {N sl : Nat} {S M : rn_T} {a0 : Nat} {a1 : Nat} {R : (rn_T)} (h : f113 S a0 a1 = some R) : rn_rv X 113 (0, [(0, .ref a0), (1, .ref a1)], [], N, sl, rn_hp S M) (none, N, sl, rn_hp R M) := by
  have qm := rn_m113
  unfold f113 at h
  refine rn_eg qm 2 (s2 := (2, [(2, .int (0 : Int32)), (0, .ref a0), (1, .ref a1)], [], N, sl, rn_hp S M)) rfl ?_
  refine rn_kq qm (s2 := (2, [(0, .ref a0), (1, .ref a1), (2, .int (0 : Int32))], [], N, sl, rn_hp S M)) rfl rfl ?_
  refine E113_L2 rn_FU _ _ _ R ?_ h
  intro S6 h
  refine rn_eg qm 1 (s2 := (17, [(0, .ref a0), (1, .ref a1)], [.ref a1], N, sl, rn_hp S6 M)) rfl ?_
  have k7 : rn_kd a1 = 1 := Decidable.byContradiction fun c => by rw [if_neg c] at h; cases h
  rw [if_pos k7] at h
  refine rn_e1 qm (s2 := (18, [(0, .ref a0), (1, .ref a1)], [.ref (a1 + 2)], N, sl, rn_hp S6 M)) (rn_g_getf rfl rfl (en_1 k7) rfl) ?_
  refine rn_eg qm 2 (s2 := (20, [(0, .ref a0), (1, .ref a1)], [.ref a0, .int (0 : Int32), .ref (a1 + 2)], N, sl, rn_hp S6 M)) rfl ?_
  have k8 : rn_kd a0 = 1 := Decidable.byContradiction fun c => by rw [if_neg c] at h; cases h
  rw [if_pos k8] at h
  refine rn_e1 qm (s2 := (21, [(0, .ref a0), (1, .ref a1)], [.ref (a0 + 2), .int (0 : Int32), .ref (a1 + 2)], N, sl, rn_hp S6 M)) (rn_g_getf rfl rfl (en_1 k8) rfl) ?_
  refine rn_eg qm 2 (s2 := (23, [(0, .ref a0), (1, .ref a1)], [.int (60 : Int32), .int (0 : Int32), .ref (a0 + 2), .int (0 : Int32), .ref (a1 + 2)], N, sl, rn_hp S6 M)) rfl ?_
  refine rn_e1 qm (s2 := (24, [(0, .ref a0), (1, .ref a1)], [], N, sl, rn_hp (wLc S6 (a0 + 2) (va_cpy (rL S6 (a1 + 2)) (rL S6 (a0 + 2)) 0 0 60)) M)) (rn_g_cpl (n0 := 60) (n1 := 60) (m := 60) rfl rfl (ar_x11 (ko_1_1 k7).1 (ko_1_1 k7).2.1 (ko_1_1 k7).2.2) (ar_x11 (ko_1_1 k8).1 (ko_1_1 k8).2.1 (ko_1_1 k8).2.2) rfl (by decide) (by decide) rfl rfl (ac_x11 (ko_1_1 k8).1 (ko_1_1 k8).2.1 (ko_1_1 k8).2.2)) ?_
  refine rn_eg qm 1 (s2 := (25, [(0, .ref a0), (1, .ref a1)], [.ref a1], N, sl, rn_hp (wLc S6 (a0 + 2) (va_cpy (rL S6 (a1 + 2)) (rL S6 (a0 + 2)) 0 0 60)) M)) rfl ?_
  refine rn_e1 qm (s2 := (26, [(0, .ref a0), (1, .ref a1)], [.ref (a1 + 3)], N, sl, rn_hp (wLc S6 (a0 + 2) (va_cpy (rL S6 (a1 + 2)) (rL S6 (a0 + 2)) 0 0 60)) M)) (rn_g_getf rfl rfl (en_1 k7) rfl) ?_
  refine rn_eg qm 2 (s2 := (28, [(0, .ref a0), (1, .ref a1)], [.ref a0, .int (0 : Int32), .ref (a1 + 3)], N, sl, rn_hp (wLc S6 (a0 + 2) (va_cpy (rL S6 (a1 + 2)) (rL S6 (a0 + 2)) 0 0 60)) M)) rfl ?_
  refine rn_e1 qm (s2 := (29, [(0, .ref a0), (1, .ref a1)], [.ref (a0 + 3), .int (0 : Int32), .ref (a1 + 3)], N, sl, rn_hp (wLc S6 (a0 + 2) (va_cpy (rL S6 (a1 + 2)) (rL S6 (a0 + 2)) 0 0 60)) M)) (rn_g_getf rfl rfl (en_1 k8) rfl) ?_
  refine rn_eg qm 2 (s2 := (31, [(0, .ref a0), (1, .ref a1)], [.int (96 : Int32), .int (0 : Int32), .ref (a0 + 3), .int (0 : Int32), .ref (a1 + 3)], N, sl, rn_hp (wLc S6 (a0 + 2) (va_cpy (rL S6 (a1 + 2)) (rL S6 (a0 + 2)) 0 0 60)) M)) rfl ?_
  refine rn_e1 qm (s2 := (32, [(0, .ref a0), (1, .ref a1)], [], N, sl, rn_hp (wAc (wLc S6 (a0 + 2) (va_cpy (rL S6 (a1 + 2)) (rL S6 (a0 + 2)) 0 0 60)) (a0 + 3) (va_cpy (rA (wLc S6 (a0 + 2) (va_cpy (rL S6 (a1 + 2)) (rL S6 (a0 + 2)) 0 0 60)) (a1 + 3)) (rA (wLc S6 (a0 + 2) (va_cpy (rL S6 (a1 + 2)) (rL S6 (a0 + 2)) 0 0 60)) (a0 + 3)) 0 0 96)) M)) (rn_g_cpi (n0 := 96) (n1 := 96) (m := 96) rfl rfl (ar_x10 (ko_1_2 k7).1 (ko_1_2 k7).2.1 (ko_1_2 k7).2.2) (ar_x10 (ko_1_2 k8).1 (ko_1_2 k8).2.1 (ko_1_2 k8).2.2) rfl (by decide) (by decide) rfl rfl (ac_x10 (ko_1_2 k8).1 (ko_1_2 k8).2.1 (ko_1_2 k8).2.2)) ?_
  refine rn_eg qm 2 (s2 := (34, [(0, .ref a0), (1, .ref a1)], [.ref a1, .ref a0], N, sl, rn_hp (wAc (wLc S6 (a0 + 2) (va_cpy (rL S6 (a1 + 2)) (rL S6 (a0 + 2)) 0 0 60)) (a0 + 3) (va_cpy (rA (wLc S6 (a0 + 2) (va_cpy (rL S6 (a1 + 2)) (rL S6 (a0 + 2)) 0 0 60)) (a1 + 3)) (rA (wLc S6 (a0 + 2) (va_cpy (rL S6 (a1 + 2)) (rL S6 (a0 + 2)) 0 0 60)) (a0 + 3)) 0 0 96)) M)) rfl ?_
  refine rn_e1 qm (s2 := (35, [(0, .ref a0), (1, .ref a1)], [.int (rI (wAc (wLc S6 (a0 + 2) (va_cpy (rL S6 (a1 + 2)) (rL S6 (a0 + 2)) 0 0 60)) (a0 + 3) (va_cpy (rA (wLc S6 (a0 + 2) (va_cpy (rL S6 (a1 + 2)) (rL S6 (a0 + 2)) 0 0 60)) (a1 + 3)) (rA (wLc S6 (a0 + 2) (va_cpy (rL S6 (a1 + 2)) (rL S6 (a0 + 2)) 0 0 60)) (a0 + 3)) 0 0 96)) a1 3), .ref a0], N, sl, rn_hp (wAc (wLc S6 (a0 + 2) (va_cpy (rL S6 (a1 + 2)) (rL S6 (a0 + 2)) 0 0 60)) (a0 + 3) (va_cpy (rA (wLc S6 (a0 + 2) (va_cpy (rL S6 (a1 + 2)) (rL S6 (a0 + 2)) 0 0 60)) (a1 + 3)) (rA (wLc S6 (a0 + 2) (va_cpy (rL S6 (a1 + 2)) (rL S6 (a0 + 2)) 0 0 60)) (a0 + 3)) 0 0 96)) M)) (rn_g_getf rfl rfl (en_1 k7) rfl) ?_
  refine rn_e1 qm (s2 := (36, [(0, .ref a0), (1, .ref a1)], [], N, sl, rn_hp (wI (wAc (wLc S6 (a0 + 2) (va_cpy (rL S6 (a1 + 2)) (rL S6 (a0 + 2)) 0 0 60)) (a0 + 3) (va_cpy (rA (wLc S6 (a0 + 2) (va_cpy (rL S6 (a1 + 2)) (rL S6 (a0 + 2)) 0 0 60)) (a1 + 3)) (rA (wLc S6 (a0 + 2) (va_cpy (rL S6 (a1 + 2)) (rL S6 (a0 + 2)) 0 0 60)) (a0 + 3)) 0 0 96)) a0 3 (rI (wAc (wLc S6 (a0 + 2) (va_cpy (rL S6 (a1 + 2)) (rL S6 (a0 + 2)) 0 0 60)) (a0 + 3) (va_cpy (rA (wLc S6 (a0 + 2) (va_cpy (rL S6 (a1 + 2)) (rL S6 (a0 + 2)) 0 0 60)) (a1 + 3)) (rA (wLc S6 (a0 + 2) (va_cpy (rL S6 (a1 + 2)) (rL S6 (a0 + 2)) 0 0 60)) (a0 + 3)) 0 0 96)) a1 3)) M)) (rn_g_putf rfl rfl (en_1 k8) rfl rfl rfl (wf_1_3 (v := (rI (wAc (wLc S6 (a0 + 2) (va_cpy (rL S6 (a1 + 2)) (rL S6 (a0 + 2)) 0 0 60)) (a0 + 3) (va_cpy (rA (wLc S6 (a0 + 2) (va_cpy (rL S6 (a1 + 2)) (rL S6 (a0 + 2)) 0 0 60)) (a1 + 3)) (rA (wLc S6 (a0 + 2) (va_cpy (rL S6 (a1 + 2)) (rL S6 (a0 + 2)) 0 0 60)) (a0 + 3)) 0 0 96)) a1 3)) k8)) ?_
  refine rn_eg qm 2 (s2 := (38, [(0, .ref a0), (1, .ref a1)], [.ref a1, .ref a0], N, sl, rn_hp (wI (wAc (wLc S6 (a0 + 2) (va_cpy (rL S6 (a1 + 2)) (rL S6 (a0 + 2)) 0 0 60)) (a0 + 3) (va_cpy (rA (wLc S6 (a0 + 2) (va_cpy (rL S6 (a1 + 2)) (rL S6 (a0 + 2)) 0 0 60)) (a1 + 3)) (rA (wLc S6 (a0 + 2) (va_cpy (rL S6 (a1 + 2)) (rL S6 (a0 + 2)) 0 0 60)) (a0 + 3)) 0 0 96)) a0 3 (rI (wAc (wLc S6 (a0 + 2) (va_cpy (rL S6 (a1 + 2)) (rL S6 (a0 + 2)) 0 0 60)) (a0 + 3) (va_cpy (rA (wLc S6 (a0 + 2) (va_cpy (rL S6 (a1 + 2)) (rL S6 (a0 + 2)) 0 0 60)) (a1 + 3)) (rA (wLc S6 (a0 + 2) (va_cpy (rL S6 (a1 + 2)) (rL S6 (a0 + 2)) 0 0 60)) (a0 + 3)) 0 0 96)) a1 3)) M)) rfl ?_
  refine rn_e1 qm (s2 := (39, [(0, .ref a0), (1, .ref a1)], [.int (rI (wI (wAc (wLc S6 (a0 + 2) (va_cpy (rL S6 (a1 + 2)) (rL S6 (a0 + 2)) 0 0 60)) (a0 + 3) (va_cpy (rA (wLc S6 (a0 + 2) (va_cpy (rL S6 (a1 + 2)) (rL S6 (a0 + 2)) 0 0 60)) (a1 + 3)) (rA (wLc S6 (a0 + 2) (va_cpy (rL S6 (a1 + 2)) (rL S6 (a0 + 2)) 0 0 60)) (a0 + 3)) 0 0 96)) a0 3 (rI (wAc (wLc S6 (a0 + 2) (va_cpy (rL S6 (a1 + 2)) (rL S6 (a0 + 2)) 0 0 60)) (a0 + 3) (va_cpy (rA (wLc S6 (a0 + 2) (va_cpy (rL S6 (a1 + 2)) (rL S6 (a0 + 2)) 0 0 60)) (a1 + 3)) (rA (wLc S6 (a0 + 2) (va_cpy (rL S6 (a1 + 2)) (rL S6 (a0 + 2)) 0 0 60)) (a0 + 3)) 0 0 96)) a1 3)) a1 4), .ref a0], N, sl, rn_hp (wI (wAc (wLc S6 (a0 + 2) (va_cpy (rL S6 (a1 + 2)) (rL S6 (a0 + 2)) 0 0 60)) (a0 + 3) (va_cpy (rA (wLc S6 (a0 + 2) (va_cpy (rL S6 (a1 + 2)) (rL S6 (a0 + 2)) 0 0 60)) (a1 + 3)) (rA (wLc S6 (a0 + 2) (va_cpy (rL S6 (a1 + 2)) (rL S6 (a0 + 2)) 0 0 60)) (a0 + 3)) 0 0 96)) a0 3 (rI (wAc (wLc S6 (a0 + 2) (va_cpy (rL S6 (a1 + 2)) (rL S6 (a0 + 2)) 0 0 60)) (a0 + 3) (va_cpy (rA (wLc S6 (a0 + 2) (va_cpy (rL S6 (a1 + 2)) (rL S6 (a0 + 2)) 0 0 60)) (a1 + 3)) (rA (wLc S6 (a0 + 2) (va_cpy (rL S6 (a1 + 2)) (rL S6 (a0 + 2)) 0 0 60)) (a0 + 3)) 0 0 96)) a1 3)) M)) (rn_g_getf rfl rfl (en_1 k7) rfl) ?_
  refine rn_e1 qm (s2 := (40, [(0, .ref a0), (1, .ref a1)], [], N, sl, rn_hp (wI (wI (wAc (wLc S6 (a0 + 2) (va_cpy (rL S6 (a1 + 2)) (rL S6 (a0 + 2)) 0 0 60)) (a0 + 3) (va_cpy (rA (wLc S6 (a0 + 2) (va_cpy (rL S6 (a1 + 2)) (rL S6 (a0 + 2)) 0 0 60)) (a1 + 3)) (rA (wLc S6 (a0 + 2) (va_cpy (rL S6 (a1 + 2)) (rL S6 (a0 + 2)) 0 0 60)) (a0 + 3)) 0 0 96)) a0 3 (rI (wAc (wLc S6 (a0 + 2) (va_cpy (rL S6 (a1 + 2)) (rL S6 (a0 + 2)) 0 0 60)) (a0 + 3) (va_cpy (rA (wLc S6 (a0 + 2) (va_cpy (rL S6 (a1 + 2)) (rL S6 (a0 + 2)) 0 0 60)) (a1 + 3)) (rA (wLc S6 (a0 + 2) (va_cpy (rL S6 (a1 + 2)) (rL S6 (a0 + 2)) 0 0 60)) (a0 + 3)) 0 0 96)) a1 3)) a0 4 (rI (wI (wAc (wLc S6 (a0 + 2) (va_cpy (rL S6 (a1 + 2)) (rL S6 (a0 + 2)) 0 0 60)) (a0 + 3) (va_cpy (rA (wLc S6 (a0 + 2) (va_cpy (rL S6 (a1 + 2)) (rL S6 (a0 + 2)) 0 0 60)) (a1 + 3)) (rA (wLc S6 (a0 + 2) (va_cpy (rL S6 (a1 + 2)) (rL S6 (a0 + 2)) 0 0 60)) (a0 + 3)) 0 0 96)) a0 3 (rI (wAc (wLc S6 (a0 + 2) (va_cpy (rL S6 (a1 + 2)) (rL S6 (a0 + 2)) 0 0 60)) (a0 + 3) (va_cpy (rA (wLc S6 (a0 + 2) (va_cpy (rL S6 (a1 + 2)) (rL S6 (a0 + 2)) 0 0 60)) (a1 + 3)) (rA (wLc S6 (a0 + 2) (va_cpy (rL S6 (a1 + 2)) (rL S6 (a0 + 2)) 0 0 60)) (a0 + 3)) 0 0 96)) a1 3)) a1 4)) M)) (rn_g_putf rfl rfl (en_1 k8) rfl rfl rfl (wf_1_4 (v := (rI (wI (wAc (wLc S6 (a0 + 2) (va_cpy (rL S6 (a1 + 2)) (rL S6 (a0 + 2)) 0 0 60)) (a0 + 3) (va_cpy (rA (wLc S6 (a0 + 2) (va_cpy (rL S6 (a1 + 2)) (rL S6 (a0 + 2)) 0 0 60)) (a1 + 3)) (rA (wLc S6 (a0 + 2) (va_cpy (rL S6 (a1 + 2)) (rL S6 (a0 + 2)) 0 0 60)) (a0 + 3)) 0 0 96)) a0 3 (rI (wAc (wLc S6 (a0 + 2) (va_cpy (rL S6 (a1 + 2)) (rL S6 (a0 + 2)) 0 0 60)) (a0 + 3) (va_cpy (rA (wLc S6 (a0 + 2) (va_cpy (rL S6 (a1 + 2)) (rL S6 (a0 + 2)) 0 0 60)) (a1 + 3)) (rA (wLc S6 (a0 + 2) (va_cpy (rL S6 (a1 + 2)) (rL S6 (a0 + 2)) 0 0 60)) (a0 + 3)) 0 0 96)) a1 3)) a1 4)) k8)) ?_
  cases h
  exact rn_er qm rfl rfl rfl
/-! 19: RecordNiches.image(I)I -/
def f19 (S : rn_T) (a1 : Int32) : Option (Int32 × rn_T) :=
  if a1 < 0 then
    some ((-2 : Int32), S)
  else
    if a1 < (2 : Int32) then
      if rn_ob a1 2 then none else
        Option.bind (f113 S (278 + 20 * (Int32.toNatClampNeg a1)) 1) fun p4 =>
          some ((1 : Int32), wA p4 22 (Int32.toNatClampNeg a1) (1 : Int32))
    else
      some ((-2 : Int32), S)
set_option maxHeartbeats 4000000 in
theorem E19 {X : rn_X} {N sl : Nat} {S M : rn_T} {a1 : Int32} {R : (Int32 × rn_T)} (h : f19 S a1 = some R) : rn_rv X 19 (0, [(0, .ref 0), (1, .int a1)], [], N, sl, rn_hp S M) (some (.int R.1), N, sl, rn_hp R.2 M) := by
  have qm := rn_m19
  unfold f19 at h
  refine rn_eg qm 2 (s2 := ((if a1 < 0 then 5 else 2), [(0, .ref 0), (1, .int a1)], [], N, sl, rn_hp S M)) rfl ?_
  refine rn_ite (fun c1 => ?_) (fun c1 => ?_)
  · rw [if_pos c1] at h
    refine rn_eg qm 1 (s2 := (6, [], [.int (-2 : Int32)], N, sl, rn_hp S M)) rfl ?_
    cases h
    exact rn_er qm rfl rfl rfl
  · rw [if_neg c1] at h
    refine rn_eg qm 3 (s2 := ((if a1 < (2 : Int32) then 7 else 5), [(0, .ref 0), (1, .int a1)], [], N, sl, rn_hp S M)) rfl ?_
    refine rn_ite (fun c2 => ?_) (fun c2 => ?_)
    · rw [if_pos c2] at h
      refine rn_eg qm 3 (s2 := (10, [(0, .ref 0), (1, .int a1)], [.int a1, .ref 21], N, sl, rn_hp S M)) rfl ?_
      have c3 : ¬ (rn_ob a1 2) := fun c => by rw [if_pos c] at h; cases h
      rw [if_neg c3] at h
      refine rn_e1 qm (s2 := (11, [(0, .ref 0), (1, .int a1)], [.ref (278 + 20 * (Int32.toNatClampNeg a1))], N, sl, rn_hp S M)) (rn_g_aald (r := some (278 + 20 * (Int32.toNatClampNeg a1))) rfl rfl (ar_x21 (q := 21) rfl (Nat.le_of_ble_eq_true rfl)) c3 (rn_cr_at (rn_ob_lt c3))) ?_
      refine rn_eg qm 2 (s2 := (13, [(0, .ref 0), (1, .int a1)], [.ref 1, .ref (278 + 20 * (Int32.toNatClampNeg a1))], N, sl, rn_hp S M)) rfl ?_
      obtain ⟨p4, hp4, h⟩ := Option.bind_eq_some_iff.mp h
      refine rn_ec qm rfl rfl rfl rfl rn_m113 rfl rfl rfl (fun _ => rn_rc_of (en_1 (show rn_kd (278 + 20 * (Int32.toNatClampNeg a1)) = 1 from ck_21 (q := 21) rfl (rn_ob_lt c3)))) (E113 hp4) ?_
      refine rn_eg qm 0 (s2 := (14, [(0, .ref 0), (1, .int a1)], [], N, sl, rn_hp p4 M)) rfl ?_
      refine rn_eg qm 4 (s2 := (18, [(0, .ref 0), (1, .int a1)], [.int (1 : Int32), .int a1, .ref 22], N, sl, rn_hp p4 M)) rfl ?_
      refine rn_e1 qm (s2 := (19, [(0, .ref 0), (1, .int a1)], [], N, sl, rn_hp (wA p4 22 (Int32.toNatClampNeg a1) (1 : Int32)) M)) (rn_g_bast (n := 2) rfl rfl (ar_x12 rfl rfl (Nat.le_of_ble_eq_true rfl)) c3 (by decide) (aw_x12 rfl rfl (Nat.le_of_ble_eq_true rfl))) ?_
      refine rn_eg qm 1 (s2 := (20, [(0, .ref 0), (1, .int a1)], [.int (1 : Int32)], N, sl, rn_hp (wA p4 22 (Int32.toNatClampNeg a1) (1 : Int32)) M)) rfl ?_
      cases h
      exact rn_er qm rfl rfl rfl
    · rw [if_neg c2] at h
      refine rn_eg qm 1 (s2 := (6, [], [.int (-2 : Int32)], N, sl, rn_hp S M)) rfl ?_
      cases h
      exact rn_er qm rfl rfl rfl
/-! 20: RecordNiches.restore(I)I -/
def f20 (S : rn_T) (a1 : Int32) : Option (Int32 × rn_T) :=
  if a1 < 0 then
    some ((-2 : Int32), S)
  else
    if a1 < (2 : Int32) then
      if rn_ob a1 2 then none else
        if (rA S 22 (Int32.toNatClampNeg a1)) = 0 then
          some ((-3 : Int32), S)
        else
          Option.bind (f113 S 1 (278 + 20 * (Int32.toNatClampNeg a1))) fun p5 =>
            some ((1 : Int32), p5)
    else
      some ((-2 : Int32), S)
set_option maxHeartbeats 4000000 in
theorem E20 {X : rn_X} {N sl : Nat} {S M : rn_T} {a1 : Int32} {R : (Int32 × rn_T)} (h : f20 S a1 = some R) : rn_rv X 20 (0, [(0, .ref 0), (1, .int a1)], [], N, sl, rn_hp S M) (some (.int R.1), N, sl, rn_hp R.2 M) := by
  have qm := rn_m20
  unfold f20 at h
  refine rn_eg qm 2 (s2 := ((if a1 < 0 then 5 else 2), [(0, .ref 0), (1, .int a1)], [], N, sl, rn_hp S M)) rfl ?_
  refine rn_ite (fun c1 => ?_) (fun c1 => ?_)
  · rw [if_pos c1] at h
    refine rn_eg qm 1 (s2 := (6, [], [.int (-2 : Int32)], N, sl, rn_hp S M)) rfl ?_
    cases h
    exact rn_er qm rfl rfl rfl
  · rw [if_neg c1] at h
    refine rn_eg qm 3 (s2 := ((if a1 < (2 : Int32) then 7 else 5), [(0, .ref 0), (1, .int a1)], [], N, sl, rn_hp S M)) rfl ?_
    refine rn_ite (fun c2 => ?_) (fun c2 => ?_)
    · rw [if_pos c2] at h
      refine rn_eg qm 3 (s2 := (10, [(0, .ref 0), (1, .int a1)], [.int a1, .ref 22], N, sl, rn_hp S M)) rfl ?_
      have c3 : ¬ (rn_ob a1 2) := fun c => by rw [if_pos c] at h; cases h
      rw [if_neg c3] at h
      refine rn_e1 qm (s2 := (11, [(0, .ref 0), (1, .int a1)], [.int (rA S 22 (Int32.toNatClampNeg a1))], N, sl, rn_hp S M)) (rn_g_bald (n := 2) rfl rfl (ar_x12 rfl rfl (Nat.le_of_ble_eq_true rfl)) c3) ?_
      refine rn_eg qm 1 (s2 := ((if (rA S 22 (Int32.toNatClampNeg a1)) = 0 then 12 else 14), [(0, .ref 0), (1, .int a1)], [], N, sl, rn_hp S M)) rfl ?_
      refine rn_ite (fun c4 => ?_) (fun c4 => ?_)
      · rw [if_pos c4] at h
        refine rn_eg qm 1 (s2 := (13, [(0, .ref 0), (1, .int a1)], [.int (-3 : Int32)], N, sl, rn_hp S M)) rfl ?_
        cases h
        exact rn_er qm rfl rfl rfl
      · rw [if_neg c4] at h
        refine rn_eg qm 5 (s2 := (19, [(0, .ref 0), (1, .int a1)], [.int a1, .ref 21, .ref 1], N, sl, rn_hp S M)) rfl ?_
        refine rn_e1 qm (s2 := (20, [(0, .ref 0), (1, .int a1)], [.ref (278 + 20 * (Int32.toNatClampNeg a1)), .ref 1], N, sl, rn_hp S M)) (rn_g_aald (r := some (278 + 20 * (Int32.toNatClampNeg a1))) rfl rfl (ar_x21 (q := 21) rfl (Nat.le_of_ble_eq_true rfl)) c3 (rn_cr_at (rn_ob_lt c3))) ?_
        obtain ⟨p5, hp5, h⟩ := Option.bind_eq_some_iff.mp h
        refine rn_ec qm rfl rfl rfl rfl rn_m113 rfl rfl rfl (fun _ => rn_rc_of (en_1 (q := 1) rfl)) (E113 hp5) ?_
        refine rn_eg qm 0 (s2 := (21, [(0, .ref 0), (1, .int a1)], [], N, sl, rn_hp p5 M)) rfl ?_
        refine rn_eg qm 1 (s2 := (22, [(0, .ref 0), (1, .int a1)], [.int (1 : Int32)], N, sl, rn_hp p5 M)) rfl ?_
        cases h
        exact rn_er qm rfl rfl rfl
    · rw [if_neg c2] at h
      refine rn_eg qm 1 (s2 := (6, [], [.int (-2 : Int32)], N, sl, rn_hp S M)) rfl ?_
      cases h
      exact rn_er qm rfl rfl rfl
