/-! 68: RecordNichesModel.layVariant(I)V -/
def f68_J41 (M : rn_T) (u1 : Int32) (u2 : Int32) (t1 : Int32) (t2 : Int32) : Option (rn_T) :=
  if rn_ob t1 101 then none else
    if rn_ob u1 101 then none else
      if (rA (wA M 341 (Int32.toNatClampNeg t1) t2) 341 (Int32.toNatClampNeg u1)) = (2 : Int32) then
        Option.bind (f67 (wA M 341 (Int32.toNatClampNeg t1) t2) u1) fun p9 =>
          some (p9)
      else
        Option.bind (f66 (wA M 341 (Int32.toNatClampNeg t1) t2) u1 u2) fun p10 =>
          some (p10)
set_option maxHeartbeats 4000000 in
theorem E68_J41 {X : rn_X} {N sl : Nat} {S : rn_T} {M : rn_T} {u1 : Int32} {u2 : Int32} {t1 : Int32} {t2 : Int32} {R : (rn_T)} (h : f68_J41 M u1 u2 t1 t2 = some R) : rn_rv X 68 (41, [(0, .ref 318), (1, .int u1), (2, .int u2)], [.int t2, .int t1, .ref 341], N, sl, rn_hp S M) (none, N, sl, rn_hp S R) := by
  have qm := rn_m68
  unfold f68_J41 at h
  have c6 : ¬ (rn_ob t1 101) := fun c => by rw [if_pos c] at h; cases h
  rw [if_neg c6] at h
  refine rn_e1 qm (s2 := (42, [(0, .ref 318), (1, .int u1), (2, .int u2)], [], N, sl, rn_hp S (wA M 341 (Int32.toNatClampNeg t1) t2))) (rn_g_iast (n := 101) rfl rfl (ar_m10 rfl rfl (Nat.le_of_ble_eq_true rfl)) c6 (aw_m10 rfl rfl (Nat.le_of_ble_eq_true rfl))) ?_
  refine rn_eg qm 3 (s2 := (45, [(0, .ref 318), (1, .int u1), (2, .int u2)], [.int u1, .ref 341], N, sl, rn_hp S (wA M 341 (Int32.toNatClampNeg t1) t2))) rfl ?_
  have c7 : ¬ (rn_ob u1 101) := fun c => by rw [if_pos c] at h; cases h
  rw [if_neg c7] at h
  refine rn_e1 qm (s2 := (46, [(0, .ref 318), (1, .int u1), (2, .int u2)], [.int (rA (wA M 341 (Int32.toNatClampNeg t1) t2) 341 (Int32.toNatClampNeg u1))], N, sl, rn_hp S (wA M 341 (Int32.toNatClampNeg t1) t2))) (rn_g_iald (n := 101) rfl rfl (ar_m10 rfl rfl (Nat.le_of_ble_eq_true rfl)) c7) ?_
  refine rn_eg qm 2 (s2 := ((if (rA (wA M 341 (Int32.toNatClampNeg t1) t2) 341 (Int32.toNatClampNeg u1)) = (2 : Int32) then 48 else 52), [(0, .ref 318), (1, .int u1), (2, .int u2)], [], N, sl, rn_hp S (wA M 341 (Int32.toNatClampNeg t1) t2))) rfl ?_
  refine rn_ite (fun c8 => ?_) (fun c8 => ?_)
  · rw [if_pos c8] at h
    refine rn_eg qm 2 (s2 := (50, [(0, .ref 318), (1, .int u1), (2, .int u2)], [.int u1, .ref 318], N, sl, rn_hp S (wA M 341 (Int32.toNatClampNeg t1) t2))) rfl ?_
    obtain ⟨p9, hp9, h⟩ := Option.bind_eq_some_iff.mp h
    refine rn_ec qm rfl rfl rfl rfl rn_m67 rfl rfl rfl (fun _ => rn_rc_of (en_9 (q := 318) rfl)) (E67 hp9) ?_
    refine rn_eg qm 0 (s2 := (51, [(0, .ref 318), (1, .int u1), (2, .int u2)], [], N, sl, rn_hp S p9)) rfl ?_
    refine rn_eg qm 1 (s2 := (56, [(0, .ref 318), (1, .int u1), (2, .int u2)], [], N, sl, rn_hp S p9)) rfl ?_
    cases h
    exact rn_er qm rfl rfl rfl
  · rw [if_neg c8] at h
    refine rn_eg qm 3 (s2 := (55, [(0, .ref 318), (1, .int u1), (2, .int u2)], [.int u2, .int u1, .ref 318], N, sl, rn_hp S (wA M 341 (Int32.toNatClampNeg t1) t2))) rfl ?_
    obtain ⟨p10, hp10, h⟩ := Option.bind_eq_some_iff.mp h
    refine rn_ec qm rfl rfl rfl rfl rn_m66 rfl rfl rfl (fun _ => rn_rc_of (en_9 (q := 318) rfl)) (E66 hp10) ?_
    refine rn_eg qm 0 (s2 := (56, [(0, .ref 318), (1, .int u1), (2, .int u2)], [], N, sl, rn_hp S p10)) rfl ?_
    cases h
    exact rn_er qm rfl rfl rfl
def f68 (M : rn_T) (a1 : Int32) : Option (rn_T) :=
  Option.bind (f60 M a1) fun p1 =>
    if rn_ob a1 101 then none else
      Option.bind (f63 (wA M 335 (Int32.toNatClampNeg a1) p1) a1) fun p3 =>
        Option.bind (f57 (wA (wA M 335 (Int32.toNatClampNeg a1) p1) 342 (Int32.toNatClampNeg a1) p3) a1 (rA (wA (wA M 335 (Int32.toNatClampNeg a1) p1) 342 (Int32.toNatClampNeg a1) p3) 342 (Int32.toNatClampNeg a1))) fun p4 =>
          if (rA (wA (wA M 335 (Int32.toNatClampNeg a1) p1) 342 (Int32.toNatClampNeg a1) p3) 326 (Int32.toNatClampNeg a1)) = (1 : Int32) then
            f68_J41 (wA (wA M 335 (Int32.toNatClampNeg a1) p1) 342 (Int32.toNatClampNeg a1) p3) a1 p4 a1 (0 : Int32)
          else
            Option.bind (f65 (wA (wA M 335 (Int32.toNatClampNeg a1) p1) 342 (Int32.toNatClampNeg a1) p3) a1 p4) fun p11 =>
              if p11 = true then
                f68_J41 (wA (wA M 335 (Int32.toNatClampNeg a1) p1) 342 (Int32.toNatClampNeg a1) p3) a1 p4 a1 (1 : Int32)
              else
                f68_J41 (wA (wA M 335 (Int32.toNatClampNeg a1) p1) 342 (Int32.toNatClampNeg a1) p3) a1 p4 a1 (2 : Int32)
set_option maxHeartbeats 4000000 in
theorem E68 {X : rn_X} {N sl : Nat} {S M : rn_T} {a1 : Int32} {R : (rn_T)} (h : f68 M a1 = some R) : rn_rv X 68 (0, [(0, .ref 318), (1, .int a1)], [], N, sl, rn_hp S M) (none, N, sl, rn_hp S R) := by
  have qm := rn_m68
  unfold f68 at h
  refine rn_eg qm 5 (s2 := (5, [(0, .ref 318), (1, .int a1)], [.int a1, .ref 318, .int a1, .ref 335], N, sl, rn_hp S M)) rfl ?_
  obtain ⟨p1, hp1, h⟩ := Option.bind_eq_some_iff.mp h
  refine rn_ec qm rfl rfl rfl rfl rn_m60 rfl rfl rfl (fun _ => rn_rc_of (en_9 (q := 318) rfl)) (E60 hp1) ?_
  refine rn_eg qm 0 (s2 := (6, [(0, .ref 318), (1, .int a1)], [.int p1, .int a1, .ref 335], N, sl, rn_hp S M)) rfl ?_
  have c2 : ¬ (rn_ob a1 101) := fun c => by rw [if_pos c] at h; cases h
  rw [if_neg c2] at h
  refine rn_e1 qm (s2 := (7, [(0, .ref 318), (1, .int a1)], [], N, sl, rn_hp S (wA M 335 (Int32.toNatClampNeg a1) p1))) (rn_g_iast (n := 101) rfl rfl (ar_m10 rfl rfl (Nat.le_of_ble_eq_true rfl)) c2 (aw_m10 rfl rfl (Nat.le_of_ble_eq_true rfl))) ?_
  refine rn_eg qm 5 (s2 := (12, [(0, .ref 318), (1, .int a1)], [.int a1, .ref 318, .int a1, .ref 342], N, sl, rn_hp S (wA M 335 (Int32.toNatClampNeg a1) p1))) rfl ?_
  obtain ⟨p3, hp3, h⟩ := Option.bind_eq_some_iff.mp h
  refine rn_ec qm rfl rfl rfl rfl rn_m63 rfl rfl rfl (fun _ => rn_rc_of (en_9 (q := 318) rfl)) (E63 hp3) ?_
  refine rn_eg qm 0 (s2 := (13, [(0, .ref 318), (1, .int a1)], [.int p3, .int a1, .ref 342], N, sl, rn_hp S (wA M 335 (Int32.toNatClampNeg a1) p1))) rfl ?_
  refine rn_e1 qm (s2 := (14, [(0, .ref 318), (1, .int a1)], [], N, sl, rn_hp S (wA (wA M 335 (Int32.toNatClampNeg a1) p1) 342 (Int32.toNatClampNeg a1) p3))) (rn_g_iast (n := 101) rfl rfl (ar_m10 rfl rfl (Nat.le_of_ble_eq_true rfl)) c2 (aw_m10 rfl rfl (Nat.le_of_ble_eq_true rfl))) ?_
  refine rn_eg qm 5 (s2 := (19, [(0, .ref 318), (1, .int a1)], [.int a1, .ref 342, .int a1, .ref 318], N, sl, rn_hp S (wA (wA M 335 (Int32.toNatClampNeg a1) p1) 342 (Int32.toNatClampNeg a1) p3))) rfl ?_
  refine rn_e1 qm (s2 := (20, [(0, .ref 318), (1, .int a1)], [.int (rA (wA (wA M 335 (Int32.toNatClampNeg a1) p1) 342 (Int32.toNatClampNeg a1) p3) 342 (Int32.toNatClampNeg a1)), .int a1, .ref 318], N, sl, rn_hp S (wA (wA M 335 (Int32.toNatClampNeg a1) p1) 342 (Int32.toNatClampNeg a1) p3))) (rn_g_iald (n := 101) rfl rfl (ar_m10 rfl rfl (Nat.le_of_ble_eq_true rfl)) c2) ?_
  obtain ⟨p4, hp4, h⟩ := Option.bind_eq_some_iff.mp h
  refine rn_ec qm rfl rfl rfl rfl rn_m57 rfl rfl rfl (fun _ => rn_rc_of (en_9 (q := 318) rfl)) (E57 hp4) ?_
  refine rn_eg qm 0 (s2 := (21, [(0, .ref 318), (1, .int a1)], [.int p4], N, sl, rn_hp S (wA (wA M 335 (Int32.toNatClampNeg a1) p1) 342 (Int32.toNatClampNeg a1) p3))) rfl ?_
  refine rn_eg qm 7 (s2 := (28, [(2, .int p4), (0, .ref 318), (1, .int a1)], [.int a1, .ref 326, .int a1, .ref 341], N, sl, rn_hp S (wA (wA M 335 (Int32.toNatClampNeg a1) p1) 342 (Int32.toNatClampNeg a1) p3))) rfl ?_
  refine rn_e1 qm (s2 := (29, [(2, .int p4), (0, .ref 318), (1, .int a1)], [.int (rA (wA (wA M 335 (Int32.toNatClampNeg a1) p1) 342 (Int32.toNatClampNeg a1) p3) 326 (Int32.toNatClampNeg a1)), .int a1, .ref 341], N, sl, rn_hp S (wA (wA M 335 (Int32.toNatClampNeg a1) p1) 342 (Int32.toNatClampNeg a1) p3))) (rn_g_iald (n := 101) rfl rfl (ar_m10 rfl rfl (Nat.le_of_ble_eq_true rfl)) c2) ?_
  refine rn_eg qm 2 (s2 := ((if (rA (wA (wA M 335 (Int32.toNatClampNeg a1) p1) 342 (Int32.toNatClampNeg a1) p3) 326 (Int32.toNatClampNeg a1)) = (1 : Int32) then 31 else 33), [(2, .int p4), (0, .ref 318), (1, .int a1)], [.int a1, .ref 341], N, sl, rn_hp S (wA (wA M 335 (Int32.toNatClampNeg a1) p1) 342 (Int32.toNatClampNeg a1) p3))) rfl ?_
  refine rn_ite (fun c5 => ?_) (fun c5 => ?_)
  · rw [if_pos c5] at h
    refine rn_eg qm 2 (s2 := (41, [(2, .int p4), (0, .ref 318), (1, .int a1)], [.int (0 : Int32), .int a1, .ref 341], N, sl, rn_hp S (wA (wA M 335 (Int32.toNatClampNeg a1) p1) 342 (Int32.toNatClampNeg a1) p3))) rfl ?_
    refine rn_kq qm (s2 := (41, [(0, .ref 318), (1, .int a1), (2, .int p4)], [.int (0 : Int32), .int a1, .ref 341], N, sl, rn_hp S (wA (wA M 335 (Int32.toNatClampNeg a1) p1) 342 (Int32.toNatClampNeg a1) p3))) rfl rfl ?_
    exact E68_J41 h
  · rw [if_neg c5] at h
    refine rn_eg qm 3 (s2 := (36, [(2, .int p4), (0, .ref 318), (1, .int a1)], [.int p4, .int a1, .ref 318, .int a1, .ref 341], N, sl, rn_hp S (wA (wA M 335 (Int32.toNatClampNeg a1) p1) 342 (Int32.toNatClampNeg a1) p3))) rfl ?_
    obtain ⟨p11, hp11, h⟩ := Option.bind_eq_some_iff.mp h
    refine rn_ec qm rfl rfl rfl rfl rn_m65 rfl rfl rfl (fun _ => rn_rc_of (en_9 (q := 318) rfl)) (E65 hp11) ?_
    refine rn_eg qm 0 (s2 := (37, [(2, .int p4), (0, .ref 318), (1, .int a1)], [.int (rn_bi p11), .int a1, .ref 341], N, sl, rn_hp S (wA (wA M 335 (Int32.toNatClampNeg a1) p1) 342 (Int32.toNatClampNeg a1) p3))) rfl ?_
    refine rn_eg qm 1 (s2 := ((if (rn_bi p11) = 0 then 40 else 38), [(2, .int p4), (0, .ref 318), (1, .int a1)], [.int a1, .ref 341], N, sl, rn_hp S (wA (wA M 335 (Int32.toNatClampNeg a1) p1) 342 (Int32.toNatClampNeg a1) p3))) rfl ?_
    refine rn_iteb (fun c12 => ?_) (fun c12 => ?_)
    · rw [if_neg (rn_bf c12)] at h
      refine rn_eg qm 1 (s2 := (41, [(2, .int p4), (0, .ref 318), (1, .int a1)], [.int (2 : Int32), .int a1, .ref 341], N, sl, rn_hp S (wA (wA M 335 (Int32.toNatClampNeg a1) p1) 342 (Int32.toNatClampNeg a1) p3))) rfl ?_
      refine rn_kq qm (s2 := (41, [(0, .ref 318), (1, .int a1), (2, .int p4)], [.int (2 : Int32), .int a1, .ref 341], N, sl, rn_hp S (wA (wA M 335 (Int32.toNatClampNeg a1) p1) 342 (Int32.toNatClampNeg a1) p3))) rfl rfl ?_
      exact E68_J41 h
    · rw [if_pos c12] at h
      refine rn_eg qm 2 (s2 := (41, [(2, .int p4), (0, .ref 318), (1, .int a1)], [.int (1 : Int32), .int a1, .ref 341], N, sl, rn_hp S (wA (wA M 335 (Int32.toNatClampNeg a1) p1) 342 (Int32.toNatClampNeg a1) p3))) rfl ?_
      refine rn_kq qm (s2 := (41, [(0, .ref 318), (1, .int a1), (2, .int p4)], [.int (1 : Int32), .int a1, .ref 341], N, sl, rn_hp S (wA (wA M 335 (Int32.toNatClampNeg a1) p1) 342 (Int32.toNatClampNeg a1) p3))) rfl rfl ?_
      exact E68_J41 h
/-! 69: RecordNichesModel.layOne(I)V -/
def f69 (M : rn_T) (a1 : Int32) : Option (rn_T) :=
  if rn_ob a1 101 then none else
    if (rA M 322 (Int32.toNatClampNeg a1)) = (5 : Int32) then
      Option.bind (f62 M a1) fun p3 =>
        some (p3)
    else
      if (rA M 322 (Int32.toNatClampNeg a1)) = (6 : Int32) then
        Option.bind (f68 M a1) fun p5 =>
          some (p5)
      else
        Option.bind (f59 M a1) fun p6 =>
          some (p6)
set_option maxHeartbeats 4000000 in
theorem E69 {X : rn_X} {N sl : Nat} {S M : rn_T} {a1 : Int32} {R : (rn_T)} (h : f69 M a1 = some R) : rn_rv X 69 (0, [(0, .ref 318), (1, .int a1)], [], N, sl, rn_hp S M) (none, N, sl, rn_hp S R) := by
  have qm := rn_m69
  unfold f69 at h
  refine rn_eg qm 3 (s2 := (3, [(0, .ref 318), (1, .int a1)], [.int a1, .ref 322], N, sl, rn_hp S M)) rfl ?_
  have c1 : ¬ (rn_ob a1 101) := fun c => by rw [if_pos c] at h; cases h
  rw [if_neg c1] at h
  refine rn_e1 qm (s2 := (4, [(0, .ref 318), (1, .int a1)], [.int (rA M 322 (Int32.toNatClampNeg a1))], N, sl, rn_hp S M)) (rn_g_iald (n := 101) rfl rfl (ar_m10 rfl rfl (Nat.le_of_ble_eq_true rfl)) c1) ?_
  refine rn_eg qm 2 (s2 := ((if (rA M 322 (Int32.toNatClampNeg a1)) = (5 : Int32) then 6 else 10), [(0, .ref 318), (1, .int a1)], [], N, sl, rn_hp S M)) rfl ?_
  refine rn_ite (fun c2 => ?_) (fun c2 => ?_)
  · rw [if_pos c2] at h
    refine rn_eg qm 2 (s2 := (8, [(0, .ref 318), (1, .int a1)], [.int a1, .ref 318], N, sl, rn_hp S M)) rfl ?_
    obtain ⟨p3, hp3, h⟩ := Option.bind_eq_some_iff.mp h
    refine rn_ec qm rfl rfl rfl rfl rn_m62 rfl rfl rfl (fun _ => rn_rc_of (en_9 (q := 318) rfl)) (E62 hp3) ?_
    refine rn_eg qm 0 (s2 := (9, [(0, .ref 318), (1, .int a1)], [], N, sl, rn_hp S p3)) rfl ?_
    refine rn_eg qm 1 (s2 := (23, [(0, .ref 318), (1, .int a1)], [], N, sl, rn_hp S p3)) rfl ?_
    cases h
    exact rn_er qm rfl rfl rfl
  · rw [if_neg c2] at h
    refine rn_eg qm 3 (s2 := (13, [(0, .ref 318), (1, .int a1)], [.int a1, .ref 322], N, sl, rn_hp S M)) rfl ?_
    refine rn_e1 qm (s2 := (14, [(0, .ref 318), (1, .int a1)], [.int (rA M 322 (Int32.toNatClampNeg a1))], N, sl, rn_hp S M)) (rn_g_iald (n := 101) rfl rfl (ar_m10 rfl rfl (Nat.le_of_ble_eq_true rfl)) c1) ?_
    refine rn_eg qm 2 (s2 := ((if (rA M 322 (Int32.toNatClampNeg a1)) = (6 : Int32) then 16 else 20), [(0, .ref 318), (1, .int a1)], [], N, sl, rn_hp S M)) rfl ?_
    refine rn_ite (fun c4 => ?_) (fun c4 => ?_)
    · rw [if_pos c4] at h
      refine rn_eg qm 2 (s2 := (18, [(0, .ref 318), (1, .int a1)], [.int a1, .ref 318], N, sl, rn_hp S M)) rfl ?_
      obtain ⟨p5, hp5, h⟩ := Option.bind_eq_some_iff.mp h
      refine rn_ec qm rfl rfl rfl rfl rn_m68 rfl rfl rfl (fun _ => rn_rc_of (en_9 (q := 318) rfl)) (E68 hp5) ?_
      refine rn_eg qm 0 (s2 := (19, [(0, .ref 318), (1, .int a1)], [], N, sl, rn_hp S p5)) rfl ?_
      refine rn_eg qm 1 (s2 := (23, [(0, .ref 318), (1, .int a1)], [], N, sl, rn_hp S p5)) rfl ?_
      cases h
      exact rn_er qm rfl rfl rfl
    · rw [if_neg c4] at h
      refine rn_eg qm 2 (s2 := (22, [(0, .ref 318), (1, .int a1)], [.int a1, .ref 318], N, sl, rn_hp S M)) rfl ?_
      obtain ⟨p6, hp6, h⟩ := Option.bind_eq_some_iff.mp h
      refine rn_ec qm rfl rfl rfl rfl rn_m59 rfl rfl rfl (fun _ => rn_rc_of (en_9 (q := 318) rfl)) (E59 hp6) ?_
      refine rn_eg qm 0 (s2 := (23, [(0, .ref 318), (1, .int a1)], [], N, sl, rn_hp S p6)) rfl ?_
      cases h
      exact rn_er qm rfl rfl rfl
/-! 70: RecordNichesModel.isLaid()Z -/
def f70_L12 : Nat → rn_T → Int32 → Int32 → (rn_T → Int32 → Option (Bool × rn_T)) → Option (Bool × rn_T)
  | 0, _, _, _, _ => none
  | fu + 1, M, v1, v2, k =>
    if v2 < 0 then
      k M v1
    else
      Option.bind (f69 M v2) fun p2 =>
        if v1 = 0 then
          f70_L12 fu p2 (0 : Int32) (v2 + (-1 : Int32)) k
        else
          if rn_ob v2 101 then none else
            if (64 : Int32) < (rA p2 334 (Int32.toNatClampNeg v2)) then
              f70_L12 fu p2 (0 : Int32) (v2 + (-1 : Int32)) k
            else
              f70_L12 fu p2 (1 : Int32) (v2 + (-1 : Int32)) k
set_option maxHeartbeats 4000000 in
theorem E70_L12 {X : rn_X} {N sl : Nat} {S : rn_T} : ∀ (fu : Nat) (M : rn_T) (v1 : Int32) (v2 : Int32) (k : (rn_T → Int32 → Option (Bool × rn_T))) (R : (Bool × rn_T)), (∀ (M : rn_T) (w_1 : Int32), k M w_1 = some R → rn_rv X 70 (31, [(1, .int w_1)], [], N, sl, rn_hp S M) (some (.int (rn_bi R.1)), N, sl, rn_hp S R.2)) → f70_L12 fu M v1 v2 k = some R → rn_rv X 70 (12, [(0, .ref 318), (1, .int v1), (2, .int v2)], [], N, sl, rn_hp S M) (some (.int (rn_bi R.1)), N, sl, rn_hp S R.2) := by
  have qm := rn_m70
  intro fu
  induction fu with
  | zero => intro M v1 v2 k R hk h; cases h
  | succ fu ih =>
    intro M v1 v2 k R hk h
    unfold f70_L12 at h
    refine rn_eg qm 2 (s2 := ((if v2 < 0 then 31 else 14), [(0, .ref 318), (1, .int v1), (2, .int v2)], [], N, sl, rn_hp S M)) rfl ?_
    refine rn_ite (fun c1 => ?_) (fun c1 => ?_)
    · rw [if_pos c1] at h
      refine rn_kq qm (s2 := (31, [(1, .int v1)], [], N, sl, rn_hp S M)) rfl rfl ?_
      exact hk _ _ h
    · rw [if_neg c1] at h
      refine rn_eg qm 2 (s2 := (16, [(0, .ref 318), (1, .int v1), (2, .int v2)], [.int v2, .ref 318], N, sl, rn_hp S M)) rfl ?_
      obtain ⟨p2, hp2, h⟩ := Option.bind_eq_some_iff.mp h
      refine rn_ec qm rfl rfl rfl rfl rn_m69 rfl rfl rfl (fun _ => rn_rc_of (en_9 (q := 318) rfl)) (E69 hp2) ?_
      refine rn_eg qm 0 (s2 := (17, [(0, .ref 318), (1, .int v1), (2, .int v2)], [], N, sl, rn_hp S p2)) rfl ?_
      refine rn_eg qm 2 (s2 := ((if v1 = 0 then 27 else 19), [(0, .ref 318), (1, .int v1), (2, .int v2)], [], N, sl, rn_hp S p2)) rfl ?_
      refine rn_ite (fun c3 => ?_) (fun c3 => ?_)
      · rw [if_pos c3] at h
        refine rn_eg qm 4 (s2 := (12, [(2, .int (v2 + (-1 : Int32))), (1, .int (0 : Int32)), (0, .ref 318)], [], N, sl, rn_hp S p2)) rfl ?_
        refine rn_kq qm (s2 := (12, [(0, .ref 318), (1, .int (0 : Int32)), (2, .int (v2 + (-1 : Int32)))], [], N, sl, rn_hp S p2)) rfl rfl ?_
        exact ih _ _ _ k R hk h
      · rw [if_neg c3] at h
        refine rn_eg qm 3 (s2 := (22, [(0, .ref 318), (1, .int v1), (2, .int v2)], [.int v2, .ref 334], N, sl, rn_hp S p2)) rfl ?_
        have c4 : ¬ (rn_ob v2 101) := fun c => by rw [if_pos c] at h; cases h
        rw [if_neg c4] at h
        refine rn_e1 qm (s2 := (23, [(0, .ref 318), (1, .int v1), (2, .int v2)], [.int (rA p2 334 (Int32.toNatClampNeg v2))], N, sl, rn_hp S p2)) (rn_g_iald (n := 101) rfl rfl (ar_m10 rfl rfl (Nat.le_of_ble_eq_true rfl)) c4) ?_
        refine rn_eg qm 2 (s2 := ((if (64 : Int32) < (rA p2 334 (Int32.toNatClampNeg v2)) then 27 else 25), [(0, .ref 318), (1, .int v1), (2, .int v2)], [], N, sl, rn_hp S p2)) rfl ?_
        refine rn_ite (fun c5 => ?_) (fun c5 => ?_)
        · rw [if_pos c5] at h
          refine rn_eg qm 4 (s2 := (12, [(2, .int (v2 + (-1 : Int32))), (1, .int (0 : Int32)), (0, .ref 318)], [], N, sl, rn_hp S p2)) rfl ?_
          refine rn_kq qm (s2 := (12, [(0, .ref 318), (1, .int (0 : Int32)), (2, .int (v2 + (-1 : Int32)))], [], N, sl, rn_hp S p2)) rfl rfl ?_
          exact ih _ _ _ k R hk h
        · rw [if_neg c5] at h
          refine rn_eg qm 5 (s2 := (12, [(2, .int (v2 + (-1 : Int32))), (1, .int (1 : Int32)), (0, .ref 318)], [], N, sl, rn_hp S p2)) rfl ?_
          refine rn_kq qm (s2 := (12, [(0, .ref 318), (1, .int (1 : Int32)), (2, .int (v2 + (-1 : Int32)))], [], N, sl, rn_hp S p2)) rfl rfl ?_
          exact ih _ _ _ k R hk h
def f70 (M : rn_T) : Option (Bool × rn_T) :=
  f70_L12 rn_FU (wA M 336 (Int32.toNatClampNeg (0 : Int32)) (0 : Int32)) (1 : Int32) ((rI (wA M 336 (Int32.toNatClampNeg (0 : Int32)) (0 : Int32)) 318 10) - (1 : Int32)) (fun M6 w6_1 =>
    if w6_1 = 0 ∨ w6_1 = 1 then some ((decide (w6_1 = 1)), M6) else none)
set_option maxHeartbeats 4000000 in
theorem E70 {X : rn_X} {N sl : Nat} {S M : rn_T} {R : (Bool × rn_T)} (h : f70 M = some R) : rn_rv X 70 (0, [(0, .ref 318)], [], N, sl, rn_hp S M) (some (.int (rn_bi R.1)), N, sl, rn_hp S R.2) := by
  have qm := rn_m70
  unfold f70 at h
  refine rn_eg qm 4 (s2 := (4, [(0, .ref 318)], [.int (0 : Int32), .int (0 : Int32), .ref 336], N, sl, rn_hp S M)) rfl ?_
  refine rn_e1 qm (s2 := (5, [(0, .ref 318)], [], N, sl, rn_hp S (wA M 336 (Int32.toNatClampNeg (0 : Int32)) (0 : Int32)))) (rn_g_iast (n := 101) rfl rfl (ar_m10 rfl rfl (Nat.le_of_ble_eq_true rfl)) (by decide) (aw_m10 rfl rfl (Nat.le_of_ble_eq_true rfl))) ?_
  refine rn_eg qm 7 (s2 := (12, [(2, .int ((rI (wA M 336 (Int32.toNatClampNeg (0 : Int32)) (0 : Int32)) 318 10) - (1 : Int32))), (1, .int (1 : Int32)), (0, .ref 318)], [], N, sl, rn_hp S (wA M 336 (Int32.toNatClampNeg (0 : Int32)) (0 : Int32)))) rfl ?_
  refine rn_kq qm (s2 := (12, [(0, .ref 318), (1, .int (1 : Int32)), (2, .int ((rI (wA M 336 (Int32.toNatClampNeg (0 : Int32)) (0 : Int32)) 318 10) - (1 : Int32)))], [], N, sl, rn_hp S (wA M 336 (Int32.toNatClampNeg (0 : Int32)) (0 : Int32)))) rfl rfl ?_
  refine E70_L12 rn_FU _ _ _ _ R ?_ h
  intro M6 w6_1 h
  refine rn_eg qm 1 (s2 := (32, [(1, .int w6_1)], [.int w6_1], N, sl, rn_hp S M6)) rfl ?_
  have z7 : w6_1 = 0 ∨ w6_1 = 1 := Decidable.byContradiction fun c => by rw [if_neg c] at h; cases h
  rw [if_pos z7] at h
  cases h
  rw [rn_bi_dec z7]
  exact rn_er qm rfl rfl (rn_rtz z7)
/-! 71: RecordNichesModel.refusal(II)I -/
def f71 (M : rn_T) (a1 : Int32) (a2 : Int32) : Option (Int32 × rn_T) :=
  Option.bind (f48 M a1 a2) fun p1 =>
    if p1.1 = true then
      Option.bind (f56 p1.2 a1 a2) fun p3 =>
        if p3.1 = true then
          Option.bind (f70 p3.2) fun p5 =>
            if p5.1 = true then
              some ((-6 : Int32), p5.2)
            else
              some ((-3 : Int32), p5.2)
        else
          some ((-3 : Int32), p3.2)
    else
      some ((-5 : Int32), p1.2)
set_option maxHeartbeats 4000000 in
theorem E71 {X : rn_X} {N sl : Nat} {S M : rn_T} {a1 : Int32} {a2 : Int32} {R : (Int32 × rn_T)} (h : f71 M a1 a2 = some R) : rn_rv X 71 (0, [(0, .ref 318), (1, .int a1), (2, .int a2)], [], N, sl, rn_hp S M) (some (.int R.1), N, sl, rn_hp S R.2) := by
  have qm := rn_m71
  unfold f71 at h
  refine rn_eg qm 3 (s2 := (3, [(0, .ref 318), (1, .int a1), (2, .int a2)], [.int a2, .int a1, .ref 318], N, sl, rn_hp S M)) rfl ?_
  obtain ⟨p1, hp1, h⟩ := Option.bind_eq_some_iff.mp h
  refine rn_ec qm rfl rfl rfl rfl rn_m48 rfl rfl rfl (fun _ => rn_rc_of (en_9 (q := 318) rfl)) (E48 hp1) ?_
  refine rn_eg qm 0 (s2 := (4, [(0, .ref 318), (1, .int a1), (2, .int a2)], [.int (rn_bi p1.1)], N, sl, rn_hp S p1.2)) rfl ?_
  refine rn_eg qm 1 (s2 := ((if (rn_bi p1.1) = 0 then 5 else 7), [(0, .ref 318), (1, .int a1), (2, .int a2)], [], N, sl, rn_hp S p1.2)) rfl ?_
  refine rn_iteb (fun c2 => ?_) (fun c2 => ?_)
  · rw [if_neg (rn_bf c2)] at h
    refine rn_eg qm 1 (s2 := (6, [(0, .ref 318), (1, .int a1), (2, .int a2)], [.int (-5 : Int32)], N, sl, rn_hp S p1.2)) rfl ?_
    cases h
    exact rn_er qm rfl rfl rfl
  · rw [if_pos c2] at h
    refine rn_eg qm 3 (s2 := (10, [(0, .ref 318), (1, .int a1), (2, .int a2)], [.int a2, .int a1, .ref 318], N, sl, rn_hp S p1.2)) rfl ?_
    obtain ⟨p3, hp3, h⟩ := Option.bind_eq_some_iff.mp h
    refine rn_ec qm rfl rfl rfl rfl rn_m56 rfl rfl rfl (fun _ => rn_rc_of (en_9 (q := 318) rfl)) (E56 hp3) ?_
    refine rn_eg qm 0 (s2 := (11, [(0, .ref 318), (1, .int a1), (2, .int a2)], [.int (rn_bi p3.1)], N, sl, rn_hp S p3.2)) rfl ?_
    refine rn_eg qm 1 (s2 := ((if (rn_bi p3.1) = 0 then 17 else 12), [(0, .ref 318), (1, .int a1), (2, .int a2)], [], N, sl, rn_hp S p3.2)) rfl ?_
    refine rn_iteb (fun c4 => ?_) (fun c4 => ?_)
    · rw [if_neg (rn_bf c4)] at h
      refine rn_eg qm 1 (s2 := (18, [], [.int (-3 : Int32)], N, sl, rn_hp S p3.2)) rfl ?_
      cases h
      exact rn_er qm rfl rfl rfl
    · rw [if_pos c4] at h
      refine rn_eg qm 1 (s2 := (13, [(0, .ref 318), (1, .int a1), (2, .int a2)], [.ref 318], N, sl, rn_hp S p3.2)) rfl ?_
      obtain ⟨p5, hp5, h⟩ := Option.bind_eq_some_iff.mp h
      refine rn_ec qm rfl rfl rfl rfl rn_m70 rfl rfl rfl (fun _ => rn_rc_of (en_9 (q := 318) rfl)) (E70 hp5) ?_
      refine rn_eg qm 0 (s2 := (14, [(0, .ref 318), (1, .int a1), (2, .int a2)], [.int (rn_bi p5.1)], N, sl, rn_hp S p5.2)) rfl ?_
      refine rn_eg qm 1 (s2 := ((if (rn_bi p5.1) = 0 then 17 else 15), [(0, .ref 318), (1, .int a1), (2, .int a2)], [], N, sl, rn_hp S p5.2)) rfl ?_
      refine rn_iteb (fun c6 => ?_) (fun c6 => ?_)
      · rw [if_neg (rn_bf c6)] at h
        refine rn_eg qm 1 (s2 := (18, [], [.int (-3 : Int32)], N, sl, rn_hp S p5.2)) rfl ?_
        cases h
        exact rn_er qm rfl rfl rfl
      · rw [if_pos c6] at h
        refine rn_eg qm 2 (s2 := (18, [(0, .ref 318), (1, .int a1), (2, .int a2)], [.int (-6 : Int32)], N, sl, rn_hp S p5.2)) rfl ?_
        cases h
        exact rn_er qm rfl rfl rfl
/-! 72: RecordNichesModel.toldOf(I)I -/
def f72 (M : rn_T) (a1 : Int32) : Int32 :=
  if a1 = (0 : Int32) then
    (rA M 334 (Int32.toNatClampNeg (0 : Int32)))
  else
    if a1 = (1 : Int32) then
      (rA M 335 (Int32.toNatClampNeg (0 : Int32)))
    else
      if a1 = (2 : Int32) then
        if (rA M 340 (Int32.toNatClampNeg (0 : Int32))) = 0 then
          (-6 : Int32)
        else
          (rA M 337 (Int32.toNatClampNeg (0 : Int32)))
      else
        if a1 = (3 : Int32) then
          if (rA M 340 (Int32.toNatClampNeg (0 : Int32))) = 0 then
            (-6 : Int32)
          else
            (rA M 338 (Int32.toNatClampNeg (0 : Int32)))
        else
          if a1 = (4 : Int32) then
            if (rA M 340 (Int32.toNatClampNeg (0 : Int32))) = 0 then
              (-6 : Int32)
            else
              (rA M 339 (Int32.toNatClampNeg (0 : Int32)))
          else
            if a1 = (5 : Int32) then
              if (rA M 340 (Int32.toNatClampNeg (0 : Int32))) = 0 then
                (-6 : Int32)
              else
                (rA M 340 (Int32.toNatClampNeg (0 : Int32)))
            else
              (rI M 318 10)
set_option maxHeartbeats 4000000 in
theorem E72 {X : rn_X} {N sl : Nat} {S M : rn_T} {a1 : Int32} {R : Int32} (h : f72 M a1 = R) : rn_rv X 72 (0, [(0, .ref 318), (1, .int a1)], [], N, sl, rn_hp S M) (some (.int R), N, sl, rn_hp S M) := by
  have qm := rn_m72
  unfold f72 at h
  refine rn_eg qm 2 (s2 := ((if a1 = (0 : Int32) then 2 else (if a1 = (1 : Int32) then 7 else (if a1 = (2 : Int32) then 12 else (if a1 = (3 : Int32) then 24 else (if a1 = (4 : Int32) then 36 else (if a1 = (5 : Int32) then 48 else 60)))))), [(0, .ref 318), (1, .int a1)], [], N, sl, rn_hp S M)) rfl ?_
  refine rn_ite (fun c1 => ?_) (fun c1 => ?_)
  · rw [if_pos c1] at h
    refine rn_eg qm 3 (s2 := (5, [(0, .ref 318), (1, .int a1)], [.int (0 : Int32), .ref 334], N, sl, rn_hp S M)) rfl ?_
    refine rn_e1 qm (s2 := (6, [(0, .ref 318), (1, .int a1)], [.int (rA M 334 (Int32.toNatClampNeg (0 : Int32)))], N, sl, rn_hp S M)) (rn_g_iald (n := 101) rfl rfl (ar_m10 rfl rfl (Nat.le_of_ble_eq_true rfl)) (by decide)) ?_
    cases h
    exact rn_er qm rfl rfl rfl
  · rw [if_neg c1] at h
    refine rn_ite (fun c2 => ?_) (fun c2 => ?_)
    · rw [if_pos c2] at h
      refine rn_eg qm 3 (s2 := (10, [(0, .ref 318), (1, .int a1)], [.int (0 : Int32), .ref 335], N, sl, rn_hp S M)) rfl ?_
      refine rn_e1 qm (s2 := (11, [(0, .ref 318), (1, .int a1)], [.int (rA M 335 (Int32.toNatClampNeg (0 : Int32)))], N, sl, rn_hp S M)) (rn_g_iald (n := 101) rfl rfl (ar_m10 rfl rfl (Nat.le_of_ble_eq_true rfl)) (by decide)) ?_
      cases h
      exact rn_er qm rfl rfl rfl
    · rw [if_neg c2] at h
      refine rn_ite (fun c3 => ?_) (fun c3 => ?_)
      · rw [if_pos c3] at h
        refine rn_eg qm 3 (s2 := (15, [(0, .ref 318), (1, .int a1)], [.int (0 : Int32), .ref 340], N, sl, rn_hp S M)) rfl ?_
        refine rn_e1 qm (s2 := (16, [(0, .ref 318), (1, .int a1)], [.int (rA M 340 (Int32.toNatClampNeg (0 : Int32)))], N, sl, rn_hp S M)) (rn_g_iald (n := 101) rfl rfl (ar_m10 rfl rfl (Nat.le_of_ble_eq_true rfl)) (by decide)) ?_
        refine rn_eg qm 1 (s2 := ((if (rA M 340 (Int32.toNatClampNeg (0 : Int32))) = 0 then 17 else 19), [(0, .ref 318), (1, .int a1)], [], N, sl, rn_hp S M)) rfl ?_
        refine rn_ite (fun c4 => ?_) (fun c4 => ?_)
        · rw [if_pos c4] at h
          refine rn_eg qm 2 (s2 := (23, [(0, .ref 318), (1, .int a1)], [.int (-6 : Int32)], N, sl, rn_hp S M)) rfl ?_
          cases h
          exact rn_er qm rfl rfl rfl
        · rw [if_neg c4] at h
          refine rn_eg qm 3 (s2 := (22, [(0, .ref 318), (1, .int a1)], [.int (0 : Int32), .ref 337], N, sl, rn_hp S M)) rfl ?_
          refine rn_e1 qm (s2 := (23, [(0, .ref 318), (1, .int a1)], [.int (rA M 337 (Int32.toNatClampNeg (0 : Int32)))], N, sl, rn_hp S M)) (rn_g_iald (n := 101) rfl rfl (ar_m10 rfl rfl (Nat.le_of_ble_eq_true rfl)) (by decide)) ?_
          cases h
          exact rn_er qm rfl rfl rfl
      · rw [if_neg c3] at h
        refine rn_ite (fun c5 => ?_) (fun c5 => ?_)
        · rw [if_pos c5] at h
          refine rn_eg qm 3 (s2 := (27, [(0, .ref 318), (1, .int a1)], [.int (0 : Int32), .ref 340], N, sl, rn_hp S M)) rfl ?_
          refine rn_e1 qm (s2 := (28, [(0, .ref 318), (1, .int a1)], [.int (rA M 340 (Int32.toNatClampNeg (0 : Int32)))], N, sl, rn_hp S M)) (rn_g_iald (n := 101) rfl rfl (ar_m10 rfl rfl (Nat.le_of_ble_eq_true rfl)) (by decide)) ?_
          refine rn_eg qm 1 (s2 := ((if (rA M 340 (Int32.toNatClampNeg (0 : Int32))) = 0 then 29 else 31), [(0, .ref 318), (1, .int a1)], [], N, sl, rn_hp S M)) rfl ?_
          refine rn_ite (fun c6 => ?_) (fun c6 => ?_)
          · rw [if_pos c6] at h
            refine rn_eg qm 2 (s2 := (35, [(0, .ref 318), (1, .int a1)], [.int (-6 : Int32)], N, sl, rn_hp S M)) rfl ?_
            cases h
            exact rn_er qm rfl rfl rfl
          · rw [if_neg c6] at h
            refine rn_eg qm 3 (s2 := (34, [(0, .ref 318), (1, .int a1)], [.int (0 : Int32), .ref 338], N, sl, rn_hp S M)) rfl ?_
            refine rn_e1 qm (s2 := (35, [(0, .ref 318), (1, .int a1)], [.int (rA M 338 (Int32.toNatClampNeg (0 : Int32)))], N, sl, rn_hp S M)) (rn_g_iald (n := 101) rfl rfl (ar_m10 rfl rfl (Nat.le_of_ble_eq_true rfl)) (by decide)) ?_
            cases h
            exact rn_er qm rfl rfl rfl
        · rw [if_neg c5] at h
          refine rn_ite (fun c7 => ?_) (fun c7 => ?_)
          · rw [if_pos c7] at h
            refine rn_eg qm 3 (s2 := (39, [(0, .ref 318), (1, .int a1)], [.int (0 : Int32), .ref 340], N, sl, rn_hp S M)) rfl ?_
            refine rn_e1 qm (s2 := (40, [(0, .ref 318), (1, .int a1)], [.int (rA M 340 (Int32.toNatClampNeg (0 : Int32)))], N, sl, rn_hp S M)) (rn_g_iald (n := 101) rfl rfl (ar_m10 rfl rfl (Nat.le_of_ble_eq_true rfl)) (by decide)) ?_
            refine rn_eg qm 1 (s2 := ((if (rA M 340 (Int32.toNatClampNeg (0 : Int32))) = 0 then 41 else 43), [(0, .ref 318), (1, .int a1)], [], N, sl, rn_hp S M)) rfl ?_
            refine rn_ite (fun c8 => ?_) (fun c8 => ?_)
            · rw [if_pos c8] at h
              refine rn_eg qm 2 (s2 := (47, [(0, .ref 318), (1, .int a1)], [.int (-6 : Int32)], N, sl, rn_hp S M)) rfl ?_
              cases h
              exact rn_er qm rfl rfl rfl
            · rw [if_neg c8] at h
              refine rn_eg qm 3 (s2 := (46, [(0, .ref 318), (1, .int a1)], [.int (0 : Int32), .ref 339], N, sl, rn_hp S M)) rfl ?_
              refine rn_e1 qm (s2 := (47, [(0, .ref 318), (1, .int a1)], [.int (rA M 339 (Int32.toNatClampNeg (0 : Int32)))], N, sl, rn_hp S M)) (rn_g_iald (n := 101) rfl rfl (ar_m10 rfl rfl (Nat.le_of_ble_eq_true rfl)) (by decide)) ?_
              cases h
              exact rn_er qm rfl rfl rfl
          · rw [if_neg c7] at h
            refine rn_ite (fun c9 => ?_) (fun c9 => ?_)
            · rw [if_pos c9] at h
              refine rn_eg qm 3 (s2 := (51, [(0, .ref 318), (1, .int a1)], [.int (0 : Int32), .ref 340], N, sl, rn_hp S M)) rfl ?_
              refine rn_e1 qm (s2 := (52, [(0, .ref 318), (1, .int a1)], [.int (rA M 340 (Int32.toNatClampNeg (0 : Int32)))], N, sl, rn_hp S M)) (rn_g_iald (n := 101) rfl rfl (ar_m10 rfl rfl (Nat.le_of_ble_eq_true rfl)) (by decide)) ?_
              refine rn_eg qm 1 (s2 := ((if (rA M 340 (Int32.toNatClampNeg (0 : Int32))) = 0 then 53 else 55), [(0, .ref 318), (1, .int a1)], [], N, sl, rn_hp S M)) rfl ?_
              refine rn_ite (fun c10 => ?_) (fun c10 => ?_)
              · rw [if_pos c10] at h
                refine rn_eg qm 2 (s2 := (59, [(0, .ref 318), (1, .int a1)], [.int (-6 : Int32)], N, sl, rn_hp S M)) rfl ?_
                cases h
                exact rn_er qm rfl rfl rfl
              · rw [if_neg c10] at h
                refine rn_eg qm 3 (s2 := (58, [(0, .ref 318), (1, .int a1)], [.int (0 : Int32), .ref 340], N, sl, rn_hp S M)) rfl ?_
                refine rn_e1 qm (s2 := (59, [(0, .ref 318), (1, .int a1)], [.int (rA M 340 (Int32.toNatClampNeg (0 : Int32)))], N, sl, rn_hp S M)) (rn_g_iald (n := 101) rfl rfl (ar_m10 rfl rfl (Nat.le_of_ble_eq_true rfl)) (by decide)) ?_
                cases h
                exact rn_er qm rfl rfl rfl
            · rw [if_neg c9] at h
              refine rn_eg qm 2 (s2 := (62, [(0, .ref 318), (1, .int a1)], [.int (rI M 318 10)], N, sl, rn_hp S M)) rfl ?_
              cases h
              exact rn_er qm rfl rfl rfl
/-! 73: RecordNichesModel.layout(III)I -/
def f73 (M : rn_T) (a1 : Int32) (a2 : Int32) (a3 : Int32) : Option (Int32 × rn_T) :=
  Option.bind (f46 M a1 a2) fun p1 =>
    if p1 = true then
      if (f29 (Int32.toInt64 a3) (0 : Int64) (6 : Int64)) = true then
        Option.bind (f71 M a1 a2) fun p5 =>
          if p5.1 = (-6 : Int32) then
            some ((f72 p5.2 a3), p5.2)
          else
            some (p5.1, p5.2)
      else
        some ((-2 : Int32), M)
    else
      some ((-1 : Int32), M)
set_option maxHeartbeats 4000000 in
theorem E73 {X : rn_X} {N sl : Nat} {S M : rn_T} {a1 : Int32} {a2 : Int32} {a3 : Int32} {R : (Int32 × rn_T)} (h : f73 M a1 a2 a3 = some R) : rn_rv X 73 (0, [(0, .ref 318), (1, .int a1), (2, .int a2), (3, .int a3)], [], N, sl, rn_hp S M) (some (.int R.1), N, sl, rn_hp S R.2) := by
  have qm := rn_m73
  unfold f73 at h
  refine rn_eg qm 3 (s2 := (3, [(0, .ref 318), (1, .int a1), (2, .int a2), (3, .int a3)], [.int a2, .int a1, .ref 318], N, sl, rn_hp S M)) rfl ?_
  obtain ⟨p1, hp1, h⟩ := Option.bind_eq_some_iff.mp h
  refine rn_ec qm rfl rfl rfl rfl rn_m46 rfl rfl rfl (fun _ => rn_rc_of (en_9 (q := 318) rfl)) (E46 hp1) ?_
  refine rn_eg qm 0 (s2 := (4, [(0, .ref 318), (1, .int a1), (2, .int a2), (3, .int a3)], [.int (rn_bi p1)], N, sl, rn_hp S M)) rfl ?_
  refine rn_eg qm 1 (s2 := ((if (rn_bi p1) = 0 then 5 else 7), [(0, .ref 318), (1, .int a1), (2, .int a2), (3, .int a3)], [], N, sl, rn_hp S M)) rfl ?_
  refine rn_iteb (fun c2 => ?_) (fun c2 => ?_)
  · rw [if_neg (rn_bf c2)] at h
    refine rn_eg qm 1 (s2 := (6, [(0, .ref 318), (1, .int a1), (2, .int a2), (3, .int a3)], [.int (-1 : Int32)], N, sl, rn_hp S M)) rfl ?_
    cases h
    exact rn_er qm rfl rfl rfl
  · rw [if_pos c2] at h
    refine rn_eg qm 4 (s2 := (11, [(0, .ref 318), (1, .int a1), (2, .int a2), (3, .int a3)], [.long (6 : Int64), .long (0 : Int64), .long (Int32.toInt64 a3)], N, sl, rn_hp S M)) rfl ?_
    refine rn_ec qm rfl rfl rfl rfl rn_m29 rfl rfl rfl (fun h => by cases h) (E29 rfl) ?_
    refine rn_eg qm 0 (s2 := (12, [(0, .ref 318), (1, .int a1), (2, .int a2), (3, .int a3)], [.int (rn_bi (f29 (Int32.toInt64 a3) (0 : Int64) (6 : Int64)))], N, sl, rn_hp S M)) rfl ?_
    refine rn_eg qm 1 (s2 := ((if (rn_bi (f29 (Int32.toInt64 a3) (0 : Int64) (6 : Int64))) = 0 then 13 else 15), [(0, .ref 318), (1, .int a1), (2, .int a2), (3, .int a3)], [], N, sl, rn_hp S M)) rfl ?_
    refine rn_iteb (fun c4 => ?_) (fun c4 => ?_)
    · rw [if_neg (rn_bf c4)] at h
      refine rn_eg qm 1 (s2 := (14, [(0, .ref 318), (1, .int a1), (2, .int a2), (3, .int a3)], [.int (-2 : Int32)], N, sl, rn_hp S M)) rfl ?_
      cases h
      exact rn_er qm rfl rfl rfl
    · rw [if_pos c4] at h
      refine rn_eg qm 3 (s2 := (18, [(0, .ref 318), (1, .int a1), (2, .int a2), (3, .int a3)], [.int a2, .int a1, .ref 318], N, sl, rn_hp S M)) rfl ?_
      obtain ⟨p5, hp5, h⟩ := Option.bind_eq_some_iff.mp h
      refine rn_ec qm rfl rfl rfl rfl rn_m71 rfl rfl rfl (fun _ => rn_rc_of (en_9 (q := 318) rfl)) (E71 hp5) ?_
      refine rn_eg qm 0 (s2 := (19, [(0, .ref 318), (1, .int a1), (2, .int a2), (3, .int a3)], [.int p5.1], N, sl, rn_hp S p5.2)) rfl ?_
      refine rn_eg qm 4 (s2 := ((if p5.1 = (-6 : Int32) then 25 else 23), [(4, .int p5.1), (0, .ref 318), (1, .int a1), (2, .int a2), (3, .int a3)], [], N, sl, rn_hp S p5.2)) rfl ?_
      refine rn_ite (fun c6 => ?_) (fun c6 => ?_)
      · rw [if_pos c6] at h
        refine rn_eg qm 2 (s2 := (27, [(4, .int p5.1), (0, .ref 318), (1, .int a1), (2, .int a2), (3, .int a3)], [.int a3, .ref 318], N, sl, rn_hp S p5.2)) rfl ?_
        refine rn_ec qm rfl rfl rfl rfl rn_m72 rfl rfl rfl (fun _ => rn_rc_of (en_9 (q := 318) rfl)) (E72 rfl) ?_
        refine rn_eg qm 0 (s2 := (28, [(4, .int p5.1), (0, .ref 318), (1, .int a1), (2, .int a2), (3, .int a3)], [.int (f72 p5.2 a3)], N, sl, rn_hp S p5.2)) rfl ?_
        cases h
        exact rn_er qm rfl rfl rfl
      · rw [if_neg c6] at h
        refine rn_eg qm 2 (s2 := (28, [(4, .int p5.1), (0, .ref 318), (1, .int a1), (2, .int a2), (3, .int a3)], [.int p5.1], N, sl, rn_hp S p5.2)) rfl ?_
        cases h
        exact rn_er qm rfl rfl rfl
/-! 74: RecordNichesModel.termTold(II)I -/
def f74 (M : rn_T) (a1 : Int32) (a2 : Int32) : Option Int32 :=
  if a2 = 0 then
    if rn_ob a1 101 then none else
      some (rA M 336 (Int32.toNatClampNeg a1))
  else
    if a2 = (1 : Int32) then
      if rn_ob a1 101 then none else
        some (rA M 334 (Int32.toNatClampNeg a1))
    else
      if a2 = (2 : Int32) then
        if rn_ob a1 101 then none else
          some (rA M 335 (Int32.toNatClampNeg a1))
      else
        if rn_ob a1 101 then none else
          some (rA M 322 (Int32.toNatClampNeg a1))
set_option maxHeartbeats 4000000 in
theorem E74 {X : rn_X} {N sl : Nat} {S M : rn_T} {a1 : Int32} {a2 : Int32} {R : (Int32)} (h : f74 M a1 a2 = some R) : rn_rv X 74 (0, [(0, .ref 318), (1, .int a1), (2, .int a2)], [], N, sl, rn_hp S M) (some (.int R), N, sl, rn_hp S M) := by
  have qm := rn_m74
  unfold f74 at h
  refine rn_eg qm 2 (s2 := ((if a2 = 0 then 2 else 7), [(0, .ref 318), (1, .int a1), (2, .int a2)], [], N, sl, rn_hp S M)) rfl ?_
  refine rn_ite (fun c1 => ?_) (fun c1 => ?_)
  · rw [if_pos c1] at h
    refine rn_eg qm 3 (s2 := (5, [(0, .ref 318), (1, .int a1), (2, .int a2)], [.int a1, .ref 336], N, sl, rn_hp S M)) rfl ?_
    have c2 : ¬ (rn_ob a1 101) := fun c => by rw [if_pos c] at h; cases h
    rw [if_neg c2] at h
    refine rn_e1 qm (s2 := (6, [(0, .ref 318), (1, .int a1), (2, .int a2)], [.int (rA M 336 (Int32.toNatClampNeg a1))], N, sl, rn_hp S M)) (rn_g_iald (n := 101) rfl rfl (ar_m10 rfl rfl (Nat.le_of_ble_eq_true rfl)) c2) ?_
    refine rn_eg qm 1 (s2 := (27, [(0, .ref 318), (1, .int a1), (2, .int a2)], [.int (rA M 336 (Int32.toNatClampNeg a1))], N, sl, rn_hp S M)) rfl ?_
    cases h
    exact rn_er qm rfl rfl rfl
  · rw [if_neg c1] at h
    refine rn_eg qm 3 (s2 := ((if a2 = (1 : Int32) then 10 else 15), [(0, .ref 318), (1, .int a1), (2, .int a2)], [], N, sl, rn_hp S M)) rfl ?_
    refine rn_ite (fun c3 => ?_) (fun c3 => ?_)
    · rw [if_pos c3] at h
      refine rn_eg qm 3 (s2 := (13, [(0, .ref 318), (1, .int a1), (2, .int a2)], [.int a1, .ref 334], N, sl, rn_hp S M)) rfl ?_
      have c4 : ¬ (rn_ob a1 101) := fun c => by rw [if_pos c] at h; cases h
      rw [if_neg c4] at h
      refine rn_e1 qm (s2 := (14, [(0, .ref 318), (1, .int a1), (2, .int a2)], [.int (rA M 334 (Int32.toNatClampNeg a1))], N, sl, rn_hp S M)) (rn_g_iald (n := 101) rfl rfl (ar_m10 rfl rfl (Nat.le_of_ble_eq_true rfl)) c4) ?_
      refine rn_eg qm 1 (s2 := (27, [(0, .ref 318), (1, .int a1), (2, .int a2)], [.int (rA M 334 (Int32.toNatClampNeg a1))], N, sl, rn_hp S M)) rfl ?_
      cases h
      exact rn_er qm rfl rfl rfl
    · rw [if_neg c3] at h
      refine rn_eg qm 3 (s2 := ((if a2 = (2 : Int32) then 18 else 23), [(0, .ref 318), (1, .int a1), (2, .int a2)], [], N, sl, rn_hp S M)) rfl ?_
      refine rn_ite (fun c5 => ?_) (fun c5 => ?_)
      · rw [if_pos c5] at h
        refine rn_eg qm 3 (s2 := (21, [(0, .ref 318), (1, .int a1), (2, .int a2)], [.int a1, .ref 335], N, sl, rn_hp S M)) rfl ?_
        have c6 : ¬ (rn_ob a1 101) := fun c => by rw [if_pos c] at h; cases h
        rw [if_neg c6] at h
        refine rn_e1 qm (s2 := (22, [(0, .ref 318), (1, .int a1), (2, .int a2)], [.int (rA M 335 (Int32.toNatClampNeg a1))], N, sl, rn_hp S M)) (rn_g_iald (n := 101) rfl rfl (ar_m10 rfl rfl (Nat.le_of_ble_eq_true rfl)) c6) ?_
        refine rn_eg qm 1 (s2 := (27, [(0, .ref 318), (1, .int a1), (2, .int a2)], [.int (rA M 335 (Int32.toNatClampNeg a1))], N, sl, rn_hp S M)) rfl ?_
        cases h
        exact rn_er qm rfl rfl rfl
      · rw [if_neg c5] at h
        refine rn_eg qm 3 (s2 := (26, [(0, .ref 318), (1, .int a1), (2, .int a2)], [.int a1, .ref 322], N, sl, rn_hp S M)) rfl ?_
        have c7 : ¬ (rn_ob a1 101) := fun c => by rw [if_pos c] at h; cases h
        rw [if_neg c7] at h
        refine rn_e1 qm (s2 := (27, [(0, .ref 318), (1, .int a1), (2, .int a2)], [.int (rA M 322 (Int32.toNatClampNeg a1))], N, sl, rn_hp S M)) (rn_g_iald (n := 101) rfl rfl (ar_m10 rfl rfl (Nat.le_of_ble_eq_true rfl)) c7) ?_
        cases h
        exact rn_er qm rfl rfl rfl
/-! 75: RecordNichesModel.term(IIII)I -/
def f75_J37 (M : rn_T) (u4 : Int32) (t0 : Int32) : Option (Int32 × rn_T) :=
  if 0 ≤ t0 then
    Option.bind (f74 M t0 u4) fun p9 =>
      some (p9, M)
  else
    some ((-6 : Int32), M)
set_option maxHeartbeats 4000000 in
theorem E75_J37 {X : rn_X} {N sl : Nat} {S : rn_T} {M : rn_T} {u4 : Int32} {t0 : Int32} {R : (Int32 × rn_T)} (h : f75_J37 M u4 t0 = some R) : rn_rv X 75 (37, [(0, .ref 318), (4, .int u4)], [.int t0], N, sl, rn_hp S M) (some (.int R.1), N, sl, rn_hp S R.2) := by
  have qm := rn_m75
  unfold f75_J37 at h
  refine rn_eg qm 3 (s2 := ((if 0 ≤ t0 then 42 else 40), [(6, .int t0), (0, .ref 318), (4, .int u4)], [], N, sl, rn_hp S M)) rfl ?_
  refine rn_ite (fun c8 => ?_) (fun c8 => ?_)
  · rw [if_pos c8] at h
    refine rn_eg qm 3 (s2 := (45, [(6, .int t0), (0, .ref 318), (4, .int u4)], [.int u4, .int t0, .ref 318], N, sl, rn_hp S M)) rfl ?_
    obtain ⟨p9, hp9, h⟩ := Option.bind_eq_some_iff.mp h
    refine rn_ec qm rfl rfl rfl rfl rn_m74 rfl rfl rfl (fun _ => rn_rc_of (en_9 (q := 318) rfl)) (E74 hp9) ?_
    refine rn_eg qm 0 (s2 := (46, [(6, .int t0), (0, .ref 318), (4, .int u4)], [.int p9], N, sl, rn_hp S M)) rfl ?_
    cases h
    exact rn_er qm rfl rfl rfl
  · rw [if_neg c8] at h
    refine rn_eg qm 2 (s2 := (46, [(6, .int t0), (0, .ref 318), (4, .int u4)], [.int (-6 : Int32)], N, sl, rn_hp S M)) rfl ?_
    cases h
    exact rn_er qm rfl rfl rfl
def f75 (M : rn_T) (a1 : Int32) (a2 : Int32) (a3 : Int32) (a4 : Int32) : Option (Int32 × rn_T) :=
  Option.bind (f46 M a1 a2) fun p1 =>
    if p1 = true then
      if (f29 (Int32.toInt64 a4) (0 : Int64) (3 : Int64)) = true then
        Option.bind (f71 M a1 a2) fun p5 =>
          if p5.1 = (-6 : Int32) then
            if (rA p5.2 322 (Int32.toNatClampNeg (0 : Int32))) < (5 : Int32) then
              f75_J37 p5.2 a4 (-6 : Int32)
            else
              Option.bind (f57 p5.2 (0 : Int32) a3) fun p10 =>
                f75_J37 p5.2 a4 p10
          else
            some (p5.1, p5.2)
      else
        some ((-2 : Int32), M)
    else
      some ((-1 : Int32), M)
set_option maxHeartbeats 4000000 in
theorem E75 {X : rn_X} {N sl : Nat} {S M : rn_T} {a1 : Int32} {a2 : Int32} {a3 : Int32} {a4 : Int32} {R : (Int32 × rn_T)} (h : f75 M a1 a2 a3 a4 = some R) : rn_rv X 75 (0, [(0, .ref 318), (1, .int a1), (2, .int a2), (3, .int a3), (4, .int a4)], [], N, sl, rn_hp S M) (some (.int R.1), N, sl, rn_hp S R.2) := by
  have qm := rn_m75
  unfold f75 at h
  refine rn_eg qm 3 (s2 := (3, [(0, .ref 318), (1, .int a1), (2, .int a2), (3, .int a3), (4, .int a4)], [.int a2, .int a1, .ref 318], N, sl, rn_hp S M)) rfl ?_
  obtain ⟨p1, hp1, h⟩ := Option.bind_eq_some_iff.mp h
  refine rn_ec qm rfl rfl rfl rfl rn_m46 rfl rfl rfl (fun _ => rn_rc_of (en_9 (q := 318) rfl)) (E46 hp1) ?_
  refine rn_eg qm 0 (s2 := (4, [(0, .ref 318), (1, .int a1), (2, .int a2), (3, .int a3), (4, .int a4)], [.int (rn_bi p1)], N, sl, rn_hp S M)) rfl ?_
  refine rn_eg qm 1 (s2 := ((if (rn_bi p1) = 0 then 5 else 7), [(0, .ref 318), (1, .int a1), (2, .int a2), (3, .int a3), (4, .int a4)], [], N, sl, rn_hp S M)) rfl ?_
  refine rn_iteb (fun c2 => ?_) (fun c2 => ?_)
  · rw [if_neg (rn_bf c2)] at h
    refine rn_eg qm 1 (s2 := (6, [(0, .ref 318), (1, .int a1), (2, .int a2), (3, .int a3), (4, .int a4)], [.int (-1 : Int32)], N, sl, rn_hp S M)) rfl ?_
    cases h
    exact rn_er qm rfl rfl rfl
  · rw [if_pos c2] at h
    refine rn_eg qm 4 (s2 := (11, [(0, .ref 318), (1, .int a1), (2, .int a2), (3, .int a3), (4, .int a4)], [.long (3 : Int64), .long (0 : Int64), .long (Int32.toInt64 a4)], N, sl, rn_hp S M)) rfl ?_
    refine rn_ec qm rfl rfl rfl rfl rn_m29 rfl rfl rfl (fun h => by cases h) (E29 rfl) ?_
    refine rn_eg qm 0 (s2 := (12, [(0, .ref 318), (1, .int a1), (2, .int a2), (3, .int a3), (4, .int a4)], [.int (rn_bi (f29 (Int32.toInt64 a4) (0 : Int64) (3 : Int64)))], N, sl, rn_hp S M)) rfl ?_
    refine rn_eg qm 1 (s2 := ((if (rn_bi (f29 (Int32.toInt64 a4) (0 : Int64) (3 : Int64))) = 0 then 13 else 15), [(0, .ref 318), (1, .int a1), (2, .int a2), (3, .int a3), (4, .int a4)], [], N, sl, rn_hp S M)) rfl ?_
    refine rn_iteb (fun c4 => ?_) (fun c4 => ?_)
    · rw [if_neg (rn_bf c4)] at h
      refine rn_eg qm 1 (s2 := (14, [(0, .ref 318), (1, .int a1), (2, .int a2), (3, .int a3), (4, .int a4)], [.int (-2 : Int32)], N, sl, rn_hp S M)) rfl ?_
      cases h
      exact rn_er qm rfl rfl rfl
    · rw [if_pos c4] at h
      refine rn_eg qm 3 (s2 := (18, [(0, .ref 318), (1, .int a1), (2, .int a2), (3, .int a3), (4, .int a4)], [.int a2, .int a1, .ref 318], N, sl, rn_hp S M)) rfl ?_
      obtain ⟨p5, hp5, h⟩ := Option.bind_eq_some_iff.mp h
      refine rn_ec qm rfl rfl rfl rfl rn_m71 rfl rfl rfl (fun _ => rn_rc_of (en_9 (q := 318) rfl)) (E71 hp5) ?_
      refine rn_eg qm 0 (s2 := (19, [(0, .ref 318), (1, .int a1), (2, .int a2), (3, .int a3), (4, .int a4)], [.int p5.1], N, sl, rn_hp S p5.2)) rfl ?_
      refine rn_eg qm 4 (s2 := ((if p5.1 = (-6 : Int32) then 25 else 23), [(5, .int p5.1), (0, .ref 318), (1, .int a1), (2, .int a2), (3, .int a3), (4, .int a4)], [], N, sl, rn_hp S p5.2)) rfl ?_
      refine rn_ite (fun c6 => ?_) (fun c6 => ?_)
      · rw [if_pos c6] at h
        refine rn_eg qm 3 (s2 := (28, [(5, .int p5.1), (0, .ref 318), (1, .int a1), (2, .int a2), (3, .int a3), (4, .int a4)], [.int (0 : Int32), .ref 322], N, sl, rn_hp S p5.2)) rfl ?_
        refine rn_e1 qm (s2 := (29, [(5, .int p5.1), (0, .ref 318), (1, .int a1), (2, .int a2), (3, .int a3), (4, .int a4)], [.int (rA p5.2 322 (Int32.toNatClampNeg (0 : Int32)))], N, sl, rn_hp S p5.2)) (rn_g_iald (n := 101) rfl rfl (ar_m10 rfl rfl (Nat.le_of_ble_eq_true rfl)) (by decide)) ?_
        refine rn_eg qm 2 (s2 := ((if (rA p5.2 322 (Int32.toNatClampNeg (0 : Int32))) < (5 : Int32) then 36 else 31), [(5, .int p5.1), (0, .ref 318), (1, .int a1), (2, .int a2), (3, .int a3), (4, .int a4)], [], N, sl, rn_hp S p5.2)) rfl ?_
        refine rn_ite (fun c7 => ?_) (fun c7 => ?_)
        · rw [if_pos c7] at h
          refine rn_eg qm 1 (s2 := (37, [(5, .int p5.1), (0, .ref 318), (1, .int a1), (2, .int a2), (3, .int a3), (4, .int a4)], [.int (-6 : Int32)], N, sl, rn_hp S p5.2)) rfl ?_
          refine rn_kq qm (s2 := (37, [(0, .ref 318), (4, .int a4)], [.int (-6 : Int32)], N, sl, rn_hp S p5.2)) rfl rfl ?_
          exact E75_J37 h
        · rw [if_neg c7] at h
          refine rn_eg qm 3 (s2 := (34, [(5, .int p5.1), (0, .ref 318), (1, .int a1), (2, .int a2), (3, .int a3), (4, .int a4)], [.int a3, .int (0 : Int32), .ref 318], N, sl, rn_hp S p5.2)) rfl ?_
          obtain ⟨p10, hp10, h⟩ := Option.bind_eq_some_iff.mp h
          refine rn_ec qm rfl rfl rfl rfl rn_m57 rfl rfl rfl (fun _ => rn_rc_of (en_9 (q := 318) rfl)) (E57 hp10) ?_
          refine rn_eg qm 0 (s2 := (35, [(5, .int p5.1), (0, .ref 318), (1, .int a1), (2, .int a2), (3, .int a3), (4, .int a4)], [.int p10], N, sl, rn_hp S p5.2)) rfl ?_
          refine rn_eg qm 1 (s2 := (37, [(5, .int p5.1), (0, .ref 318), (1, .int a1), (2, .int a2), (3, .int a3), (4, .int a4)], [.int p10], N, sl, rn_hp S p5.2)) rfl ?_
          refine rn_kq qm (s2 := (37, [(0, .ref 318), (4, .int a4)], [.int p10], N, sl, rn_hp S p5.2)) rfl rfl ?_
          exact E75_J37 h
      · rw [if_neg c6] at h
        refine rn_eg qm 1 (s2 := (24, [(5, .int p5.1), (0, .ref 318), (1, .int a1), (2, .int a2), (3, .int a3), (4, .int a4)], [.int p5.1], N, sl, rn_hp S p5.2)) rfl ?_
        cases h
        exact rn_er qm rfl rfl rfl
/-! 76: RecordNichesModel.variant(III)I -/
def f76 (M : rn_T) (a1 : Int32) (a2 : Int32) (a3 : Int32) : Option (Int32 × rn_T) :=
  Option.bind (f46 M a1 a2) fun p1 =>
    if p1 = true then
      if (f29 (Int32.toInt64 a3) (0 : Int64) (1 : Int64)) = true then
        Option.bind (f71 M a1 a2) fun p5 =>
          if p5.1 = (-6 : Int32) then
            if (rA p5.2 322 (Int32.toNatClampNeg (0 : Int32))) = (6 : Int32) then
              if a3 = 0 then
                some ((rA p5.2 341 (Int32.toNatClampNeg (0 : Int32))), p5.2)
              else
                if (rA p5.2 341 (Int32.toNatClampNeg (0 : Int32))) = (1 : Int32) then
                  some ((rA p5.2 342 (Int32.toNatClampNeg (0 : Int32))), p5.2)
                else
                  some ((-6 : Int32), p5.2)
            else
              some ((-6 : Int32), p5.2)
          else
            some (p5.1, p5.2)
      else
        some ((-2 : Int32), M)
    else
      some ((-1 : Int32), M)
set_option maxHeartbeats 4000000 in
theorem E76 {X : rn_X} {N sl : Nat} {S M : rn_T} {a1 : Int32} {a2 : Int32} {a3 : Int32} {R : (Int32 × rn_T)} (h : f76 M a1 a2 a3 = some R) : rn_rv X 76 (0, [(0, .ref 318), (1, .int a1), (2, .int a2), (3, .int a3)], [], N, sl, rn_hp S M) (some (.int R.1), N, sl, rn_hp S R.2) := by
  have qm := rn_m76
  unfold f76 at h
  refine rn_eg qm 3 (s2 := (3, [(0, .ref 318), (1, .int a1), (2, .int a2), (3, .int a3)], [.int a2, .int a1, .ref 318], N, sl, rn_hp S M)) rfl ?_
  obtain ⟨p1, hp1, h⟩ := Option.bind_eq_some_iff.mp h
  refine rn_ec qm rfl rfl rfl rfl rn_m46 rfl rfl rfl (fun _ => rn_rc_of (en_9 (q := 318) rfl)) (E46 hp1) ?_
  refine rn_eg qm 0 (s2 := (4, [(0, .ref 318), (1, .int a1), (2, .int a2), (3, .int a3)], [.int (rn_bi p1)], N, sl, rn_hp S M)) rfl ?_
  refine rn_eg qm 1 (s2 := ((if (rn_bi p1) = 0 then 5 else 7), [(0, .ref 318), (1, .int a1), (2, .int a2), (3, .int a3)], [], N, sl, rn_hp S M)) rfl ?_
  refine rn_iteb (fun c2 => ?_) (fun c2 => ?_)
  · rw [if_neg (rn_bf c2)] at h
    refine rn_eg qm 1 (s2 := (6, [(0, .ref 318), (1, .int a1), (2, .int a2), (3, .int a3)], [.int (-1 : Int32)], N, sl, rn_hp S M)) rfl ?_
    cases h
    exact rn_er qm rfl rfl rfl
  · rw [if_pos c2] at h
    refine rn_eg qm 4 (s2 := (11, [(0, .ref 318), (1, .int a1), (2, .int a2), (3, .int a3)], [.long (1 : Int64), .long (0 : Int64), .long (Int32.toInt64 a3)], N, sl, rn_hp S M)) rfl ?_
    refine rn_ec qm rfl rfl rfl rfl rn_m29 rfl rfl rfl (fun h => by cases h) (E29 rfl) ?_
    refine rn_eg qm 0 (s2 := (12, [(0, .ref 318), (1, .int a1), (2, .int a2), (3, .int a3)], [.int (rn_bi (f29 (Int32.toInt64 a3) (0 : Int64) (1 : Int64)))], N, sl, rn_hp S M)) rfl ?_
    refine rn_eg qm 1 (s2 := ((if (rn_bi (f29 (Int32.toInt64 a3) (0 : Int64) (1 : Int64))) = 0 then 13 else 15), [(0, .ref 318), (1, .int a1), (2, .int a2), (3, .int a3)], [], N, sl, rn_hp S M)) rfl ?_
    refine rn_iteb (fun c4 => ?_) (fun c4 => ?_)
    · rw [if_neg (rn_bf c4)] at h
      refine rn_eg qm 1 (s2 := (14, [(0, .ref 318), (1, .int a1), (2, .int a2), (3, .int a3)], [.int (-2 : Int32)], N, sl, rn_hp S M)) rfl ?_
      cases h
      exact rn_er qm rfl rfl rfl
    · rw [if_pos c4] at h
      refine rn_eg qm 3 (s2 := (18, [(0, .ref 318), (1, .int a1), (2, .int a2), (3, .int a3)], [.int a2, .int a1, .ref 318], N, sl, rn_hp S M)) rfl ?_
      obtain ⟨p5, hp5, h⟩ := Option.bind_eq_some_iff.mp h
      refine rn_ec qm rfl rfl rfl rfl rn_m71 rfl rfl rfl (fun _ => rn_rc_of (en_9 (q := 318) rfl)) (E71 hp5) ?_
      refine rn_eg qm 0 (s2 := (19, [(0, .ref 318), (1, .int a1), (2, .int a2), (3, .int a3)], [.int p5.1], N, sl, rn_hp S p5.2)) rfl ?_
      refine rn_eg qm 4 (s2 := ((if p5.1 = (-6 : Int32) then 25 else 23), [(4, .int p5.1), (0, .ref 318), (1, .int a1), (2, .int a2), (3, .int a3)], [], N, sl, rn_hp S p5.2)) rfl ?_
      refine rn_ite (fun c6 => ?_) (fun c6 => ?_)
      · rw [if_pos c6] at h
        refine rn_eg qm 3 (s2 := (28, [(4, .int p5.1), (0, .ref 318), (1, .int a1), (2, .int a2), (3, .int a3)], [.int (0 : Int32), .ref 322], N, sl, rn_hp S p5.2)) rfl ?_
        refine rn_e1 qm (s2 := (29, [(4, .int p5.1), (0, .ref 318), (1, .int a1), (2, .int a2), (3, .int a3)], [.int (rA p5.2 322 (Int32.toNatClampNeg (0 : Int32)))], N, sl, rn_hp S p5.2)) (rn_g_iald (n := 101) rfl rfl (ar_m10 rfl rfl (Nat.le_of_ble_eq_true rfl)) (by decide)) ?_
        refine rn_eg qm 2 (s2 := ((if (rA p5.2 322 (Int32.toNatClampNeg (0 : Int32))) = (6 : Int32) then 33 else 31), [(4, .int p5.1), (0, .ref 318), (1, .int a1), (2, .int a2), (3, .int a3)], [], N, sl, rn_hp S p5.2)) rfl ?_
        refine rn_ite (fun c7 => ?_) (fun c7 => ?_)
        · rw [if_pos c7] at h
          refine rn_eg qm 2 (s2 := ((if a3 = 0 then 35 else 40), [(4, .int p5.1), (0, .ref 318), (1, .int a1), (2, .int a2), (3, .int a3)], [], N, sl, rn_hp S p5.2)) rfl ?_
          refine rn_ite (fun c8 => ?_) (fun c8 => ?_)
          · rw [if_pos c8] at h
            refine rn_eg qm 3 (s2 := (38, [(4, .int p5.1), (0, .ref 318), (1, .int a1), (2, .int a2), (3, .int a3)], [.int (0 : Int32), .ref 341], N, sl, rn_hp S p5.2)) rfl ?_
            refine rn_e1 qm (s2 := (39, [(4, .int p5.1), (0, .ref 318), (1, .int a1), (2, .int a2), (3, .int a3)], [.int (rA p5.2 341 (Int32.toNatClampNeg (0 : Int32)))], N, sl, rn_hp S p5.2)) (rn_g_iald (n := 101) rfl rfl (ar_m10 rfl rfl (Nat.le_of_ble_eq_true rfl)) (by decide)) ?_
            refine rn_eg qm 1 (s2 := (52, [(4, .int p5.1), (0, .ref 318), (1, .int a1), (2, .int a2), (3, .int a3)], [.int (rA p5.2 341 (Int32.toNatClampNeg (0 : Int32)))], N, sl, rn_hp S p5.2)) rfl ?_
            cases h
            exact rn_er qm rfl rfl rfl
          · rw [if_neg c8] at h
            refine rn_eg qm 3 (s2 := (43, [(4, .int p5.1), (0, .ref 318), (1, .int a1), (2, .int a2), (3, .int a3)], [.int (0 : Int32), .ref 341], N, sl, rn_hp S p5.2)) rfl ?_
            refine rn_e1 qm (s2 := (44, [(4, .int p5.1), (0, .ref 318), (1, .int a1), (2, .int a2), (3, .int a3)], [.int (rA p5.2 341 (Int32.toNatClampNeg (0 : Int32)))], N, sl, rn_hp S p5.2)) (rn_g_iald (n := 101) rfl rfl (ar_m10 rfl rfl (Nat.le_of_ble_eq_true rfl)) (by decide)) ?_
            refine rn_eg qm 2 (s2 := ((if (rA p5.2 341 (Int32.toNatClampNeg (0 : Int32))) = (1 : Int32) then 46 else 51), [(4, .int p5.1), (0, .ref 318), (1, .int a1), (2, .int a2), (3, .int a3)], [], N, sl, rn_hp S p5.2)) rfl ?_
            refine rn_ite (fun c9 => ?_) (fun c9 => ?_)
            · rw [if_pos c9] at h
              refine rn_eg qm 3 (s2 := (49, [(4, .int p5.1), (0, .ref 318), (1, .int a1), (2, .int a2), (3, .int a3)], [.int (0 : Int32), .ref 342], N, sl, rn_hp S p5.2)) rfl ?_
              refine rn_e1 qm (s2 := (50, [(4, .int p5.1), (0, .ref 318), (1, .int a1), (2, .int a2), (3, .int a3)], [.int (rA p5.2 342 (Int32.toNatClampNeg (0 : Int32)))], N, sl, rn_hp S p5.2)) (rn_g_iald (n := 101) rfl rfl (ar_m10 rfl rfl (Nat.le_of_ble_eq_true rfl)) (by decide)) ?_
              refine rn_eg qm 1 (s2 := (52, [(4, .int p5.1), (0, .ref 318), (1, .int a1), (2, .int a2), (3, .int a3)], [.int (rA p5.2 342 (Int32.toNatClampNeg (0 : Int32)))], N, sl, rn_hp S p5.2)) rfl ?_
              cases h
              exact rn_er qm rfl rfl rfl
            · rw [if_neg c9] at h
              refine rn_eg qm 1 (s2 := (52, [(4, .int p5.1), (0, .ref 318), (1, .int a1), (2, .int a2), (3, .int a3)], [.int (-6 : Int32)], N, sl, rn_hp S p5.2)) rfl ?_
              cases h
              exact rn_er qm rfl rfl rfl
        · rw [if_neg c7] at h
          refine rn_eg qm 2 (s2 := (52, [(4, .int p5.1), (0, .ref 318), (1, .int a1), (2, .int a2), (3, .int a3)], [.int (-6 : Int32)], N, sl, rn_hp S p5.2)) rfl ?_
          cases h
          exact rn_er qm rfl rfl rfl
      · rw [if_neg c6] at h
        refine rn_eg qm 1 (s2 := (24, [(4, .int p5.1), (0, .ref 318), (1, .int a1), (2, .int a2), (3, .int a3)], [.int p5.1], N, sl, rn_hp S p5.2)) rfl ?_
        cases h
        exact rn_er qm rfl rfl rfl
/-! 77: RecordNichesModel.patternOf(II)I -/
def f77 (M : rn_T) (a1 : Int32) (a2 : Int32) : Option Int32 :=
  if rn_ob a1 101 then none else
    Option.bind (f57 M a1 (rA M 342 (Int32.toNatClampNeg a1))) fun p2 =>
      if rn_ob p2 101 then none else
        if a2 ≤ (rA M 342 (Int32.toNatClampNeg a1)) then
          some (((rA M 339 (Int32.toNatClampNeg p2)) + a2) - (0 : Int32))
        else
          some (((rA M 339 (Int32.toNatClampNeg p2)) + a2) - (1 : Int32))
set_option maxHeartbeats 4000000 in
theorem E77 {X : rn_X} {N sl : Nat} {S M : rn_T} {a1 : Int32} {a2 : Int32} {R : (Int32)} (h : f77 M a1 a2 = some R) : rn_rv X 77 (0, [(0, .ref 318), (1, .int a1), (2, .int a2)], [], N, sl, rn_hp S M) (some (.int R), N, sl, rn_hp S M) := by
  have qm := rn_m77
  unfold f77 at h
  refine rn_eg qm 7 (s2 := (7, [(0, .ref 318), (1, .int a1), (2, .int a2)], [.int a1, .ref 342, .int a1, .ref 318, .ref 339], N, sl, rn_hp S M)) rfl ?_
  have c1 : ¬ (rn_ob a1 101) := fun c => by rw [if_pos c] at h; cases h
  rw [if_neg c1] at h
  refine rn_e1 qm (s2 := (8, [(0, .ref 318), (1, .int a1), (2, .int a2)], [.int (rA M 342 (Int32.toNatClampNeg a1)), .int a1, .ref 318, .ref 339], N, sl, rn_hp S M)) (rn_g_iald (n := 101) rfl rfl (ar_m10 rfl rfl (Nat.le_of_ble_eq_true rfl)) c1) ?_
  obtain ⟨p2, hp2, h⟩ := Option.bind_eq_some_iff.mp h
  refine rn_ec qm rfl rfl rfl rfl rn_m57 rfl rfl rfl (fun _ => rn_rc_of (en_9 (q := 318) rfl)) (E57 hp2) ?_
  refine rn_eg qm 0 (s2 := (9, [(0, .ref 318), (1, .int a1), (2, .int a2)], [.int p2, .ref 339], N, sl, rn_hp S M)) rfl ?_
  have c3 : ¬ (rn_ob p2 101) := fun c => by rw [if_pos c] at h; cases h
  rw [if_neg c3] at h
  refine rn_e1 qm (s2 := (10, [(0, .ref 318), (1, .int a1), (2, .int a2)], [.int (rA M 339 (Int32.toNatClampNeg p2))], N, sl, rn_hp S M)) (rn_g_iald (n := 101) rfl rfl (ar_m10 rfl rfl (Nat.le_of_ble_eq_true rfl)) c3) ?_
  refine rn_eg qm 6 (s2 := (16, [(0, .ref 318), (1, .int a1), (2, .int a2)], [.int a1, .ref 342, .int a2, .int ((rA M 339 (Int32.toNatClampNeg p2)) + a2)], N, sl, rn_hp S M)) rfl ?_
  refine rn_e1 qm (s2 := (17, [(0, .ref 318), (1, .int a1), (2, .int a2)], [.int (rA M 342 (Int32.toNatClampNeg a1)), .int a2, .int ((rA M 339 (Int32.toNatClampNeg p2)) + a2)], N, sl, rn_hp S M)) (rn_g_iald (n := 101) rfl rfl (ar_m10 rfl rfl (Nat.le_of_ble_eq_true rfl)) c1) ?_
  refine rn_eg qm 1 (s2 := ((if a2 ≤ (rA M 342 (Int32.toNatClampNeg a1)) then 20 else 18), [(0, .ref 318), (1, .int a1), (2, .int a2)], [.int ((rA M 339 (Int32.toNatClampNeg p2)) + a2)], N, sl, rn_hp S M)) rfl ?_
  refine rn_ite (fun c4 => ?_) (fun c4 => ?_)
  · rw [if_pos c4] at h
    refine rn_eg qm 2 (s2 := (22, [], [.int (((rA M 339 (Int32.toNatClampNeg p2)) + a2) - (0 : Int32))], N, sl, rn_hp S M)) rfl ?_
    cases h
    exact rn_er qm rfl rfl rfl
  · rw [if_neg c4] at h
    refine rn_eg qm 3 (s2 := (22, [], [.int (((rA M 339 (Int32.toNatClampNeg p2)) + a2) - (1 : Int32))], N, sl, rn_hp S M)) rfl ?_
    cases h
    exact rn_er qm rfl rfl rfl
/-! 78: RecordNichesModel.pattern(III)I -/
def f78 (M : rn_T) (a1 : Int32) (a2 : Int32) (a3 : Int32) : Option (Int32 × rn_T) :=
  Option.bind (f46 M a1 a2) fun p1 =>
    if p1 = true then
      Option.bind (f71 M a1 a2) fun p3 =>
        if p3.1 = (-6 : Int32) then
          if (rA p3.2 322 (Int32.toNatClampNeg (0 : Int32))) = (6 : Int32) then
            if (rA p3.2 341 (Int32.toNatClampNeg (0 : Int32))) = 0 then
              some ((-6 : Int32), p3.2)
            else
              if (f29 (Int32.toInt64 a3) (0 : Int64) (Int32.toInt64 ((rA p3.2 326 (Int32.toNatClampNeg (0 : Int32))) - (1 : Int32)))) = true then
                if (rA p3.2 341 (Int32.toNatClampNeg (0 : Int32))) = (2 : Int32) then
                  some (a3, p3.2)
                else
                  if a3 = (rA p3.2 342 (Int32.toNatClampNeg (0 : Int32))) then
                    some ((-6 : Int32), p3.2)
                  else
                    Option.bind (f77 p3.2 (0 : Int32) a3) fun p11 =>
                      some (p11, p3.2)
              else
                some ((-6 : Int32), p3.2)
          else
            some ((-6 : Int32), p3.2)
        else
          some (p3.1, p3.2)
    else
      some ((-1 : Int32), M)
set_option maxHeartbeats 4000000 in
theorem E78 {X : rn_X} {N sl : Nat} {S M : rn_T} {a1 : Int32} {a2 : Int32} {a3 : Int32} {R : (Int32 × rn_T)} (h : f78 M a1 a2 a3 = some R) : rn_rv X 78 (0, [(0, .ref 318), (1, .int a1), (2, .int a2), (3, .int a3)], [], N, sl, rn_hp S M) (some (.int R.1), N, sl, rn_hp S R.2) := by
  have qm := rn_m78
  unfold f78 at h
  refine rn_eg qm 3 (s2 := (3, [(0, .ref 318), (1, .int a1), (2, .int a2), (3, .int a3)], [.int a2, .int a1, .ref 318], N, sl, rn_hp S M)) rfl ?_
  obtain ⟨p1, hp1, h⟩ := Option.bind_eq_some_iff.mp h
  refine rn_ec qm rfl rfl rfl rfl rn_m46 rfl rfl rfl (fun _ => rn_rc_of (en_9 (q := 318) rfl)) (E46 hp1) ?_
  refine rn_eg qm 0 (s2 := (4, [(0, .ref 318), (1, .int a1), (2, .int a2), (3, .int a3)], [.int (rn_bi p1)], N, sl, rn_hp S M)) rfl ?_
  refine rn_eg qm 1 (s2 := ((if (rn_bi p1) = 0 then 5 else 7), [(0, .ref 318), (1, .int a1), (2, .int a2), (3, .int a3)], [], N, sl, rn_hp S M)) rfl ?_
  refine rn_iteb (fun c2 => ?_) (fun c2 => ?_)
  · rw [if_neg (rn_bf c2)] at h
    refine rn_eg qm 1 (s2 := (6, [(0, .ref 318), (1, .int a1), (2, .int a2), (3, .int a3)], [.int (-1 : Int32)], N, sl, rn_hp S M)) rfl ?_
    cases h
    exact rn_er qm rfl rfl rfl
  · rw [if_pos c2] at h
    refine rn_eg qm 3 (s2 := (10, [(0, .ref 318), (1, .int a1), (2, .int a2), (3, .int a3)], [.int a2, .int a1, .ref 318], N, sl, rn_hp S M)) rfl ?_
    obtain ⟨p3, hp3, h⟩ := Option.bind_eq_some_iff.mp h
    refine rn_ec qm rfl rfl rfl rfl rn_m71 rfl rfl rfl (fun _ => rn_rc_of (en_9 (q := 318) rfl)) (E71 hp3) ?_
    refine rn_eg qm 0 (s2 := (11, [(0, .ref 318), (1, .int a1), (2, .int a2), (3, .int a3)], [.int p3.1], N, sl, rn_hp S p3.2)) rfl ?_
    refine rn_eg qm 4 (s2 := ((if p3.1 = (-6 : Int32) then 17 else 15), [(4, .int p3.1), (0, .ref 318), (1, .int a1), (2, .int a2), (3, .int a3)], [], N, sl, rn_hp S p3.2)) rfl ?_
    refine rn_ite (fun c4 => ?_) (fun c4 => ?_)
    · rw [if_pos c4] at h
      refine rn_eg qm 3 (s2 := (20, [(4, .int p3.1), (0, .ref 318), (1, .int a1), (2, .int a2), (3, .int a3)], [.int (0 : Int32), .ref 322], N, sl, rn_hp S p3.2)) rfl ?_
      refine rn_e1 qm (s2 := (21, [(4, .int p3.1), (0, .ref 318), (1, .int a1), (2, .int a2), (3, .int a3)], [.int (rA p3.2 322 (Int32.toNatClampNeg (0 : Int32)))], N, sl, rn_hp S p3.2)) (rn_g_iald (n := 101) rfl rfl (ar_m10 rfl rfl (Nat.le_of_ble_eq_true rfl)) (by decide)) ?_
      refine rn_eg qm 2 (s2 := ((if (rA p3.2 322 (Int32.toNatClampNeg (0 : Int32))) = (6 : Int32) then 23 else 40), [(4, .int p3.1), (0, .ref 318), (1, .int a1), (2, .int a2), (3, .int a3)], [], N, sl, rn_hp S p3.2)) rfl ?_
      refine rn_ite (fun c5 => ?_) (fun c5 => ?_)
      · rw [if_pos c5] at h
        refine rn_eg qm 3 (s2 := (26, [(4, .int p3.1), (0, .ref 318), (1, .int a1), (2, .int a2), (3, .int a3)], [.int (0 : Int32), .ref 341], N, sl, rn_hp S p3.2)) rfl ?_
        refine rn_e1 qm (s2 := (27, [(4, .int p3.1), (0, .ref 318), (1, .int a1), (2, .int a2), (3, .int a3)], [.int (rA p3.2 341 (Int32.toNatClampNeg (0 : Int32)))], N, sl, rn_hp S p3.2)) (rn_g_iald (n := 101) rfl rfl (ar_m10 rfl rfl (Nat.le_of_ble_eq_true rfl)) (by decide)) ?_
        refine rn_eg qm 1 (s2 := ((if (rA p3.2 341 (Int32.toNatClampNeg (0 : Int32))) = 0 then 40 else 28), [(4, .int p3.1), (0, .ref 318), (1, .int a1), (2, .int a2), (3, .int a3)], [], N, sl, rn_hp S p3.2)) rfl ?_
        refine rn_ite (fun c6 => ?_) (fun c6 => ?_)
        · rw [if_pos c6] at h
          refine rn_eg qm 1 (s2 := (41, [], [.int (-6 : Int32)], N, sl, rn_hp S p3.2)) rfl ?_
          cases h
          exact rn_er qm rfl rfl rfl
        · rw [if_neg c6] at h
          refine rn_eg qm 6 (s2 := (34, [(4, .int p3.1), (0, .ref 318), (1, .int a1), (2, .int a2), (3, .int a3)], [.int (0 : Int32), .ref 326, .long (0 : Int64), .long (Int32.toInt64 a3)], N, sl, rn_hp S p3.2)) rfl ?_
          refine rn_e1 qm (s2 := (35, [(4, .int p3.1), (0, .ref 318), (1, .int a1), (2, .int a2), (3, .int a3)], [.int (rA p3.2 326 (Int32.toNatClampNeg (0 : Int32))), .long (0 : Int64), .long (Int32.toInt64 a3)], N, sl, rn_hp S p3.2)) (rn_g_iald (n := 101) rfl rfl (ar_m10 rfl rfl (Nat.le_of_ble_eq_true rfl)) (by decide)) ?_
          refine rn_eg qm 3 (s2 := (38, [(4, .int p3.1), (0, .ref 318), (1, .int a1), (2, .int a2), (3, .int a3)], [.long (Int32.toInt64 ((rA p3.2 326 (Int32.toNatClampNeg (0 : Int32))) - (1 : Int32))), .long (0 : Int64), .long (Int32.toInt64 a3)], N, sl, rn_hp S p3.2)) rfl ?_
          refine rn_ec qm rfl rfl rfl rfl rn_m29 rfl rfl rfl (fun h => by cases h) (E29 rfl) ?_
          refine rn_eg qm 0 (s2 := (39, [(4, .int p3.1), (0, .ref 318), (1, .int a1), (2, .int a2), (3, .int a3)], [.int (rn_bi (f29 (Int32.toInt64 a3) (0 : Int64) (Int32.toInt64 ((rA p3.2 326 (Int32.toNatClampNeg (0 : Int32))) - (1 : Int32)))))], N, sl, rn_hp S p3.2)) rfl ?_
          refine rn_eg qm 1 (s2 := ((if (rn_bi (f29 (Int32.toInt64 a3) (0 : Int64) (Int32.toInt64 ((rA p3.2 326 (Int32.toNatClampNeg (0 : Int32))) - (1 : Int32))))) = 0 then 40 else 42), [(4, .int p3.1), (0, .ref 318), (1, .int a1), (2, .int a2), (3, .int a3)], [], N, sl, rn_hp S p3.2)) rfl ?_
          refine rn_iteb (fun c8 => ?_) (fun c8 => ?_)
          · rw [if_neg (rn_bf c8)] at h
            refine rn_eg qm 1 (s2 := (41, [], [.int (-6 : Int32)], N, sl, rn_hp S p3.2)) rfl ?_
            cases h
            exact rn_er qm rfl rfl rfl
          · rw [if_pos c8] at h
            refine rn_eg qm 3 (s2 := (45, [(4, .int p3.1), (0, .ref 318), (1, .int a1), (2, .int a2), (3, .int a3)], [.int (0 : Int32), .ref 341], N, sl, rn_hp S p3.2)) rfl ?_
            refine rn_e1 qm (s2 := (46, [(4, .int p3.1), (0, .ref 318), (1, .int a1), (2, .int a2), (3, .int a3)], [.int (rA p3.2 341 (Int32.toNatClampNeg (0 : Int32)))], N, sl, rn_hp S p3.2)) (rn_g_iald (n := 101) rfl rfl (ar_m10 rfl rfl (Nat.le_of_ble_eq_true rfl)) (by decide)) ?_
            refine rn_eg qm 2 (s2 := ((if (rA p3.2 341 (Int32.toNatClampNeg (0 : Int32))) = (2 : Int32) then 48 else 50), [(4, .int p3.1), (0, .ref 318), (1, .int a1), (2, .int a2), (3, .int a3)], [], N, sl, rn_hp S p3.2)) rfl ?_
            refine rn_ite (fun c9 => ?_) (fun c9 => ?_)
            · rw [if_pos c9] at h
              refine rn_eg qm 2 (s2 := (62, [(4, .int p3.1), (0, .ref 318), (1, .int a1), (2, .int a2), (3, .int a3)], [.int a3], N, sl, rn_hp S p3.2)) rfl ?_
              cases h
              exact rn_er qm rfl rfl rfl
            · rw [if_neg c9] at h
              refine rn_eg qm 4 (s2 := (54, [(4, .int p3.1), (0, .ref 318), (1, .int a1), (2, .int a2), (3, .int a3)], [.int (0 : Int32), .ref 342, .int a3], N, sl, rn_hp S p3.2)) rfl ?_
              refine rn_e1 qm (s2 := (55, [(4, .int p3.1), (0, .ref 318), (1, .int a1), (2, .int a2), (3, .int a3)], [.int (rA p3.2 342 (Int32.toNatClampNeg (0 : Int32))), .int a3], N, sl, rn_hp S p3.2)) (rn_g_iald (n := 101) rfl rfl (ar_m10 rfl rfl (Nat.le_of_ble_eq_true rfl)) (by decide)) ?_
              refine rn_eg qm 1 (s2 := ((if a3 = (rA p3.2 342 (Int32.toNatClampNeg (0 : Int32))) then 56 else 58), [(4, .int p3.1), (0, .ref 318), (1, .int a1), (2, .int a2), (3, .int a3)], [], N, sl, rn_hp S p3.2)) rfl ?_
              refine rn_ite (fun c10 => ?_) (fun c10 => ?_)
              · rw [if_pos c10] at h
                refine rn_eg qm 2 (s2 := (62, [(4, .int p3.1), (0, .ref 318), (1, .int a1), (2, .int a2), (3, .int a3)], [.int (-6 : Int32)], N, sl, rn_hp S p3.2)) rfl ?_
                cases h
                exact rn_er qm rfl rfl rfl
              · rw [if_neg c10] at h
                refine rn_eg qm 3 (s2 := (61, [(4, .int p3.1), (0, .ref 318), (1, .int a1), (2, .int a2), (3, .int a3)], [.int a3, .int (0 : Int32), .ref 318], N, sl, rn_hp S p3.2)) rfl ?_
                obtain ⟨p11, hp11, h⟩ := Option.bind_eq_some_iff.mp h
                refine rn_ec qm rfl rfl rfl rfl rn_m77 rfl rfl rfl (fun _ => rn_rc_of (en_9 (q := 318) rfl)) (E77 hp11) ?_
                refine rn_eg qm 0 (s2 := (62, [(4, .int p3.1), (0, .ref 318), (1, .int a1), (2, .int a2), (3, .int a3)], [.int p11], N, sl, rn_hp S p3.2)) rfl ?_
                cases h
                exact rn_er qm rfl rfl rfl
      · rw [if_neg c5] at h
        refine rn_eg qm 1 (s2 := (41, [], [.int (-6 : Int32)], N, sl, rn_hp S p3.2)) rfl ?_
        cases h
        exact rn_er qm rfl rfl rfl
    · rw [if_neg c4] at h
      refine rn_eg qm 1 (s2 := (16, [(4, .int p3.1), (0, .ref 318), (1, .int a1), (2, .int a2), (3, .int a3)], [.int p3.1], N, sl, rn_hp S p3.2)) rfl ?_
      cases h
      exact rn_er qm rfl rfl rfl
/-! 79: RecordNichesModel.leastEnd()I -/
def f79_J56_17 (M : rn_T) (u1 : Int32) (u2 : Int32) (t0 : Int32) (rc : (rn_T → Int32 → Option (Int32 × rn_T))) (k : (rn_T → Option (Int32 × rn_T))) : Option (Int32 × rn_T) :=
  if rn_ob u1 64 then none else
    if (rA M 343 (Int32.toNatClampNeg u1)) ≤ t0 then
      rc (wA M 343 (Int32.toNatClampNeg u1) (rA M 343 (Int32.toNatClampNeg u1))) (u2 + (1 : Int32))
    else
      rc (wA M 343 (Int32.toNatClampNeg u1) t0) (u2 + (1 : Int32))
set_option maxHeartbeats 4000000 in
theorem E79_J56_17 {X : rn_X} {N sl : Nat} {S : rn_T} {M : rn_T} {u1 : Int32} {u2 : Int32} {t0 : Int32} {R : (Int32 × rn_T)} {rc : (rn_T → Int32 → Option (Int32 × rn_T))} (hrc : ∀ (M : rn_T) (v2 : Int32), rc M v2 = some R → rn_rv X 79 (17, [(0, .ref 318), (1, .int u1), (2, .int v2)], [], N, sl, rn_hp S M) (some (.int R.1), N, sl, rn_hp S R.2)) {k : (rn_T → Option (Int32 × rn_T))} (hk : ∀ (M : rn_T), k M = some R → rn_rv X 79 (75, [(0, .ref 318), (1, .int u1)], [], N, sl, rn_hp S M) (some (.int R.1), N, sl, rn_hp S R.2)) (h : f79_J56_17 M u1 u2 t0 rc k = some R) : rn_rv X 79 (56, [(0, .ref 318), (1, .int u1), (2, .int u2)], [.int t0], N, sl, rn_hp S M) (some (.int R.1), N, sl, rn_hp S R.2) := by
  have qm := rn_m79
  unfold f79_J56_17 at h
  refine rn_eg qm 8 (s2 := (64, [(4, .int t0), (0, .ref 318), (1, .int u1), (2, .int u2)], [.int u1, .ref 343, .int t0, .int u1, .ref 343], N, sl, rn_hp S M)) rfl ?_
  have c6 : ¬ (rn_ob u1 64) := fun c => by rw [if_pos c] at h; cases h
  rw [if_neg c6] at h
  refine rn_e1 qm (s2 := (65, [(4, .int t0), (0, .ref 318), (1, .int u1), (2, .int u2)], [.int (rA M 343 (Int32.toNatClampNeg u1)), .int t0, .int u1, .ref 343], N, sl, rn_hp S M)) (rn_g_iald (n := 64) rfl rfl (ar_m10 rfl rfl (Nat.le_of_ble_eq_true rfl)) c6) ?_
  refine rn_eg qm 1 (s2 := ((if (rA M 343 (Int32.toNatClampNeg u1)) ≤ t0 then 68 else 66), [(4, .int t0), (0, .ref 318), (1, .int u1), (2, .int u2)], [.int u1, .ref 343], N, sl, rn_hp S M)) rfl ?_
  refine rn_ite (fun c7 => ?_) (fun c7 => ?_)
  · rw [if_pos c7] at h
    refine rn_eg qm 3 (s2 := (71, [(4, .int t0), (0, .ref 318), (1, .int u1), (2, .int u2)], [.int u1, .ref 343, .int u1, .ref 343], N, sl, rn_hp S M)) rfl ?_
    refine rn_e1 qm (s2 := (72, [(4, .int t0), (0, .ref 318), (1, .int u1), (2, .int u2)], [.int (rA M 343 (Int32.toNatClampNeg u1)), .int u1, .ref 343], N, sl, rn_hp S M)) (rn_g_iald (n := 64) rfl rfl (ar_m10 rfl rfl (Nat.le_of_ble_eq_true rfl)) c6) ?_
    refine rn_e1 qm (s2 := (73, [(0, .ref 318), (1, .int u1), (2, .int u2)], [], N, sl, rn_hp S (wA M 343 (Int32.toNatClampNeg u1) (rA M 343 (Int32.toNatClampNeg u1))))) (rn_g_iast (n := 64) rfl rfl (ar_m10 rfl rfl (Nat.le_of_ble_eq_true rfl)) c6 (aw_m10 rfl rfl (Nat.le_of_ble_eq_true rfl))) ?_
    refine rn_eg qm 2 (s2 := (17, [(2, .int (u2 + (1 : Int32))), (0, .ref 318), (1, .int u1)], [], N, sl, rn_hp S (wA M 343 (Int32.toNatClampNeg u1) (rA M 343 (Int32.toNatClampNeg u1))))) rfl ?_
    refine rn_kq qm (s2 := (17, [(0, .ref 318), (1, .int u1), (2, .int (u2 + (1 : Int32)))], [], N, sl, rn_hp S (wA M 343 (Int32.toNatClampNeg u1) (rA M 343 (Int32.toNatClampNeg u1))))) rfl rfl ?_
    exact hrc _ _ h
  · rw [if_neg c7] at h
    refine rn_eg qm 2 (s2 := (72, [(4, .int t0), (0, .ref 318), (1, .int u1), (2, .int u2)], [.int t0, .int u1, .ref 343], N, sl, rn_hp S M)) rfl ?_
    refine rn_e1 qm (s2 := (73, [(0, .ref 318), (1, .int u1), (2, .int u2)], [], N, sl, rn_hp S (wA M 343 (Int32.toNatClampNeg u1) t0))) (rn_g_iast (n := 64) rfl rfl (ar_m10 rfl rfl (Nat.le_of_ble_eq_true rfl)) c6 (aw_m10 rfl rfl (Nat.le_of_ble_eq_true rfl))) ?_
    refine rn_eg qm 2 (s2 := (17, [(2, .int (u2 + (1 : Int32))), (0, .ref 318), (1, .int u1)], [], N, sl, rn_hp S (wA M 343 (Int32.toNatClampNeg u1) t0))) rfl ?_
    refine rn_kq qm (s2 := (17, [(0, .ref 318), (1, .int u1), (2, .int (u2 + (1 : Int32)))], [], N, sl, rn_hp S (wA M 343 (Int32.toNatClampNeg u1) t0))) rfl rfl ?_
    exact hrc _ _ h
def f79_L17 (b1 : Int32) : Nat → rn_T → Int32 → (rn_T → Option (Int32 × rn_T)) → Option (Int32 × rn_T)
  | 0, _, _, _ => none
  | fu + 1, M, v2, k =>
    if (rA M 326 (Int32.toNatClampNeg (0 : Int32))) ≤ v2 then
      k M
    else
      Option.bind (f57 M (0 : Int32) v2) fun p4 =>
        if ((b1 >>> (v2 &&& 31)) &&& (1 : Int32)) = 0 then
          f79_J56_17 M b1 v2 (1000 : Int32) (fun M v2 => f79_L17 b1 fu M v2 k) k
        else
          if rn_ob (b1 &&& (((1 : Int32) <<< (v2 &&& 31)) ^^^ (-1 : Int32))) 64 then none else
            if rn_ob p4 101 then none else
              Option.bind (f32 (rA M 343 (Int32.toNatClampNeg (b1 &&& (((1 : Int32) <<< (v2 &&& 31)) ^^^ (-1 : Int32))))) (rA M 335 (Int32.toNatClampNeg p4))) fun p10 =>
                f79_J56_17 M b1 v2 (p10 + (rA M 334 (Int32.toNatClampNeg p4))) (fun M v2 => f79_L17 b1 fu M v2 k) k
set_option maxHeartbeats 4000000 in
theorem E79_L17 {X : rn_X} {N sl : Nat} {S : rn_T} {b1 : Int32} : ∀ (fu : Nat) (M : rn_T) (v2 : Int32) (k : (rn_T → Option (Int32 × rn_T))) (R : (Int32 × rn_T)), (∀ (M : rn_T), k M = some R → rn_rv X 79 (75, [(0, .ref 318), (1, .int b1)], [], N, sl, rn_hp S M) (some (.int R.1), N, sl, rn_hp S R.2)) → f79_L17 b1 fu M v2 k = some R → rn_rv X 79 (17, [(0, .ref 318), (1, .int b1), (2, .int v2)], [], N, sl, rn_hp S M) (some (.int R.1), N, sl, rn_hp S R.2) := by
  have qm := rn_m79
  intro fu
  induction fu with
  | zero => intro M v2 k R hk h; cases h
  | succ fu ih =>
    intro M v2 k R hk h
    unfold f79_L17 at h
    refine rn_eg qm 4 (s2 := (21, [(0, .ref 318), (1, .int b1), (2, .int v2)], [.int (0 : Int32), .ref 326, .int v2], N, sl, rn_hp S M)) rfl ?_
    refine rn_e1 qm (s2 := (22, [(0, .ref 318), (1, .int b1), (2, .int v2)], [.int (rA M 326 (Int32.toNatClampNeg (0 : Int32))), .int v2], N, sl, rn_hp S M)) (rn_g_iald (n := 101) rfl rfl (ar_m10 rfl rfl (Nat.le_of_ble_eq_true rfl)) (by decide)) ?_
    refine rn_eg qm 1 (s2 := ((if (rA M 326 (Int32.toNatClampNeg (0 : Int32))) ≤ v2 then 75 else 23), [(0, .ref 318), (1, .int b1), (2, .int v2)], [], N, sl, rn_hp S M)) rfl ?_
    refine rn_ite (fun c3 => ?_) (fun c3 => ?_)
    · rw [if_pos c3] at h
      refine rn_kq qm (s2 := (75, [(0, .ref 318), (1, .int b1)], [], N, sl, rn_hp S M)) rfl rfl ?_
      exact hk _ h
    · rw [if_neg c3] at h
      refine rn_eg qm 3 (s2 := (26, [(0, .ref 318), (1, .int b1), (2, .int v2)], [.int v2, .int (0 : Int32), .ref 318], N, sl, rn_hp S M)) rfl ?_
      obtain ⟨p4, hp4, h⟩ := Option.bind_eq_some_iff.mp h
      refine rn_ec qm rfl rfl rfl rfl rn_m57 rfl rfl rfl (fun _ => rn_rc_of (en_9 (q := 318) rfl)) (E57 hp4) ?_
      refine rn_eg qm 0 (s2 := (27, [(0, .ref 318), (1, .int b1), (2, .int v2)], [.int p4], N, sl, rn_hp S M)) rfl ?_
      refine rn_eg qm 7 (s2 := ((if ((b1 >>> (v2 &&& 31)) &&& (1 : Int32)) = 0 then 34 else 36), [(3, .int p4), (0, .ref 318), (1, .int b1), (2, .int v2)], [], N, sl, rn_hp S M)) rfl ?_
      refine rn_ite (fun c5 => ?_) (fun c5 => ?_)
      · rw [if_pos c5] at h
        refine rn_eg qm 2 (s2 := (56, [(3, .int p4), (0, .ref 318), (1, .int b1), (2, .int v2)], [.int (1000 : Int32)], N, sl, rn_hp S M)) rfl ?_
        refine rn_kq qm (s2 := (56, [(0, .ref 318), (1, .int b1), (2, .int v2)], [.int (1000 : Int32)], N, sl, rn_hp S M)) rfl rfl ?_
        exact E79_J56_17 (fun M v2 h => ih M v2 k R hk h) hk h
      · rw [if_neg c5] at h
        refine rn_eg qm 9 (s2 := (45, [(3, .int p4), (0, .ref 318), (1, .int b1), (2, .int v2)], [.int (b1 &&& (((1 : Int32) <<< (v2 &&& 31)) ^^^ (-1 : Int32))), .ref 343], N, sl, rn_hp S M)) rfl ?_
        have c8 : ¬ (rn_ob (b1 &&& (((1 : Int32) <<< (v2 &&& 31)) ^^^ (-1 : Int32))) 64) := fun c => by rw [if_pos c] at h; cases h
        rw [if_neg c8] at h
        refine rn_e1 qm (s2 := (46, [(3, .int p4), (0, .ref 318), (1, .int b1), (2, .int v2)], [.int (rA M 343 (Int32.toNatClampNeg (b1 &&& (((1 : Int32) <<< (v2 &&& 31)) ^^^ (-1 : Int32)))))], N, sl, rn_hp S M)) (rn_g_iald (n := 64) rfl rfl (ar_m10 rfl rfl (Nat.le_of_ble_eq_true rfl)) c8) ?_
        refine rn_eg qm 3 (s2 := (49, [(3, .int p4), (0, .ref 318), (1, .int b1), (2, .int v2)], [.int p4, .ref 335, .int (rA M 343 (Int32.toNatClampNeg (b1 &&& (((1 : Int32) <<< (v2 &&& 31)) ^^^ (-1 : Int32)))))], N, sl, rn_hp S M)) rfl ?_
        have c9 : ¬ (rn_ob p4 101) := fun c => by rw [if_pos c] at h; cases h
        rw [if_neg c9] at h
        refine rn_e1 qm (s2 := (50, [(3, .int p4), (0, .ref 318), (1, .int b1), (2, .int v2)], [.int (rA M 335 (Int32.toNatClampNeg p4)), .int (rA M 343 (Int32.toNatClampNeg (b1 &&& (((1 : Int32) <<< (v2 &&& 31)) ^^^ (-1 : Int32)))))], N, sl, rn_hp S M)) (rn_g_iald (n := 101) rfl rfl (ar_m10 rfl rfl (Nat.le_of_ble_eq_true rfl)) c9) ?_
        obtain ⟨p10, hp10, h⟩ := Option.bind_eq_some_iff.mp h
        refine rn_ec qm rfl rfl rfl rfl rn_m32 rfl rfl rfl (fun h => by cases h) (E32 hp10) ?_
        refine rn_eg qm 0 (s2 := (51, [(3, .int p4), (0, .ref 318), (1, .int b1), (2, .int v2)], [.int p10], N, sl, rn_hp S M)) rfl ?_
        refine rn_eg qm 3 (s2 := (54, [(3, .int p4), (0, .ref 318), (1, .int b1), (2, .int v2)], [.int p4, .ref 334, .int p10], N, sl, rn_hp S M)) rfl ?_
        refine rn_e1 qm (s2 := (55, [(3, .int p4), (0, .ref 318), (1, .int b1), (2, .int v2)], [.int (rA M 334 (Int32.toNatClampNeg p4)), .int p10], N, sl, rn_hp S M)) (rn_g_iald (n := 101) rfl rfl (ar_m10 rfl rfl (Nat.le_of_ble_eq_true rfl)) c9) ?_
        refine rn_eg qm 1 (s2 := (56, [(3, .int p4), (0, .ref 318), (1, .int b1), (2, .int v2)], [.int (p10 + (rA M 334 (Int32.toNatClampNeg p4)))], N, sl, rn_hp S M)) rfl ?_
        refine rn_kq qm (s2 := (56, [(0, .ref 318), (1, .int b1), (2, .int v2)], [.int (p10 + (rA M 334 (Int32.toNatClampNeg p4)))], N, sl, rn_hp S M)) rfl rfl ?_
        exact E79_J56_17 (fun M v2 h => ih M v2 k R hk h) hk h
def f79_L2 : Nat → rn_T → Int32 → (rn_T → Option (Int32 × rn_T)) → Option (Int32 × rn_T)
  | 0, _, _, _ => none
  | fu + 1, M, v1, k =>
    if ((1 : Int32) <<< ((rA M 326 (Int32.toNatClampNeg (0 : Int32))) &&& 31)) ≤ v1 then
      k M
    else
      if rn_ob v1 64 then none else
        f79_L17 v1 rn_FU (wA M 343 (Int32.toNatClampNeg v1) (1000 : Int32)) (0 : Int32) (fun M11 =>
          f79_L2 fu M11 (v1 + (1 : Int32)) k)
set_option maxHeartbeats 4000000 in
theorem E79_L2 {X : rn_X} {N sl : Nat} {S : rn_T} : ∀ (fu : Nat) (M : rn_T) (v1 : Int32) (k : (rn_T → Option (Int32 × rn_T))) (R : (Int32 × rn_T)), (∀ (M : rn_T), k M = some R → rn_rv X 79 (77, [(0, .ref 318)], [], N, sl, rn_hp S M) (some (.int R.1), N, sl, rn_hp S R.2)) → f79_L2 fu M v1 k = some R → rn_rv X 79 (2, [(0, .ref 318), (1, .int v1)], [], N, sl, rn_hp S M) (some (.int R.1), N, sl, rn_hp S R.2) := by
  have qm := rn_m79
  intro fu
  induction fu with
  | zero => intro M v1 k R hk h; cases h
  | succ fu ih =>
    intro M v1 k R hk h
    unfold f79_L2 at h
    refine rn_eg qm 5 (s2 := (7, [(0, .ref 318), (1, .int v1)], [.int (0 : Int32), .ref 326, .int (1 : Int32), .int v1], N, sl, rn_hp S M)) rfl ?_
    refine rn_e1 qm (s2 := (8, [(0, .ref 318), (1, .int v1)], [.int (rA M 326 (Int32.toNatClampNeg (0 : Int32))), .int (1 : Int32), .int v1], N, sl, rn_hp S M)) (rn_g_iald (n := 101) rfl rfl (ar_m10 rfl rfl (Nat.le_of_ble_eq_true rfl)) (by decide)) ?_
    refine rn_eg qm 2 (s2 := ((if ((1 : Int32) <<< ((rA M 326 (Int32.toNatClampNeg (0 : Int32))) &&& 31)) ≤ v1 then 77 else 10), [(0, .ref 318), (1, .int v1)], [], N, sl, rn_hp S M)) rfl ?_
    refine rn_ite (fun c1 => ?_) (fun c1 => ?_)
    · rw [if_pos c1] at h
      refine rn_kq qm (s2 := (77, [(0, .ref 318)], [], N, sl, rn_hp S M)) rfl rfl ?_
      exact hk _ h
    · rw [if_neg c1] at h
      refine rn_eg qm 4 (s2 := (14, [(0, .ref 318), (1, .int v1)], [.int (1000 : Int32), .int v1, .ref 343], N, sl, rn_hp S M)) rfl ?_
      have c2 : ¬ (rn_ob v1 64) := fun c => by rw [if_pos c] at h; cases h
      rw [if_neg c2] at h
      refine rn_e1 qm (s2 := (15, [(0, .ref 318), (1, .int v1)], [], N, sl, rn_hp S (wA M 343 (Int32.toNatClampNeg v1) (1000 : Int32)))) (rn_g_iast (n := 64) rfl rfl (ar_m10 rfl rfl (Nat.le_of_ble_eq_true rfl)) c2 (aw_m10 rfl rfl (Nat.le_of_ble_eq_true rfl))) ?_
      refine rn_eg qm 2 (s2 := (17, [(2, .int (0 : Int32)), (0, .ref 318), (1, .int v1)], [], N, sl, rn_hp S (wA M 343 (Int32.toNatClampNeg v1) (1000 : Int32)))) rfl ?_
      refine rn_kq qm (s2 := (17, [(0, .ref 318), (1, .int v1), (2, .int (0 : Int32))], [], N, sl, rn_hp S (wA M 343 (Int32.toNatClampNeg v1) (1000 : Int32)))) rfl rfl ?_
      refine E79_L17 rn_FU _ _ _ R ?_ h
      intro M11 h
      refine rn_eg qm 2 (s2 := (2, [(1, .int (v1 + (1 : Int32))), (0, .ref 318)], [], N, sl, rn_hp S M11)) rfl ?_
      refine rn_kq qm (s2 := (2, [(0, .ref 318), (1, .int (v1 + (1 : Int32)))], [], N, sl, rn_hp S M11)) rfl rfl ?_
      exact ih _ _ k R hk h
def f79 (M : rn_T) : Option (Int32 × rn_T) :=
  f79_L2 rn_FU M (1 : Int32) (fun M12 =>
    if rn_ob (((1 : Int32) <<< ((rA M12 326 (Int32.toNatClampNeg (0 : Int32))) &&& 31)) - (1 : Int32)) 64 then none else
      some ((rA M12 343 (Int32.toNatClampNeg (((1 : Int32) <<< ((rA M12 326 (Int32.toNatClampNeg (0 : Int32))) &&& 31)) - (1 : Int32)))), M12))
set_option maxHeartbeats 4000000 in
theorem E79 {X : rn_X} {N sl : Nat} {S M : rn_T} {R : (Int32 × rn_T)} (h : f79 M = some R) : rn_rv X 79 (0, [(0, .ref 318)], [], N, sl, rn_hp S M) (some (.int R.1), N, sl, rn_hp S R.2) := by
  have qm := rn_m79
  unfold f79 at h
  refine rn_eg qm 2 (s2 := (2, [(1, .int (1 : Int32)), (0, .ref 318)], [], N, sl, rn_hp S M)) rfl ?_
  refine rn_kq qm (s2 := (2, [(0, .ref 318), (1, .int (1 : Int32))], [], N, sl, rn_hp S M)) rfl rfl ?_
  refine E79_L2 rn_FU _ _ _ R ?_ h
  intro M12 h
  refine rn_eg qm 6 (s2 := (83, [(0, .ref 318)], [.int (0 : Int32), .ref 326, .int (1 : Int32), .ref 343], N, sl, rn_hp S M12)) rfl ?_
  refine rn_e1 qm (s2 := (84, [(0, .ref 318)], [.int (rA M12 326 (Int32.toNatClampNeg (0 : Int32))), .int (1 : Int32), .ref 343], N, sl, rn_hp S M12)) (rn_g_iald (n := 101) rfl rfl (ar_m10 rfl rfl (Nat.le_of_ble_eq_true rfl)) (by decide)) ?_
  refine rn_eg qm 3 (s2 := (87, [(0, .ref 318)], [.int (((1 : Int32) <<< ((rA M12 326 (Int32.toNatClampNeg (0 : Int32))) &&& 31)) - (1 : Int32)), .ref 343], N, sl, rn_hp S M12)) rfl ?_
  have c13 : ¬ (rn_ob (((1 : Int32) <<< ((rA M12 326 (Int32.toNatClampNeg (0 : Int32))) &&& 31)) - (1 : Int32)) 64) := fun c => by rw [if_pos c] at h; cases h
  rw [if_neg c13] at h
  refine rn_e1 qm (s2 := (88, [(0, .ref 318)], [.int (rA M12 343 (Int32.toNatClampNeg (((1 : Int32) <<< ((rA M12 326 (Int32.toNatClampNeg (0 : Int32))) &&& 31)) - (1 : Int32))))], N, sl, rn_hp S M12)) (rn_g_iald (n := 64) rfl rfl (ar_m10 rfl rfl (Nat.le_of_ble_eq_true rfl)) c13) ?_
  cases h
  exact rn_er qm rfl rfl rfl
/-! 80: RecordNichesModel.least(II)I -/
def f80 (M : rn_T) (a1 : Int32) (a2 : Int32) : Option (Int32 × rn_T) :=
  Option.bind (f46 M a1 a2) fun p1 =>
    if p1 = true then
      Option.bind (f71 M a1 a2) fun p3 =>
        if p3.1 = (-6 : Int32) then
          if (rA p3.2 322 (Int32.toNatClampNeg (0 : Int32))) = (5 : Int32) then
            Option.bind (f79 p3.2) fun p6 =>
              Option.bind (f32 p6.1 (rA p6.2 335 (Int32.toNatClampNeg (0 : Int32)))) fun p7 =>
                some (p7, p6.2)
          else
            some ((-6 : Int32), p3.2)
        else
          some (p3.1, p3.2)
    else
      some ((-1 : Int32), M)
set_option maxHeartbeats 4000000 in
theorem E80 {X : rn_X} {N sl : Nat} {S M : rn_T} {a1 : Int32} {a2 : Int32} {R : (Int32 × rn_T)} (h : f80 M a1 a2 = some R) : rn_rv X 80 (0, [(0, .ref 318), (1, .int a1), (2, .int a2)], [], N, sl, rn_hp S M) (some (.int R.1), N, sl, rn_hp S R.2) := by
  have qm := rn_m80
  unfold f80 at h
  refine rn_eg qm 3 (s2 := (3, [(0, .ref 318), (1, .int a1), (2, .int a2)], [.int a2, .int a1, .ref 318], N, sl, rn_hp S M)) rfl ?_
  obtain ⟨p1, hp1, h⟩ := Option.bind_eq_some_iff.mp h
  refine rn_ec qm rfl rfl rfl rfl rn_m46 rfl rfl rfl (fun _ => rn_rc_of (en_9 (q := 318) rfl)) (E46 hp1) ?_
  refine rn_eg qm 0 (s2 := (4, [(0, .ref 318), (1, .int a1), (2, .int a2)], [.int (rn_bi p1)], N, sl, rn_hp S M)) rfl ?_
  refine rn_eg qm 1 (s2 := ((if (rn_bi p1) = 0 then 5 else 7), [(0, .ref 318), (1, .int a1), (2, .int a2)], [], N, sl, rn_hp S M)) rfl ?_
  refine rn_iteb (fun c2 => ?_) (fun c2 => ?_)
  · rw [if_neg (rn_bf c2)] at h
    refine rn_eg qm 1 (s2 := (6, [(0, .ref 318), (1, .int a1), (2, .int a2)], [.int (-1 : Int32)], N, sl, rn_hp S M)) rfl ?_
    cases h
    exact rn_er qm rfl rfl rfl
  · rw [if_pos c2] at h
    refine rn_eg qm 3 (s2 := (10, [(0, .ref 318), (1, .int a1), (2, .int a2)], [.int a2, .int a1, .ref 318], N, sl, rn_hp S M)) rfl ?_
    obtain ⟨p3, hp3, h⟩ := Option.bind_eq_some_iff.mp h
    refine rn_ec qm rfl rfl rfl rfl rn_m71 rfl rfl rfl (fun _ => rn_rc_of (en_9 (q := 318) rfl)) (E71 hp3) ?_
    refine rn_eg qm 0 (s2 := (11, [(0, .ref 318), (1, .int a1), (2, .int a2)], [.int p3.1], N, sl, rn_hp S p3.2)) rfl ?_
    refine rn_eg qm 4 (s2 := ((if p3.1 = (-6 : Int32) then 17 else 15), [(3, .int p3.1), (0, .ref 318), (1, .int a1), (2, .int a2)], [], N, sl, rn_hp S p3.2)) rfl ?_
    refine rn_ite (fun c4 => ?_) (fun c4 => ?_)
    · rw [if_pos c4] at h
      refine rn_eg qm 3 (s2 := (20, [(3, .int p3.1), (0, .ref 318), (1, .int a1), (2, .int a2)], [.int (0 : Int32), .ref 322], N, sl, rn_hp S p3.2)) rfl ?_
      refine rn_e1 qm (s2 := (21, [(3, .int p3.1), (0, .ref 318), (1, .int a1), (2, .int a2)], [.int (rA p3.2 322 (Int32.toNatClampNeg (0 : Int32)))], N, sl, rn_hp S p3.2)) (rn_g_iald (n := 101) rfl rfl (ar_m10 rfl rfl (Nat.le_of_ble_eq_true rfl)) (by decide)) ?_
      refine rn_eg qm 2 (s2 := ((if (rA p3.2 322 (Int32.toNatClampNeg (0 : Int32))) = (5 : Int32) then 23 else 31), [(3, .int p3.1), (0, .ref 318), (1, .int a1), (2, .int a2)], [], N, sl, rn_hp S p3.2)) rfl ?_
      refine rn_ite (fun c5 => ?_) (fun c5 => ?_)
      · rw [if_pos c5] at h
        refine rn_eg qm 1 (s2 := (24, [(3, .int p3.1), (0, .ref 318), (1, .int a1), (2, .int a2)], [.ref 318], N, sl, rn_hp S p3.2)) rfl ?_
        obtain ⟨p6, hp6, h⟩ := Option.bind_eq_some_iff.mp h
        refine rn_ec qm rfl rfl rfl rfl rn_m79 rfl rfl rfl (fun _ => rn_rc_of (en_9 (q := 318) rfl)) (E79 hp6) ?_
        refine rn_eg qm 0 (s2 := (25, [(3, .int p3.1), (0, .ref 318), (1, .int a1), (2, .int a2)], [.int p6.1], N, sl, rn_hp S p6.2)) rfl ?_
        refine rn_eg qm 3 (s2 := (28, [(3, .int p3.1), (0, .ref 318), (1, .int a1), (2, .int a2)], [.int (0 : Int32), .ref 335, .int p6.1], N, sl, rn_hp S p6.2)) rfl ?_
        refine rn_e1 qm (s2 := (29, [(3, .int p3.1), (0, .ref 318), (1, .int a1), (2, .int a2)], [.int (rA p6.2 335 (Int32.toNatClampNeg (0 : Int32))), .int p6.1], N, sl, rn_hp S p6.2)) (rn_g_iald (n := 101) rfl rfl (ar_m10 rfl rfl (Nat.le_of_ble_eq_true rfl)) (by decide)) ?_
        obtain ⟨p7, hp7, h⟩ := Option.bind_eq_some_iff.mp h
        refine rn_ec qm rfl rfl rfl rfl rn_m32 rfl rfl rfl (fun h => by cases h) (E32 hp7) ?_
        refine rn_eg qm 0 (s2 := (30, [(3, .int p3.1), (0, .ref 318), (1, .int a1), (2, .int a2)], [.int p7], N, sl, rn_hp S p6.2)) rfl ?_
        refine rn_eg qm 1 (s2 := (32, [(3, .int p3.1), (0, .ref 318), (1, .int a1), (2, .int a2)], [.int p7], N, sl, rn_hp S p6.2)) rfl ?_
        cases h
        exact rn_er qm rfl rfl rfl
      · rw [if_neg c5] at h
        refine rn_eg qm 1 (s2 := (32, [(3, .int p3.1), (0, .ref 318), (1, .int a1), (2, .int a2)], [.int (-6 : Int32)], N, sl, rn_hp S p3.2)) rfl ?_
        cases h
        exact rn_er qm rfl rfl rfl
    · rw [if_neg c4] at h
      refine rn_eg qm 1 (s2 := (16, [(3, .int p3.1), (0, .ref 318), (1, .int a1), (2, .int a2)], [.int p3.1], N, sl, rn_hp S p3.2)) rfl ?_
      cases h
      exact rn_er qm rfl rfl rfl
/-! 81: RecordNichesModel.placeOf(I)I -/
def f81_L4 : Nat → rn_T → Int32 → Int32 → (rn_T → Int32 → Option Int32) → Option Int32
  | 0, _, _, _, _ => none
  | fu + 1, M, v2, v3, k =>
    if v3 ≤ 0 then
      k M v2
    else
      if rn_ob v3 101 then none else
        f81_L4 fu M (v2 + (rA M 336 (Int32.toNatClampNeg v3))) (rA M 324 (Int32.toNatClampNeg v3)) k
set_option maxHeartbeats 4000000 in
theorem E81_L4 {X : rn_X} {N sl : Nat} {S : rn_T} : ∀ (fu : Nat) (M : rn_T) (v2 : Int32) (v3 : Int32) (k : (rn_T → Int32 → Option Int32)) (R : (Int32)), (∀ (M : rn_T) (w_2 : Int32), k M w_2 = some R → rn_rv X 81 (19, [(2, .int w_2)], [], N, sl, rn_hp S M) (some (.int R), N, sl, rn_hp S M)) → f81_L4 fu M v2 v3 k = some R → rn_rv X 81 (4, [(0, .ref 318), (2, .int v2), (3, .int v3)], [], N, sl, rn_hp S M) (some (.int R), N, sl, rn_hp S M) := by
  have qm := rn_m81
  intro fu
  induction fu with
  | zero => intro M v2 v3 k R hk h; cases h
  | succ fu ih =>
    intro M v2 v3 k R hk h
    unfold f81_L4 at h
    refine rn_eg qm 2 (s2 := ((if v3 ≤ 0 then 19 else 6), [(0, .ref 318), (2, .int v2), (3, .int v3)], [], N, sl, rn_hp S M)) rfl ?_
    refine rn_ite (fun c1 => ?_) (fun c1 => ?_)
    · rw [if_pos c1] at h
      refine rn_kq qm (s2 := (19, [(2, .int v2)], [], N, sl, rn_hp S M)) rfl rfl ?_
      exact hk _ _ h
    · rw [if_neg c1] at h
      refine rn_eg qm 4 (s2 := (10, [(0, .ref 318), (2, .int v2), (3, .int v3)], [.int v3, .ref 336, .int v2], N, sl, rn_hp S M)) rfl ?_
      have c2 : ¬ (rn_ob v3 101) := fun c => by rw [if_pos c] at h; cases h
      rw [if_neg c2] at h
      refine rn_e1 qm (s2 := (11, [(0, .ref 318), (2, .int v2), (3, .int v3)], [.int (rA M 336 (Int32.toNatClampNeg v3)), .int v2], N, sl, rn_hp S M)) (rn_g_iald (n := 101) rfl rfl (ar_m10 rfl rfl (Nat.le_of_ble_eq_true rfl)) c2) ?_
      refine rn_eg qm 5 (s2 := (16, [(2, .int (v2 + (rA M 336 (Int32.toNatClampNeg v3)))), (0, .ref 318), (3, .int v3)], [.int v3, .ref 324], N, sl, rn_hp S M)) rfl ?_
      refine rn_e1 qm (s2 := (17, [(2, .int (v2 + (rA M 336 (Int32.toNatClampNeg v3)))), (0, .ref 318), (3, .int v3)], [.int (rA M 324 (Int32.toNatClampNeg v3))], N, sl, rn_hp S M)) (rn_g_iald (n := 101) rfl rfl (ar_m10 rfl rfl (Nat.le_of_ble_eq_true rfl)) c2) ?_
      refine rn_eg qm 2 (s2 := (4, [(3, .int (rA M 324 (Int32.toNatClampNeg v3))), (2, .int (v2 + (rA M 336 (Int32.toNatClampNeg v3)))), (0, .ref 318)], [], N, sl, rn_hp S M)) rfl ?_
      refine rn_kq qm (s2 := (4, [(0, .ref 318), (2, .int (v2 + (rA M 336 (Int32.toNatClampNeg v3)))), (3, .int (rA M 324 (Int32.toNatClampNeg v3)))], [], N, sl, rn_hp S M)) rfl rfl ?_
      exact ih _ _ _ k R hk h
def f81 (M : rn_T) (a1 : Int32) : Option Int32 :=
  f81_L4 rn_FU M (0 : Int32) a1 (fun M3 w3_2 =>
    some w3_2)
set_option maxHeartbeats 4000000 in
theorem E81 {X : rn_X} {N sl : Nat} {S M : rn_T} {a1 : Int32} {R : (Int32)} (h : f81 M a1 = some R) : rn_rv X 81 (0, [(0, .ref 318), (1, .int a1)], [], N, sl, rn_hp S M) (some (.int R), N, sl, rn_hp S M) := by
  have qm := rn_m81
  unfold f81 at h
  refine rn_eg qm 4 (s2 := (4, [(3, .int a1), (2, .int (0 : Int32)), (0, .ref 318), (1, .int a1)], [], N, sl, rn_hp S M)) rfl ?_
  refine rn_kq qm (s2 := (4, [(0, .ref 318), (2, .int (0 : Int32)), (3, .int a1)], [], N, sl, rn_hp S M)) rfl rfl ?_
  refine E81_L4 rn_FU _ _ _ _ R ?_ h
  intro M3 w3_2 h
  refine rn_eg qm 1 (s2 := (20, [(2, .int w3_2)], [.int w3_2], N, sl, rn_hp S M3)) rfl ?_
  cases h
  exact rn_er qm rfl rfl rfl
