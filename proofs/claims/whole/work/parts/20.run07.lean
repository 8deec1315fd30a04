/-! 48: RecordNichesModel.isWell(II)Z -/
def f48_L21 (b4 : Int32) (b5 : Int32) : Nat → rn_T → Int32 → Int32 → (rn_T → Int32 → Option (Bool × rn_T)) → Option (Bool × rn_T)
  | 0, _, _, _, _ => none
  | fu + 1, M, v3, v6, k =>
    if (8 : Int32) ≤ v6 then
      k M v3
    else
      if ((v3 >>> (v6 &&& 31)) &&& (1 : Int32)) = (1 : Int32) then
        Option.bind (f47 M v6) fun p5 =>
          f48_L21 b4 b5 fu M (v3 ||| p5) (v6 + (1 : Int32)) k
      else
        f48_L21 b4 b5 fu M (v3 ||| (0 : Int32)) (v6 + (1 : Int32)) k
set_option maxHeartbeats 4000000 in
theorem E48_L21 {X : rn_X} {N sl : Nat} {S : rn_T} {b4 : Int32} {b5 : Int32} : ∀ (fu : Nat) (M : rn_T) (v3 : Int32) (v6 : Int32) (k : (rn_T → Int32 → Option (Bool × rn_T))) (R : (Bool × rn_T)), (∀ (M : rn_T) (w_3 : Int32), k M w_3 = some R → rn_rv X 48 (41, [(0, .ref 318), (3, .int w_3), (4, .int b4), (5, .int b5)], [], N, sl, rn_hp S M) (some (.int (rn_bi R.1)), N, sl, rn_hp S R.2)) → f48_L21 b4 b5 fu M v3 v6 k = some R → rn_rv X 48 (21, [(0, .ref 318), (3, .int v3), (4, .int b4), (5, .int b5), (6, .int v6)], [], N, sl, rn_hp S M) (some (.int (rn_bi R.1)), N, sl, rn_hp S R.2) := by
  have qm := rn_m48
  intro fu
  induction fu with
  | zero => intro M v3 v6 k R hk h; cases h
  | succ fu ih =>
    intro M v3 v6 k R hk h
    unfold f48_L21 at h
    refine rn_eg qm 3 (s2 := ((if (8 : Int32) ≤ v6 then 41 else 24), [(0, .ref 318), (3, .int v3), (4, .int b4), (5, .int b5), (6, .int v6)], [], N, sl, rn_hp S M)) rfl ?_
    refine rn_ite (fun c3 => ?_) (fun c3 => ?_)
    · rw [if_pos c3] at h
      refine rn_kq qm (s2 := (41, [(0, .ref 318), (3, .int v3), (4, .int b4), (5, .int b5)], [], N, sl, rn_hp S M)) rfl rfl ?_
      exact hk _ _ h
    · rw [if_neg c3] at h
      refine rn_eg qm 8 (s2 := ((if ((v3 >>> (v6 &&& 31)) &&& (1 : Int32)) = (1 : Int32) then 32 else 36), [(0, .ref 318), (3, .int v3), (4, .int b4), (5, .int b5), (6, .int v6)], [.int v3], N, sl, rn_hp S M)) rfl ?_
      refine rn_ite (fun c4 => ?_) (fun c4 => ?_)
      · rw [if_pos c4] at h
        refine rn_eg qm 2 (s2 := (34, [(0, .ref 318), (3, .int v3), (4, .int b4), (5, .int b5), (6, .int v6)], [.int v6, .ref 318, .int v3], N, sl, rn_hp S M)) rfl ?_
        obtain ⟨p5, hp5, h⟩ := Option.bind_eq_some_iff.mp h
        refine rn_ec qm rfl rfl rfl rfl rn_m47 rfl rfl rfl (fun _ => rn_rc_of (en_9 (q := 318) rfl)) (E47 hp5) ?_
        refine rn_eg qm 0 (s2 := (35, [(0, .ref 318), (3, .int v3), (4, .int b4), (5, .int b5), (6, .int v6)], [.int p5, .int v3], N, sl, rn_hp S M)) rfl ?_
        refine rn_eg qm 5 (s2 := (21, [(6, .int (v6 + (1 : Int32))), (3, .int (v3 ||| p5)), (0, .ref 318), (4, .int b4), (5, .int b5)], [], N, sl, rn_hp S M)) rfl ?_
        refine rn_kq qm (s2 := (21, [(0, .ref 318), (3, .int (v3 ||| p5)), (4, .int b4), (5, .int b5), (6, .int (v6 + (1 : Int32)))], [], N, sl, rn_hp S M)) rfl rfl ?_
        exact ih _ _ _ k R hk h
      · rw [if_neg c4] at h
        refine rn_eg qm 5 (s2 := (21, [(6, .int (v6 + (1 : Int32))), (3, .int (v3 ||| (0 : Int32))), (0, .ref 318), (4, .int b4), (5, .int b5)], [], N, sl, rn_hp S M)) rfl ?_
        refine rn_kq qm (s2 := (21, [(0, .ref 318), (3, .int (v3 ||| (0 : Int32))), (4, .int b4), (5, .int b5), (6, .int (v6 + (1 : Int32)))], [], N, sl, rn_hp S M)) rfl rfl ?_
        exact ih _ _ _ k R hk h
def f48_L16 (b4 : Int32) : Nat → rn_T → Int32 → Int32 → (rn_T → Int32 → Option (Bool × rn_T)) → Option (Bool × rn_T)
  | 0, _, _, _, _ => none
  | fu + 1, M, v3, v5, k =>
    if (8 : Int32) ≤ v5 then
      k M v3
    else
      f48_L21 b4 v5 rn_FU M v3 (0 : Int32) (fun M6 w6_3 =>
        f48_L16 b4 fu M6 w6_3 (v5 + (1 : Int32)) k)
set_option maxHeartbeats 4000000 in
theorem E48_L16 {X : rn_X} {N sl : Nat} {S : rn_T} {b4 : Int32} : ∀ (fu : Nat) (M : rn_T) (v3 : Int32) (v5 : Int32) (k : (rn_T → Int32 → Option (Bool × rn_T))) (R : (Bool × rn_T)), (∀ (M : rn_T) (w_3 : Int32), k M w_3 = some R → rn_rv X 48 (43, [(0, .ref 318), (3, .int w_3), (4, .int b4)], [], N, sl, rn_hp S M) (some (.int (rn_bi R.1)), N, sl, rn_hp S R.2)) → f48_L16 b4 fu M v3 v5 k = some R → rn_rv X 48 (16, [(0, .ref 318), (3, .int v3), (4, .int b4), (5, .int v5)], [], N, sl, rn_hp S M) (some (.int (rn_bi R.1)), N, sl, rn_hp S R.2) := by
  have qm := rn_m48
  intro fu
  induction fu with
  | zero => intro M v3 v5 k R hk h; cases h
  | succ fu ih =>
    intro M v3 v5 k R hk h
    unfold f48_L16 at h
    refine rn_eg qm 3 (s2 := ((if (8 : Int32) ≤ v5 then 43 else 19), [(0, .ref 318), (3, .int v3), (4, .int b4), (5, .int v5)], [], N, sl, rn_hp S M)) rfl ?_
    refine rn_ite (fun c2 => ?_) (fun c2 => ?_)
    · rw [if_pos c2] at h
      refine rn_kq qm (s2 := (43, [(0, .ref 318), (3, .int v3), (4, .int b4)], [], N, sl, rn_hp S M)) rfl rfl ?_
      exact hk _ _ h
    · rw [if_neg c2] at h
      refine rn_eg qm 2 (s2 := (21, [(6, .int (0 : Int32)), (0, .ref 318), (3, .int v3), (4, .int b4), (5, .int v5)], [], N, sl, rn_hp S M)) rfl ?_
      refine rn_kq qm (s2 := (21, [(0, .ref 318), (3, .int v3), (4, .int b4), (5, .int v5), (6, .int (0 : Int32))], [], N, sl, rn_hp S M)) rfl rfl ?_
      refine E48_L21 rn_FU _ _ _ _ R ?_ h
      intro M6 w6_3 h
      refine rn_eg qm 2 (s2 := (16, [(5, .int (v5 + (1 : Int32))), (0, .ref 318), (3, .int w6_3), (4, .int b4)], [], N, sl, rn_hp S M6)) rfl ?_
      refine rn_kq qm (s2 := (16, [(0, .ref 318), (3, .int w6_3), (4, .int b4), (5, .int (v5 + (1 : Int32)))], [], N, sl, rn_hp S M6)) rfl rfl ?_
      exact ih _ _ _ k R hk h
def f48_L45 (b3 : Int32) : Nat → rn_T → Int32 → Int32 → (rn_T → Int32 → Option (Bool × rn_T)) → Option (Bool × rn_T)
  | 0, _, _, _, _ => none
  | fu + 1, M, v4, v5, k =>
    if (8 : Int32) ≤ v5 then
      k M v4
    else
      if v4 = 0 then
        f48_L45 b3 fu M (0 : Int32) (v5 + (1 : Int32)) k
      else
        if ((b3 >>> (v5 &&& 31)) &&& (1 : Int32)) = 0 then
          f48_L45 b3 fu M (1 : Int32) (v5 + (1 : Int32)) k
        else
          Option.bind (f43 M v5) fun p11 =>
            if 0 ≤ p11.1 then
              f48_L45 b3 fu p11.2 (0 : Int32) (v5 + (1 : Int32)) k
            else
              f48_L45 b3 fu p11.2 (1 : Int32) (v5 + (1 : Int32)) k
set_option maxHeartbeats 4000000 in
theorem E48_L45 {X : rn_X} {N sl : Nat} {S : rn_T} {b3 : Int32} : ∀ (fu : Nat) (M : rn_T) (v4 : Int32) (v5 : Int32) (k : (rn_T → Int32 → Option (Bool × rn_T))) (R : (Bool × rn_T)), (∀ (M : rn_T) (w_4 : Int32), k M w_4 = some R → rn_rv X 48 (66, [(4, .int w_4)], [], N, sl, rn_hp S M) (some (.int (rn_bi R.1)), N, sl, rn_hp S R.2)) → f48_L45 b3 fu M v4 v5 k = some R → rn_rv X 48 (45, [(0, .ref 318), (3, .int b3), (4, .int v4), (5, .int v5)], [], N, sl, rn_hp S M) (some (.int (rn_bi R.1)), N, sl, rn_hp S R.2) := by
  have qm := rn_m48
  intro fu
  induction fu with
  | zero => intro M v4 v5 k R hk h; cases h
  | succ fu ih =>
    intro M v4 v5 k R hk h
    unfold f48_L45 at h
    refine rn_eg qm 3 (s2 := ((if (8 : Int32) ≤ v5 then 66 else 48), [(0, .ref 318), (3, .int b3), (4, .int v4), (5, .int v5)], [], N, sl, rn_hp S M)) rfl ?_
    refine rn_ite (fun c8 => ?_) (fun c8 => ?_)
    · rw [if_pos c8] at h
      refine rn_kq qm (s2 := (66, [(4, .int v4)], [], N, sl, rn_hp S M)) rfl rfl ?_
      exact hk _ _ h
    · rw [if_neg c8] at h
      refine rn_eg qm 2 (s2 := ((if v4 = 0 then 62 else 50), [(0, .ref 318), (3, .int b3), (4, .int v4), (5, .int v5)], [], N, sl, rn_hp S M)) rfl ?_
      refine rn_ite (fun c9 => ?_) (fun c9 => ?_)
      · rw [if_pos c9] at h
        refine rn_eg qm 4 (s2 := (45, [(5, .int (v5 + (1 : Int32))), (4, .int (0 : Int32)), (0, .ref 318), (3, .int b3)], [], N, sl, rn_hp S M)) rfl ?_
        refine rn_kq qm (s2 := (45, [(0, .ref 318), (3, .int b3), (4, .int (0 : Int32)), (5, .int (v5 + (1 : Int32)))], [], N, sl, rn_hp S M)) rfl rfl ?_
        exact ih _ _ _ k R hk h
      · rw [if_neg c9] at h
        refine rn_eg qm 6 (s2 := ((if ((b3 >>> (v5 &&& 31)) &&& (1 : Int32)) = 0 then 60 else 56), [(0, .ref 318), (3, .int b3), (4, .int v4), (5, .int v5)], [], N, sl, rn_hp S M)) rfl ?_
        refine rn_ite (fun c10 => ?_) (fun c10 => ?_)
        · rw [if_pos c10] at h
          refine rn_eg qm 5 (s2 := (45, [(5, .int (v5 + (1 : Int32))), (4, .int (1 : Int32)), (0, .ref 318), (3, .int b3)], [], N, sl, rn_hp S M)) rfl ?_
          refine rn_kq qm (s2 := (45, [(0, .ref 318), (3, .int b3), (4, .int (1 : Int32)), (5, .int (v5 + (1 : Int32)))], [], N, sl, rn_hp S M)) rfl rfl ?_
          exact ih _ _ _ k R hk h
        · rw [if_neg c10] at h
          refine rn_eg qm 2 (s2 := (58, [(0, .ref 318), (3, .int b3), (4, .int v4), (5, .int v5)], [.int v5, .ref 318], N, sl, rn_hp S M)) rfl ?_
          obtain ⟨p11, hp11, h⟩ := Option.bind_eq_some_iff.mp h
          refine rn_ec qm rfl rfl rfl rfl rn_m43 rfl rfl rfl (fun _ => rn_rc_of (en_9 (q := 318) rfl)) (E43 hp11) ?_
          refine rn_eg qm 0 (s2 := (59, [(0, .ref 318), (3, .int b3), (4, .int v4), (5, .int v5)], [.int p11.1], N, sl, rn_hp S p11.2)) rfl ?_
          refine rn_eg qm 1 (s2 := ((if 0 ≤ p11.1 then 62 else 60), [(0, .ref 318), (3, .int b3), (4, .int v4), (5, .int v5)], [], N, sl, rn_hp S p11.2)) rfl ?_
          refine rn_ite (fun c12 => ?_) (fun c12 => ?_)
          · rw [if_pos c12] at h
            refine rn_eg qm 4 (s2 := (45, [(5, .int (v5 + (1 : Int32))), (4, .int (0 : Int32)), (0, .ref 318), (3, .int b3)], [], N, sl, rn_hp S p11.2)) rfl ?_
            refine rn_kq qm (s2 := (45, [(0, .ref 318), (3, .int b3), (4, .int (0 : Int32)), (5, .int (v5 + (1 : Int32)))], [], N, sl, rn_hp S p11.2)) rfl rfl ?_
            exact ih _ _ _ k R hk h
          · rw [if_neg c12] at h
            refine rn_eg qm 5 (s2 := (45, [(5, .int (v5 + (1 : Int32))), (4, .int (1 : Int32)), (0, .ref 318), (3, .int b3)], [], N, sl, rn_hp S p11.2)) rfl ?_
            refine rn_kq qm (s2 := (45, [(0, .ref 318), (3, .int b3), (4, .int (1 : Int32)), (5, .int (v5 + (1 : Int32)))], [], N, sl, rn_hp S p11.2)) rfl rfl ?_
            exact ih _ _ _ k R hk h
def f48_J10 (M : rn_T) (t0 : Int32) (t1 : Int32) : Option (Bool × rn_T) :=
  f48_L16 (1 : Int32) rn_FU M (t0 ||| t1) (0 : Int32) (fun M7 w7_3 =>
    f48_L45 w7_3 rn_FU M7 (1 : Int32) (0 : Int32) (fun M13 w13_4 =>
      if w13_4 = 0 ∨ w13_4 = 1 then some ((decide (w13_4 = 1)), M13) else none))
set_option maxHeartbeats 4000000 in
theorem E48_J10 {X : rn_X} {N sl : Nat} {S : rn_T} {M : rn_T} {t0 : Int32} {t1 : Int32} {R : (Bool × rn_T)} (h : f48_J10 M t0 t1 = some R) : rn_rv X 48 (10, [(0, .ref 318)], [.int t1, .int t0], N, sl, rn_hp S M) (some (.int (rn_bi R.1)), N, sl, rn_hp S R.2) := by
  have qm := rn_m48
  unfold f48_J10 at h
  refine rn_eg qm 6 (s2 := (16, [(5, .int (0 : Int32)), (4, .int (1 : Int32)), (3, .int (t0 ||| t1)), (0, .ref 318)], [], N, sl, rn_hp S M)) rfl ?_
  refine rn_kq qm (s2 := (16, [(0, .ref 318), (3, .int (t0 ||| t1)), (4, .int (1 : Int32)), (5, .int (0 : Int32))], [], N, sl, rn_hp S M)) rfl rfl ?_
  refine E48_L16 rn_FU _ _ _ _ R ?_ h
  intro M7 w7_3 h
  refine rn_eg qm 2 (s2 := (45, [(5, .int (0 : Int32)), (0, .ref 318), (3, .int w7_3), (4, .int (1 : Int32))], [], N, sl, rn_hp S M7)) rfl ?_
  refine rn_kq qm (s2 := (45, [(0, .ref 318), (3, .int w7_3), (4, .int (1 : Int32)), (5, .int (0 : Int32))], [], N, sl, rn_hp S M7)) rfl rfl ?_
  refine E48_L45 rn_FU _ _ _ _ R ?_ h
  intro M13 w13_4 h
  refine rn_eg qm 1 (s2 := (67, [(4, .int w13_4)], [.int w13_4], N, sl, rn_hp S M13)) rfl ?_
  have z14 : w13_4 = 0 ∨ w13_4 = 1 := Decidable.byContradiction fun c => by rw [if_neg c] at h; cases h
  rw [if_pos z14] at h
  cases h
  rw [rn_bi_dec z14]
  exact rn_er qm rfl rfl (rn_rtz z14)
def f48 (M : rn_T) (a1 : Int32) (a2 : Int32) : Option (Bool × rn_T) :=
  if 0 ≤ a2 then
    f48_J10 M ((1 : Int32) <<< (a1 &&& 31)) ((1 : Int32) <<< (a2 &&& 31))
  else
    f48_J10 M ((1 : Int32) <<< (a1 &&& 31)) (0 : Int32)
set_option maxHeartbeats 4000000 in
theorem E48 {X : rn_X} {N sl : Nat} {S M : rn_T} {a1 : Int32} {a2 : Int32} {R : (Bool × rn_T)} (h : f48 M a1 a2 = some R) : rn_rv X 48 (0, [(0, .ref 318), (1, .int a1), (2, .int a2)], [], N, sl, rn_hp S M) (some (.int (rn_bi R.1)), N, sl, rn_hp S R.2) := by
  have qm := rn_m48
  unfold f48 at h
  refine rn_eg qm 5 (s2 := ((if 0 ≤ a2 then 7 else 5), [(0, .ref 318), (1, .int a1), (2, .int a2)], [.int ((1 : Int32) <<< (a1 &&& 31))], N, sl, rn_hp S M)) rfl ?_
  refine rn_ite (fun c1 => ?_) (fun c1 => ?_)
  · rw [if_pos c1] at h
    refine rn_eg qm 3 (s2 := (10, [(0, .ref 318), (1, .int a1), (2, .int a2)], [.int ((1 : Int32) <<< (a2 &&& 31)), .int ((1 : Int32) <<< (a1 &&& 31))], N, sl, rn_hp S M)) rfl ?_
    refine rn_kq qm (s2 := (10, [(0, .ref 318)], [.int ((1 : Int32) <<< (a2 &&& 31)), .int ((1 : Int32) <<< (a1 &&& 31))], N, sl, rn_hp S M)) rfl rfl ?_
    exact E48_J10 h
  · rw [if_neg c1] at h
    refine rn_eg qm 2 (s2 := (10, [(0, .ref 318), (1, .int a1), (2, .int a2)], [.int (0 : Int32), .int ((1 : Int32) <<< (a1 &&& 31))], N, sl, rn_hp S M)) rfl ?_
    refine rn_kq qm (s2 := (10, [(0, .ref 318)], [.int (0 : Int32), .int ((1 : Int32) <<< (a1 &&& 31))], N, sl, rn_hp S M)) rfl rfl ?_
    exact E48_J10 h
/-! 49: RecordNichesModel.endOf(II)I -/
def f49_J65_6 (M : rn_T) (u1 : Int32) (u3 : Int32) (u5 : Int32) (u6 : Int32) (t0 : Int32) (rc : (rn_T → Int32 → Int32 → Int32 → Option Int32)) (k : (rn_T → Int32 → Option Int32)) : Option Int32 :=
  if u6 = (101 : Int32) then
    rc M (u3 + (2 : Int32)) (t0 - (0 : Int32)) u5
  else
    rc M (u3 + (1 : Int32)) (t0 - (0 : Int32)) u5
set_option maxHeartbeats 4000000 in
theorem E49_J65_6 {X : rn_X} {N sl : Nat} {S : rn_T} {M : rn_T} {u1 : Int32} {u3 : Int32} {u5 : Int32} {u6 : Int32} {t0 : Int32} {R : (Int32)} {rc : (rn_T → Int32 → Int32 → Int32 → Option Int32)} (hrc : ∀ (M : rn_T) (v3 : Int32) (v4 : Int32) (v5 : Int32), rc M v3 v4 v5 = some R → rn_rv X 49 (6, [(0, .ref 318), (1, .int u1), (3, .int v3), (4, .int v4), (5, .int v5)], [], N, sl, rn_hp S M) (some (.int R), N, sl, rn_hp S M)) {k : (rn_T → Int32 → Option Int32)} (hk : ∀ (M : rn_T) (w_3 : Int32), k M w_3 = some R → rn_rv X 49 (78, [(3, .int w_3)], [], N, sl, rn_hp S M) (some (.int R), N, sl, rn_hp S M)) (h : f49_J65_6 M u1 u3 u5 u6 t0 rc k = some R) : rn_rv X 49 (65, [(0, .ref 318), (1, .int u1), (3, .int u3), (5, .int u5), (6, .int u6)], [.int t0], N, sl, rn_hp S M) (some (.int R), N, sl, rn_hp S M) := by
  have qm := rn_m49
  unfold f49_J65_6 at h
  refine rn_eg qm 7 (s2 := ((if u6 = (101 : Int32) then 72 else 74), [(4, .int (t0 - (0 : Int32))), (0, .ref 318), (1, .int u1), (3, .int u3), (5, .int u5), (6, .int u6)], [.int u3], N, sl, rn_hp S M)) rfl ?_
  refine rn_ite (fun c12 => ?_) (fun c12 => ?_)
  · rw [if_pos c12] at h
    refine rn_eg qm 5 (s2 := (6, [(3, .int (u3 + (2 : Int32))), (0, .ref 318), (1, .int u1), (4, .int (t0 - (0 : Int32))), (5, .int u5)], [], N, sl, rn_hp S M)) rfl ?_
    refine rn_kq qm (s2 := (6, [(0, .ref 318), (1, .int u1), (3, .int (u3 + (2 : Int32))), (4, .int (t0 - (0 : Int32))), (5, .int u5)], [], N, sl, rn_hp S M)) rfl rfl ?_
    exact hrc _ _ _ _ h
  · rw [if_neg c12] at h
    refine rn_eg qm 4 (s2 := (6, [(3, .int (u3 + (1 : Int32))), (0, .ref 318), (1, .int u1), (4, .int (t0 - (0 : Int32))), (5, .int u5)], [], N, sl, rn_hp S M)) rfl ?_
    refine rn_kq qm (s2 := (6, [(0, .ref 318), (1, .int u1), (3, .int (u3 + (1 : Int32))), (4, .int (t0 - (0 : Int32))), (5, .int u5)], [], N, sl, rn_hp S M)) rfl rfl ?_
    exact hrc _ _ _ _ h
def f49_J57_6 (M : rn_T) (u1 : Int32) (u3 : Int32) (u4 : Int32) (u5 : Int32) (u6 : Int32) (t0 : Int32) (rc : (rn_T → Int32 → Int32 → Int32 → Option Int32)) (k : (rn_T → Int32 → Option Int32)) : Option Int32 :=
  if u5 = 0 then
    if t0 = 0 then
      if u6 = (101 : Int32) then
        rc M (u3 + (2 : Int32)) (u4 - (1 : Int32)) u5
      else
        rc M (u3 + (1 : Int32)) (u4 - (1 : Int32)) u5
    else
      f49_J65_6 M u1 u3 u5 u6 u4 rc k
  else
    f49_J65_6 M u1 u3 u5 u6 u4 rc k
set_option maxHeartbeats 4000000 in
theorem E49_J57_6 {X : rn_X} {N sl : Nat} {S : rn_T} {M : rn_T} {u1 : Int32} {u3 : Int32} {u4 : Int32} {u5 : Int32} {u6 : Int32} {t0 : Int32} {R : (Int32)} {rc : (rn_T → Int32 → Int32 → Int32 → Option Int32)} (hrc : ∀ (M : rn_T) (v3 : Int32) (v4 : Int32) (v5 : Int32), rc M v3 v4 v5 = some R → rn_rv X 49 (6, [(0, .ref 318), (1, .int u1), (3, .int v3), (4, .int v4), (5, .int v5)], [], N, sl, rn_hp S M) (some (.int R), N, sl, rn_hp S M)) {k : (rn_T → Int32 → Option Int32)} (hk : ∀ (M : rn_T) (w_3 : Int32), k M w_3 = some R → rn_rv X 49 (78, [(3, .int w_3)], [], N, sl, rn_hp S M) (some (.int R), N, sl, rn_hp S M)) (h : f49_J57_6 M u1 u3 u4 u5 u6 t0 rc k = some R) : rn_rv X 49 (57, [(0, .ref 318), (1, .int u1), (3, .int u3), (4, .int u4), (5, .int u5), (6, .int u6)], [.int t0], N, sl, rn_hp S M) (some (.int R), N, sl, rn_hp S M) := by
  have qm := rn_m49
  unfold f49_J57_6 at h
  refine rn_eg qm 4 (s2 := ((if u5 = 0 then 61 else 65), [(9, .int t0), (0, .ref 318), (1, .int u1), (3, .int u3), (4, .int u4), (5, .int u5), (6, .int u6)], [.int u4], N, sl, rn_hp S M)) rfl ?_
  refine rn_ite (fun c9 => ?_) (fun c9 => ?_)
  · rw [if_pos c9] at h
    refine rn_eg qm 2 (s2 := ((if t0 = 0 then 63 else 65), [(9, .int t0), (0, .ref 318), (1, .int u1), (3, .int u3), (4, .int u4), (5, .int u5), (6, .int u6)], [.int u4], N, sl, rn_hp S M)) rfl ?_
    refine rn_ite (fun c10 => ?_) (fun c10 => ?_)
    · rw [if_pos c10] at h
      refine rn_eg qm 8 (s2 := ((if u6 = (101 : Int32) then 72 else 74), [(4, .int (u4 - (1 : Int32))), (0, .ref 318), (1, .int u1), (3, .int u3), (5, .int u5), (6, .int u6)], [.int u3], N, sl, rn_hp S M)) rfl ?_
      refine rn_ite (fun c11 => ?_) (fun c11 => ?_)
      · rw [if_pos c11] at h
        refine rn_eg qm 5 (s2 := (6, [(3, .int (u3 + (2 : Int32))), (0, .ref 318), (1, .int u1), (4, .int (u4 - (1 : Int32))), (5, .int u5)], [], N, sl, rn_hp S M)) rfl ?_
        refine rn_kq qm (s2 := (6, [(0, .ref 318), (1, .int u1), (3, .int (u3 + (2 : Int32))), (4, .int (u4 - (1 : Int32))), (5, .int u5)], [], N, sl, rn_hp S M)) rfl rfl ?_
        exact hrc _ _ _ _ h
      · rw [if_neg c11] at h
        refine rn_eg qm 4 (s2 := (6, [(3, .int (u3 + (1 : Int32))), (0, .ref 318), (1, .int u1), (4, .int (u4 - (1 : Int32))), (5, .int u5)], [], N, sl, rn_hp S M)) rfl ?_
        refine rn_kq qm (s2 := (6, [(0, .ref 318), (1, .int u1), (3, .int (u3 + (1 : Int32))), (4, .int (u4 - (1 : Int32))), (5, .int u5)], [], N, sl, rn_hp S M)) rfl rfl ?_
        exact hrc _ _ _ _ h
    · rw [if_neg c10] at h
      refine rn_kq qm (s2 := (65, [(0, .ref 318), (1, .int u1), (3, .int u3), (5, .int u5), (6, .int u6)], [.int u4], N, sl, rn_hp S M)) rfl rfl ?_
      exact E49_J65_6 hrc hk h
  · rw [if_neg c9] at h
    refine rn_kq qm (s2 := (65, [(0, .ref 318), (1, .int u1), (3, .int u3), (5, .int u5), (6, .int u6)], [.int u4], N, sl, rn_hp S M)) rfl rfl ?_
    exact E49_J65_6 hrc hk h
def f49_J56_6 (M : rn_T) (u1 : Int32) (u3 : Int32) (u4 : Int32) (u5 : Int32) (u6 : Int32) (rc : (rn_T → Int32 → Int32 → Int32 → Option Int32)) (k : (rn_T → Int32 → Option Int32)) : Option Int32 :=
  f49_J57_6 M u1 u3 u4 u5 u6 (0 : Int32) rc k
set_option maxHeartbeats 4000000 in
theorem E49_J56_6 {X : rn_X} {N sl : Nat} {S : rn_T} {M : rn_T} {u1 : Int32} {u3 : Int32} {u4 : Int32} {u5 : Int32} {u6 : Int32} {R : (Int32)} {rc : (rn_T → Int32 → Int32 → Int32 → Option Int32)} (hrc : ∀ (M : rn_T) (v3 : Int32) (v4 : Int32) (v5 : Int32), rc M v3 v4 v5 = some R → rn_rv X 49 (6, [(0, .ref 318), (1, .int u1), (3, .int v3), (4, .int v4), (5, .int v5)], [], N, sl, rn_hp S M) (some (.int R), N, sl, rn_hp S M)) {k : (rn_T → Int32 → Option Int32)} (hk : ∀ (M : rn_T) (w_3 : Int32), k M w_3 = some R → rn_rv X 49 (78, [(3, .int w_3)], [], N, sl, rn_hp S M) (some (.int R), N, sl, rn_hp S M)) (h : f49_J56_6 M u1 u3 u4 u5 u6 rc k = some R) : rn_rv X 49 (56, [(0, .ref 318), (1, .int u1), (3, .int u3), (4, .int u4), (5, .int u5), (6, .int u6)], [], N, sl, rn_hp S M) (some (.int R), N, sl, rn_hp S M) := by
  have qm := rn_m49
  unfold f49_J56_6 at h
  refine rn_eg qm 1 (s2 := (57, [(0, .ref 318), (1, .int u1), (3, .int u3), (4, .int u4), (5, .int u5), (6, .int u6)], [.int (0 : Int32)], N, sl, rn_hp S M)) rfl ?_
  refine rn_kq qm (s2 := (57, [(0, .ref 318), (1, .int u1), (3, .int u3), (4, .int u4), (5, .int u5), (6, .int u6)], [.int (0 : Int32)], N, sl, rn_hp S M)) rfl rfl ?_
  exact E49_J57_6 hrc hk h
def f49_J43_6 (M : rn_T) (u1 : Int32) (u3 : Int32) (u4 : Int32) (u6 : Int32) (t0 : Int32) (t1 : Int32) (rc : (rn_T → Int32 → Int32 → Int32 → Option Int32)) (k : (rn_T → Int32 → Option Int32)) : Option Int32 :=
  if (f37 M u6) = true then
    Option.bind (f36 M (u6 - (65 : Int32))) fun p13 =>
      if p13 = true then
        f49_J57_6 M u1 u3 u4 (t0 + t1) u6 (1 : Int32) rc k
      else
        f49_J56_6 M u1 u3 u4 (t0 + t1) u6 rc k
  else
    f49_J56_6 M u1 u3 u4 (t0 + t1) u6 rc k
set_option maxHeartbeats 4000000 in
theorem E49_J43_6 {X : rn_X} {N sl : Nat} {S : rn_T} {M : rn_T} {u1 : Int32} {u3 : Int32} {u4 : Int32} {u6 : Int32} {t0 : Int32} {t1 : Int32} {R : (Int32)} {rc : (rn_T → Int32 → Int32 → Int32 → Option Int32)} (hrc : ∀ (M : rn_T) (v3 : Int32) (v4 : Int32) (v5 : Int32), rc M v3 v4 v5 = some R → rn_rv X 49 (6, [(0, .ref 318), (1, .int u1), (3, .int v3), (4, .int v4), (5, .int v5)], [], N, sl, rn_hp S M) (some (.int R), N, sl, rn_hp S M)) {k : (rn_T → Int32 → Option Int32)} (hk : ∀ (M : rn_T) (w_3 : Int32), k M w_3 = some R → rn_rv X 49 (78, [(3, .int w_3)], [], N, sl, rn_hp S M) (some (.int R), N, sl, rn_hp S M)) (h : f49_J43_6 M u1 u3 u4 u6 t0 t1 rc k = some R) : rn_rv X 49 (43, [(0, .ref 318), (1, .int u1), (3, .int u3), (4, .int u4), (6, .int u6)], [.int t1, .int t0], N, sl, rn_hp S M) (some (.int R), N, sl, rn_hp S M) := by
  have qm := rn_m49
  unfold f49_J43_6 at h
  refine rn_eg qm 3 (s2 := (46, [(5, .int (t0 + t1)), (0, .ref 318), (1, .int u1), (3, .int u3), (4, .int u4), (6, .int u6)], [.int u6], N, sl, rn_hp S M)) rfl ?_
  refine rn_ec qm rfl rfl rfl rfl rn_m37 rfl rfl rfl (fun h => by cases h) (E37 rfl) ?_
  refine rn_eg qm 0 (s2 := (47, [(5, .int (t0 + t1)), (0, .ref 318), (1, .int u1), (3, .int u3), (4, .int u4), (6, .int u6)], [.int (rn_bi (f37 M u6))], N, sl, rn_hp S M)) rfl ?_
  refine rn_eg qm 1 (s2 := ((if (rn_bi (f37 M u6)) = 0 then 56 else 48), [(5, .int (t0 + t1)), (0, .ref 318), (1, .int u1), (3, .int u3), (4, .int u4), (6, .int u6)], [], N, sl, rn_hp S M)) rfl ?_
  refine rn_iteb (fun c8 => ?_) (fun c8 => ?_)
  · rw [if_neg (rn_bf c8)] at h
    refine rn_kq qm (s2 := (56, [(0, .ref 318), (1, .int u1), (3, .int u3), (4, .int u4), (5, .int (t0 + t1)), (6, .int u6)], [], N, sl, rn_hp S M)) rfl rfl ?_
    exact E49_J56_6 hrc hk h
  · rw [if_pos c8] at h
    refine rn_eg qm 4 (s2 := (52, [(5, .int (t0 + t1)), (0, .ref 318), (1, .int u1), (3, .int u3), (4, .int u4), (6, .int u6)], [.int (u6 - (65 : Int32)), .ref 318], N, sl, rn_hp S M)) rfl ?_
    obtain ⟨p13, hp13, h⟩ := Option.bind_eq_some_iff.mp h
    refine rn_ec qm rfl rfl rfl rfl rn_m36 rfl rfl rfl (fun _ => rn_rc_of (en_9 (q := 318) rfl)) (E36 hp13) ?_
    refine rn_eg qm 0 (s2 := (53, [(5, .int (t0 + t1)), (0, .ref 318), (1, .int u1), (3, .int u3), (4, .int u4), (6, .int u6)], [.int (rn_bi p13)], N, sl, rn_hp S M)) rfl ?_
    refine rn_eg qm 1 (s2 := ((if (rn_bi p13) = 0 then 56 else 54), [(5, .int (t0 + t1)), (0, .ref 318), (1, .int u1), (3, .int u3), (4, .int u4), (6, .int u6)], [], N, sl, rn_hp S M)) rfl ?_
    refine rn_iteb (fun c14 => ?_) (fun c14 => ?_)
    · rw [if_neg (rn_bf c14)] at h
      refine rn_kq qm (s2 := (56, [(0, .ref 318), (1, .int u1), (3, .int u3), (4, .int u4), (5, .int (t0 + t1)), (6, .int u6)], [], N, sl, rn_hp S M)) rfl rfl ?_
      exact E49_J56_6 hrc hk h
    · rw [if_pos c14] at h
      refine rn_eg qm 2 (s2 := (57, [(5, .int (t0 + t1)), (0, .ref 318), (1, .int u1), (3, .int u3), (4, .int u4), (6, .int u6)], [.int (1 : Int32)], N, sl, rn_hp S M)) rfl ?_
      refine rn_kq qm (s2 := (57, [(0, .ref 318), (1, .int u1), (3, .int u3), (4, .int u4), (5, .int (t0 + t1)), (6, .int u6)], [.int (1 : Int32)], N, sl, rn_hp S M)) rfl rfl ?_
      exact E49_J57_6 hrc hk h
def f49_J32_6 (M : rn_T) (u1 : Int32) (u3 : Int32) (u4 : Int32) (u5 : Int32) (u6 : Int32) (u7 : Int32) (t0 : Int32) (rc : (rn_T → Int32 → Int32 → Int32 → Option Int32)) (k : (rn_T → Int32 → Option Int32)) : Option Int32 :=
  if u7 = 0 then
    if t0 = 0 then
      f49_J43_6 M u1 u3 u4 u6 u5 (0 : Int32) rc k
    else
      f49_J43_6 M u1 u3 u4 u6 u5 (-1 : Int32) rc k
  else
    f49_J43_6 M u1 u3 u4 u6 u5 (1 : Int32) rc k
set_option maxHeartbeats 4000000 in
theorem E49_J32_6 {X : rn_X} {N sl : Nat} {S : rn_T} {M : rn_T} {u1 : Int32} {u3 : Int32} {u4 : Int32} {u5 : Int32} {u6 : Int32} {u7 : Int32} {t0 : Int32} {R : (Int32)} {rc : (rn_T → Int32 → Int32 → Int32 → Option Int32)} (hrc : ∀ (M : rn_T) (v3 : Int32) (v4 : Int32) (v5 : Int32), rc M v3 v4 v5 = some R → rn_rv X 49 (6, [(0, .ref 318), (1, .int u1), (3, .int v3), (4, .int v4), (5, .int v5)], [], N, sl, rn_hp S M) (some (.int R), N, sl, rn_hp S M)) {k : (rn_T → Int32 → Option Int32)} (hk : ∀ (M : rn_T) (w_3 : Int32), k M w_3 = some R → rn_rv X 49 (78, [(3, .int w_3)], [], N, sl, rn_hp S M) (some (.int R), N, sl, rn_hp S M)) (h : f49_J32_6 M u1 u3 u4 u5 u6 u7 t0 rc k = some R) : rn_rv X 49 (32, [(0, .ref 318), (1, .int u1), (3, .int u3), (4, .int u4), (5, .int u5), (6, .int u6), (7, .int u7)], [.int t0], N, sl, rn_hp S M) (some (.int R), N, sl, rn_hp S M) := by
  have qm := rn_m49
  unfold f49_J32_6 at h
  refine rn_eg qm 4 (s2 := ((if u7 = 0 then 38 else 36), [(8, .int t0), (0, .ref 318), (1, .int u1), (3, .int u3), (4, .int u4), (5, .int u5), (6, .int u6), (7, .int u7)], [.int u5], N, sl, rn_hp S M)) rfl ?_
  refine rn_ite (fun c5 => ?_) (fun c5 => ?_)
  · rw [if_pos c5] at h
    refine rn_eg qm 2 (s2 := ((if t0 = 0 then 42 else 40), [(8, .int t0), (0, .ref 318), (1, .int u1), (3, .int u3), (4, .int u4), (5, .int u5), (6, .int u6), (7, .int u7)], [.int u5], N, sl, rn_hp S M)) rfl ?_
    refine rn_ite (fun c6 => ?_) (fun c6 => ?_)
    · rw [if_pos c6] at h
      refine rn_eg qm 1 (s2 := (43, [(8, .int t0), (0, .ref 318), (1, .int u1), (3, .int u3), (4, .int u4), (5, .int u5), (6, .int u6), (7, .int u7)], [.int (0 : Int32), .int u5], N, sl, rn_hp S M)) rfl ?_
      refine rn_kq qm (s2 := (43, [(0, .ref 318), (1, .int u1), (3, .int u3), (4, .int u4), (6, .int u6)], [.int (0 : Int32), .int u5], N, sl, rn_hp S M)) rfl rfl ?_
      exact E49_J43_6 hrc hk h
    · rw [if_neg c6] at h
      refine rn_eg qm 2 (s2 := (43, [(8, .int t0), (0, .ref 318), (1, .int u1), (3, .int u3), (4, .int u4), (5, .int u5), (6, .int u6), (7, .int u7)], [.int (-1 : Int32), .int u5], N, sl, rn_hp S M)) rfl ?_
      refine rn_kq qm (s2 := (43, [(0, .ref 318), (1, .int u1), (3, .int u3), (4, .int u4), (6, .int u6)], [.int (-1 : Int32), .int u5], N, sl, rn_hp S M)) rfl rfl ?_
      exact E49_J43_6 hrc hk h
  · rw [if_neg c5] at h
    refine rn_eg qm 2 (s2 := (43, [(8, .int t0), (0, .ref 318), (1, .int u1), (3, .int u3), (4, .int u4), (5, .int u5), (6, .int u6), (7, .int u7)], [.int (1 : Int32), .int u5], N, sl, rn_hp S M)) rfl ?_
    refine rn_kq qm (s2 := (43, [(0, .ref 318), (1, .int u1), (3, .int u3), (4, .int u4), (6, .int u6)], [.int (1 : Int32), .int u5], N, sl, rn_hp S M)) rfl rfl ?_
    exact E49_J43_6 hrc hk h
def f49_J29_6 (M : rn_T) (u1 : Int32) (u3 : Int32) (u4 : Int32) (u5 : Int32) (u6 : Int32) (u7 : Int32) (rc : (rn_T → Int32 → Int32 → Int32 → Option Int32)) (k : (rn_T → Int32 → Option Int32)) : Option Int32 :=
  f49_J32_6 M u1 u3 u4 u5 u6 u7 (1 : Int32) rc k
set_option maxHeartbeats 4000000 in
theorem E49_J29_6 {X : rn_X} {N sl : Nat} {S : rn_T} {M : rn_T} {u1 : Int32} {u3 : Int32} {u4 : Int32} {u5 : Int32} {u6 : Int32} {u7 : Int32} {R : (Int32)} {rc : (rn_T → Int32 → Int32 → Int32 → Option Int32)} (hrc : ∀ (M : rn_T) (v3 : Int32) (v4 : Int32) (v5 : Int32), rc M v3 v4 v5 = some R → rn_rv X 49 (6, [(0, .ref 318), (1, .int u1), (3, .int v3), (4, .int v4), (5, .int v5)], [], N, sl, rn_hp S M) (some (.int R), N, sl, rn_hp S M)) {k : (rn_T → Int32 → Option Int32)} (hk : ∀ (M : rn_T) (w_3 : Int32), k M w_3 = some R → rn_rv X 49 (78, [(3, .int w_3)], [], N, sl, rn_hp S M) (some (.int R), N, sl, rn_hp S M)) (h : f49_J29_6 M u1 u3 u4 u5 u6 u7 rc k = some R) : rn_rv X 49 (29, [(0, .ref 318), (1, .int u1), (3, .int u3), (4, .int u4), (5, .int u5), (6, .int u6), (7, .int u7)], [], N, sl, rn_hp S M) (some (.int R), N, sl, rn_hp S M) := by
  have qm := rn_m49
  unfold f49_J29_6 at h
  refine rn_eg qm 2 (s2 := (32, [(0, .ref 318), (1, .int u1), (3, .int u3), (4, .int u4), (5, .int u5), (6, .int u6), (7, .int u7)], [.int (1 : Int32)], N, sl, rn_hp S M)) rfl ?_
  refine rn_kq qm (s2 := (32, [(0, .ref 318), (1, .int u1), (3, .int u3), (4, .int u4), (5, .int u5), (6, .int u6), (7, .int u7)], [.int (1 : Int32)], N, sl, rn_hp S M)) rfl rfl ?_
  exact E49_J32_6 hrc hk h
def f49_J22_6 (M : rn_T) (u1 : Int32) (u3 : Int32) (u4 : Int32) (u5 : Int32) (u6 : Int32) (t0 : Int32) (rc : (rn_T → Int32 → Int32 → Int32 → Option Int32)) (k : (rn_T → Int32 → Option Int32)) : Option Int32 :=
  if u6 = (41 : Int32) then
    f49_J29_6 M u1 u3 u4 u5 u6 t0 rc k
  else
    if u6 = (93 : Int32) then
      f49_J29_6 M u1 u3 u4 u5 u6 t0 rc k
    else
      f49_J32_6 M u1 u3 u4 u5 u6 t0 (0 : Int32) rc k
set_option maxHeartbeats 4000000 in
theorem E49_J22_6 {X : rn_X} {N sl : Nat} {S : rn_T} {M : rn_T} {u1 : Int32} {u3 : Int32} {u4 : Int32} {u5 : Int32} {u6 : Int32} {t0 : Int32} {R : (Int32)} {rc : (rn_T → Int32 → Int32 → Int32 → Option Int32)} (hrc : ∀ (M : rn_T) (v3 : Int32) (v4 : Int32) (v5 : Int32), rc M v3 v4 v5 = some R → rn_rv X 49 (6, [(0, .ref 318), (1, .int u1), (3, .int v3), (4, .int v4), (5, .int v5)], [], N, sl, rn_hp S M) (some (.int R), N, sl, rn_hp S M)) {k : (rn_T → Int32 → Option Int32)} (hk : ∀ (M : rn_T) (w_3 : Int32), k M w_3 = some R → rn_rv X 49 (78, [(3, .int w_3)], [], N, sl, rn_hp S M) (some (.int R), N, sl, rn_hp S M)) (h : f49_J22_6 M u1 u3 u4 u5 u6 t0 rc k = some R) : rn_rv X 49 (22, [(0, .ref 318), (1, .int u1), (3, .int u3), (4, .int u4), (5, .int u5), (6, .int u6)], [.int t0], N, sl, rn_hp S M) (some (.int R), N, sl, rn_hp S M) := by
  have qm := rn_m49
  unfold f49_J22_6 at h
  refine rn_eg qm 4 (s2 := ((if u6 = (41 : Int32) then 29 else 26), [(7, .int t0), (0, .ref 318), (1, .int u1), (3, .int u3), (4, .int u4), (5, .int u5), (6, .int u6)], [], N, sl, rn_hp S M)) rfl ?_
  refine rn_ite (fun c4 => ?_) (fun c4 => ?_)
  · rw [if_pos c4] at h
    refine rn_kq qm (s2 := (29, [(0, .ref 318), (1, .int u1), (3, .int u3), (4, .int u4), (5, .int u5), (6, .int u6), (7, .int t0)], [], N, sl, rn_hp S M)) rfl rfl ?_
    exact E49_J29_6 hrc hk h
  · rw [if_neg c4] at h
    refine rn_eg qm 3 (s2 := ((if u6 = (93 : Int32) then 29 else 31), [(7, .int t0), (0, .ref 318), (1, .int u1), (3, .int u3), (4, .int u4), (5, .int u5), (6, .int u6)], [], N, sl, rn_hp S M)) rfl ?_
    refine rn_ite (fun c15 => ?_) (fun c15 => ?_)
    · rw [if_pos c15] at h
      refine rn_kq qm (s2 := (29, [(0, .ref 318), (1, .int u1), (3, .int u3), (4, .int u4), (5, .int u5), (6, .int u6), (7, .int t0)], [], N, sl, rn_hp S M)) rfl rfl ?_
      exact E49_J29_6 hrc hk h
    · rw [if_neg c15] at h
      refine rn_eg qm 1 (s2 := (32, [(7, .int t0), (0, .ref 318), (1, .int u1), (3, .int u3), (4, .int u4), (5, .int u5), (6, .int u6)], [.int (0 : Int32)], N, sl, rn_hp S M)) rfl ?_
      refine rn_kq qm (s2 := (32, [(0, .ref 318), (1, .int u1), (3, .int u3), (4, .int u4), (5, .int u5), (6, .int u6), (7, .int t0)], [.int (0 : Int32)], N, sl, rn_hp S M)) rfl rfl ?_
      exact E49_J32_6 hrc hk h
def f49_J19_6 (M : rn_T) (u1 : Int32) (u3 : Int32) (u4 : Int32) (u5 : Int32) (u6 : Int32) (rc : (rn_T → Int32 → Int32 → Int32 → Option Int32)) (k : (rn_T → Int32 → Option Int32)) : Option Int32 :=
  f49_J22_6 M u1 u3 u4 u5 u6 (1 : Int32) rc k
set_option maxHeartbeats 4000000 in
theorem E49_J19_6 {X : rn_X} {N sl : Nat} {S : rn_T} {M : rn_T} {u1 : Int32} {u3 : Int32} {u4 : Int32} {u5 : Int32} {u6 : Int32} {R : (Int32)} {rc : (rn_T → Int32 → Int32 → Int32 → Option Int32)} (hrc : ∀ (M : rn_T) (v3 : Int32) (v4 : Int32) (v5 : Int32), rc M v3 v4 v5 = some R → rn_rv X 49 (6, [(0, .ref 318), (1, .int u1), (3, .int v3), (4, .int v4), (5, .int v5)], [], N, sl, rn_hp S M) (some (.int R), N, sl, rn_hp S M)) {k : (rn_T → Int32 → Option Int32)} (hk : ∀ (M : rn_T) (w_3 : Int32), k M w_3 = some R → rn_rv X 49 (78, [(3, .int w_3)], [], N, sl, rn_hp S M) (some (.int R), N, sl, rn_hp S M)) (h : f49_J19_6 M u1 u3 u4 u5 u6 rc k = some R) : rn_rv X 49 (19, [(0, .ref 318), (1, .int u1), (3, .int u3), (4, .int u4), (5, .int u5), (6, .int u6)], [], N, sl, rn_hp S M) (some (.int R), N, sl, rn_hp S M) := by
  have qm := rn_m49
  unfold f49_J19_6 at h
  refine rn_eg qm 2 (s2 := (22, [(0, .ref 318), (1, .int u1), (3, .int u3), (4, .int u4), (5, .int u5), (6, .int u6)], [.int (1 : Int32)], N, sl, rn_hp S M)) rfl ?_
  refine rn_kq qm (s2 := (22, [(0, .ref 318), (1, .int u1), (3, .int u3), (4, .int u4), (5, .int u5), (6, .int u6)], [.int (1 : Int32)], N, sl, rn_hp S M)) rfl rfl ?_
  exact E49_J22_6 hrc hk h
def f49_L6 (b1 : Int32) : Nat → rn_T → Int32 → Int32 → Int32 → (rn_T → Int32 → Option Int32) → Option Int32
  | 0, _, _, _, _, _ => none
  | fu + 1, M, v3, v4, v5, k =>
    if v4 ≤ 0 then
      k M v3
    else
      Option.bind (f33 M b1 v3) fun p2 =>
        if p2 = (40 : Int32) then
          f49_J19_6 M b1 v3 v4 v5 p2 (fun M v3 v4 v5 => f49_L6 b1 fu M v3 v4 v5 k) k
        else
          if p2 = (91 : Int32) then
            f49_J19_6 M b1 v3 v4 v5 p2 (fun M v3 v4 v5 => f49_L6 b1 fu M v3 v4 v5 k) k
          else
            f49_J22_6 M b1 v3 v4 v5 p2 (0 : Int32) (fun M v3 v4 v5 => f49_L6 b1 fu M v3 v4 v5 k) k
set_option maxHeartbeats 4000000 in
theorem E49_L6 {X : rn_X} {N sl : Nat} {S : rn_T} {b1 : Int32} : ∀ (fu : Nat) (M : rn_T) (v3 : Int32) (v4 : Int32) (v5 : Int32) (k : (rn_T → Int32 → Option Int32)) (R : (Int32)), (∀ (M : rn_T) (w_3 : Int32), k M w_3 = some R → rn_rv X 49 (78, [(3, .int w_3)], [], N, sl, rn_hp S M) (some (.int R), N, sl, rn_hp S M)) → f49_L6 b1 fu M v3 v4 v5 k = some R → rn_rv X 49 (6, [(0, .ref 318), (1, .int b1), (3, .int v3), (4, .int v4), (5, .int v5)], [], N, sl, rn_hp S M) (some (.int R), N, sl, rn_hp S M) := by
  have qm := rn_m49
  intro fu
  induction fu with
  | zero => intro M v3 v4 v5 k R hk h; cases h
  | succ fu ih =>
    intro M v3 v4 v5 k R hk h
    unfold f49_L6 at h
    refine rn_eg qm 2 (s2 := ((if v4 ≤ 0 then 78 else 8), [(0, .ref 318), (1, .int b1), (3, .int v3), (4, .int v4), (5, .int v5)], [], N, sl, rn_hp S M)) rfl ?_
    refine rn_ite (fun c1 => ?_) (fun c1 => ?_)
    · rw [if_pos c1] at h
      refine rn_kq qm (s2 := (78, [(3, .int v3)], [], N, sl, rn_hp S M)) rfl rfl ?_
      exact hk _ _ h
    · rw [if_neg c1] at h
      refine rn_eg qm 3 (s2 := (11, [(0, .ref 318), (1, .int b1), (3, .int v3), (4, .int v4), (5, .int v5)], [.int v3, .int b1, .ref 318], N, sl, rn_hp S M)) rfl ?_
      obtain ⟨p2, hp2, h⟩ := Option.bind_eq_some_iff.mp h
      refine rn_ec qm rfl rfl rfl rfl rn_m33 rfl rfl rfl (fun _ => rn_rc_of (en_9 (q := 318) rfl)) (E33 hp2) ?_
      refine rn_eg qm 0 (s2 := (12, [(0, .ref 318), (1, .int b1), (3, .int v3), (4, .int v4), (5, .int v5)], [.int p2], N, sl, rn_hp S M)) rfl ?_
      refine rn_eg qm 4 (s2 := ((if p2 = (40 : Int32) then 19 else 16), [(6, .int p2), (0, .ref 318), (1, .int b1), (3, .int v3), (4, .int v4), (5, .int v5)], [], N, sl, rn_hp S M)) rfl ?_
      refine rn_ite (fun c3 => ?_) (fun c3 => ?_)
      · rw [if_pos c3] at h
        refine rn_kq qm (s2 := (19, [(0, .ref 318), (1, .int b1), (3, .int v3), (4, .int v4), (5, .int v5), (6, .int p2)], [], N, sl, rn_hp S M)) rfl rfl ?_
        exact E49_J19_6 (fun M v3 v4 v5 h => ih M v3 v4 v5 k R hk h) hk h
      · rw [if_neg c3] at h
        refine rn_eg qm 3 (s2 := ((if p2 = (91 : Int32) then 19 else 21), [(6, .int p2), (0, .ref 318), (1, .int b1), (3, .int v3), (4, .int v4), (5, .int v5)], [], N, sl, rn_hp S M)) rfl ?_
        refine rn_ite (fun c16 => ?_) (fun c16 => ?_)
        · rw [if_pos c16] at h
          refine rn_kq qm (s2 := (19, [(0, .ref 318), (1, .int b1), (3, .int v3), (4, .int v4), (5, .int v5), (6, .int p2)], [], N, sl, rn_hp S M)) rfl rfl ?_
          exact E49_J19_6 (fun M v3 v4 v5 h => ih M v3 v4 v5 k R hk h) hk h
        · rw [if_neg c16] at h
          refine rn_eg qm 1 (s2 := (22, [(6, .int p2), (0, .ref 318), (1, .int b1), (3, .int v3), (4, .int v4), (5, .int v5)], [.int (0 : Int32)], N, sl, rn_hp S M)) rfl ?_
          refine rn_kq qm (s2 := (22, [(0, .ref 318), (1, .int b1), (3, .int v3), (4, .int v4), (5, .int v5), (6, .int p2)], [.int (0 : Int32)], N, sl, rn_hp S M)) rfl rfl ?_
          exact E49_J22_6 (fun M v3 v4 v5 h => ih M v3 v4 v5 k R hk h) hk h
def f49 (M : rn_T) (a1 : Int32) (a2 : Int32) : Option Int32 :=
  f49_L6 a1 rn_FU M a2 (1 : Int32) (0 : Int32) (fun M17 w17_3 =>
    some w17_3)
set_option maxHeartbeats 4000000 in
theorem E49 {X : rn_X} {N sl : Nat} {S M : rn_T} {a1 : Int32} {a2 : Int32} {R : (Int32)} (h : f49 M a1 a2 = some R) : rn_rv X 49 (0, [(0, .ref 318), (1, .int a1), (2, .int a2)], [], N, sl, rn_hp S M) (some (.int R), N, sl, rn_hp S M) := by
  have qm := rn_m49
  unfold f49 at h
  refine rn_eg qm 6 (s2 := (6, [(5, .int (0 : Int32)), (4, .int (1 : Int32)), (3, .int a2), (0, .ref 318), (1, .int a1), (2, .int a2)], [], N, sl, rn_hp S M)) rfl ?_
  refine rn_kq qm (s2 := (6, [(0, .ref 318), (1, .int a1), (3, .int a2), (4, .int (1 : Int32)), (5, .int (0 : Int32))], [], N, sl, rn_hp S M)) rfl rfl ?_
  refine E49_L6 rn_FU _ _ _ _ _ R ?_ h
  intro M17 w17_3 h
  refine rn_eg qm 1 (s2 := (79, [(3, .int w17_3)], [.int w17_3], N, sl, rn_hp S M17)) rfl ?_
  cases h
  exact rn_er qm rfl rfl rfl
/-! 50: RecordNichesModel.addTodo(IIII)V -/
def f50 (M : rn_T) (a1 : Int32) (a2 : Int32) (a3 : Int32) (a4 : Int32) : Option (rn_T) :=
  if rn_ob (rI M 318 15) 640 then none else
    if rn_ob (rI (wA M 327 (Int32.toNatClampNeg (rI M 318 15)) a1) 318 15) 640 then none else
      if rn_ob (rI (wA (wA M 327 (Int32.toNatClampNeg (rI M 318 15)) a1) 328 (Int32.toNatClampNeg (rI (wA M 327 (Int32.toNatClampNeg (rI M 318 15)) a1) 318 15)) a2) 318 15) 640 then none else
        if rn_ob (rI (wA (wA (wA M 327 (Int32.toNatClampNeg (rI M 318 15)) a1) 328 (Int32.toNatClampNeg (rI (wA M 327 (Int32.toNatClampNeg (rI M 318 15)) a1) 318 15)) a2) 329 (Int32.toNatClampNeg (rI (wA (wA M 327 (Int32.toNatClampNeg (rI M 318 15)) a1) 328 (Int32.toNatClampNeg (rI (wA M 327 (Int32.toNatClampNeg (rI M 318 15)) a1) 318 15)) a2) 318 15)) a3) 318 15) 640 then none else
          some (wI (wA (wA (wA (wA M 327 (Int32.toNatClampNeg (rI M 318 15)) a1) 328 (Int32.toNatClampNeg (rI (wA M 327 (Int32.toNatClampNeg (rI M 318 15)) a1) 318 15)) a2) 329 (Int32.toNatClampNeg (rI (wA (wA M 327 (Int32.toNatClampNeg (rI M 318 15)) a1) 328 (Int32.toNatClampNeg (rI (wA M 327 (Int32.toNatClampNeg (rI M 318 15)) a1) 318 15)) a2) 318 15)) a3) 330 (Int32.toNatClampNeg (rI (wA (wA (wA M 327 (Int32.toNatClampNeg (rI M 318 15)) a1) 328 (Int32.toNatClampNeg (rI (wA M 327 (Int32.toNatClampNeg (rI M 318 15)) a1) 318 15)) a2) 329 (Int32.toNatClampNeg (rI (wA (wA M 327 (Int32.toNatClampNeg (rI M 318 15)) a1) 328 (Int32.toNatClampNeg (rI (wA M 327 (Int32.toNatClampNeg (rI M 318 15)) a1) 318 15)) a2) 318 15)) a3) 318 15)) a4) 318 15 ((rI (wA (wA (wA (wA M 327 (Int32.toNatClampNeg (rI M 318 15)) a1) 328 (Int32.toNatClampNeg (rI (wA M 327 (Int32.toNatClampNeg (rI M 318 15)) a1) 318 15)) a2) 329 (Int32.toNatClampNeg (rI (wA (wA M 327 (Int32.toNatClampNeg (rI M 318 15)) a1) 328 (Int32.toNatClampNeg (rI (wA M 327 (Int32.toNatClampNeg (rI M 318 15)) a1) 318 15)) a2) 318 15)) a3) 330 (Int32.toNatClampNeg (rI (wA (wA (wA M 327 (Int32.toNatClampNeg (rI M 318 15)) a1) 328 (Int32.toNatClampNeg (rI (wA M 327 (Int32.toNatClampNeg (rI M 318 15)) a1) 318 15)) a2) 329 (Int32.toNatClampNeg (rI (wA (wA M 327 (Int32.toNatClampNeg (rI M 318 15)) a1) 328 (Int32.toNatClampNeg (rI (wA M 327 (Int32.toNatClampNeg (rI M 318 15)) a1) 318 15)) a2) 318 15)) a3) 318 15)) a4) 318 15) + (1 : Int32)))
set_option maxHeartbeats 4000000 in
theorem E50 {X : rn_X} {N sl : Nat} {S M : rn_T} {a1 : Int32} {a2 : Int32} {a3 : Int32} {a4 : Int32} {R : (rn_T)} (h : f50 M a1 a2 a3 a4 = some R) : rn_rv X 50 (0, [(0, .ref 318), (1, .int a1), (2, .int a2), (3, .int a3), (4, .int a4)], [], N, sl, rn_hp S M) (none, N, sl, rn_hp S R) := by
  have qm := rn_m50
  unfold f50 at h
  refine rn_eg qm 5 (s2 := (5, [(0, .ref 318), (1, .int a1), (2, .int a2), (3, .int a3), (4, .int a4)], [.int a1, .int (rI M 318 15), .ref 327], N, sl, rn_hp S M)) rfl ?_
  have c1 : ¬ (rn_ob (rI M 318 15) 640) := fun c => by rw [if_pos c] at h; cases h
  rw [if_neg c1] at h
  refine rn_e1 qm (s2 := (6, [(0, .ref 318), (1, .int a1), (2, .int a2), (3, .int a3), (4, .int a4)], [], N, sl, rn_hp S (wA M 327 (Int32.toNatClampNeg (rI M 318 15)) a1))) (rn_g_iast (n := 640) rfl rfl (ar_m10 rfl rfl (Nat.le_of_ble_eq_true rfl)) c1 (aw_m10 rfl rfl (Nat.le_of_ble_eq_true rfl))) ?_
  refine rn_eg qm 5 (s2 := (11, [(0, .ref 318), (1, .int a1), (2, .int a2), (3, .int a3), (4, .int a4)], [.int a2, .int (rI (wA M 327 (Int32.toNatClampNeg (rI M 318 15)) a1) 318 15), .ref 328], N, sl, rn_hp S (wA M 327 (Int32.toNatClampNeg (rI M 318 15)) a1))) rfl ?_
  have c2 : ¬ (rn_ob (rI (wA M 327 (Int32.toNatClampNeg (rI M 318 15)) a1) 318 15) 640) := fun c => by rw [if_pos c] at h; cases h
  rw [if_neg c2] at h
  refine rn_e1 qm (s2 := (12, [(0, .ref 318), (1, .int a1), (2, .int a2), (3, .int a3), (4, .int a4)], [], N, sl, rn_hp S (wA (wA M 327 (Int32.toNatClampNeg (rI M 318 15)) a1) 328 (Int32.toNatClampNeg (rI (wA M 327 (Int32.toNatClampNeg (rI M 318 15)) a1) 318 15)) a2))) (rn_g_iast (n := 640) rfl rfl (ar_m10 rfl rfl (Nat.le_of_ble_eq_true rfl)) c2 (aw_m10 rfl rfl (Nat.le_of_ble_eq_true rfl))) ?_
  refine rn_eg qm 5 (s2 := (17, [(0, .ref 318), (1, .int a1), (2, .int a2), (3, .int a3), (4, .int a4)], [.int a3, .int (rI (wA (wA M 327 (Int32.toNatClampNeg (rI M 318 15)) a1) 328 (Int32.toNatClampNeg (rI (wA M 327 (Int32.toNatClampNeg (rI M 318 15)) a1) 318 15)) a2) 318 15), .ref 329], N, sl, rn_hp S (wA (wA M 327 (Int32.toNatClampNeg (rI M 318 15)) a1) 328 (Int32.toNatClampNeg (rI (wA M 327 (Int32.toNatClampNeg (rI M 318 15)) a1) 318 15)) a2))) rfl ?_
  have c3 : ¬ (rn_ob (rI (wA (wA M 327 (Int32.toNatClampNeg (rI M 318 15)) a1) 328 (Int32.toNatClampNeg (rI (wA M 327 (Int32.toNatClampNeg (rI M 318 15)) a1) 318 15)) a2) 318 15) 640) := fun c => by rw [if_pos c] at h; cases h
  rw [if_neg c3] at h
  refine rn_e1 qm (s2 := (18, [(0, .ref 318), (1, .int a1), (2, .int a2), (3, .int a3), (4, .int a4)], [], N, sl, rn_hp S (wA (wA (wA M 327 (Int32.toNatClampNeg (rI M 318 15)) a1) 328 (Int32.toNatClampNeg (rI (wA M 327 (Int32.toNatClampNeg (rI M 318 15)) a1) 318 15)) a2) 329 (Int32.toNatClampNeg (rI (wA (wA M 327 (Int32.toNatClampNeg (rI M 318 15)) a1) 328 (Int32.toNatClampNeg (rI (wA M 327 (Int32.toNatClampNeg (rI M 318 15)) a1) 318 15)) a2) 318 15)) a3))) (rn_g_iast (n := 640) rfl rfl (ar_m10 rfl rfl (Nat.le_of_ble_eq_true rfl)) c3 (aw_m10 rfl rfl (Nat.le_of_ble_eq_true rfl))) ?_
  refine rn_eg qm 5 (s2 := (23, [(0, .ref 318), (1, .int a1), (2, .int a2), (3, .int a3), (4, .int a4)], [.int a4, .int (rI (wA (wA (wA M 327 (Int32.toNatClampNeg (rI M 318 15)) a1) 328 (Int32.toNatClampNeg (rI (wA M 327 (Int32.toNatClampNeg (rI M 318 15)) a1) 318 15)) a2) 329 (Int32.toNatClampNeg (rI (wA (wA M 327 (Int32.toNatClampNeg (rI M 318 15)) a1) 328 (Int32.toNatClampNeg (rI (wA M 327 (Int32.toNatClampNeg (rI M 318 15)) a1) 318 15)) a2) 318 15)) a3) 318 15), .ref 330], N, sl, rn_hp S (wA (wA (wA M 327 (Int32.toNatClampNeg (rI M 318 15)) a1) 328 (Int32.toNatClampNeg (rI (wA M 327 (Int32.toNatClampNeg (rI M 318 15)) a1) 318 15)) a2) 329 (Int32.toNatClampNeg (rI (wA (wA M 327 (Int32.toNatClampNeg (rI M 318 15)) a1) 328 (Int32.toNatClampNeg (rI (wA M 327 (Int32.toNatClampNeg (rI M 318 15)) a1) 318 15)) a2) 318 15)) a3))) rfl ?_
  have c4 : ¬ (rn_ob (rI (wA (wA (wA M 327 (Int32.toNatClampNeg (rI M 318 15)) a1) 328 (Int32.toNatClampNeg (rI (wA M 327 (Int32.toNatClampNeg (rI M 318 15)) a1) 318 15)) a2) 329 (Int32.toNatClampNeg (rI (wA (wA M 327 (Int32.toNatClampNeg (rI M 318 15)) a1) 328 (Int32.toNatClampNeg (rI (wA M 327 (Int32.toNatClampNeg (rI M 318 15)) a1) 318 15)) a2) 318 15)) a3) 318 15) 640) := fun c => by rw [if_pos c] at h; cases h
  rw [if_neg c4] at h
  refine rn_e1 qm (s2 := (24, [(0, .ref 318), (1, .int a1), (2, .int a2), (3, .int a3), (4, .int a4)], [], N, sl, rn_hp S (wA (wA (wA (wA M 327 (Int32.toNatClampNeg (rI M 318 15)) a1) 328 (Int32.toNatClampNeg (rI (wA M 327 (Int32.toNatClampNeg (rI M 318 15)) a1) 318 15)) a2) 329 (Int32.toNatClampNeg (rI (wA (wA M 327 (Int32.toNatClampNeg (rI M 318 15)) a1) 328 (Int32.toNatClampNeg (rI (wA M 327 (Int32.toNatClampNeg (rI M 318 15)) a1) 318 15)) a2) 318 15)) a3) 330 (Int32.toNatClampNeg (rI (wA (wA (wA M 327 (Int32.toNatClampNeg (rI M 318 15)) a1) 328 (Int32.toNatClampNeg (rI (wA M 327 (Int32.toNatClampNeg (rI M 318 15)) a1) 318 15)) a2) 329 (Int32.toNatClampNeg (rI (wA (wA M 327 (Int32.toNatClampNeg (rI M 318 15)) a1) 328 (Int32.toNatClampNeg (rI (wA M 327 (Int32.toNatClampNeg (rI M 318 15)) a1) 318 15)) a2) 318 15)) a3) 318 15)) a4))) (rn_g_iast (n := 640) rfl rfl (ar_m10 rfl rfl (Nat.le_of_ble_eq_true rfl)) c4 (aw_m10 rfl rfl (Nat.le_of_ble_eq_true rfl))) ?_
  refine rn_eg qm 5 (s2 := (29, [(0, .ref 318), (1, .int a1), (2, .int a2), (3, .int a3), (4, .int a4)], [.int ((rI (wA (wA (wA (wA M 327 (Int32.toNatClampNeg (rI M 318 15)) a1) 328 (Int32.toNatClampNeg (rI (wA M 327 (Int32.toNatClampNeg (rI M 318 15)) a1) 318 15)) a2) 329 (Int32.toNatClampNeg (rI (wA (wA M 327 (Int32.toNatClampNeg (rI M 318 15)) a1) 328 (Int32.toNatClampNeg (rI (wA M 327 (Int32.toNatClampNeg (rI M 318 15)) a1) 318 15)) a2) 318 15)) a3) 330 (Int32.toNatClampNeg (rI (wA (wA (wA M 327 (Int32.toNatClampNeg (rI M 318 15)) a1) 328 (Int32.toNatClampNeg (rI (wA M 327 (Int32.toNatClampNeg (rI M 318 15)) a1) 318 15)) a2) 329 (Int32.toNatClampNeg (rI (wA (wA M 327 (Int32.toNatClampNeg (rI M 318 15)) a1) 328 (Int32.toNatClampNeg (rI (wA M 327 (Int32.toNatClampNeg (rI M 318 15)) a1) 318 15)) a2) 318 15)) a3) 318 15)) a4) 318 15) + (1 : Int32)), .ref 318], N, sl, rn_hp S (wA (wA (wA (wA M 327 (Int32.toNatClampNeg (rI M 318 15)) a1) 328 (Int32.toNatClampNeg (rI (wA M 327 (Int32.toNatClampNeg (rI M 318 15)) a1) 318 15)) a2) 329 (Int32.toNatClampNeg (rI (wA (wA M 327 (Int32.toNatClampNeg (rI M 318 15)) a1) 328 (Int32.toNatClampNeg (rI (wA M 327 (Int32.toNatClampNeg (rI M 318 15)) a1) 318 15)) a2) 318 15)) a3) 330 (Int32.toNatClampNeg (rI (wA (wA (wA M 327 (Int32.toNatClampNeg (rI M 318 15)) a1) 328 (Int32.toNatClampNeg (rI (wA M 327 (Int32.toNatClampNeg (rI M 318 15)) a1) 318 15)) a2) 329 (Int32.toNatClampNeg (rI (wA (wA M 327 (Int32.toNatClampNeg (rI M 318 15)) a1) 328 (Int32.toNatClampNeg (rI (wA M 327 (Int32.toNatClampNeg (rI M 318 15)) a1) 318 15)) a2) 318 15)) a3) 318 15)) a4))) rfl ?_
  refine rn_e1 qm (s2 := (30, [(0, .ref 318), (1, .int a1), (2, .int a2), (3, .int a3), (4, .int a4)], [], N, sl, rn_hp S (wI (wA (wA (wA (wA M 327 (Int32.toNatClampNeg (rI M 318 15)) a1) 328 (Int32.toNatClampNeg (rI (wA M 327 (Int32.toNatClampNeg (rI M 318 15)) a1) 318 15)) a2) 329 (Int32.toNatClampNeg (rI (wA (wA M 327 (Int32.toNatClampNeg (rI M 318 15)) a1) 328 (Int32.toNatClampNeg (rI (wA M 327 (Int32.toNatClampNeg (rI M 318 15)) a1) 318 15)) a2) 318 15)) a3) 330 (Int32.toNatClampNeg (rI (wA (wA (wA M 327 (Int32.toNatClampNeg (rI M 318 15)) a1) 328 (Int32.toNatClampNeg (rI (wA M 327 (Int32.toNatClampNeg (rI M 318 15)) a1) 318 15)) a2) 329 (Int32.toNatClampNeg (rI (wA (wA M 327 (Int32.toNatClampNeg (rI M 318 15)) a1) 328 (Int32.toNatClampNeg (rI (wA M 327 (Int32.toNatClampNeg (rI M 318 15)) a1) 318 15)) a2) 318 15)) a3) 318 15)) a4) 318 15 ((rI (wA (wA (wA (wA M 327 (Int32.toNatClampNeg (rI M 318 15)) a1) 328 (Int32.toNatClampNeg (rI (wA M 327 (Int32.toNatClampNeg (rI M 318 15)) a1) 318 15)) a2) 329 (Int32.toNatClampNeg (rI (wA (wA M 327 (Int32.toNatClampNeg (rI M 318 15)) a1) 328 (Int32.toNatClampNeg (rI (wA M 327 (Int32.toNatClampNeg (rI M 318 15)) a1) 318 15)) a2) 318 15)) a3) 330 (Int32.toNatClampNeg (rI (wA (wA (wA M 327 (Int32.toNatClampNeg (rI M 318 15)) a1) 328 (Int32.toNatClampNeg (rI (wA M 327 (Int32.toNatClampNeg (rI M 318 15)) a1) 318 15)) a2) 329 (Int32.toNatClampNeg (rI (wA (wA M 327 (Int32.toNatClampNeg (rI M 318 15)) a1) 328 (Int32.toNatClampNeg (rI (wA M 327 (Int32.toNatClampNeg (rI M 318 15)) a1) 318 15)) a2) 318 15)) a3) 318 15)) a4) 318 15) + (1 : Int32))))) (rn_g_putf rfl rfl (en_9 rfl) rfl rfl rfl (wf_9_15 (v := ((rI (wA (wA (wA (wA M 327 (Int32.toNatClampNeg (rI M 318 15)) a1) 328 (Int32.toNatClampNeg (rI (wA M 327 (Int32.toNatClampNeg (rI M 318 15)) a1) 318 15)) a2) 329 (Int32.toNatClampNeg (rI (wA (wA M 327 (Int32.toNatClampNeg (rI M 318 15)) a1) 328 (Int32.toNatClampNeg (rI (wA M 327 (Int32.toNatClampNeg (rI M 318 15)) a1) 318 15)) a2) 318 15)) a3) 330 (Int32.toNatClampNeg (rI (wA (wA (wA M 327 (Int32.toNatClampNeg (rI M 318 15)) a1) 328 (Int32.toNatClampNeg (rI (wA M 327 (Int32.toNatClampNeg (rI M 318 15)) a1) 318 15)) a2) 329 (Int32.toNatClampNeg (rI (wA (wA M 327 (Int32.toNatClampNeg (rI M 318 15)) a1) 328 (Int32.toNatClampNeg (rI (wA M 327 (Int32.toNatClampNeg (rI M 318 15)) a1) 318 15)) a2) 318 15)) a3) 318 15)) a4) 318 15) + (1 : Int32))) rfl)) ?_
  cases h
  exact rn_er qm rfl rfl rfl
/-! 51: RecordNichesModel.addX(III)I -/
def f51 (M : rn_T) (a1 : Int32) (a2 : Int32) (a3 : Int32) : Option (Int32 × rn_T) :=
  if rn_ob (rI M 318 19) 520 then none else
    if rn_ob (rI (wA M 331 (Int32.toNatClampNeg (rI M 318 19)) a1) 318 19) 520 then none else
      if rn_ob (rI (wA (wA M 331 (Int32.toNatClampNeg (rI M 318 19)) a1) 332 (Int32.toNatClampNeg (rI (wA M 331 (Int32.toNatClampNeg (rI M 318 19)) a1) 318 19)) a2) 318 19) 520 then none else
        some (((rI (wI (wA (wA (wA M 331 (Int32.toNatClampNeg (rI M 318 19)) a1) 332 (Int32.toNatClampNeg (rI (wA M 331 (Int32.toNatClampNeg (rI M 318 19)) a1) 318 19)) a2) 333 (Int32.toNatClampNeg (rI (wA (wA M 331 (Int32.toNatClampNeg (rI M 318 19)) a1) 332 (Int32.toNatClampNeg (rI (wA M 331 (Int32.toNatClampNeg (rI M 318 19)) a1) 318 19)) a2) 318 19)) a3) 318 19 ((rI (wA (wA (wA M 331 (Int32.toNatClampNeg (rI M 318 19)) a1) 332 (Int32.toNatClampNeg (rI (wA M 331 (Int32.toNatClampNeg (rI M 318 19)) a1) 318 19)) a2) 333 (Int32.toNatClampNeg (rI (wA (wA M 331 (Int32.toNatClampNeg (rI M 318 19)) a1) 332 (Int32.toNatClampNeg (rI (wA M 331 (Int32.toNatClampNeg (rI M 318 19)) a1) 318 19)) a2) 318 19)) a3) 318 19) + (1 : Int32))) 318 19) - (1 : Int32)), wI (wA (wA (wA M 331 (Int32.toNatClampNeg (rI M 318 19)) a1) 332 (Int32.toNatClampNeg (rI (wA M 331 (Int32.toNatClampNeg (rI M 318 19)) a1) 318 19)) a2) 333 (Int32.toNatClampNeg (rI (wA (wA M 331 (Int32.toNatClampNeg (rI M 318 19)) a1) 332 (Int32.toNatClampNeg (rI (wA M 331 (Int32.toNatClampNeg (rI M 318 19)) a1) 318 19)) a2) 318 19)) a3) 318 19 ((rI (wA (wA (wA M 331 (Int32.toNatClampNeg (rI M 318 19)) a1) 332 (Int32.toNatClampNeg (rI (wA M 331 (Int32.toNatClampNeg (rI M 318 19)) a1) 318 19)) a2) 333 (Int32.toNatClampNeg (rI (wA (wA M 331 (Int32.toNatClampNeg (rI M 318 19)) a1) 332 (Int32.toNatClampNeg (rI (wA M 331 (Int32.toNatClampNeg (rI M 318 19)) a1) 318 19)) a2) 318 19)) a3) 318 19) + (1 : Int32)))
set_option maxHeartbeats 4000000 in
theorem E51 {X : rn_X} {N sl : Nat} {S M : rn_T} {a1 : Int32} {a2 : Int32} {a3 : Int32} {R : (Int32 × rn_T)} (h : f51 M a1 a2 a3 = some R) : rn_rv X 51 (0, [(0, .ref 318), (1, .int a1), (2, .int a2), (3, .int a3)], [], N, sl, rn_hp S M) (some (.int R.1), N, sl, rn_hp S R.2) := by
  have qm := rn_m51
  unfold f51 at h
  refine rn_eg qm 5 (s2 := (5, [(0, .ref 318), (1, .int a1), (2, .int a2), (3, .int a3)], [.int a1, .int (rI M 318 19), .ref 331], N, sl, rn_hp S M)) rfl ?_
  have c1 : ¬ (rn_ob (rI M 318 19) 520) := fun c => by rw [if_pos c] at h; cases h
  rw [if_neg c1] at h
  refine rn_e1 qm (s2 := (6, [(0, .ref 318), (1, .int a1), (2, .int a2), (3, .int a3)], [], N, sl, rn_hp S (wA M 331 (Int32.toNatClampNeg (rI M 318 19)) a1))) (rn_g_iast (n := 520) rfl rfl (ar_m10 rfl rfl (Nat.le_of_ble_eq_true rfl)) c1 (aw_m10 rfl rfl (Nat.le_of_ble_eq_true rfl))) ?_
  refine rn_eg qm 5 (s2 := (11, [(0, .ref 318), (1, .int a1), (2, .int a2), (3, .int a3)], [.int a2, .int (rI (wA M 331 (Int32.toNatClampNeg (rI M 318 19)) a1) 318 19), .ref 332], N, sl, rn_hp S (wA M 331 (Int32.toNatClampNeg (rI M 318 19)) a1))) rfl ?_
  have c2 : ¬ (rn_ob (rI (wA M 331 (Int32.toNatClampNeg (rI M 318 19)) a1) 318 19) 520) := fun c => by rw [if_pos c] at h; cases h
  rw [if_neg c2] at h
  refine rn_e1 qm (s2 := (12, [(0, .ref 318), (1, .int a1), (2, .int a2), (3, .int a3)], [], N, sl, rn_hp S (wA (wA M 331 (Int32.toNatClampNeg (rI M 318 19)) a1) 332 (Int32.toNatClampNeg (rI (wA M 331 (Int32.toNatClampNeg (rI M 318 19)) a1) 318 19)) a2))) (rn_g_iast (n := 520) rfl rfl (ar_m10 rfl rfl (Nat.le_of_ble_eq_true rfl)) c2 (aw_m10 rfl rfl (Nat.le_of_ble_eq_true rfl))) ?_
  refine rn_eg qm 5 (s2 := (17, [(0, .ref 318), (1, .int a1), (2, .int a2), (3, .int a3)], [.int a3, .int (rI (wA (wA M 331 (Int32.toNatClampNeg (rI M 318 19)) a1) 332 (Int32.toNatClampNeg (rI (wA M 331 (Int32.toNatClampNeg (rI M 318 19)) a1) 318 19)) a2) 318 19), .ref 333], N, sl, rn_hp S (wA (wA M 331 (Int32.toNatClampNeg (rI M 318 19)) a1) 332 (Int32.toNatClampNeg (rI (wA M 331 (Int32.toNatClampNeg (rI M 318 19)) a1) 318 19)) a2))) rfl ?_
  have c3 : ¬ (rn_ob (rI (wA (wA M 331 (Int32.toNatClampNeg (rI M 318 19)) a1) 332 (Int32.toNatClampNeg (rI (wA M 331 (Int32.toNatClampNeg (rI M 318 19)) a1) 318 19)) a2) 318 19) 520) := fun c => by rw [if_pos c] at h; cases h
  rw [if_neg c3] at h
  refine rn_e1 qm (s2 := (18, [(0, .ref 318), (1, .int a1), (2, .int a2), (3, .int a3)], [], N, sl, rn_hp S (wA (wA (wA M 331 (Int32.toNatClampNeg (rI M 318 19)) a1) 332 (Int32.toNatClampNeg (rI (wA M 331 (Int32.toNatClampNeg (rI M 318 19)) a1) 318 19)) a2) 333 (Int32.toNatClampNeg (rI (wA (wA M 331 (Int32.toNatClampNeg (rI M 318 19)) a1) 332 (Int32.toNatClampNeg (rI (wA M 331 (Int32.toNatClampNeg (rI M 318 19)) a1) 318 19)) a2) 318 19)) a3))) (rn_g_iast (n := 520) rfl rfl (ar_m10 rfl rfl (Nat.le_of_ble_eq_true rfl)) c3 (aw_m10 rfl rfl (Nat.le_of_ble_eq_true rfl))) ?_
  refine rn_eg qm 5 (s2 := (23, [(0, .ref 318), (1, .int a1), (2, .int a2), (3, .int a3)], [.int ((rI (wA (wA (wA M 331 (Int32.toNatClampNeg (rI M 318 19)) a1) 332 (Int32.toNatClampNeg (rI (wA M 331 (Int32.toNatClampNeg (rI M 318 19)) a1) 318 19)) a2) 333 (Int32.toNatClampNeg (rI (wA (wA M 331 (Int32.toNatClampNeg (rI M 318 19)) a1) 332 (Int32.toNatClampNeg (rI (wA M 331 (Int32.toNatClampNeg (rI M 318 19)) a1) 318 19)) a2) 318 19)) a3) 318 19) + (1 : Int32)), .ref 318], N, sl, rn_hp S (wA (wA (wA M 331 (Int32.toNatClampNeg (rI M 318 19)) a1) 332 (Int32.toNatClampNeg (rI (wA M 331 (Int32.toNatClampNeg (rI M 318 19)) a1) 318 19)) a2) 333 (Int32.toNatClampNeg (rI (wA (wA M 331 (Int32.toNatClampNeg (rI M 318 19)) a1) 332 (Int32.toNatClampNeg (rI (wA M 331 (Int32.toNatClampNeg (rI M 318 19)) a1) 318 19)) a2) 318 19)) a3))) rfl ?_
  refine rn_e1 qm (s2 := (24, [(0, .ref 318), (1, .int a1), (2, .int a2), (3, .int a3)], [], N, sl, rn_hp S (wI (wA (wA (wA M 331 (Int32.toNatClampNeg (rI M 318 19)) a1) 332 (Int32.toNatClampNeg (rI (wA M 331 (Int32.toNatClampNeg (rI M 318 19)) a1) 318 19)) a2) 333 (Int32.toNatClampNeg (rI (wA (wA M 331 (Int32.toNatClampNeg (rI M 318 19)) a1) 332 (Int32.toNatClampNeg (rI (wA M 331 (Int32.toNatClampNeg (rI M 318 19)) a1) 318 19)) a2) 318 19)) a3) 318 19 ((rI (wA (wA (wA M 331 (Int32.toNatClampNeg (rI M 318 19)) a1) 332 (Int32.toNatClampNeg (rI (wA M 331 (Int32.toNatClampNeg (rI M 318 19)) a1) 318 19)) a2) 333 (Int32.toNatClampNeg (rI (wA (wA M 331 (Int32.toNatClampNeg (rI M 318 19)) a1) 332 (Int32.toNatClampNeg (rI (wA M 331 (Int32.toNatClampNeg (rI M 318 19)) a1) 318 19)) a2) 318 19)) a3) 318 19) + (1 : Int32))))) (rn_g_putf rfl rfl (en_9 rfl) rfl rfl rfl (wf_9_19 (v := ((rI (wA (wA (wA M 331 (Int32.toNatClampNeg (rI M 318 19)) a1) 332 (Int32.toNatClampNeg (rI (wA M 331 (Int32.toNatClampNeg (rI M 318 19)) a1) 318 19)) a2) 333 (Int32.toNatClampNeg (rI (wA (wA M 331 (Int32.toNatClampNeg (rI M 318 19)) a1) 332 (Int32.toNatClampNeg (rI (wA M 331 (Int32.toNatClampNeg (rI M 318 19)) a1) 318 19)) a2) 318 19)) a3) 318 19) + (1 : Int32))) rfl)) ?_
  refine rn_eg qm 4 (s2 := (28, [(0, .ref 318), (1, .int a1), (2, .int a2), (3, .int a3)], [.int ((rI (wI (wA (wA (wA M 331 (Int32.toNatClampNeg (rI M 318 19)) a1) 332 (Int32.toNatClampNeg (rI (wA M 331 (Int32.toNatClampNeg (rI M 318 19)) a1) 318 19)) a2) 333 (Int32.toNatClampNeg (rI (wA (wA M 331 (Int32.toNatClampNeg (rI M 318 19)) a1) 332 (Int32.toNatClampNeg (rI (wA M 331 (Int32.toNatClampNeg (rI M 318 19)) a1) 318 19)) a2) 318 19)) a3) 318 19 ((rI (wA (wA (wA M 331 (Int32.toNatClampNeg (rI M 318 19)) a1) 332 (Int32.toNatClampNeg (rI (wA M 331 (Int32.toNatClampNeg (rI M 318 19)) a1) 318 19)) a2) 333 (Int32.toNatClampNeg (rI (wA (wA M 331 (Int32.toNatClampNeg (rI M 318 19)) a1) 332 (Int32.toNatClampNeg (rI (wA M 331 (Int32.toNatClampNeg (rI M 318 19)) a1) 318 19)) a2) 318 19)) a3) 318 19) + (1 : Int32))) 318 19) - (1 : Int32))], N, sl, rn_hp S (wI (wA (wA (wA M 331 (Int32.toNatClampNeg (rI M 318 19)) a1) 332 (Int32.toNatClampNeg (rI (wA M 331 (Int32.toNatClampNeg (rI M 318 19)) a1) 318 19)) a2) 333 (Int32.toNatClampNeg (rI (wA (wA M 331 (Int32.toNatClampNeg (rI M 318 19)) a1) 332 (Int32.toNatClampNeg (rI (wA M 331 (Int32.toNatClampNeg (rI M 318 19)) a1) 318 19)) a2) 318 19)) a3) 318 19 ((rI (wA (wA (wA M 331 (Int32.toNatClampNeg (rI M 318 19)) a1) 332 (Int32.toNatClampNeg (rI (wA M 331 (Int32.toNatClampNeg (rI M 318 19)) a1) 318 19)) a2) 333 (Int32.toNatClampNeg (rI (wA (wA M 331 (Int32.toNatClampNeg (rI M 318 19)) a1) 332 (Int32.toNatClampNeg (rI (wA M 331 (Int32.toNatClampNeg (rI M 318 19)) a1) 318 19)) a2) 318 19)) a3) 318 19) + (1 : Int32))))) rfl ?_
  cases h
  exact rn_er qm rfl rfl rfl
/-! 52: RecordNichesModel.kindOf(I)I -/
def f52 (a0 : Int32) : Int32 :=
  if a0 = (40 : Int32) then
    (5 : Int32)
  else
    if a0 = (48 : Int32) then
      (0 : Int32)
    else
      if a0 = (91 : Int32) then
        (6 : Int32)
      else
        if a0 = (98 : Int32) then
          (2 : Int32)
        else
          if a0 = (101 : Int32) then
            (3 : Int32)
          else
            if a0 = (112 : Int32) then
              (4 : Int32)
            else
              (1 : Int32)
set_option maxHeartbeats 4000000 in
theorem E52 {X : rn_X} {N sl : Nat} {S M : rn_T} {a0 : Int32} {R : Int32} (h : f52 a0 = R) : rn_rv X 52 (0, [(0, .int a0)], [], N, sl, rn_hp S M) (some (.int R), N, sl, rn_hp S M) := by
  have qm := rn_m52
  unfold f52 at h
  refine rn_eg qm 2 (s2 := ((if a0 = (40 : Int32) then 10 else (if a0 = (48 : Int32) then 2 else (if a0 = (91 : Int32) then 12 else (if a0 = (98 : Int32) then 4 else (if a0 = (101 : Int32) then 6 else (if a0 = (112 : Int32) then 8 else 14)))))), [(0, .int a0)], [], N, sl, rn_hp S M)) rfl ?_
  refine rn_ite (fun c1 => ?_) (fun c1 => ?_)
  · rw [if_pos c1] at h
    refine rn_eg qm 1 (s2 := (11, [(0, .int a0)], [.int (5 : Int32)], N, sl, rn_hp S M)) rfl ?_
    cases h
    exact rn_er qm rfl rfl rfl
  · rw [if_neg c1] at h
    refine rn_ite (fun c2 => ?_) (fun c2 => ?_)
    · rw [if_pos c2] at h
      refine rn_eg qm 1 (s2 := (3, [(0, .int a0)], [.int (0 : Int32)], N, sl, rn_hp S M)) rfl ?_
      cases h
      exact rn_er qm rfl rfl rfl
    · rw [if_neg c2] at h
      refine rn_ite (fun c3 => ?_) (fun c3 => ?_)
      · rw [if_pos c3] at h
        refine rn_eg qm 1 (s2 := (13, [(0, .int a0)], [.int (6 : Int32)], N, sl, rn_hp S M)) rfl ?_
        cases h
        exact rn_er qm rfl rfl rfl
      · rw [if_neg c3] at h
        refine rn_ite (fun c4 => ?_) (fun c4 => ?_)
        · rw [if_pos c4] at h
          refine rn_eg qm 1 (s2 := (5, [(0, .int a0)], [.int (2 : Int32)], N, sl, rn_hp S M)) rfl ?_
          cases h
          exact rn_er qm rfl rfl rfl
        · rw [if_neg c4] at h
          refine rn_ite (fun c5 => ?_) (fun c5 => ?_)
          · rw [if_pos c5] at h
            refine rn_eg qm 1 (s2 := (7, [(0, .int a0)], [.int (3 : Int32)], N, sl, rn_hp S M)) rfl ?_
            cases h
            exact rn_er qm rfl rfl rfl
          · rw [if_neg c5] at h
            refine rn_ite (fun c6 => ?_) (fun c6 => ?_)
            · rw [if_pos c6] at h
              refine rn_eg qm 1 (s2 := (9, [(0, .int a0)], [.int (4 : Int32)], N, sl, rn_hp S M)) rfl ?_
              cases h
              exact rn_er qm rfl rfl rfl
            · rw [if_neg c6] at h
              refine rn_eg qm 1 (s2 := (15, [(0, .int a0)], [.int (1 : Int32)], N, sl, rn_hp S M)) rfl ?_
              cases h
              exact rn_er qm rfl rfl rfl
/-! 53: RecordNichesModel.addWithin(IIII)V -/
def f53_L7 (b1 : Int32) (b3 : Int32) (b4 : Int32) (b5 : Int32) : Nat → rn_T → Int32 → (rn_T → Option (rn_T)) → Option (rn_T)
  | 0, _, _, _ => none
  | fu + 1, M, v6, k =>
    Option.bind (f33 M b1 v6) fun p1 =>
      if p1 = (41 : Int32) then
        k M
      else
        Option.bind (f33 M b1 v6) fun p3 =>
          if p3 = (93 : Int32) then
            k M
          else
            Option.bind (f50 M b1 v6 b3 b4) fun p5 =>
              Option.bind (f49 p5 b1 v6) fun p6 =>
                f53_L7 b1 b3 b4 b5 fu p5 p6 k
set_option maxHeartbeats 4000000 in
theorem E53_L7 {X : rn_X} {N sl : Nat} {S : rn_T} {b1 : Int32} {b3 : Int32} {b4 : Int32} {b5 : Int32} : ∀ (fu : Nat) (M : rn_T) (v6 : Int32) (k : (rn_T → Option (rn_T))) (R : (rn_T)), (∀ (M : rn_T), k M = some R → rn_rv X 53 (31, [(0, .ref 318), (5, .int b5)], [], N, sl, rn_hp S M) (none, N, sl, rn_hp S R)) → f53_L7 b1 b3 b4 b5 fu M v6 k = some R → rn_rv X 53 (7, [(0, .ref 318), (1, .int b1), (3, .int b3), (4, .int b4), (5, .int b5), (6, .int v6)], [], N, sl, rn_hp S M) (none, N, sl, rn_hp S R) := by
  have qm := rn_m53
  intro fu
  induction fu with
  | zero => intro M v6 k R hk h; cases h
  | succ fu ih =>
    intro M v6 k R hk h
    unfold f53_L7 at h
    refine rn_eg qm 3 (s2 := (10, [(0, .ref 318), (1, .int b1), (3, .int b3), (4, .int b4), (5, .int b5), (6, .int v6)], [.int v6, .int b1, .ref 318], N, sl, rn_hp S M)) rfl ?_
    obtain ⟨p1, hp1, h⟩ := Option.bind_eq_some_iff.mp h
    refine rn_ec qm rfl rfl rfl rfl rn_m33 rfl rfl rfl (fun _ => rn_rc_of (en_9 (q := 318) rfl)) (E33 hp1) ?_
    refine rn_eg qm 0 (s2 := (11, [(0, .ref 318), (1, .int b1), (3, .int b3), (4, .int b4), (5, .int b5), (6, .int v6)], [.int p1], N, sl, rn_hp S M)) rfl ?_
    refine rn_eg qm 2 (s2 := ((if p1 = (41 : Int32) then 31 else 13), [(0, .ref 318), (1, .int b1), (3, .int b3), (4, .int b4), (5, .int b5), (6, .int v6)], [], N, sl, rn_hp S M)) rfl ?_
    refine rn_ite (fun c2 => ?_) (fun c2 => ?_)
    · rw [if_pos c2] at h
      refine rn_kq qm (s2 := (31, [(0, .ref 318), (5, .int b5)], [], N, sl, rn_hp S M)) rfl rfl ?_
      exact hk _ h
    · rw [if_neg c2] at h
      refine rn_eg qm 3 (s2 := (16, [(0, .ref 318), (1, .int b1), (3, .int b3), (4, .int b4), (5, .int b5), (6, .int v6)], [.int v6, .int b1, .ref 318], N, sl, rn_hp S M)) rfl ?_
      obtain ⟨p3, hp3, h⟩ := Option.bind_eq_some_iff.mp h
      refine rn_ec qm rfl rfl rfl rfl rn_m33 rfl rfl rfl (fun _ => rn_rc_of (en_9 (q := 318) rfl)) (E33 hp3) ?_
      refine rn_eg qm 0 (s2 := (17, [(0, .ref 318), (1, .int b1), (3, .int b3), (4, .int b4), (5, .int b5), (6, .int v6)], [.int p3], N, sl, rn_hp S M)) rfl ?_
      refine rn_eg qm 2 (s2 := ((if p3 = (93 : Int32) then 31 else 19), [(0, .ref 318), (1, .int b1), (3, .int b3), (4, .int b4), (5, .int b5), (6, .int v6)], [], N, sl, rn_hp S M)) rfl ?_
      refine rn_ite (fun c4 => ?_) (fun c4 => ?_)
      · rw [if_pos c4] at h
        refine rn_kq qm (s2 := (31, [(0, .ref 318), (5, .int b5)], [], N, sl, rn_hp S M)) rfl rfl ?_
        exact hk _ h
      · rw [if_neg c4] at h
        refine rn_eg qm 5 (s2 := (24, [(0, .ref 318), (1, .int b1), (3, .int b3), (4, .int b4), (5, .int b5), (6, .int v6)], [.int b4, .int b3, .int v6, .int b1, .ref 318], N, sl, rn_hp S M)) rfl ?_
        obtain ⟨p5, hp5, h⟩ := Option.bind_eq_some_iff.mp h
        refine rn_ec qm rfl rfl rfl rfl rn_m50 rfl rfl rfl (fun _ => rn_rc_of (en_9 (q := 318) rfl)) (E50 hp5) ?_
        refine rn_eg qm 0 (s2 := (25, [(0, .ref 318), (1, .int b1), (3, .int b3), (4, .int b4), (5, .int b5), (6, .int v6)], [], N, sl, rn_hp S p5)) rfl ?_
        refine rn_eg qm 3 (s2 := (28, [(0, .ref 318), (1, .int b1), (3, .int b3), (4, .int b4), (5, .int b5), (6, .int v6)], [.int v6, .int b1, .ref 318], N, sl, rn_hp S p5)) rfl ?_
        obtain ⟨p6, hp6, h⟩ := Option.bind_eq_some_iff.mp h
        refine rn_ec qm rfl rfl rfl rfl rn_m49 rfl rfl rfl (fun _ => rn_rc_of (en_9 (q := 318) rfl)) (E49 hp6) ?_
        refine rn_eg qm 0 (s2 := (29, [(0, .ref 318), (1, .int b1), (3, .int b3), (4, .int b4), (5, .int b5), (6, .int v6)], [.int p6], N, sl, rn_hp S p5)) rfl ?_
        refine rn_eg qm 2 (s2 := (7, [(6, .int p6), (0, .ref 318), (1, .int b1), (3, .int b3), (4, .int b4), (5, .int b5)], [], N, sl, rn_hp S p5)) rfl ?_
        refine rn_kq qm (s2 := (7, [(0, .ref 318), (1, .int b1), (3, .int b3), (4, .int b4), (5, .int b5), (6, .int p6)], [], N, sl, rn_hp S p5)) rfl rfl ?_
        exact ih _ _ k R hk h
def f53_L38 : Nat → rn_T → Int32 → Int32 → (rn_T → Option (rn_T)) → Option (rn_T)
  | 0, _, _, _, _ => none
  | fu + 1, M, v7, v8, k =>
    if v8 ≤ v7 then
      k M
    else
      if rn_ob v7 640 then none else
        if rn_ob v8 640 then none else
          f53_L38 fu (wA (wA M 328 (Int32.toNatClampNeg v7) (rA M 328 (Int32.toNatClampNeg v8))) 328 (Int32.toNatClampNeg v8) (rA M 328 (Int32.toNatClampNeg v7))) (v7 + (1 : Int32)) (v8 + (-1 : Int32)) k
set_option maxHeartbeats 4000000 in
theorem E53_L38 {X : rn_X} {N sl : Nat} {S : rn_T} : ∀ (fu : Nat) (M : rn_T) (v7 : Int32) (v8 : Int32) (k : (rn_T → Option (rn_T))) (R : (rn_T)), (∀ (M : rn_T), k M = some R → rn_rv X 53 (62, [], [], N, sl, rn_hp S M) (none, N, sl, rn_hp S R)) → f53_L38 fu M v7 v8 k = some R → rn_rv X 53 (38, [(0, .ref 318), (7, .int v7), (8, .int v8)], [], N, sl, rn_hp S M) (none, N, sl, rn_hp S R) := by
  have qm := rn_m53
  intro fu
  induction fu with
  | zero => intro M v7 v8 k R hk h; cases h
  | succ fu ih =>
    intro M v7 v8 k R hk h
    unfold f53_L38 at h
    refine rn_eg qm 3 (s2 := ((if v8 ≤ v7 then 62 else 41), [(0, .ref 318), (7, .int v7), (8, .int v8)], [], N, sl, rn_hp S M)) rfl ?_
    refine rn_ite (fun c8 => ?_) (fun c8 => ?_)
    · rw [if_pos c8] at h
      refine rn_kq qm (s2 := (62, [], [], N, sl, rn_hp S M)) rfl rfl ?_
      exact hk _ h
    · rw [if_neg c8] at h
      refine rn_eg qm 3 (s2 := (44, [(0, .ref 318), (7, .int v7), (8, .int v8)], [.int v7, .ref 328], N, sl, rn_hp S M)) rfl ?_
      have c9 : ¬ (rn_ob v7 640) := fun c => by rw [if_pos c] at h; cases h
      rw [if_neg c9] at h
      refine rn_e1 qm (s2 := (45, [(0, .ref 318), (7, .int v7), (8, .int v8)], [.int (rA M 328 (Int32.toNatClampNeg v7))], N, sl, rn_hp S M)) (rn_g_iald (n := 640) rfl rfl (ar_m10 rfl rfl (Nat.le_of_ble_eq_true rfl)) c9) ?_
      refine rn_eg qm 7 (s2 := (52, [(9, .int (rA M 328 (Int32.toNatClampNeg v7))), (0, .ref 318), (7, .int v7), (8, .int v8)], [.int v8, .ref 328, .int v7, .ref 328], N, sl, rn_hp S M)) rfl ?_
      have c10 : ¬ (rn_ob v8 640) := fun c => by rw [if_pos c] at h; cases h
      rw [if_neg c10] at h
      refine rn_e1 qm (s2 := (53, [(9, .int (rA M 328 (Int32.toNatClampNeg v7))), (0, .ref 318), (7, .int v7), (8, .int v8)], [.int (rA M 328 (Int32.toNatClampNeg v8)), .int v7, .ref 328], N, sl, rn_hp S M)) (rn_g_iald (n := 640) rfl rfl (ar_m10 rfl rfl (Nat.le_of_ble_eq_true rfl)) c10) ?_
      refine rn_e1 qm (s2 := (54, [(9, .int (rA M 328 (Int32.toNatClampNeg v7))), (0, .ref 318), (7, .int v7), (8, .int v8)], [], N, sl, rn_hp S (wA M 328 (Int32.toNatClampNeg v7) (rA M 328 (Int32.toNatClampNeg v8))))) (rn_g_iast (n := 640) rfl rfl (ar_m10 rfl rfl (Nat.le_of_ble_eq_true rfl)) c9 (aw_m10 rfl rfl (Nat.le_of_ble_eq_true rfl))) ?_
      refine rn_eg qm 4 (s2 := (58, [(9, .int (rA M 328 (Int32.toNatClampNeg v7))), (0, .ref 318), (7, .int v7), (8, .int v8)], [.int (rA M 328 (Int32.toNatClampNeg v7)), .int v8, .ref 328], N, sl, rn_hp S (wA M 328 (Int32.toNatClampNeg v7) (rA M 328 (Int32.toNatClampNeg v8))))) rfl ?_
      refine rn_e1 qm (s2 := (59, [(9, .int (rA M 328 (Int32.toNatClampNeg v7))), (0, .ref 318), (7, .int v7), (8, .int v8)], [], N, sl, rn_hp S (wA (wA M 328 (Int32.toNatClampNeg v7) (rA M 328 (Int32.toNatClampNeg v8))) 328 (Int32.toNatClampNeg v8) (rA M 328 (Int32.toNatClampNeg v7))))) (rn_g_iast (n := 640) rfl rfl (ar_m10 rfl rfl (Nat.le_of_ble_eq_true rfl)) c10 (aw_m10 rfl rfl (Nat.le_of_ble_eq_true rfl))) ?_
      refine rn_eg qm 3 (s2 := (38, [(8, .int (v8 + (-1 : Int32))), (7, .int (v7 + (1 : Int32))), (9, .int (rA M 328 (Int32.toNatClampNeg v7))), (0, .ref 318)], [], N, sl, rn_hp S (wA (wA M 328 (Int32.toNatClampNeg v7) (rA M 328 (Int32.toNatClampNeg v8))) 328 (Int32.toNatClampNeg v8) (rA M 328 (Int32.toNatClampNeg v7))))) rfl ?_
      refine rn_kq qm (s2 := (38, [(0, .ref 318), (7, .int (v7 + (1 : Int32))), (8, .int (v8 + (-1 : Int32)))], [], N, sl, rn_hp S (wA (wA M 328 (Int32.toNatClampNeg v7) (rA M 328 (Int32.toNatClampNeg v8))) 328 (Int32.toNatClampNeg v8) (rA M 328 (Int32.toNatClampNeg v7))))) rfl rfl ?_
      exact ih _ _ _ k R hk h
def f53_J31 (M : rn_T) (u5 : Int32) : Option (rn_T) :=
  f53_L38 rn_FU M u5 ((rI M 318 15) - (1 : Int32)) (fun M11 =>
    some (M11))
set_option maxHeartbeats 4000000 in
theorem E53_J31 {X : rn_X} {N sl : Nat} {S : rn_T} {M : rn_T} {u5 : Int32} {R : (rn_T)} (h : f53_J31 M u5 = some R) : rn_rv X 53 (31, [(0, .ref 318), (5, .int u5)], [], N, sl, rn_hp S M) (none, N, sl, rn_hp S R) := by
  have qm := rn_m53
  unfold f53_J31 at h
  refine rn_eg qm 7 (s2 := (38, [(8, .int ((rI M 318 15) - (1 : Int32))), (7, .int u5), (0, .ref 318), (5, .int u5)], [], N, sl, rn_hp S M)) rfl ?_
  refine rn_kq qm (s2 := (38, [(0, .ref 318), (7, .int u5), (8, .int ((rI M 318 15) - (1 : Int32)))], [], N, sl, rn_hp S M)) rfl rfl ?_
  refine E53_L38 rn_FU _ _ _ _ R ?_ h
  intro M11 h
  cases h
  exact rn_er qm rfl rfl rfl
def f53 (M : rn_T) (a1 : Int32) (a2 : Int32) (a3 : Int32) (a4 : Int32) : Option (rn_T) :=
  f53_L7 a1 a3 a4 (rI M 318 15) rn_FU M (a2 + (1 : Int32)) (fun M7 =>
    f53_J31 M7 (rI M 318 15))
set_option maxHeartbeats 4000000 in
theorem E53 {X : rn_X} {N sl : Nat} {S M : rn_T} {a1 : Int32} {a2 : Int32} {a3 : Int32} {a4 : Int32} {R : (rn_T)} (h : f53 M a1 a2 a3 a4 = some R) : rn_rv X 53 (0, [(0, .ref 318), (1, .int a1), (2, .int a2), (3, .int a3), (4, .int a4)], [], N, sl, rn_hp S M) (none, N, sl, rn_hp S R) := by
  have qm := rn_m53
  unfold f53 at h
  refine rn_eg qm 7 (s2 := (7, [(6, .int (a2 + (1 : Int32))), (5, .int (rI M 318 15)), (0, .ref 318), (1, .int a1), (2, .int a2), (3, .int a3), (4, .int a4)], [], N, sl, rn_hp S M)) rfl ?_
  refine rn_kq qm (s2 := (7, [(0, .ref 318), (1, .int a1), (3, .int a3), (4, .int a4), (5, .int (rI M 318 15)), (6, .int (a2 + (1 : Int32)))], [], N, sl, rn_hp S M)) rfl rfl ?_
  refine E53_L7 rn_FU _ _ _ R ?_ h
  intro M7 h
  refine rn_kq qm (s2 := (31, [(0, .ref 318), (5, .int (rI M 318 15))], [], N, sl, rn_hp S M7)) rfl rfl ?_
  exact E53_J31 h
/-! 54: RecordNichesModel.addPart(IIII)V -/
def f54_J79 (M : rn_T) (u1 : Int32) (u2 : Int32) (u3 : Int32) : Option (rn_T) :=
  Option.bind (f53 M u1 u2 u3 ((rI M 318 10) - (1 : Int32))) fun p14 =>
    some (p14)
set_option maxHeartbeats 4000000 in
theorem E54_J79 {X : rn_X} {N sl : Nat} {S : rn_T} {M : rn_T} {u1 : Int32} {u2 : Int32} {u3 : Int32} {R : (rn_T)} (h : f54_J79 M u1 u2 u3 = some R) : rn_rv X 54 (79, [(0, .ref 318), (1, .int u1), (2, .int u2), (3, .int u3)], [], N, sl, rn_hp S M) (none, N, sl, rn_hp S R) := by
  have qm := rn_m54
  unfold f54_J79 at h
  refine rn_eg qm 8 (s2 := (87, [(0, .ref 318), (1, .int u1), (2, .int u2), (3, .int u3)], [.int ((rI M 318 10) - (1 : Int32)), .int u3, .int u2, .int u1, .ref 318], N, sl, rn_hp S M)) rfl ?_
  obtain ⟨p14, hp14, h⟩ := Option.bind_eq_some_iff.mp h
  refine rn_ec qm rfl rfl rfl rfl rn_m53 rfl rfl rfl (fun _ => rn_rc_of (en_9 (q := 318) rfl)) (E53 hp14) ?_
  refine rn_eg qm 0 (s2 := (88, [(0, .ref 318), (1, .int u1), (2, .int u2), (3, .int u3)], [], N, sl, rn_hp S p14)) rfl ?_
  cases h
  exact rn_er qm rfl rfl rfl
def f54_J67 (M : rn_T) (u1 : Int32) (u2 : Int32) (u3 : Int32) (u5 : Int32) : Option (rn_T) :=
  if u5 = (40 : Int32) then
    f54_J79 (wI M 318 10 ((rI M 318 10) + (1 : Int32))) u1 u2 u3
  else
    if u5 = (91 : Int32) then
      f54_J79 (wI M 318 10 ((rI M 318 10) + (1 : Int32))) u1 u2 u3
    else
      some (wI M 318 10 ((rI M 318 10) + (1 : Int32)))
set_option maxHeartbeats 4000000 in
theorem E54_J67 {X : rn_X} {N sl : Nat} {S : rn_T} {M : rn_T} {u1 : Int32} {u2 : Int32} {u3 : Int32} {u5 : Int32} {R : (rn_T)} (h : f54_J67 M u1 u2 u3 u5 = some R) : rn_rv X 54 (67, [(0, .ref 318), (1, .int u1), (2, .int u2), (3, .int u3), (5, .int u5)], [], N, sl, rn_hp S M) (none, N, sl, rn_hp S R) := by
  have qm := rn_m54
  unfold f54_J67 at h
  refine rn_eg qm 5 (s2 := (72, [(0, .ref 318), (1, .int u1), (2, .int u2), (3, .int u3), (5, .int u5)], [.int ((rI M 318 10) + (1 : Int32)), .ref 318], N, sl, rn_hp S M)) rfl ?_
  refine rn_e1 qm (s2 := (73, [(0, .ref 318), (1, .int u1), (2, .int u2), (3, .int u3), (5, .int u5)], [], N, sl, rn_hp S (wI M 318 10 ((rI M 318 10) + (1 : Int32))))) (rn_g_putf rfl rfl (en_9 rfl) rfl rfl rfl (wf_9_10 (v := ((rI M 318 10) + (1 : Int32))) rfl)) ?_
  refine rn_eg qm 3 (s2 := ((if u5 = (40 : Int32) then 79 else 76), [(0, .ref 318), (1, .int u1), (2, .int u2), (3, .int u3), (5, .int u5)], [], N, sl, rn_hp S (wI M 318 10 ((rI M 318 10) + (1 : Int32))))) rfl ?_
  refine rn_ite (fun c13 => ?_) (fun c13 => ?_)
  · rw [if_pos c13] at h
    refine rn_kq qm (s2 := (79, [(0, .ref 318), (1, .int u1), (2, .int u2), (3, .int u3)], [], N, sl, rn_hp S (wI M 318 10 ((rI M 318 10) + (1 : Int32))))) rfl rfl ?_
    exact E54_J79 h
  · rw [if_neg c13] at h
    refine rn_eg qm 3 (s2 := ((if u5 = (91 : Int32) then 79 else 88), [(0, .ref 318), (1, .int u1), (2, .int u2), (3, .int u3), (5, .int u5)], [], N, sl, rn_hp S (wI M 318 10 ((rI M 318 10) + (1 : Int32))))) rfl ?_
    refine rn_ite (fun c15 => ?_) (fun c15 => ?_)
    · rw [if_pos c15] at h
      refine rn_kq qm (s2 := (79, [(0, .ref 318), (1, .int u1), (2, .int u2), (3, .int u3)], [], N, sl, rn_hp S (wI M 318 10 ((rI M 318 10) + (1 : Int32))))) rfl rfl ?_
      exact E54_J79 h
    · rw [if_neg c15] at h
      cases h
      exact rn_er qm rfl rfl rfl
def f54_J56 (M : rn_T) (u1 : Int32) (u2 : Int32) (u3 : Int32) (u4 : Int32) (u5 : Int32) (t1 : Int32) (t2 : Int32) : Option (rn_T) :=
  if rn_ob t1 101 then none else
    if u4 < 0 then
      f54_J67 (wA M 325 (Int32.toNatClampNeg t1) t2) u1 u2 u3 u5
    else
      if rn_ob u4 101 then none else
        f54_J67 (wA (wA M 325 (Int32.toNatClampNeg t1) t2) 326 (Int32.toNatClampNeg u4) ((rA (wA M 325 (Int32.toNatClampNeg t1) t2) 326 (Int32.toNatClampNeg u4)) + (1 : Int32))) u1 u2 u3 u5
set_option maxHeartbeats 4000000 in
theorem E54_J56 {X : rn_X} {N sl : Nat} {S : rn_T} {M : rn_T} {u1 : Int32} {u2 : Int32} {u3 : Int32} {u4 : Int32} {u5 : Int32} {t1 : Int32} {t2 : Int32} {R : (rn_T)} (h : f54_J56 M u1 u2 u3 u4 u5 t1 t2 = some R) : rn_rv X 54 (56, [(0, .ref 318), (1, .int u1), (2, .int u2), (3, .int u3), (4, .int u4), (5, .int u5)], [.int t2, .int t1, .ref 325], N, sl, rn_hp S M) (none, N, sl, rn_hp S R) := by
  have qm := rn_m54
  unfold f54_J56 at h
  have c11 : ¬ (rn_ob t1 101) := fun c => by rw [if_pos c] at h; cases h
  rw [if_neg c11] at h
  refine rn_e1 qm (s2 := (57, [(0, .ref 318), (1, .int u1), (2, .int u2), (3, .int u3), (4, .int u4), (5, .int u5)], [], N, sl, rn_hp S (wA M 325 (Int32.toNatClampNeg t1) t2))) (rn_g_iast (n := 101) rfl rfl (ar_m10 rfl rfl (Nat.le_of_ble_eq_true rfl)) c11 (aw_m10 rfl rfl (Nat.le_of_ble_eq_true rfl))) ?_
  refine rn_eg qm 2 (s2 := ((if u4 < 0 then 67 else 59), [(0, .ref 318), (1, .int u1), (2, .int u2), (3, .int u3), (4, .int u4), (5, .int u5)], [], N, sl, rn_hp S (wA M 325 (Int32.toNatClampNeg t1) t2))) rfl ?_
  refine rn_ite (fun c12 => ?_) (fun c12 => ?_)
  · rw [if_pos c12] at h
    refine rn_kq qm (s2 := (67, [(0, .ref 318), (1, .int u1), (2, .int u2), (3, .int u3), (5, .int u5)], [], N, sl, rn_hp S (wA M 325 (Int32.toNatClampNeg t1) t2))) rfl rfl ?_
    exact E54_J67 h
  · rw [if_neg c12] at h
    refine rn_eg qm 4 (s2 := (63, [(0, .ref 318), (1, .int u1), (2, .int u2), (3, .int u3), (4, .int u4), (5, .int u5)], [.int u4, .ref 326, .int u4, .ref 326], N, sl, rn_hp S (wA M 325 (Int32.toNatClampNeg t1) t2))) rfl ?_
    have c16 : ¬ (rn_ob u4 101) := fun c => by rw [if_pos c] at h; cases h
    rw [if_neg c16] at h
    refine rn_e1 qm (s2 := (64, [(0, .ref 318), (1, .int u1), (2, .int u2), (3, .int u3), (4, .int u4), (5, .int u5)], [.int (rA (wA M 325 (Int32.toNatClampNeg t1) t2) 326 (Int32.toNatClampNeg u4)), .int u4, .ref 326], N, sl, rn_hp S (wA M 325 (Int32.toNatClampNeg t1) t2))) (rn_g_iald (n := 101) rfl rfl (ar_m10 rfl rfl (Nat.le_of_ble_eq_true rfl)) c16) ?_
    refine rn_eg qm 2 (s2 := (66, [(0, .ref 318), (1, .int u1), (2, .int u2), (3, .int u3), (4, .int u4), (5, .int u5)], [.int ((rA (wA M 325 (Int32.toNatClampNeg t1) t2) 326 (Int32.toNatClampNeg u4)) + (1 : Int32)), .int u4, .ref 326], N, sl, rn_hp S (wA M 325 (Int32.toNatClampNeg t1) t2))) rfl ?_
    refine rn_e1 qm (s2 := (67, [(0, .ref 318), (1, .int u1), (2, .int u2), (3, .int u3), (4, .int u4), (5, .int u5)], [], N, sl, rn_hp S (wA (wA M 325 (Int32.toNatClampNeg t1) t2) 326 (Int32.toNatClampNeg u4) ((rA (wA M 325 (Int32.toNatClampNeg t1) t2) 326 (Int32.toNatClampNeg u4)) + (1 : Int32))))) (rn_g_iast (n := 101) rfl rfl (ar_m10 rfl rfl (Nat.le_of_ble_eq_true rfl)) c16 (aw_m10 rfl rfl (Nat.le_of_ble_eq_true rfl))) ?_
    refine rn_kq qm (s2 := (67, [(0, .ref 318), (1, .int u1), (2, .int u2), (3, .int u3), (5, .int u5)], [], N, sl, rn_hp S (wA (wA M 325 (Int32.toNatClampNeg t1) t2) 326 (Int32.toNatClampNeg u4) ((rA (wA M 325 (Int32.toNatClampNeg t1) t2) 326 (Int32.toNatClampNeg u4)) + (1 : Int32))))) rfl rfl ?_
    exact E54_J67 h
def f54_J31 (M : rn_T) (u1 : Int32) (u2 : Int32) (u3 : Int32) (u4 : Int32) (u5 : Int32) (t1 : Int32) (t2 : Int32) : Option (rn_T) :=
  if rn_ob t1 101 then none else
    if rn_ob (rI (wA M 323 (Int32.toNatClampNeg t1) t2) 318 10) 101 then none else
      if rn_ob (rI (wA (wA M 323 (Int32.toNatClampNeg t1) t2) 324 (Int32.toNatClampNeg (rI (wA M 323 (Int32.toNatClampNeg t1) t2) 318 10)) u4) 318 10) 101 then none else
        if 0 ≤ u4 then
          if rn_ob u4 101 then none else
            f54_J56 (wA (wA (wA M 323 (Int32.toNatClampNeg t1) t2) 324 (Int32.toNatClampNeg (rI (wA M 323 (Int32.toNatClampNeg t1) t2) 318 10)) u4) 326 (Int32.toNatClampNeg (rI (wA (wA M 323 (Int32.toNatClampNeg t1) t2) 324 (Int32.toNatClampNeg (rI (wA M 323 (Int32.toNatClampNeg t1) t2) 318 10)) u4) 318 10)) (0 : Int32)) u1 u2 u3 u4 u5 (rI (wA (wA (wA M 323 (Int32.toNatClampNeg t1) t2) 324 (Int32.toNatClampNeg (rI (wA M 323 (Int32.toNatClampNeg t1) t2) 318 10)) u4) 326 (Int32.toNatClampNeg (rI (wA (wA M 323 (Int32.toNatClampNeg t1) t2) 324 (Int32.toNatClampNeg (rI (wA M 323 (Int32.toNatClampNeg t1) t2) 318 10)) u4) 318 10)) (0 : Int32)) 318 10) (rA (wA (wA (wA M 323 (Int32.toNatClampNeg t1) t2) 324 (Int32.toNatClampNeg (rI (wA M 323 (Int32.toNatClampNeg t1) t2) 318 10)) u4) 326 (Int32.toNatClampNeg (rI (wA (wA M 323 (Int32.toNatClampNeg t1) t2) 324 (Int32.toNatClampNeg (rI (wA M 323 (Int32.toNatClampNeg t1) t2) 318 10)) u4) 318 10)) (0 : Int32)) 326 (Int32.toNatClampNeg u4))
        else
          f54_J56 (wA (wA (wA M 323 (Int32.toNatClampNeg t1) t2) 324 (Int32.toNatClampNeg (rI (wA M 323 (Int32.toNatClampNeg t1) t2) 318 10)) u4) 326 (Int32.toNatClampNeg (rI (wA (wA M 323 (Int32.toNatClampNeg t1) t2) 324 (Int32.toNatClampNeg (rI (wA M 323 (Int32.toNatClampNeg t1) t2) 318 10)) u4) 318 10)) (0 : Int32)) u1 u2 u3 u4 u5 (rI (wA (wA (wA M 323 (Int32.toNatClampNeg t1) t2) 324 (Int32.toNatClampNeg (rI (wA M 323 (Int32.toNatClampNeg t1) t2) 318 10)) u4) 326 (Int32.toNatClampNeg (rI (wA (wA M 323 (Int32.toNatClampNeg t1) t2) 324 (Int32.toNatClampNeg (rI (wA M 323 (Int32.toNatClampNeg t1) t2) 318 10)) u4) 318 10)) (0 : Int32)) 318 10) (0 : Int32)
set_option maxHeartbeats 4000000 in
theorem E54_J31 {X : rn_X} {N sl : Nat} {S : rn_T} {M : rn_T} {u1 : Int32} {u2 : Int32} {u3 : Int32} {u4 : Int32} {u5 : Int32} {t1 : Int32} {t2 : Int32} {R : (rn_T)} (h : f54_J31 M u1 u2 u3 u4 u5 t1 t2 = some R) : rn_rv X 54 (31, [(0, .ref 318), (1, .int u1), (2, .int u2), (3, .int u3), (4, .int u4), (5, .int u5)], [.int t2, .int t1, .ref 323], N, sl, rn_hp S M) (none, N, sl, rn_hp S R) := by
  have qm := rn_m54
  unfold f54_J31 at h
  have c6 : ¬ (rn_ob t1 101) := fun c => by rw [if_pos c] at h; cases h
  rw [if_neg c6] at h
  refine rn_e1 qm (s2 := (32, [(0, .ref 318), (1, .int u1), (2, .int u2), (3, .int u3), (4, .int u4), (5, .int u5)], [], N, sl, rn_hp S (wA M 323 (Int32.toNatClampNeg t1) t2))) (rn_g_iast (n := 101) rfl rfl (ar_m10 rfl rfl (Nat.le_of_ble_eq_true rfl)) c6 (aw_m10 rfl rfl (Nat.le_of_ble_eq_true rfl))) ?_
  refine rn_eg qm 5 (s2 := (37, [(0, .ref 318), (1, .int u1), (2, .int u2), (3, .int u3), (4, .int u4), (5, .int u5)], [.int u4, .int (rI (wA M 323 (Int32.toNatClampNeg t1) t2) 318 10), .ref 324], N, sl, rn_hp S (wA M 323 (Int32.toNatClampNeg t1) t2))) rfl ?_
  have c7 : ¬ (rn_ob (rI (wA M 323 (Int32.toNatClampNeg t1) t2) 318 10) 101) := fun c => by rw [if_pos c] at h; cases h
  rw [if_neg c7] at h
  refine rn_e1 qm (s2 := (38, [(0, .ref 318), (1, .int u1), (2, .int u2), (3, .int u3), (4, .int u4), (5, .int u5)], [], N, sl, rn_hp S (wA (wA M 323 (Int32.toNatClampNeg t1) t2) 324 (Int32.toNatClampNeg (rI (wA M 323 (Int32.toNatClampNeg t1) t2) 318 10)) u4))) (rn_g_iast (n := 101) rfl rfl (ar_m10 rfl rfl (Nat.le_of_ble_eq_true rfl)) c7 (aw_m10 rfl rfl (Nat.le_of_ble_eq_true rfl))) ?_
  refine rn_eg qm 5 (s2 := (43, [(0, .ref 318), (1, .int u1), (2, .int u2), (3, .int u3), (4, .int u4), (5, .int u5)], [.int (0 : Int32), .int (rI (wA (wA M 323 (Int32.toNatClampNeg t1) t2) 324 (Int32.toNatClampNeg (rI (wA M 323 (Int32.toNatClampNeg t1) t2) 318 10)) u4) 318 10), .ref 326], N, sl, rn_hp S (wA (wA M 323 (Int32.toNatClampNeg t1) t2) 324 (Int32.toNatClampNeg (rI (wA M 323 (Int32.toNatClampNeg t1) t2) 318 10)) u4))) rfl ?_
  have c8 : ¬ (rn_ob (rI (wA (wA M 323 (Int32.toNatClampNeg t1) t2) 324 (Int32.toNatClampNeg (rI (wA M 323 (Int32.toNatClampNeg t1) t2) 318 10)) u4) 318 10) 101) := fun c => by rw [if_pos c] at h; cases h
  rw [if_neg c8] at h
  refine rn_e1 qm (s2 := (44, [(0, .ref 318), (1, .int u1), (2, .int u2), (3, .int u3), (4, .int u4), (5, .int u5)], [], N, sl, rn_hp S (wA (wA (wA M 323 (Int32.toNatClampNeg t1) t2) 324 (Int32.toNatClampNeg (rI (wA M 323 (Int32.toNatClampNeg t1) t2) 318 10)) u4) 326 (Int32.toNatClampNeg (rI (wA (wA M 323 (Int32.toNatClampNeg t1) t2) 324 (Int32.toNatClampNeg (rI (wA M 323 (Int32.toNatClampNeg t1) t2) 318 10)) u4) 318 10)) (0 : Int32)))) (rn_g_iast (n := 101) rfl rfl (ar_m10 rfl rfl (Nat.le_of_ble_eq_true rfl)) c8 (aw_m10 rfl rfl (Nat.le_of_ble_eq_true rfl))) ?_
  refine rn_eg qm 6 (s2 := ((if 0 ≤ u4 then 52 else 50), [(0, .ref 318), (1, .int u1), (2, .int u2), (3, .int u3), (4, .int u4), (5, .int u5)], [.int (rI (wA (wA (wA M 323 (Int32.toNatClampNeg t1) t2) 324 (Int32.toNatClampNeg (rI (wA M 323 (Int32.toNatClampNeg t1) t2) 318 10)) u4) 326 (Int32.toNatClampNeg (rI (wA (wA M 323 (Int32.toNatClampNeg t1) t2) 324 (Int32.toNatClampNeg (rI (wA M 323 (Int32.toNatClampNeg t1) t2) 318 10)) u4) 318 10)) (0 : Int32)) 318 10), .ref 325], N, sl, rn_hp S (wA (wA (wA M 323 (Int32.toNatClampNeg t1) t2) 324 (Int32.toNatClampNeg (rI (wA M 323 (Int32.toNatClampNeg t1) t2) 318 10)) u4) 326 (Int32.toNatClampNeg (rI (wA (wA M 323 (Int32.toNatClampNeg t1) t2) 324 (Int32.toNatClampNeg (rI (wA M 323 (Int32.toNatClampNeg t1) t2) 318 10)) u4) 318 10)) (0 : Int32)))) rfl ?_
  refine rn_ite (fun c9 => ?_) (fun c9 => ?_)
  · rw [if_pos c9] at h
    refine rn_eg qm 3 (s2 := (55, [(0, .ref 318), (1, .int u1), (2, .int u2), (3, .int u3), (4, .int u4), (5, .int u5)], [.int u4, .ref 326, .int (rI (wA (wA (wA M 323 (Int32.toNatClampNeg t1) t2) 324 (Int32.toNatClampNeg (rI (wA M 323 (Int32.toNatClampNeg t1) t2) 318 10)) u4) 326 (Int32.toNatClampNeg (rI (wA (wA M 323 (Int32.toNatClampNeg t1) t2) 324 (Int32.toNatClampNeg (rI (wA M 323 (Int32.toNatClampNeg t1) t2) 318 10)) u4) 318 10)) (0 : Int32)) 318 10), .ref 325], N, sl, rn_hp S (wA (wA (wA M 323 (Int32.toNatClampNeg t1) t2) 324 (Int32.toNatClampNeg (rI (wA M 323 (Int32.toNatClampNeg t1) t2) 318 10)) u4) 326 (Int32.toNatClampNeg (rI (wA (wA M 323 (Int32.toNatClampNeg t1) t2) 324 (Int32.toNatClampNeg (rI (wA M 323 (Int32.toNatClampNeg t1) t2) 318 10)) u4) 318 10)) (0 : Int32)))) rfl ?_
    have c10 : ¬ (rn_ob u4 101) := fun c => by rw [if_pos c] at h; cases h
    rw [if_neg c10] at h
    refine rn_e1 qm (s2 := (56, [(0, .ref 318), (1, .int u1), (2, .int u2), (3, .int u3), (4, .int u4), (5, .int u5)], [.int (rA (wA (wA (wA M 323 (Int32.toNatClampNeg t1) t2) 324 (Int32.toNatClampNeg (rI (wA M 323 (Int32.toNatClampNeg t1) t2) 318 10)) u4) 326 (Int32.toNatClampNeg (rI (wA (wA M 323 (Int32.toNatClampNeg t1) t2) 324 (Int32.toNatClampNeg (rI (wA M 323 (Int32.toNatClampNeg t1) t2) 318 10)) u4) 318 10)) (0 : Int32)) 326 (Int32.toNatClampNeg u4)), .int (rI (wA (wA (wA M 323 (Int32.toNatClampNeg t1) t2) 324 (Int32.toNatClampNeg (rI (wA M 323 (Int32.toNatClampNeg t1) t2) 318 10)) u4) 326 (Int32.toNatClampNeg (rI (wA (wA M 323 (Int32.toNatClampNeg t1) t2) 324 (Int32.toNatClampNeg (rI (wA M 323 (Int32.toNatClampNeg t1) t2) 318 10)) u4) 318 10)) (0 : Int32)) 318 10), .ref 325], N, sl, rn_hp S (wA (wA (wA M 323 (Int32.toNatClampNeg t1) t2) 324 (Int32.toNatClampNeg (rI (wA M 323 (Int32.toNatClampNeg t1) t2) 318 10)) u4) 326 (Int32.toNatClampNeg (rI (wA (wA M 323 (Int32.toNatClampNeg t1) t2) 324 (Int32.toNatClampNeg (rI (wA M 323 (Int32.toNatClampNeg t1) t2) 318 10)) u4) 318 10)) (0 : Int32)))) (rn_g_iald (n := 101) rfl rfl (ar_m10 rfl rfl (Nat.le_of_ble_eq_true rfl)) c10) ?_
    refine rn_kq qm (s2 := (56, [(0, .ref 318), (1, .int u1), (2, .int u2), (3, .int u3), (4, .int u4), (5, .int u5)], [.int (rA (wA (wA (wA M 323 (Int32.toNatClampNeg t1) t2) 324 (Int32.toNatClampNeg (rI (wA M 323 (Int32.toNatClampNeg t1) t2) 318 10)) u4) 326 (Int32.toNatClampNeg (rI (wA (wA M 323 (Int32.toNatClampNeg t1) t2) 324 (Int32.toNatClampNeg (rI (wA M 323 (Int32.toNatClampNeg t1) t2) 318 10)) u4) 318 10)) (0 : Int32)) 326 (Int32.toNatClampNeg u4)), .int (rI (wA (wA (wA M 323 (Int32.toNatClampNeg t1) t2) 324 (Int32.toNatClampNeg (rI (wA M 323 (Int32.toNatClampNeg t1) t2) 318 10)) u4) 326 (Int32.toNatClampNeg (rI (wA (wA M 323 (Int32.toNatClampNeg t1) t2) 324 (Int32.toNatClampNeg (rI (wA M 323 (Int32.toNatClampNeg t1) t2) 318 10)) u4) 318 10)) (0 : Int32)) 318 10), .ref 325], N, sl, rn_hp S (wA (wA (wA M 323 (Int32.toNatClampNeg t1) t2) 324 (Int32.toNatClampNeg (rI (wA M 323 (Int32.toNatClampNeg t1) t2) 318 10)) u4) 326 (Int32.toNatClampNeg (rI (wA (wA M 323 (Int32.toNatClampNeg t1) t2) 324 (Int32.toNatClampNeg (rI (wA M 323 (Int32.toNatClampNeg t1) t2) 318 10)) u4) 318 10)) (0 : Int32)))) rfl rfl ?_
    exact E54_J56 h
  · rw [if_neg c9] at h
    refine rn_eg qm 2 (s2 := (56, [(0, .ref 318), (1, .int u1), (2, .int u2), (3, .int u3), (4, .int u4), (5, .int u5)], [.int (0 : Int32), .int (rI (wA (wA (wA M 323 (Int32.toNatClampNeg t1) t2) 324 (Int32.toNatClampNeg (rI (wA M 323 (Int32.toNatClampNeg t1) t2) 318 10)) u4) 326 (Int32.toNatClampNeg (rI (wA (wA M 323 (Int32.toNatClampNeg t1) t2) 324 (Int32.toNatClampNeg (rI (wA M 323 (Int32.toNatClampNeg t1) t2) 318 10)) u4) 318 10)) (0 : Int32)) 318 10), .ref 325], N, sl, rn_hp S (wA (wA (wA M 323 (Int32.toNatClampNeg t1) t2) 324 (Int32.toNatClampNeg (rI (wA M 323 (Int32.toNatClampNeg t1) t2) 318 10)) u4) 326 (Int32.toNatClampNeg (rI (wA (wA M 323 (Int32.toNatClampNeg t1) t2) 324 (Int32.toNatClampNeg (rI (wA M 323 (Int32.toNatClampNeg t1) t2) 318 10)) u4) 318 10)) (0 : Int32)))) rfl ?_
    refine rn_kq qm (s2 := (56, [(0, .ref 318), (1, .int u1), (2, .int u2), (3, .int u3), (4, .int u4), (5, .int u5)], [.int (0 : Int32), .int (rI (wA (wA (wA M 323 (Int32.toNatClampNeg t1) t2) 324 (Int32.toNatClampNeg (rI (wA M 323 (Int32.toNatClampNeg t1) t2) 318 10)) u4) 326 (Int32.toNatClampNeg (rI (wA (wA M 323 (Int32.toNatClampNeg t1) t2) 324 (Int32.toNatClampNeg (rI (wA M 323 (Int32.toNatClampNeg t1) t2) 318 10)) u4) 318 10)) (0 : Int32)) 318 10), .ref 325], N, sl, rn_hp S (wA (wA (wA M 323 (Int32.toNatClampNeg t1) t2) 324 (Int32.toNatClampNeg (rI (wA M 323 (Int32.toNatClampNeg t1) t2) 318 10)) u4) 326 (Int32.toNatClampNeg (rI (wA (wA M 323 (Int32.toNatClampNeg t1) t2) 324 (Int32.toNatClampNeg (rI (wA M 323 (Int32.toNatClampNeg t1) t2) 318 10)) u4) 318 10)) (0 : Int32)))) rfl rfl ?_
    exact E54_J56 h
def f54 (M : rn_T) (a1 : Int32) (a2 : Int32) (a3 : Int32) (a4 : Int32) : Option (rn_T) :=
  Option.bind (f33 M a1 a2) fun p1 =>
    if rn_ob (rI M 318 10) 101 then none else
      if p1 = (101 : Int32) then
        Option.bind (f33 (wA M 322 (Int32.toNatClampNeg (rI M 318 10)) (f52 p1)) a1 (a2 + (1 : Int32))) fun p5 =>
          f54_J31 (wA M 322 (Int32.toNatClampNeg (rI M 318 10)) (f52 p1)) a1 a2 a3 a4 p1 (rI (wA M 322 (Int32.toNatClampNeg (rI M 318 10)) (f52 p1)) 318 10) (p5 - (48 : Int32))
      else
        f54_J31 (wA M 322 (Int32.toNatClampNeg (rI M 318 10)) (f52 p1)) a1 a2 a3 a4 p1 (rI (wA M 322 (Int32.toNatClampNeg (rI M 318 10)) (f52 p1)) 318 10) (p1 - (48 : Int32))
set_option maxHeartbeats 4000000 in
theorem E54 {X : rn_X} {N sl : Nat} {S M : rn_T} {a1 : Int32} {a2 : Int32} {a3 : Int32} {a4 : Int32} {R : (rn_T)} (h : f54 M a1 a2 a3 a4 = some R) : rn_rv X 54 (0, [(0, .ref 318), (1, .int a1), (2, .int a2), (3, .int a3), (4, .int a4)], [], N, sl, rn_hp S M) (none, N, sl, rn_hp S R) := by
  have qm := rn_m54
  unfold f54 at h
  refine rn_eg qm 3 (s2 := (3, [(0, .ref 318), (1, .int a1), (2, .int a2), (3, .int a3), (4, .int a4)], [.int a2, .int a1, .ref 318], N, sl, rn_hp S M)) rfl ?_
  obtain ⟨p1, hp1, h⟩ := Option.bind_eq_some_iff.mp h
  refine rn_ec qm rfl rfl rfl rfl rn_m33 rfl rfl rfl (fun _ => rn_rc_of (en_9 (q := 318) rfl)) (E33 hp1) ?_
  refine rn_eg qm 0 (s2 := (4, [(0, .ref 318), (1, .int a1), (2, .int a2), (3, .int a3), (4, .int a4)], [.int p1], N, sl, rn_hp S M)) rfl ?_
  refine rn_eg qm 6 (s2 := (10, [(5, .int p1), (0, .ref 318), (1, .int a1), (2, .int a2), (3, .int a3), (4, .int a4)], [.int p1, .int (rI M 318 10), .ref 322], N, sl, rn_hp S M)) rfl ?_
  refine rn_ec qm rfl rfl rfl rfl rn_m52 rfl rfl rfl (fun h => by cases h) (E52 rfl) ?_
  refine rn_eg qm 0 (s2 := (11, [(5, .int p1), (0, .ref 318), (1, .int a1), (2, .int a2), (3, .int a3), (4, .int a4)], [.int (f52 p1), .int (rI M 318 10), .ref 322], N, sl, rn_hp S M)) rfl ?_
  have c3 : ¬ (rn_ob (rI M 318 10) 101) := fun c => by rw [if_pos c] at h; cases h
  rw [if_neg c3] at h
  refine rn_e1 qm (s2 := (12, [(5, .int p1), (0, .ref 318), (1, .int a1), (2, .int a2), (3, .int a3), (4, .int a4)], [], N, sl, rn_hp S (wA M 322 (Int32.toNatClampNeg (rI M 318 10)) (f52 p1)))) (rn_g_iast (n := 101) rfl rfl (ar_m10 rfl rfl (Nat.le_of_ble_eq_true rfl)) c3 (aw_m10 rfl rfl (Nat.le_of_ble_eq_true rfl))) ?_
  refine rn_eg qm 7 (s2 := ((if p1 = (101 : Int32) then 19 else 28), [(5, .int p1), (0, .ref 318), (1, .int a1), (2, .int a2), (3, .int a3), (4, .int a4)], [.int (rI (wA M 322 (Int32.toNatClampNeg (rI M 318 10)) (f52 p1)) 318 10), .ref 323], N, sl, rn_hp S (wA M 322 (Int32.toNatClampNeg (rI M 318 10)) (f52 p1)))) rfl ?_
  refine rn_ite (fun c4 => ?_) (fun c4 => ?_)
  · rw [if_pos c4] at h
    refine rn_eg qm 5 (s2 := (24, [(5, .int p1), (0, .ref 318), (1, .int a1), (2, .int a2), (3, .int a3), (4, .int a4)], [.int (a2 + (1 : Int32)), .int a1, .ref 318, .int (rI (wA M 322 (Int32.toNatClampNeg (rI M 318 10)) (f52 p1)) 318 10), .ref 323], N, sl, rn_hp S (wA M 322 (Int32.toNatClampNeg (rI M 318 10)) (f52 p1)))) rfl ?_
    obtain ⟨p5, hp5, h⟩ := Option.bind_eq_some_iff.mp h
    refine rn_ec qm rfl rfl rfl rfl rn_m33 rfl rfl rfl (fun _ => rn_rc_of (en_9 (q := 318) rfl)) (E33 hp5) ?_
    refine rn_eg qm 0 (s2 := (25, [(5, .int p1), (0, .ref 318), (1, .int a1), (2, .int a2), (3, .int a3), (4, .int a4)], [.int p5, .int (rI (wA M 322 (Int32.toNatClampNeg (rI M 318 10)) (f52 p1)) 318 10), .ref 323], N, sl, rn_hp S (wA M 322 (Int32.toNatClampNeg (rI M 318 10)) (f52 p1)))) rfl ?_
    refine rn_eg qm 3 (s2 := (31, [(5, .int p1), (0, .ref 318), (1, .int a1), (2, .int a2), (3, .int a3), (4, .int a4)], [.int (p5 - (48 : Int32)), .int (rI (wA M 322 (Int32.toNatClampNeg (rI M 318 10)) (f52 p1)) 318 10), .ref 323], N, sl, rn_hp S (wA M 322 (Int32.toNatClampNeg (rI M 318 10)) (f52 p1)))) rfl ?_
    refine rn_kq qm (s2 := (31, [(0, .ref 318), (1, .int a1), (2, .int a2), (3, .int a3), (4, .int a4), (5, .int p1)], [.int (p5 - (48 : Int32)), .int (rI (wA M 322 (Int32.toNatClampNeg (rI M 318 10)) (f52 p1)) 318 10), .ref 323], N, sl, rn_hp S (wA M 322 (Int32.toNatClampNeg (rI M 318 10)) (f52 p1)))) rfl rfl ?_
    exact E54_J31 h
  · rw [if_neg c4] at h
    refine rn_eg qm 3 (s2 := (31, [(5, .int p1), (0, .ref 318), (1, .int a1), (2, .int a2), (3, .int a3), (4, .int a4)], [.int (p1 - (48 : Int32)), .int (rI (wA M 322 (Int32.toNatClampNeg (rI M 318 10)) (f52 p1)) 318 10), .ref 323], N, sl, rn_hp S (wA M 322 (Int32.toNatClampNeg (rI M 318 10)) (f52 p1)))) rfl ?_
    refine rn_kq qm (s2 := (31, [(0, .ref 318), (1, .int a1), (2, .int a2), (3, .int a3), (4, .int a4), (5, .int p1)], [.int (p1 - (48 : Int32)), .int (rI (wA M 322 (Int32.toNatClampNeg (rI M 318 10)) (f52 p1)) 318 10), .ref 323], N, sl, rn_hp S (wA M 322 (Int32.toNatClampNeg (rI M 318 10)) (f52 p1)))) rfl rfl ?_
    exact E54_J31 h
/-! 55: RecordNichesModel.openOne()V -/
def f55_J47 (M : rn_T) (u1 : Int32) (u2 : Int32) (u3 : Int32) (u4 : Int32) (u5 : Int32) (t1 : Int32) (t2 : Int32) : Option (rn_T) :=
  if u5 = (120 : Int32) then
    if rn_ob u3 520 then none else
      Option.bind (f50 (wI M 318 20 (t1 + t2)) (rA (wI M 318 20 (t1 + t2)) 331 (Int32.toNatClampNeg u3)) (rA (wI M 318 20 (t1 + t2)) 332 (Int32.toNatClampNeg u3)) (rA (wI M 318 20 (t1 + t2)) 333 (Int32.toNatClampNeg u3)) u4) fun p6 =>
        some (p6)
  else
    if (f37 (wI M 318 20 (t1 + t2)) u5) = true then
      Option.bind (f36 (wI M 318 20 (t1 + t2)) (u5 - (65 : Int32))) fun p10 =>
        if p10 = true then
          Option.bind (f51 (wI M 318 20 (t1 + t2)) u1 (u2 + (1 : Int32)) u3) fun p13 =>
            Option.bind (f50 p13.2 (u5 - (65 : Int32)) (0 : Int32) p13.1 u4) fun p14 =>
              some (p14)
        else
          Option.bind (f50 (wI M 318 20 (t1 + t2)) (u5 - (65 : Int32)) (0 : Int32) (-6 : Int32) u4) fun p12 =>
            some (p12)
    else
      Option.bind (f54 (wI M 318 20 (t1 + t2)) u1 u2 u3 u4) fun p9 =>
        some (p9)
set_option maxHeartbeats 4000000 in
theorem E55_J47 {X : rn_X} {N sl : Nat} {S : rn_T} {M : rn_T} {u1 : Int32} {u2 : Int32} {u3 : Int32} {u4 : Int32} {u5 : Int32} {t1 : Int32} {t2 : Int32} {R : (rn_T)} (h : f55_J47 M u1 u2 u3 u4 u5 t1 t2 = some R) : rn_rv X 55 (47, [(0, .ref 318), (1, .int u1), (2, .int u2), (3, .int u3), (4, .int u4), (5, .int u5)], [.int t2, .int t1, .ref 318], N, sl, rn_hp S M) (none, N, sl, rn_hp S R) := by
  have qm := rn_m55
  unfold f55_J47 at h
  refine rn_eg qm 1 (s2 := (48, [(0, .ref 318), (1, .int u1), (2, .int u2), (3, .int u3), (4, .int u4), (5, .int u5)], [.int (t1 + t2), .ref 318], N, sl, rn_hp S M)) rfl ?_
  refine rn_e1 qm (s2 := (49, [(0, .ref 318), (1, .int u1), (2, .int u2), (3, .int u3), (4, .int u4), (5, .int u5)], [], N, sl, rn_hp S (wI M 318 20 (t1 + t2)))) (rn_g_putf rfl rfl (en_9 rfl) rfl rfl rfl (wf_9_20 (v := (t1 + t2)) rfl)) ?_
  refine rn_eg qm 3 (s2 := ((if u5 = (120 : Int32) then 52 else 68), [(0, .ref 318), (1, .int u1), (2, .int u2), (3, .int u3), (4, .int u4), (5, .int u5)], [], N, sl, rn_hp S (wI M 318 20 (t1 + t2)))) rfl ?_
  refine rn_ite (fun c4 => ?_) (fun c4 => ?_)
  · rw [if_pos c4] at h
    refine rn_eg qm 4 (s2 := (56, [(0, .ref 318), (1, .int u1), (2, .int u2), (3, .int u3), (4, .int u4), (5, .int u5)], [.int u3, .ref 331, .ref 318], N, sl, rn_hp S (wI M 318 20 (t1 + t2)))) rfl ?_
    have c5 : ¬ (rn_ob u3 520) := fun c => by rw [if_pos c] at h; cases h
    rw [if_neg c5] at h
    refine rn_e1 qm (s2 := (57, [(0, .ref 318), (1, .int u1), (2, .int u2), (3, .int u3), (4, .int u4), (5, .int u5)], [.int (rA (wI M 318 20 (t1 + t2)) 331 (Int32.toNatClampNeg u3)), .ref 318], N, sl, rn_hp S (wI M 318 20 (t1 + t2)))) (rn_g_iald (n := 520) rfl rfl (ar_m10 rfl rfl (Nat.le_of_ble_eq_true rfl)) c5) ?_
    refine rn_eg qm 3 (s2 := (60, [(0, .ref 318), (1, .int u1), (2, .int u2), (3, .int u3), (4, .int u4), (5, .int u5)], [.int u3, .ref 332, .int (rA (wI M 318 20 (t1 + t2)) 331 (Int32.toNatClampNeg u3)), .ref 318], N, sl, rn_hp S (wI M 318 20 (t1 + t2)))) rfl ?_
    refine rn_e1 qm (s2 := (61, [(0, .ref 318), (1, .int u1), (2, .int u2), (3, .int u3), (4, .int u4), (5, .int u5)], [.int (rA (wI M 318 20 (t1 + t2)) 332 (Int32.toNatClampNeg u3)), .int (rA (wI M 318 20 (t1 + t2)) 331 (Int32.toNatClampNeg u3)), .ref 318], N, sl, rn_hp S (wI M 318 20 (t1 + t2)))) (rn_g_iald (n := 520) rfl rfl (ar_m10 rfl rfl (Nat.le_of_ble_eq_true rfl)) c5) ?_
    refine rn_eg qm 3 (s2 := (64, [(0, .ref 318), (1, .int u1), (2, .int u2), (3, .int u3), (4, .int u4), (5, .int u5)], [.int u3, .ref 333, .int (rA (wI M 318 20 (t1 + t2)) 332 (Int32.toNatClampNeg u3)), .int (rA (wI M 318 20 (t1 + t2)) 331 (Int32.toNatClampNeg u3)), .ref 318], N, sl, rn_hp S (wI M 318 20 (t1 + t2)))) rfl ?_
    refine rn_e1 qm (s2 := (65, [(0, .ref 318), (1, .int u1), (2, .int u2), (3, .int u3), (4, .int u4), (5, .int u5)], [.int (rA (wI M 318 20 (t1 + t2)) 333 (Int32.toNatClampNeg u3)), .int (rA (wI M 318 20 (t1 + t2)) 332 (Int32.toNatClampNeg u3)), .int (rA (wI M 318 20 (t1 + t2)) 331 (Int32.toNatClampNeg u3)), .ref 318], N, sl, rn_hp S (wI M 318 20 (t1 + t2)))) (rn_g_iald (n := 520) rfl rfl (ar_m10 rfl rfl (Nat.le_of_ble_eq_true rfl)) c5) ?_
    refine rn_eg qm 1 (s2 := (66, [(0, .ref 318), (1, .int u1), (2, .int u2), (3, .int u3), (4, .int u4), (5, .int u5)], [.int u4, .int (rA (wI M 318 20 (t1 + t2)) 333 (Int32.toNatClampNeg u3)), .int (rA (wI M 318 20 (t1 + t2)) 332 (Int32.toNatClampNeg u3)), .int (rA (wI M 318 20 (t1 + t2)) 331 (Int32.toNatClampNeg u3)), .ref 318], N, sl, rn_hp S (wI M 318 20 (t1 + t2)))) rfl ?_
    obtain ⟨p6, hp6, h⟩ := Option.bind_eq_some_iff.mp h
    refine rn_ec qm rfl rfl rfl rfl rn_m50 rfl rfl rfl (fun _ => rn_rc_of (en_9 (q := 318) rfl)) (E50 hp6) ?_
    refine rn_eg qm 0 (s2 := (67, [(0, .ref 318), (1, .int u1), (2, .int u2), (3, .int u3), (4, .int u4), (5, .int u5)], [], N, sl, rn_hp S p6)) rfl ?_
    refine rn_eg qm 1 (s2 := (100, [(0, .ref 318), (1, .int u1), (2, .int u2), (3, .int u3), (4, .int u4), (5, .int u5)], [], N, sl, rn_hp S p6)) rfl ?_
    cases h
    exact rn_er qm rfl rfl rfl
  · rw [if_neg c4] at h
    refine rn_eg qm 1 (s2 := (69, [(0, .ref 318), (1, .int u1), (2, .int u2), (3, .int u3), (4, .int u4), (5, .int u5)], [.int u5], N, sl, rn_hp S (wI M 318 20 (t1 + t2)))) rfl ?_
    refine rn_ec qm rfl rfl rfl rfl rn_m37 rfl rfl rfl (fun h => by cases h) (E37 rfl) ?_
    refine rn_eg qm 0 (s2 := (70, [(0, .ref 318), (1, .int u1), (2, .int u2), (3, .int u3), (4, .int u4), (5, .int u5)], [.int (rn_bi (f37 (wI M 318 20 (t1 + t2)) u5))], N, sl, rn_hp S (wI M 318 20 (t1 + t2)))) rfl ?_
    refine rn_eg qm 1 (s2 := ((if (rn_bi (f37 (wI M 318 20 (t1 + t2)) u5)) = 0 then 94 else 71), [(0, .ref 318), (1, .int u1), (2, .int u2), (3, .int u3), (4, .int u4), (5, .int u5)], [], N, sl, rn_hp S (wI M 318 20 (t1 + t2)))) rfl ?_
    refine rn_iteb (fun c8 => ?_) (fun c8 => ?_)
    · rw [if_neg (rn_bf c8)] at h
      refine rn_eg qm 5 (s2 := (99, [(0, .ref 318), (1, .int u1), (2, .int u2), (3, .int u3), (4, .int u4), (5, .int u5)], [.int u4, .int u3, .int u2, .int u1, .ref 318], N, sl, rn_hp S (wI M 318 20 (t1 + t2)))) rfl ?_
      obtain ⟨p9, hp9, h⟩ := Option.bind_eq_some_iff.mp h
      refine rn_ec qm rfl rfl rfl rfl rn_m54 rfl rfl rfl (fun _ => rn_rc_of (en_9 (q := 318) rfl)) (E54 hp9) ?_
      refine rn_eg qm 0 (s2 := (100, [(0, .ref 318), (1, .int u1), (2, .int u2), (3, .int u3), (4, .int u4), (5, .int u5)], [], N, sl, rn_hp S p9)) rfl ?_
      cases h
      exact rn_er qm rfl rfl rfl
    · rw [if_pos c8] at h
      refine rn_eg qm 9 (s2 := (80, [(0, .ref 318), (1, .int u1), (2, .int u2), (3, .int u3), (4, .int u4), (5, .int u5)], [.int (u5 - (65 : Int32)), .ref 318, .int (0 : Int32), .int (u5 - (65 : Int32)), .ref 318], N, sl, rn_hp S (wI M 318 20 (t1 + t2)))) rfl ?_
      obtain ⟨p10, hp10, h⟩ := Option.bind_eq_some_iff.mp h
      refine rn_ec qm rfl rfl rfl rfl rn_m36 rfl rfl rfl (fun _ => rn_rc_of (en_9 (q := 318) rfl)) (E36 hp10) ?_
      refine rn_eg qm 0 (s2 := (81, [(0, .ref 318), (1, .int u1), (2, .int u2), (3, .int u3), (4, .int u4), (5, .int u5)], [.int (rn_bi p10), .int (0 : Int32), .int (u5 - (65 : Int32)), .ref 318], N, sl, rn_hp S (wI M 318 20 (t1 + t2)))) rfl ?_
      refine rn_eg qm 1 (s2 := ((if (rn_bi p10) = 0 then 90 else 82), [(0, .ref 318), (1, .int u1), (2, .int u2), (3, .int u3), (4, .int u4), (5, .int u5)], [.int (0 : Int32), .int (u5 - (65 : Int32)), .ref 318], N, sl, rn_hp S (wI M 318 20 (t1 + t2)))) rfl ?_
      refine rn_iteb (fun c11 => ?_) (fun c11 => ?_)
      · rw [if_neg (rn_bf c11)] at h
        refine rn_eg qm 2 (s2 := (92, [(4, .int u4)], [.int u4, .int (-6 : Int32), .int (0 : Int32), .int (u5 - (65 : Int32)), .ref 318], N, sl, rn_hp S (wI M 318 20 (t1 + t2)))) rfl ?_
        obtain ⟨p12, hp12, h⟩ := Option.bind_eq_some_iff.mp h
        refine rn_ec qm rfl rfl rfl rfl rn_m50 rfl rfl rfl (fun _ => rn_rc_of (en_9 (q := 318) rfl)) (E50 hp12) ?_
        refine rn_eg qm 0 (s2 := (93, [(4, .int u4)], [], N, sl, rn_hp S p12)) rfl ?_
        refine rn_eg qm 1 (s2 := (100, [(4, .int u4)], [], N, sl, rn_hp S p12)) rfl ?_
        cases h
        exact rn_er qm rfl rfl rfl
      · rw [if_pos c11] at h
        refine rn_eg qm 6 (s2 := (88, [(0, .ref 318), (1, .int u1), (2, .int u2), (3, .int u3), (4, .int u4), (5, .int u5)], [.int u3, .int (u2 + (1 : Int32)), .int u1, .ref 318, .int (0 : Int32), .int (u5 - (65 : Int32)), .ref 318], N, sl, rn_hp S (wI M 318 20 (t1 + t2)))) rfl ?_
        obtain ⟨p13, hp13, h⟩ := Option.bind_eq_some_iff.mp h
        refine rn_ec qm rfl rfl rfl rfl rn_m51 rfl rfl rfl (fun _ => rn_rc_of (en_9 (q := 318) rfl)) (E51 hp13) ?_
        refine rn_eg qm 0 (s2 := (89, [(0, .ref 318), (1, .int u1), (2, .int u2), (3, .int u3), (4, .int u4), (5, .int u5)], [.int p13.1, .int (0 : Int32), .int (u5 - (65 : Int32)), .ref 318], N, sl, rn_hp S p13.2)) rfl ?_
        refine rn_eg qm 2 (s2 := (92, [(4, .int u4)], [.int u4, .int p13.1, .int (0 : Int32), .int (u5 - (65 : Int32)), .ref 318], N, sl, rn_hp S p13.2)) rfl ?_
        obtain ⟨p14, hp14, h⟩ := Option.bind_eq_some_iff.mp h
        refine rn_ec qm rfl rfl rfl rfl rn_m50 rfl rfl rfl (fun _ => rn_rc_of (en_9 (q := 318) rfl)) (E50 hp14) ?_
        refine rn_eg qm 0 (s2 := (93, [(4, .int u4)], [], N, sl, rn_hp S p14)) rfl ?_
        refine rn_eg qm 1 (s2 := (100, [(4, .int u4)], [], N, sl, rn_hp S p14)) rfl ?_
        cases h
        exact rn_er qm rfl rfl rfl
def f55_J44 (M : rn_T) (u1 : Int32) (u2 : Int32) (u3 : Int32) (u4 : Int32) (u5 : Int32) (t1 : Int32) : Option (rn_T) :=
  f55_J47 M u1 u2 u3 u4 u5 t1 (1 : Int32)
set_option maxHeartbeats 4000000 in
theorem E55_J44 {X : rn_X} {N sl : Nat} {S : rn_T} {M : rn_T} {u1 : Int32} {u2 : Int32} {u3 : Int32} {u4 : Int32} {u5 : Int32} {t1 : Int32} {R : (rn_T)} (h : f55_J44 M u1 u2 u3 u4 u5 t1 = some R) : rn_rv X 55 (44, [(0, .ref 318), (1, .int u1), (2, .int u2), (3, .int u3), (4, .int u4), (5, .int u5)], [.int t1, .ref 318], N, sl, rn_hp S M) (none, N, sl, rn_hp S R) := by
  have qm := rn_m55
  unfold f55_J44 at h
  refine rn_eg qm 2 (s2 := (47, [(0, .ref 318), (1, .int u1), (2, .int u2), (3, .int u3), (4, .int u4), (5, .int u5)], [.int (1 : Int32), .int t1, .ref 318], N, sl, rn_hp S M)) rfl ?_
  refine rn_kq qm (s2 := (47, [(0, .ref 318), (1, .int u1), (2, .int u2), (3, .int u3), (4, .int u4), (5, .int u5)], [.int (1 : Int32), .int t1, .ref 318], N, sl, rn_hp S M)) rfl rfl ?_
  exact E55_J47 h
def f55 (M : rn_T) : Option (rn_T) :=
  if rn_ob (rI (wI M 318 15 ((rI M 318 15) - (1 : Int32))) 318 15) 640 then none else
    Option.bind (f33 (wI M 318 15 ((rI M 318 15) - (1 : Int32))) (rA (wI M 318 15 ((rI M 318 15) - (1 : Int32))) 327 (Int32.toNatClampNeg (rI (wI M 318 15 ((rI M 318 15) - (1 : Int32))) 318 15))) (rA (wI M 318 15 ((rI M 318 15) - (1 : Int32))) 328 (Int32.toNatClampNeg (rI (wI M 318 15 ((rI M 318 15) - (1 : Int32))) 318 15)))) fun p2 =>
      if p2 = (120 : Int32) then
        f55_J44 (wI M 318 15 ((rI M 318 15) - (1 : Int32))) (rA (wI M 318 15 ((rI M 318 15) - (1 : Int32))) 327 (Int32.toNatClampNeg (rI (wI M 318 15 ((rI M 318 15) - (1 : Int32))) 318 15))) (rA (wI M 318 15 ((rI M 318 15) - (1 : Int32))) 328 (Int32.toNatClampNeg (rI (wI M 318 15 ((rI M 318 15) - (1 : Int32))) 318 15))) (rA (wI M 318 15 ((rI M 318 15) - (1 : Int32))) 329 (Int32.toNatClampNeg (rI (wI M 318 15 ((rI M 318 15) - (1 : Int32))) 318 15))) (rA (wI M 318 15 ((rI M 318 15) - (1 : Int32))) 330 (Int32.toNatClampNeg (rI (wI M 318 15 ((rI M 318 15) - (1 : Int32))) 318 15))) p2 (rI (wI M 318 15 ((rI M 318 15) - (1 : Int32))) 318 20)
      else
        if (f37 (wI M 318 15 ((rI M 318 15) - (1 : Int32))) p2) = true then
          f55_J44 (wI M 318 15 ((rI M 318 15) - (1 : Int32))) (rA (wI M 318 15 ((rI M 318 15) - (1 : Int32))) 327 (Int32.toNatClampNeg (rI (wI M 318 15 ((rI M 318 15) - (1 : Int32))) 318 15))) (rA (wI M 318 15 ((rI M 318 15) - (1 : Int32))) 328 (Int32.toNatClampNeg (rI (wI M 318 15 ((rI M 318 15) - (1 : Int32))) 318 15))) (rA (wI M 318 15 ((rI M 318 15) - (1 : Int32))) 329 (Int32.toNatClampNeg (rI (wI M 318 15 ((rI M 318 15) - (1 : Int32))) 318 15))) (rA (wI M 318 15 ((rI M 318 15) - (1 : Int32))) 330 (Int32.toNatClampNeg (rI (wI M 318 15 ((rI M 318 15) - (1 : Int32))) 318 15))) p2 (rI (wI M 318 15 ((rI M 318 15) - (1 : Int32))) 318 20)
        else
          f55_J47 (wI M 318 15 ((rI M 318 15) - (1 : Int32))) (rA (wI M 318 15 ((rI M 318 15) - (1 : Int32))) 327 (Int32.toNatClampNeg (rI (wI M 318 15 ((rI M 318 15) - (1 : Int32))) 318 15))) (rA (wI M 318 15 ((rI M 318 15) - (1 : Int32))) 328 (Int32.toNatClampNeg (rI (wI M 318 15 ((rI M 318 15) - (1 : Int32))) 318 15))) (rA (wI M 318 15 ((rI M 318 15) - (1 : Int32))) 329 (Int32.toNatClampNeg (rI (wI M 318 15 ((rI M 318 15) - (1 : Int32))) 318 15))) (rA (wI M 318 15 ((rI M 318 15) - (1 : Int32))) 330 (Int32.toNatClampNeg (rI (wI M 318 15 ((rI M 318 15) - (1 : Int32))) 318 15))) p2 (rI (wI M 318 15 ((rI M 318 15) - (1 : Int32))) 318 20) (0 : Int32)
set_option maxHeartbeats 4000000 in
theorem E55 {X : rn_X} {N sl : Nat} {S M : rn_T} {R : (rn_T)} (h : f55 M = some R) : rn_rv X 55 (0, [(0, .ref 318)], [], N, sl, rn_hp S M) (none, N, sl, rn_hp S R) := by
  have qm := rn_m55
  unfold f55 at h
  refine rn_eg qm 5 (s2 := (5, [(0, .ref 318)], [.int ((rI M 318 15) - (1 : Int32)), .ref 318], N, sl, rn_hp S M)) rfl ?_
  refine rn_e1 qm (s2 := (6, [(0, .ref 318)], [], N, sl, rn_hp S (wI M 318 15 ((rI M 318 15) - (1 : Int32))))) (rn_g_putf rfl rfl (en_9 rfl) rfl rfl rfl (wf_9_15 (v := ((rI M 318 15) - (1 : Int32))) rfl)) ?_
  refine rn_eg qm 4 (s2 := (10, [(0, .ref 318)], [.int (rI (wI M 318 15 ((rI M 318 15) - (1 : Int32))) 318 15), .ref 327], N, sl, rn_hp S (wI M 318 15 ((rI M 318 15) - (1 : Int32))))) rfl ?_
  have c1 : ¬ (rn_ob (rI (wI M 318 15 ((rI M 318 15) - (1 : Int32))) 318 15) 640) := fun c => by rw [if_pos c] at h; cases h
  rw [if_neg c1] at h
  refine rn_e1 qm (s2 := (11, [(0, .ref 318)], [.int (rA (wI M 318 15 ((rI M 318 15) - (1 : Int32))) 327 (Int32.toNatClampNeg (rI (wI M 318 15 ((rI M 318 15) - (1 : Int32))) 318 15)))], N, sl, rn_hp S (wI M 318 15 ((rI M 318 15) - (1 : Int32))))) (rn_g_iald (n := 640) rfl rfl (ar_m10 rfl rfl (Nat.le_of_ble_eq_true rfl)) c1) ?_
  refine rn_eg qm 5 (s2 := (16, [(1, .int (rA (wI M 318 15 ((rI M 318 15) - (1 : Int32))) 327 (Int32.toNatClampNeg (rI (wI M 318 15 ((rI M 318 15) - (1 : Int32))) 318 15)))), (0, .ref 318)], [.int (rI (wI M 318 15 ((rI M 318 15) - (1 : Int32))) 318 15), .ref 328], N, sl, rn_hp S (wI M 318 15 ((rI M 318 15) - (1 : Int32))))) rfl ?_
  refine rn_e1 qm (s2 := (17, [(1, .int (rA (wI M 318 15 ((rI M 318 15) - (1 : Int32))) 327 (Int32.toNatClampNeg (rI (wI M 318 15 ((rI M 318 15) - (1 : Int32))) 318 15)))), (0, .ref 318)], [.int (rA (wI M 318 15 ((rI M 318 15) - (1 : Int32))) 328 (Int32.toNatClampNeg (rI (wI M 318 15 ((rI M 318 15) - (1 : Int32))) 318 15)))], N, sl, rn_hp S (wI M 318 15 ((rI M 318 15) - (1 : Int32))))) (rn_g_iald (n := 640) rfl rfl (ar_m10 rfl rfl (Nat.le_of_ble_eq_true rfl)) c1) ?_
  refine rn_eg qm 5 (s2 := (22, [(2, .int (rA (wI M 318 15 ((rI M 318 15) - (1 : Int32))) 328 (Int32.toNatClampNeg (rI (wI M 318 15 ((rI M 318 15) - (1 : Int32))) 318 15)))), (1, .int (rA (wI M 318 15 ((rI M 318 15) - (1 : Int32))) 327 (Int32.toNatClampNeg (rI (wI M 318 15 ((rI M 318 15) - (1 : Int32))) 318 15)))), (0, .ref 318)], [.int (rI (wI M 318 15 ((rI M 318 15) - (1 : Int32))) 318 15), .ref 329], N, sl, rn_hp S (wI M 318 15 ((rI M 318 15) - (1 : Int32))))) rfl ?_
  refine rn_e1 qm (s2 := (23, [(2, .int (rA (wI M 318 15 ((rI M 318 15) - (1 : Int32))) 328 (Int32.toNatClampNeg (rI (wI M 318 15 ((rI M 318 15) - (1 : Int32))) 318 15)))), (1, .int (rA (wI M 318 15 ((rI M 318 15) - (1 : Int32))) 327 (Int32.toNatClampNeg (rI (wI M 318 15 ((rI M 318 15) - (1 : Int32))) 318 15)))), (0, .ref 318)], [.int (rA (wI M 318 15 ((rI M 318 15) - (1 : Int32))) 329 (Int32.toNatClampNeg (rI (wI M 318 15 ((rI M 318 15) - (1 : Int32))) 318 15)))], N, sl, rn_hp S (wI M 318 15 ((rI M 318 15) - (1 : Int32))))) (rn_g_iald (n := 640) rfl rfl (ar_m10 rfl rfl (Nat.le_of_ble_eq_true rfl)) c1) ?_
  refine rn_eg qm 5 (s2 := (28, [(3, .int (rA (wI M 318 15 ((rI M 318 15) - (1 : Int32))) 329 (Int32.toNatClampNeg (rI (wI M 318 15 ((rI M 318 15) - (1 : Int32))) 318 15)))), (2, .int (rA (wI M 318 15 ((rI M 318 15) - (1 : Int32))) 328 (Int32.toNatClampNeg (rI (wI M 318 15 ((rI M 318 15) - (1 : Int32))) 318 15)))), (1, .int (rA (wI M 318 15 ((rI M 318 15) - (1 : Int32))) 327 (Int32.toNatClampNeg (rI (wI M 318 15 ((rI M 318 15) - (1 : Int32))) 318 15)))), (0, .ref 318)], [.int (rI (wI M 318 15 ((rI M 318 15) - (1 : Int32))) 318 15), .ref 330], N, sl, rn_hp S (wI M 318 15 ((rI M 318 15) - (1 : Int32))))) rfl ?_
  refine rn_e1 qm (s2 := (29, [(3, .int (rA (wI M 318 15 ((rI M 318 15) - (1 : Int32))) 329 (Int32.toNatClampNeg (rI (wI M 318 15 ((rI M 318 15) - (1 : Int32))) 318 15)))), (2, .int (rA (wI M 318 15 ((rI M 318 15) - (1 : Int32))) 328 (Int32.toNatClampNeg (rI (wI M 318 15 ((rI M 318 15) - (1 : Int32))) 318 15)))), (1, .int (rA (wI M 318 15 ((rI M 318 15) - (1 : Int32))) 327 (Int32.toNatClampNeg (rI (wI M 318 15 ((rI M 318 15) - (1 : Int32))) 318 15)))), (0, .ref 318)], [.int (rA (wI M 318 15 ((rI M 318 15) - (1 : Int32))) 330 (Int32.toNatClampNeg (rI (wI M 318 15 ((rI M 318 15) - (1 : Int32))) 318 15)))], N, sl, rn_hp S (wI M 318 15 ((rI M 318 15) - (1 : Int32))))) (rn_g_iald (n := 640) rfl rfl (ar_m10 rfl rfl (Nat.le_of_ble_eq_true rfl)) c1) ?_
  refine rn_eg qm 4 (s2 := (33, [(4, .int (rA (wI M 318 15 ((rI M 318 15) - (1 : Int32))) 330 (Int32.toNatClampNeg (rI (wI M 318 15 ((rI M 318 15) - (1 : Int32))) 318 15)))), (3, .int (rA (wI M 318 15 ((rI M 318 15) - (1 : Int32))) 329 (Int32.toNatClampNeg (rI (wI M 318 15 ((rI M 318 15) - (1 : Int32))) 318 15)))), (2, .int (rA (wI M 318 15 ((rI M 318 15) - (1 : Int32))) 328 (Int32.toNatClampNeg (rI (wI M 318 15 ((rI M 318 15) - (1 : Int32))) 318 15)))), (1, .int (rA (wI M 318 15 ((rI M 318 15) - (1 : Int32))) 327 (Int32.toNatClampNeg (rI (wI M 318 15 ((rI M 318 15) - (1 : Int32))) 318 15)))), (0, .ref 318)], [.int (rA (wI M 318 15 ((rI M 318 15) - (1 : Int32))) 328 (Int32.toNatClampNeg (rI (wI M 318 15 ((rI M 318 15) - (1 : Int32))) 318 15))), .int (rA (wI M 318 15 ((rI M 318 15) - (1 : Int32))) 327 (Int32.toNatClampNeg (rI (wI M 318 15 ((rI M 318 15) - (1 : Int32))) 318 15))), .ref 318], N, sl, rn_hp S (wI M 318 15 ((rI M 318 15) - (1 : Int32))))) rfl ?_
  obtain ⟨p2, hp2, h⟩ := Option.bind_eq_some_iff.mp h
  refine rn_ec qm rfl rfl rfl rfl rn_m33 rfl rfl rfl (fun _ => rn_rc_of (en_9 (q := 318) rfl)) (E33 hp2) ?_
  refine rn_eg qm 0 (s2 := (34, [(4, .int (rA (wI M 318 15 ((rI M 318 15) - (1 : Int32))) 330 (Int32.toNatClampNeg (rI (wI M 318 15 ((rI M 318 15) - (1 : Int32))) 318 15)))), (3, .int (rA (wI M 318 15 ((rI M 318 15) - (1 : Int32))) 329 (Int32.toNatClampNeg (rI (wI M 318 15 ((rI M 318 15) - (1 : Int32))) 318 15)))), (2, .int (rA (wI M 318 15 ((rI M 318 15) - (1 : Int32))) 328 (Int32.toNatClampNeg (rI (wI M 318 15 ((rI M 318 15) - (1 : Int32))) 318 15)))), (1, .int (rA (wI M 318 15 ((rI M 318 15) - (1 : Int32))) 327 (Int32.toNatClampNeg (rI (wI M 318 15 ((rI M 318 15) - (1 : Int32))) 318 15)))), (0, .ref 318)], [.int p2], N, sl, rn_hp S (wI M 318 15 ((rI M 318 15) - (1 : Int32))))) rfl ?_
  refine rn_eg qm 7 (s2 := ((if p2 = (120 : Int32) then 44 else 41), [(5, .int p2), (4, .int (rA (wI M 318 15 ((rI M 318 15) - (1 : Int32))) 330 (Int32.toNatClampNeg (rI (wI M 318 15 ((rI M 318 15) - (1 : Int32))) 318 15)))), (3, .int (rA (wI M 318 15 ((rI M 318 15) - (1 : Int32))) 329 (Int32.toNatClampNeg (rI (wI M 318 15 ((rI M 318 15) - (1 : Int32))) 318 15)))), (2, .int (rA (wI M 318 15 ((rI M 318 15) - (1 : Int32))) 328 (Int32.toNatClampNeg (rI (wI M 318 15 ((rI M 318 15) - (1 : Int32))) 318 15)))), (1, .int (rA (wI M 318 15 ((rI M 318 15) - (1 : Int32))) 327 (Int32.toNatClampNeg (rI (wI M 318 15 ((rI M 318 15) - (1 : Int32))) 318 15)))), (0, .ref 318)], [.int (rI (wI M 318 15 ((rI M 318 15) - (1 : Int32))) 318 20), .ref 318], N, sl, rn_hp S (wI M 318 15 ((rI M 318 15) - (1 : Int32))))) rfl ?_
  refine rn_ite (fun c3 => ?_) (fun c3 => ?_)
  · rw [if_pos c3] at h
    refine rn_kq qm (s2 := (44, [(0, .ref 318), (1, .int (rA (wI M 318 15 ((rI M 318 15) - (1 : Int32))) 327 (Int32.toNatClampNeg (rI (wI M 318 15 ((rI M 318 15) - (1 : Int32))) 318 15)))), (2, .int (rA (wI M 318 15 ((rI M 318 15) - (1 : Int32))) 328 (Int32.toNatClampNeg (rI (wI M 318 15 ((rI M 318 15) - (1 : Int32))) 318 15)))), (3, .int (rA (wI M 318 15 ((rI M 318 15) - (1 : Int32))) 329 (Int32.toNatClampNeg (rI (wI M 318 15 ((rI M 318 15) - (1 : Int32))) 318 15)))), (4, .int (rA (wI M 318 15 ((rI M 318 15) - (1 : Int32))) 330 (Int32.toNatClampNeg (rI (wI M 318 15 ((rI M 318 15) - (1 : Int32))) 318 15)))), (5, .int p2)], [.int (rI (wI M 318 15 ((rI M 318 15) - (1 : Int32))) 318 20), .ref 318], N, sl, rn_hp S (wI M 318 15 ((rI M 318 15) - (1 : Int32))))) rfl rfl ?_
    exact E55_J44 h
  · rw [if_neg c3] at h
    refine rn_eg qm 1 (s2 := (42, [(5, .int p2), (4, .int (rA (wI M 318 15 ((rI M 318 15) - (1 : Int32))) 330 (Int32.toNatClampNeg (rI (wI M 318 15 ((rI M 318 15) - (1 : Int32))) 318 15)))), (3, .int (rA (wI M 318 15 ((rI M 318 15) - (1 : Int32))) 329 (Int32.toNatClampNeg (rI (wI M 318 15 ((rI M 318 15) - (1 : Int32))) 318 15)))), (2, .int (rA (wI M 318 15 ((rI M 318 15) - (1 : Int32))) 328 (Int32.toNatClampNeg (rI (wI M 318 15 ((rI M 318 15) - (1 : Int32))) 318 15)))), (1, .int (rA (wI M 318 15 ((rI M 318 15) - (1 : Int32))) 327 (Int32.toNatClampNeg (rI (wI M 318 15 ((rI M 318 15) - (1 : Int32))) 318 15)))), (0, .ref 318)], [.int p2, .int (rI (wI M 318 15 ((rI M 318 15) - (1 : Int32))) 318 20), .ref 318], N, sl, rn_hp S (wI M 318 15 ((rI M 318 15) - (1 : Int32))))) rfl ?_
    refine rn_ec qm rfl rfl rfl rfl rn_m37 rfl rfl rfl (fun h => by cases h) (E37 rfl) ?_
    refine rn_eg qm 0 (s2 := (43, [(5, .int p2), (4, .int (rA (wI M 318 15 ((rI M 318 15) - (1 : Int32))) 330 (Int32.toNatClampNeg (rI (wI M 318 15 ((rI M 318 15) - (1 : Int32))) 318 15)))), (3, .int (rA (wI M 318 15 ((rI M 318 15) - (1 : Int32))) 329 (Int32.toNatClampNeg (rI (wI M 318 15 ((rI M 318 15) - (1 : Int32))) 318 15)))), (2, .int (rA (wI M 318 15 ((rI M 318 15) - (1 : Int32))) 328 (Int32.toNatClampNeg (rI (wI M 318 15 ((rI M 318 15) - (1 : Int32))) 318 15)))), (1, .int (rA (wI M 318 15 ((rI M 318 15) - (1 : Int32))) 327 (Int32.toNatClampNeg (rI (wI M 318 15 ((rI M 318 15) - (1 : Int32))) 318 15)))), (0, .ref 318)], [.int (rn_bi (f37 (wI M 318 15 ((rI M 318 15) - (1 : Int32))) p2)), .int (rI (wI M 318 15 ((rI M 318 15) - (1 : Int32))) 318 20), .ref 318], N, sl, rn_hp S (wI M 318 15 ((rI M 318 15) - (1 : Int32))))) rfl ?_
    refine rn_eg qm 1 (s2 := ((if (rn_bi (f37 (wI M 318 15 ((rI M 318 15) - (1 : Int32))) p2)) = 0 then 46 else 44), [(5, .int p2), (4, .int (rA (wI M 318 15 ((rI M 318 15) - (1 : Int32))) 330 (Int32.toNatClampNeg (rI (wI M 318 15 ((rI M 318 15) - (1 : Int32))) 318 15)))), (3, .int (rA (wI M 318 15 ((rI M 318 15) - (1 : Int32))) 329 (Int32.toNatClampNeg (rI (wI M 318 15 ((rI M 318 15) - (1 : Int32))) 318 15)))), (2, .int (rA (wI M 318 15 ((rI M 318 15) - (1 : Int32))) 328 (Int32.toNatClampNeg (rI (wI M 318 15 ((rI M 318 15) - (1 : Int32))) 318 15)))), (1, .int (rA (wI M 318 15 ((rI M 318 15) - (1 : Int32))) 327 (Int32.toNatClampNeg (rI (wI M 318 15 ((rI M 318 15) - (1 : Int32))) 318 15)))), (0, .ref 318)], [.int (rI (wI M 318 15 ((rI M 318 15) - (1 : Int32))) 318 20), .ref 318], N, sl, rn_hp S (wI M 318 15 ((rI M 318 15) - (1 : Int32))))) rfl ?_
    refine rn_iteb (fun c16 => ?_) (fun c16 => ?_)
    · rw [if_neg (rn_bf c16)] at h
      refine rn_eg qm 1 (s2 := (47, [(5, .int p2), (4, .int (rA (wI M 318 15 ((rI M 318 15) - (1 : Int32))) 330 (Int32.toNatClampNeg (rI (wI M 318 15 ((rI M 318 15) - (1 : Int32))) 318 15)))), (3, .int (rA (wI M 318 15 ((rI M 318 15) - (1 : Int32))) 329 (Int32.toNatClampNeg (rI (wI M 318 15 ((rI M 318 15) - (1 : Int32))) 318 15)))), (2, .int (rA (wI M 318 15 ((rI M 318 15) - (1 : Int32))) 328 (Int32.toNatClampNeg (rI (wI M 318 15 ((rI M 318 15) - (1 : Int32))) 318 15)))), (1, .int (rA (wI M 318 15 ((rI M 318 15) - (1 : Int32))) 327 (Int32.toNatClampNeg (rI (wI M 318 15 ((rI M 318 15) - (1 : Int32))) 318 15)))), (0, .ref 318)], [.int (0 : Int32), .int (rI (wI M 318 15 ((rI M 318 15) - (1 : Int32))) 318 20), .ref 318], N, sl, rn_hp S (wI M 318 15 ((rI M 318 15) - (1 : Int32))))) rfl ?_
      refine rn_kq qm (s2 := (47, [(0, .ref 318), (1, .int (rA (wI M 318 15 ((rI M 318 15) - (1 : Int32))) 327 (Int32.toNatClampNeg (rI (wI M 318 15 ((rI M 318 15) - (1 : Int32))) 318 15)))), (2, .int (rA (wI M 318 15 ((rI M 318 15) - (1 : Int32))) 328 (Int32.toNatClampNeg (rI (wI M 318 15 ((rI M 318 15) - (1 : Int32))) 318 15)))), (3, .int (rA (wI M 318 15 ((rI M 318 15) - (1 : Int32))) 329 (Int32.toNatClampNeg (rI (wI M 318 15 ((rI M 318 15) - (1 : Int32))) 318 15)))), (4, .int (rA (wI M 318 15 ((rI M 318 15) - (1 : Int32))) 330 (Int32.toNatClampNeg (rI (wI M 318 15 ((rI M 318 15) - (1 : Int32))) 318 15)))), (5, .int p2)], [.int (0 : Int32), .int (rI (wI M 318 15 ((rI M 318 15) - (1 : Int32))) 318 20), .ref 318], N, sl, rn_hp S (wI M 318 15 ((rI M 318 15) - (1 : Int32))))) rfl rfl ?_
      exact E55_J47 h
    · rw [if_pos c16] at h
      refine rn_kq qm (s2 := (44, [(0, .ref 318), (1, .int (rA (wI M 318 15 ((rI M 318 15) - (1 : Int32))) 327 (Int32.toNatClampNeg (rI (wI M 318 15 ((rI M 318 15) - (1 : Int32))) 318 15)))), (2, .int (rA (wI M 318 15 ((rI M 318 15) - (1 : Int32))) 328 (Int32.toNatClampNeg (rI (wI M 318 15 ((rI M 318 15) - (1 : Int32))) 318 15)))), (3, .int (rA (wI M 318 15 ((rI M 318 15) - (1 : Int32))) 329 (Int32.toNatClampNeg (rI (wI M 318 15 ((rI M 318 15) - (1 : Int32))) 318 15)))), (4, .int (rA (wI M 318 15 ((rI M 318 15) - (1 : Int32))) 330 (Int32.toNatClampNeg (rI (wI M 318 15 ((rI M 318 15) - (1 : Int32))) 318 15)))), (5, .int p2)], [.int (rI (wI M 318 15 ((rI M 318 15) - (1 : Int32))) 318 20), .ref 318], N, sl, rn_hp S (wI M 318 15 ((rI M 318 15) - (1 : Int32))))) rfl rfl ?_
      exact E55_J44 h
/-! 56: RecordNichesModel.isOpened(II)Z -/
def f56_L26 : Nat → rn_T → (rn_T → Option (Bool × rn_T)) → Option (Bool × rn_T)
  | 0, _, _ => none
  | fu + 1, M, k =>
    if (rI M 318 15) ≤ 0 then
      k M
    else
      if (100 : Int32) < (rI M 318 10) then
        k M
      else
        if (500 : Int32) < (rI M 318 20) then
          k M
        else
          Option.bind (f55 M) fun p7 =>
            f56_L26 fu p7 k
set_option maxHeartbeats 4000000 in
theorem E56_L26 {X : rn_X} {N sl : Nat} {S : rn_T} : ∀ (fu : Nat) (M : rn_T) (k : (rn_T → Option (Bool × rn_T))) (R : (Bool × rn_T)), (∀ (M : rn_T), k M = some R → rn_rv X 56 (40, [(0, .ref 318)], [], N, sl, rn_hp S M) (some (.int (rn_bi R.1)), N, sl, rn_hp S R.2)) → f56_L26 fu M k = some R → rn_rv X 56 (26, [(0, .ref 318)], [], N, sl, rn_hp S M) (some (.int (rn_bi R.1)), N, sl, rn_hp S R.2) := by
  have qm := rn_m56
  intro fu
  induction fu with
  | zero => intro M k R hk h; cases h
  | succ fu ih =>
    intro M k R hk h
    unfold f56_L26 at h
    refine rn_eg qm 3 (s2 := ((if (rI M 318 15) ≤ 0 then 40 else 29), [(0, .ref 318)], [], N, sl, rn_hp S M)) rfl ?_
    refine rn_ite (fun c4 => ?_) (fun c4 => ?_)
    · rw [if_pos c4] at h
      refine rn_kq qm (s2 := (40, [(0, .ref 318)], [], N, sl, rn_hp S M)) rfl rfl ?_
      exact hk _ h
    · rw [if_neg c4] at h
      refine rn_eg qm 4 (s2 := ((if (100 : Int32) < (rI M 318 10) then 40 else 33), [(0, .ref 318)], [], N, sl, rn_hp S M)) rfl ?_
      refine rn_ite (fun c5 => ?_) (fun c5 => ?_)
      · rw [if_pos c5] at h
        refine rn_kq qm (s2 := (40, [(0, .ref 318)], [], N, sl, rn_hp S M)) rfl rfl ?_
        exact hk _ h
      · rw [if_neg c5] at h
        refine rn_eg qm 4 (s2 := ((if (500 : Int32) < (rI M 318 20) then 40 else 37), [(0, .ref 318)], [], N, sl, rn_hp S M)) rfl ?_
        refine rn_ite (fun c6 => ?_) (fun c6 => ?_)
        · rw [if_pos c6] at h
          refine rn_kq qm (s2 := (40, [(0, .ref 318)], [], N, sl, rn_hp S M)) rfl rfl ?_
          exact hk _ h
        · rw [if_neg c6] at h
          refine rn_eg qm 1 (s2 := (38, [(0, .ref 318)], [.ref 318], N, sl, rn_hp S M)) rfl ?_
          obtain ⟨p7, hp7, h⟩ := Option.bind_eq_some_iff.mp h
          refine rn_ec qm rfl rfl rfl rfl rn_m55 rfl rfl rfl (fun _ => rn_rc_of (en_9 (q := 318) rfl)) (E55 hp7) ?_
          refine rn_eg qm 0 (s2 := (39, [(0, .ref 318)], [], N, sl, rn_hp S p7)) rfl ?_
          refine rn_eg qm 1 (s2 := (26, [(0, .ref 318)], [], N, sl, rn_hp S p7)) rfl ?_
          refine rn_kq qm (s2 := (26, [(0, .ref 318)], [], N, sl, rn_hp S p7)) rfl rfl ?_
          exact ih _ k R hk h
def f56_J40 (M : rn_T) : Option (Bool × rn_T) :=
  if (rI M 318 15) = 0 then
    if (100 : Int32) < (rI M 318 10) then
      some (false, M)
    else
      if (500 : Int32) < (rI M 318 20) then
        some (false, M)
      else
        some (true, M)
  else
    some (false, M)
set_option maxHeartbeats 4000000 in
theorem E56_J40 {X : rn_X} {N sl : Nat} {S : rn_T} {M : rn_T} {R : (Bool × rn_T)} (h : f56_J40 M = some R) : rn_rv X 56 (40, [(0, .ref 318)], [], N, sl, rn_hp S M) (some (.int (rn_bi R.1)), N, sl, rn_hp S R.2) := by
  have qm := rn_m56
  unfold f56_J40 at h
  refine rn_eg qm 3 (s2 := ((if (rI M 318 15) = 0 then 43 else 53), [(0, .ref 318)], [], N, sl, rn_hp S M)) rfl ?_
  refine rn_ite (fun c9 => ?_) (fun c9 => ?_)
  · rw [if_pos c9] at h
    refine rn_eg qm 4 (s2 := ((if (100 : Int32) < (rI M 318 10) then 53 else 47), [(0, .ref 318)], [], N, sl, rn_hp S M)) rfl ?_
    refine rn_ite (fun c10 => ?_) (fun c10 => ?_)
    · rw [if_pos c10] at h
      refine rn_eg qm 1 (s2 := (54, [], [.int (0 : Int32)], N, sl, rn_hp S M)) rfl ?_
      cases h
      exact rn_er qm rfl rfl rn_rt0
    · rw [if_neg c10] at h
      refine rn_eg qm 4 (s2 := ((if (500 : Int32) < (rI M 318 20) then 53 else 51), [(0, .ref 318)], [], N, sl, rn_hp S M)) rfl ?_
      refine rn_ite (fun c11 => ?_) (fun c11 => ?_)
      · rw [if_pos c11] at h
        refine rn_eg qm 1 (s2 := (54, [], [.int (0 : Int32)], N, sl, rn_hp S M)) rfl ?_
        cases h
        exact rn_er qm rfl rfl rn_rt0
      · rw [if_neg c11] at h
        refine rn_eg qm 2 (s2 := (54, [(0, .ref 318)], [.int (1 : Int32)], N, sl, rn_hp S M)) rfl ?_
        cases h
        exact rn_er qm rfl rfl rn_rt1
  · rw [if_neg c9] at h
    refine rn_eg qm 1 (s2 := (54, [], [.int (0 : Int32)], N, sl, rn_hp S M)) rfl ?_
    cases h
    exact rn_er qm rfl rfl rn_rt0
def f56_J24 (M : rn_T) (t1 : Int32) (t2 : Int32) (t3 : Int32) : Option (Bool × rn_T) :=
  Option.bind (f50 M t1 t2 t3 (-6 : Int32)) fun p3 =>
    f56_L26 rn_FU p3 (fun M8 =>
      f56_J40 M8)
set_option maxHeartbeats 4000000 in
theorem E56_J24 {X : rn_X} {N sl : Nat} {S : rn_T} {M : rn_T} {t1 : Int32} {t2 : Int32} {t3 : Int32} {R : (Bool × rn_T)} (h : f56_J24 M t1 t2 t3 = some R) : rn_rv X 56 (24, [(0, .ref 318)], [.int t3, .int t2, .int t1, .ref 318], N, sl, rn_hp S M) (some (.int (rn_bi R.1)), N, sl, rn_hp S R.2) := by
  have qm := rn_m56
  unfold f56_J24 at h
  refine rn_eg qm 1 (s2 := (25, [(0, .ref 318)], [.int (-6 : Int32), .int t3, .int t2, .int t1, .ref 318], N, sl, rn_hp S M)) rfl ?_
  obtain ⟨p3, hp3, h⟩ := Option.bind_eq_some_iff.mp h
  refine rn_ec qm rfl rfl rfl rfl rn_m50 rfl rfl rfl (fun _ => rn_rc_of (en_9 (q := 318) rfl)) (E50 hp3) ?_
  refine rn_eg qm 0 (s2 := (26, [(0, .ref 318)], [], N, sl, rn_hp S p3)) rfl ?_
  refine rn_kq qm (s2 := (26, [(0, .ref 318)], [], N, sl, rn_hp S p3)) rfl rfl ?_
  refine E56_L26 rn_FU _ _ R ?_ h
  intro M8 h
  refine rn_kq qm (s2 := (40, [(0, .ref 318)], [], N, sl, rn_hp S M8)) rfl rfl ?_
  exact E56_J40 h
def f56 (M : rn_T) (a1 : Int32) (a2 : Int32) : Option (Bool × rn_T) :=
  if 0 ≤ a2 then
    Option.bind (f51 (wI (wI (wI (wI M 318 10 (0 : Int32)) 318 15 (0 : Int32)) 318 19 (0 : Int32)) 318 20 (0 : Int32)) a2 (0 : Int32) (-6 : Int32)) fun p2 =>
      f56_J24 p2.2 a1 (0 : Int32) p2.1
  else
    f56_J24 (wI (wI (wI (wI M 318 10 (0 : Int32)) 318 15 (0 : Int32)) 318 19 (0 : Int32)) 318 20 (0 : Int32)) a1 (0 : Int32) (-6 : Int32)
set_option maxHeartbeats 4000000 in
theorem E56 {X : rn_X} {N sl : Nat} {S M : rn_T} {a1 : Int32} {a2 : Int32} {R : (Bool × rn_T)} (h : f56 M a1 a2 = some R) : rn_rv X 56 (0, [(0, .ref 318), (1, .int a1), (2, .int a2)], [], N, sl, rn_hp S M) (some (.int (rn_bi R.1)), N, sl, rn_hp S R.2) := by
  have qm := rn_m56
  unfold f56 at h
  refine rn_eg qm 2 (s2 := (2, [(0, .ref 318), (1, .int a1), (2, .int a2)], [.int (0 : Int32), .ref 318], N, sl, rn_hp S M)) rfl ?_
  refine rn_e1 qm (s2 := (3, [(0, .ref 318), (1, .int a1), (2, .int a2)], [], N, sl, rn_hp S (wI M 318 10 (0 : Int32)))) (rn_g_putf rfl rfl (en_9 rfl) rfl rfl rfl (wf_9_10 (v := (0 : Int32)) rfl)) ?_
  refine rn_eg qm 2 (s2 := (5, [(0, .ref 318), (1, .int a1), (2, .int a2)], [.int (0 : Int32), .ref 318], N, sl, rn_hp S (wI M 318 10 (0 : Int32)))) rfl ?_
  refine rn_e1 qm (s2 := (6, [(0, .ref 318), (1, .int a1), (2, .int a2)], [], N, sl, rn_hp S (wI (wI M 318 10 (0 : Int32)) 318 15 (0 : Int32)))) (rn_g_putf rfl rfl (en_9 rfl) rfl rfl rfl (wf_9_15 (v := (0 : Int32)) rfl)) ?_
  refine rn_eg qm 2 (s2 := (8, [(0, .ref 318), (1, .int a1), (2, .int a2)], [.int (0 : Int32), .ref 318], N, sl, rn_hp S (wI (wI M 318 10 (0 : Int32)) 318 15 (0 : Int32)))) rfl ?_
  refine rn_e1 qm (s2 := (9, [(0, .ref 318), (1, .int a1), (2, .int a2)], [], N, sl, rn_hp S (wI (wI (wI M 318 10 (0 : Int32)) 318 15 (0 : Int32)) 318 19 (0 : Int32)))) (rn_g_putf rfl rfl (en_9 rfl) rfl rfl rfl (wf_9_19 (v := (0 : Int32)) rfl)) ?_
  refine rn_eg qm 2 (s2 := (11, [(0, .ref 318), (1, .int a1), (2, .int a2)], [.int (0 : Int32), .ref 318], N, sl, rn_hp S (wI (wI (wI M 318 10 (0 : Int32)) 318 15 (0 : Int32)) 318 19 (0 : Int32)))) rfl ?_
  refine rn_e1 qm (s2 := (12, [(0, .ref 318), (1, .int a1), (2, .int a2)], [], N, sl, rn_hp S (wI (wI (wI (wI M 318 10 (0 : Int32)) 318 15 (0 : Int32)) 318 19 (0 : Int32)) 318 20 (0 : Int32)))) (rn_g_putf rfl rfl (en_9 rfl) rfl rfl rfl (wf_9_20 (v := (0 : Int32)) rfl)) ?_
  refine rn_eg qm 5 (s2 := ((if 0 ≤ a2 then 19 else 17), [(0, .ref 318), (1, .int a1), (2, .int a2)], [.int (0 : Int32), .int a1, .ref 318], N, sl, rn_hp S (wI (wI (wI (wI M 318 10 (0 : Int32)) 318 15 (0 : Int32)) 318 19 (0 : Int32)) 318 20 (0 : Int32)))) rfl ?_
  refine rn_ite (fun c1 => ?_) (fun c1 => ?_)
  · rw [if_pos c1] at h
    refine rn_eg qm 4 (s2 := (23, [(0, .ref 318), (1, .int a1), (2, .int a2)], [.int (-6 : Int32), .int (0 : Int32), .int a2, .ref 318, .int (0 : Int32), .int a1, .ref 318], N, sl, rn_hp S (wI (wI (wI (wI M 318 10 (0 : Int32)) 318 15 (0 : Int32)) 318 19 (0 : Int32)) 318 20 (0 : Int32)))) rfl ?_
    obtain ⟨p2, hp2, h⟩ := Option.bind_eq_some_iff.mp h
    refine rn_ec qm rfl rfl rfl rfl rn_m51 rfl rfl rfl (fun _ => rn_rc_of (en_9 (q := 318) rfl)) (E51 hp2) ?_
    refine rn_eg qm 0 (s2 := (24, [(0, .ref 318), (1, .int a1), (2, .int a2)], [.int p2.1, .int (0 : Int32), .int a1, .ref 318], N, sl, rn_hp S p2.2)) rfl ?_
    refine rn_kq qm (s2 := (24, [(0, .ref 318)], [.int p2.1, .int (0 : Int32), .int a1, .ref 318], N, sl, rn_hp S p2.2)) rfl rfl ?_
    exact E56_J24 h
  · rw [if_neg c1] at h
    refine rn_eg qm 2 (s2 := (24, [(0, .ref 318), (1, .int a1), (2, .int a2)], [.int (-6 : Int32), .int (0 : Int32), .int a1, .ref 318], N, sl, rn_hp S (wI (wI (wI (wI M 318 10 (0 : Int32)) 318 15 (0 : Int32)) 318 19 (0 : Int32)) 318 20 (0 : Int32)))) rfl ?_
    refine rn_kq qm (s2 := (24, [(0, .ref 318)], [.int (-6 : Int32), .int (0 : Int32), .int a1, .ref 318], N, sl, rn_hp S (wI (wI (wI (wI M 318 10 (0 : Int32)) 318 15 (0 : Int32)) 318 19 (0 : Int32)) 318 20 (0 : Int32)))) rfl rfl ?_
    exact E56_J24 h
