/-! 119: RecordNiches$Lay.choices(LRecordNiches$Node;)V -/
def f119_L19 (b0 : Nat) : Nat → rn_T → Int32 → Int32 → (rn_T → Int32 → Option (rn_T)) → Option (rn_T)
  | 0, _, _, _, _ => none
  | fu + 1, S, v1, v2, k =>
    if (rI S b0 1) ≤ v2 then
      k S v1
    else
      if rn_ob v2 6 then none else
        rn_om (rP S (b0 + 1) (Int32.toNatClampNeg v2))
          (none)
          fun r9 =>
            if rn_kd r9 = 3 then
              if rn_ob v1 6 then none else
                rn_om (rP S (b0 + 1) (Int32.toNatClampNeg v1))
                  (none)
                  fun r13 =>
                    if rn_kd r13 = 3 then
                      if (rI S r9 5) ≤ (rI S r13 5) then
                        f119_L19 b0 fu S v1 (v2 + (1 : Int32)) k
                      else
                        f119_L19 b0 fu S v2 (v2 + (1 : Int32)) k
                    else none
            else none
set_option maxHeartbeats 4000000 in
theorem E119_L19 {X : rn_X} {N sl : Nat} {M : rn_T} {b0 : Nat} (hb0 : rn_kd b0 = 3) : ∀ (fu : Nat) (S : rn_T) (v1 : Int32) (v2 : Int32) (k : (rn_T → Int32 → Option (rn_T))) (R : (rn_T)), (∀ (S : rn_T) (w_1 : Int32), k S w_1 = some R → rn_rv X 119 (38, [(0, .ref b0), (1, .int w_1)], [], N, sl, rn_hp S M) (none, N, sl, rn_hp R M)) → f119_L19 b0 fu S v1 v2 k = some R → rn_rv X 119 (19, [(0, .ref b0), (1, .int v1), (2, .int v2)], [], N, sl, rn_hp S M) (none, N, sl, rn_hp R M) := by
  have qm := rn_m119
  intro fu
  induction fu with
  | zero => intro S v1 v2 k R hk h; cases h
  | succ fu ih =>
    intro S v1 v2 k R hk h
    unfold f119_L19 at h
    refine rn_eg qm 2 (s2 := (21, [(0, .ref b0), (1, .int v1), (2, .int v2)], [.ref b0, .int v2], N, sl, rn_hp S M)) rfl ?_
    refine rn_e1 qm (s2 := (22, [(0, .ref b0), (1, .int v1), (2, .int v2)], [.int (rI S b0 1), .int v2], N, sl, rn_hp S M)) (rn_g_getf rfl rfl (en_3 hb0) rfl) ?_
    refine rn_eg qm 1 (s2 := ((if (rI S b0 1) ≤ v2 then 38 else 23), [(0, .ref b0), (1, .int v1), (2, .int v2)], [], N, sl, rn_hp S M)) rfl ?_
    refine rn_ite (fun c7 => ?_) (fun c7 => ?_)
    · rw [if_pos c7] at h
      refine rn_kq qm (s2 := (38, [(0, .ref b0), (1, .int v1)], [], N, sl, rn_hp S M)) rfl rfl ?_
      exact hk _ _ h
    · rw [if_neg c7] at h
      refine rn_eg qm 1 (s2 := (24, [(0, .ref b0), (1, .int v1), (2, .int v2)], [.ref b0], N, sl, rn_hp S M)) rfl ?_
      refine rn_e1 qm (s2 := (25, [(0, .ref b0), (1, .int v1), (2, .int v2)], [.ref (b0 + 1)], N, sl, rn_hp S M)) (rn_g_getf rfl rfl (en_3 hb0) rfl) ?_
      refine rn_eg qm 1 (s2 := (26, [(0, .ref b0), (1, .int v1), (2, .int v2)], [.int v2, .ref (b0 + 1)], N, sl, rn_hp S M)) rfl ?_
      have c8 : ¬ (rn_ob v2 6) := fun c => by rw [if_pos c] at h; cases h
      rw [if_neg c8] at h
      cases o10 : rP S (b0 + 1) (Int32.toNatClampNeg v2) with
      | none =>
        rw [rn_om_n o10] at h
        refine rn_e1 qm (s2 := (27, [(0, .ref b0), (1, .int v1), (2, .int v2)], [.null], N, sl, rn_hp S M)) (rn_g_aald (n := 6) (r := none) rfl rfl (ar_x14 (ko_3_0 hb0).1 (ko_3_0 hb0).2.1 (ko_3_0 hb0).2.2) c8 o10) ?_
        cases h
      | some r9 =>
        rw [rn_om_s o10] at h
        refine rn_e1 qm (s2 := (27, [(0, .ref b0), (1, .int v1), (2, .int v2)], [.ref r9], N, sl, rn_hp S M)) (rn_g_aald (n := 6) (r := some r9) rfl rfl (ar_x14 (ko_3_0 hb0).1 (ko_3_0 hb0).2.1 (ko_3_0 hb0).2.2) c8 o10) ?_
        have k11 : rn_kd r9 = 3 := Decidable.byContradiction fun c => by rw [if_neg c] at h; cases h
        rw [if_pos k11] at h
        refine rn_e1 qm (s2 := (28, [(0, .ref b0), (1, .int v1), (2, .int v2)], [.int (rI S r9 5)], N, sl, rn_hp S M)) (rn_g_getf rfl rfl (en_3 k11) rfl) ?_
        refine rn_eg qm 1 (s2 := (29, [(0, .ref b0), (1, .int v1), (2, .int v2)], [.ref b0, .int (rI S r9 5)], N, sl, rn_hp S M)) rfl ?_
        refine rn_e1 qm (s2 := (30, [(0, .ref b0), (1, .int v1), (2, .int v2)], [.ref (b0 + 1), .int (rI S r9 5)], N, sl, rn_hp S M)) (rn_g_getf rfl rfl (en_3 hb0) rfl) ?_
        refine rn_eg qm 1 (s2 := (31, [(0, .ref b0), (1, .int v1), (2, .int v2)], [.int v1, .ref (b0 + 1), .int (rI S r9 5)], N, sl, rn_hp S M)) rfl ?_
        have c12 : ¬ (rn_ob v1 6) := fun c => by rw [if_pos c] at h; cases h
        rw [if_neg c12] at h
        cases o14 : rP S (b0 + 1) (Int32.toNatClampNeg v1) with
        | none =>
          rw [rn_om_n o14] at h
          refine rn_e1 qm (s2 := (32, [(0, .ref b0), (1, .int v1), (2, .int v2)], [.null, .int (rI S r9 5)], N, sl, rn_hp S M)) (rn_g_aald (n := 6) (r := none) rfl rfl (ar_x14 (ko_3_0 hb0).1 (ko_3_0 hb0).2.1 (ko_3_0 hb0).2.2) c12 o14) ?_
          cases h
        | some r13 =>
          rw [rn_om_s o14] at h
          refine rn_e1 qm (s2 := (32, [(0, .ref b0), (1, .int v1), (2, .int v2)], [.ref r13, .int (rI S r9 5)], N, sl, rn_hp S M)) (rn_g_aald (n := 6) (r := some r13) rfl rfl (ar_x14 (ko_3_0 hb0).1 (ko_3_0 hb0).2.1 (ko_3_0 hb0).2.2) c12 o14) ?_
          have k15 : rn_kd r13 = 3 := Decidable.byContradiction fun c => by rw [if_neg c] at h; cases h
          rw [if_pos k15] at h
          refine rn_e1 qm (s2 := (33, [(0, .ref b0), (1, .int v1), (2, .int v2)], [.int (rI S r13 5), .int (rI S r9 5)], N, sl, rn_hp S M)) (rn_g_getf rfl rfl (en_3 k15) rfl) ?_
          refine rn_eg qm 1 (s2 := ((if (rI S r9 5) ≤ (rI S r13 5) then 36 else 34), [(0, .ref b0), (1, .int v1), (2, .int v2)], [], N, sl, rn_hp S M)) rfl ?_
          refine rn_ite (fun c16 => ?_) (fun c16 => ?_)
          · rw [if_pos c16] at h
            refine rn_eg qm 2 (s2 := (19, [(2, .int (v2 + (1 : Int32))), (0, .ref b0), (1, .int v1)], [], N, sl, rn_hp S M)) rfl ?_
            refine rn_kq qm (s2 := (19, [(0, .ref b0), (1, .int v1), (2, .int (v2 + (1 : Int32)))], [], N, sl, rn_hp S M)) rfl rfl ?_
            exact ih _ _ _ k R hk h
          · rw [if_neg c16] at h
            refine rn_eg qm 4 (s2 := (19, [(2, .int (v2 + (1 : Int32))), (0, .ref b0), (1, .int v2)], [], N, sl, rn_hp S M)) rfl ?_
            refine rn_kq qm (s2 := (19, [(0, .ref b0), (1, .int v2), (2, .int (v2 + (1 : Int32)))], [], N, sl, rn_hp S M)) rfl rfl ?_
            exact ih _ _ _ k R hk h
def f119 (S : rn_T) (a0 : Nat) : Option (rn_T) :=
  Option.bind (f120 S a0) fun p1 =>
    if rn_kd a0 = 3 then
      if (rI (wI S a0 6 p1) a0 1) = (1 : Int32) then
        rn_om (rP (wI S a0 6 p1) (a0 + 1) (Int32.toNatClampNeg (0 : Int32)))
          (none)
          fun r4 =>
            Option.bind (f123 (wI S a0 6 p1) a0 r4) fun p6 =>
              some (p6)
      else
        f119_L19 a0 rn_FU (wI S a0 6 p1) (0 : Int32) (1 : Int32) (fun S17 w17_1 =>
          Option.bind (f124 S17 a0 w17_1) fun p18 =>
            if p18.1 = true then
              Option.bind (f125 p18.2 a0 w17_1) fun p21 =>
                some (p21)
            else
              Option.bind (f126 p18.2 a0) fun p20 =>
                some (p20))
    else none
set_option maxHeartbeats 4000000 in
theorem E119 {X : rn_X} {N sl : Nat} {S M : rn_T} {a0 : Nat} {R : (rn_T)} (h : f119 S a0 = some R) : rn_rv X 119 (0, [(0, .ref a0)], [], N, sl, rn_hp S M) (none, N, sl, rn_hp R M) := by
  have qm := rn_m119
  unfold f119 at h
  refine rn_eg qm 2 (s2 := (2, [(0, .ref a0)], [.ref a0, .ref a0], N, sl, rn_hp S M)) rfl ?_
  obtain ⟨p1, hp1, h⟩ := Option.bind_eq_some_iff.mp h
  refine rn_ec qm rfl rfl rfl rfl rn_m120 rfl rfl rfl (fun h => by cases h) (E120 hp1) ?_
  refine rn_eg qm 0 (s2 := (3, [(0, .ref a0)], [.int p1, .ref a0], N, sl, rn_hp S M)) rfl ?_
  have k2 : rn_kd a0 = 3 := Decidable.byContradiction fun c => by rw [if_neg c] at h; cases h
  rw [if_pos k2] at h
  refine rn_e1 qm (s2 := (4, [(0, .ref a0)], [], N, sl, rn_hp (wI S a0 6 p1) M)) (rn_g_putf rfl rfl (en_3 k2) rfl rfl rfl (wf_3_6 (v := p1) k2)) ?_
  refine rn_eg qm 1 (s2 := (5, [(0, .ref a0)], [.ref a0], N, sl, rn_hp (wI S a0 6 p1) M)) rfl ?_
  refine rn_e1 qm (s2 := (6, [(0, .ref a0)], [.int (rI (wI S a0 6 p1) a0 1)], N, sl, rn_hp (wI S a0 6 p1) M)) (rn_g_getf rfl rfl (en_3 k2) rfl) ?_
  refine rn_eg qm 2 (s2 := ((if (rI (wI S a0 6 p1) a0 1) = (1 : Int32) then 8 else 15), [(0, .ref a0)], [], N, sl, rn_hp (wI S a0 6 p1) M)) rfl ?_
  refine rn_ite (fun c3 => ?_) (fun c3 => ?_)
  · rw [if_pos c3] at h
    refine rn_eg qm 2 (s2 := (10, [(0, .ref a0)], [.ref a0, .ref a0], N, sl, rn_hp (wI S a0 6 p1) M)) rfl ?_
    refine rn_e1 qm (s2 := (11, [(0, .ref a0)], [.ref (a0 + 1), .ref a0], N, sl, rn_hp (wI S a0 6 p1) M)) (rn_g_getf rfl rfl (en_3 k2) rfl) ?_
    refine rn_eg qm 1 (s2 := (12, [(0, .ref a0)], [.int (0 : Int32), .ref (a0 + 1), .ref a0], N, sl, rn_hp (wI S a0 6 p1) M)) rfl ?_
    cases o5 : rP (wI S a0 6 p1) (a0 + 1) (Int32.toNatClampNeg (0 : Int32)) with
    | none =>
      rw [rn_om_n o5] at h
      refine rn_e1 qm (s2 := (13, [(0, .ref a0)], [.null, .ref a0], N, sl, rn_hp (wI S a0 6 p1) M)) (rn_g_aald (n := 6) (r := none) rfl rfl (ar_x14 (ko_3_0 k2).1 (ko_3_0 k2).2.1 (ko_3_0 k2).2.2) (by decide) o5) ?_
      cases h
    | some r4 =>
      rw [rn_om_s o5] at h
      refine rn_e1 qm (s2 := (13, [(0, .ref a0)], [.ref r4, .ref a0], N, sl, rn_hp (wI S a0 6 p1) M)) (rn_g_aald (n := 6) (r := some r4) rfl rfl (ar_x14 (ko_3_0 k2).1 (ko_3_0 k2).2.1 (ko_3_0 k2).2.2) (by decide) o5) ?_
      obtain ⟨p6, hp6, h⟩ := Option.bind_eq_some_iff.mp h
      refine rn_ec qm rfl rfl rfl rfl rn_m123 rfl rfl rfl (fun h => by cases h) (E123 hp6) ?_
      refine rn_eg qm 0 (s2 := (14, [(0, .ref a0)], [], N, sl, rn_hp p6 M)) rfl ?_
      cases h
      exact rn_er qm rfl rfl rfl
  · rw [if_neg c3] at h
    refine rn_eg qm 4 (s2 := (19, [(2, .int (1 : Int32)), (1, .int (0 : Int32)), (0, .ref a0)], [], N, sl, rn_hp (wI S a0 6 p1) M)) rfl ?_
    refine rn_kq qm (s2 := (19, [(0, .ref a0), (1, .int (0 : Int32)), (2, .int (1 : Int32))], [], N, sl, rn_hp (wI S a0 6 p1) M)) rfl rfl ?_
    refine E119_L19 k2 rn_FU _ _ _ _ R ?_ h
    intro S17 w17_1 h
    refine rn_eg qm 2 (s2 := (40, [(0, .ref a0), (1, .int w17_1)], [.int w17_1, .ref a0], N, sl, rn_hp S17 M)) rfl ?_
    obtain ⟨p18, hp18, h⟩ := Option.bind_eq_some_iff.mp h
    refine rn_ec qm rfl rfl rfl rfl rn_m124 rfl rfl rfl (fun h => by cases h) (E124 hp18) ?_
    refine rn_eg qm 0 (s2 := (41, [(0, .ref a0), (1, .int w17_1)], [.int (rn_bi p18.1)], N, sl, rn_hp p18.2 M)) rfl ?_
    refine rn_eg qm 1 (s2 := ((if (rn_bi p18.1) = 0 then 46 else 42), [(0, .ref a0), (1, .int w17_1)], [], N, sl, rn_hp p18.2 M)) rfl ?_
    refine rn_iteb (fun c19 => ?_) (fun c19 => ?_)
    · rw [if_neg (rn_bf c19)] at h
      refine rn_eg qm 1 (s2 := (47, [(0, .ref a0), (1, .int w17_1)], [.ref a0], N, sl, rn_hp p18.2 M)) rfl ?_
      obtain ⟨p20, hp20, h⟩ := Option.bind_eq_some_iff.mp h
      refine rn_ec qm rfl rfl rfl rfl rn_m126 rfl rfl rfl (fun h => by cases h) (E126 hp20) ?_
      refine rn_eg qm 0 (s2 := (48, [(0, .ref a0), (1, .int w17_1)], [], N, sl, rn_hp p20 M)) rfl ?_
      cases h
      exact rn_er qm rfl rfl rfl
    · rw [if_pos c19] at h
      refine rn_eg qm 2 (s2 := (44, [(0, .ref a0), (1, .int w17_1)], [.int w17_1, .ref a0], N, sl, rn_hp p18.2 M)) rfl ?_
      obtain ⟨p21, hp21, h⟩ := Option.bind_eq_some_iff.mp h
      refine rn_ec qm rfl rfl rfl rfl rn_m125 rfl rfl rfl (fun h => by cases h) (E125 hp21) ?_
      refine rn_eg qm 0 (s2 := (45, [(0, .ref a0), (1, .int w17_1)], [], N, sl, rn_hp p21 M)) rfl ?_
      refine rn_eg qm 1 (s2 := (48, [(0, .ref a0), (1, .int w17_1)], [], N, sl, rn_hp p21 M)) rfl ?_
      cases h
      exact rn_er qm rfl rfl rfl
/-! 162: RecordNiches$Tree.settle(I)Z -/
def f162_J19_5 (S : rn_T) (u1 : Int32) (u2 : Int32) (u3 : Nat) (rc : (rn_T → Int32 → Option (Bool × rn_T))) (k : (rn_T → Option (Bool × rn_T))) : Option (Bool × rn_T) :=
  if (rI S u3 4) = (6 : Int32) then
    Option.bind (f119 S u3) fun p6 =>
      if (rI p6 u3 5) ≤ (64 : Int32) then
        rc p6 (u2 + (-1 : Int32))
      else
        some (false, p6)
  else
    if (rI S u3 5) ≤ (64 : Int32) then
      rc S (u2 + (-1 : Int32))
    else
      some (false, S)
set_option maxHeartbeats 4000000 in
theorem E162_J19_5 {X : rn_X} {N sl : Nat} {M : rn_T} {S : rn_T} {u1 : Int32} {u2 : Int32} {u3 : Nat} {R : (Bool × rn_T)} (hu3 : rn_kd u3 = 3) {rc : (rn_T → Int32 → Option (Bool × rn_T))} (hrc : ∀ (S : rn_T) (v2 : Int32), rc S v2 = some R → rn_rv X 162 (5, [(0, .ref 66), (1, .int u1), (2, .int v2)], [], N, sl, rn_hp S M) (some (.int (rn_bi R.1)), N, sl, rn_hp R.2 M)) {k : (rn_T → Option (Bool × rn_T))} (hk : ∀ (S : rn_T), k S = some R → rn_rv X 162 (33, [(0, .ref 66)], [], N, sl, rn_hp S M) (some (.int (rn_bi R.1)), N, sl, rn_hp R.2 M)) (h : f162_J19_5 S u1 u2 u3 rc k = some R) : rn_rv X 162 (19, [(0, .ref 66), (1, .int u1), (2, .int u2), (3, .ref u3)], [], N, sl, rn_hp S M) (some (.int (rn_bi R.1)), N, sl, rn_hp R.2 M) := by
  have qm := rn_m162
  unfold f162_J19_5 at h
  refine rn_eg qm 1 (s2 := (20, [(0, .ref 66), (1, .int u1), (2, .int u2), (3, .ref u3)], [.ref u3], N, sl, rn_hp S M)) rfl ?_
  refine rn_e1 qm (s2 := (21, [(0, .ref 66), (1, .int u1), (2, .int u2), (3, .ref u3)], [.int (rI S u3 4)], N, sl, rn_hp S M)) (rn_g_getf rfl rfl (en_3 hu3) rfl) ?_
  refine rn_eg qm 2 (s2 := ((if (rI S u3 4) = (6 : Int32) then 23 else 25), [(0, .ref 66), (1, .int u1), (2, .int u2), (3, .ref u3)], [], N, sl, rn_hp S M)) rfl ?_
  refine rn_ite (fun c5 => ?_) (fun c5 => ?_)
  · rw [if_pos c5] at h
    refine rn_eg qm 1 (s2 := (24, [(0, .ref 66), (1, .int u1), (2, .int u2), (3, .ref u3)], [.ref u3], N, sl, rn_hp S M)) rfl ?_
    obtain ⟨p6, hp6, h⟩ := Option.bind_eq_some_iff.mp h
    refine rn_ec qm rfl rfl rfl rfl rn_m119 rfl rfl rfl (fun h => by cases h) (E119 hp6) ?_
    refine rn_eg qm 0 (s2 := (25, [(0, .ref 66), (1, .int u1), (2, .int u2), (3, .ref u3)], [], N, sl, rn_hp p6 M)) rfl ?_
    refine rn_eg qm 1 (s2 := (26, [(0, .ref 66), (1, .int u1), (2, .int u2), (3, .ref u3)], [.ref u3], N, sl, rn_hp p6 M)) rfl ?_
    refine rn_e1 qm (s2 := (27, [(0, .ref 66), (1, .int u1), (2, .int u2), (3, .ref u3)], [.int (rI p6 u3 5)], N, sl, rn_hp p6 M)) (rn_g_getf rfl rfl (en_3 hu3) rfl) ?_
    refine rn_eg qm 2 (s2 := ((if (rI p6 u3 5) ≤ (64 : Int32) then 31 else 29), [(0, .ref 66), (1, .int u1), (2, .int u2), (3, .ref u3)], [], N, sl, rn_hp p6 M)) rfl ?_
    refine rn_ite (fun c7 => ?_) (fun c7 => ?_)
    · rw [if_pos c7] at h
      refine rn_eg qm 2 (s2 := (5, [(2, .int (u2 + (-1 : Int32))), (0, .ref 66), (1, .int u1), (3, .ref u3)], [], N, sl, rn_hp p6 M)) rfl ?_
      refine rn_kq qm (s2 := (5, [(0, .ref 66), (1, .int u1), (2, .int (u2 + (-1 : Int32)))], [], N, sl, rn_hp p6 M)) rfl rfl ?_
      exact hrc _ _ h
    · rw [if_neg c7] at h
      refine rn_eg qm 1 (s2 := (30, [(0, .ref 66), (1, .int u1), (2, .int u2), (3, .ref u3)], [.int (0 : Int32)], N, sl, rn_hp p6 M)) rfl ?_
      cases h
      exact rn_er qm rfl rfl rn_rt0
  · rw [if_neg c5] at h
    refine rn_eg qm 1 (s2 := (26, [(0, .ref 66), (1, .int u1), (2, .int u2), (3, .ref u3)], [.ref u3], N, sl, rn_hp S M)) rfl ?_
    refine rn_e1 qm (s2 := (27, [(0, .ref 66), (1, .int u1), (2, .int u2), (3, .ref u3)], [.int (rI S u3 5)], N, sl, rn_hp S M)) (rn_g_getf rfl rfl (en_3 hu3) rfl) ?_
    refine rn_eg qm 2 (s2 := ((if (rI S u3 5) ≤ (64 : Int32) then 31 else 29), [(0, .ref 66), (1, .int u1), (2, .int u2), (3, .ref u3)], [], N, sl, rn_hp S M)) rfl ?_
    refine rn_ite (fun c8 => ?_) (fun c8 => ?_)
    · rw [if_pos c8] at h
      refine rn_eg qm 2 (s2 := (5, [(2, .int (u2 + (-1 : Int32))), (0, .ref 66), (1, .int u1), (3, .ref u3)], [], N, sl, rn_hp S M)) rfl ?_
      refine rn_kq qm (s2 := (5, [(0, .ref 66), (1, .int u1), (2, .int (u2 + (-1 : Int32)))], [], N, sl, rn_hp S M)) rfl rfl ?_
      exact hrc _ _ h
    · rw [if_neg c8] at h
      refine rn_eg qm 1 (s2 := (30, [(0, .ref 66), (1, .int u1), (2, .int u2), (3, .ref u3)], [.int (0 : Int32)], N, sl, rn_hp S M)) rfl ?_
      cases h
      exact rn_er qm rfl rfl rn_rt0
def f162_L5 (b1 : Int32) : Nat → rn_T → Int32 → (rn_T → Option (Bool × rn_T)) → Option (Bool × rn_T)
  | 0, _, _, _ => none
  | fu + 1, S, v2, k =>
    if v2 < 0 then
      k S
    else
      if rn_ob v2 100 then none else
        if (rI S (76 + 2 * (Int32.toNatClampNeg v2)) 4) = (5 : Int32) then
          Option.bind (f118 S (76 + 2 * (Int32.toNatClampNeg v2)) b1) fun p4 =>
            f162_J19_5 p4 b1 v2 (76 + 2 * (Int32.toNatClampNeg v2)) (fun S v2 => f162_L5 b1 fu S v2 k) k
        else
          f162_J19_5 S b1 v2 (76 + 2 * (Int32.toNatClampNeg v2)) (fun S v2 => f162_L5 b1 fu S v2 k) k
set_option maxHeartbeats 4000000 in
theorem E162_L5 {X : rn_X} {N sl : Nat} {M : rn_T} {b1 : Int32} : ∀ (fu : Nat) (S : rn_T) (v2 : Int32) (k : (rn_T → Option (Bool × rn_T))) (R : (Bool × rn_T)), (∀ (S : rn_T), k S = some R → rn_rv X 162 (33, [(0, .ref 66)], [], N, sl, rn_hp S M) (some (.int (rn_bi R.1)), N, sl, rn_hp R.2 M)) → f162_L5 b1 fu S v2 k = some R → rn_rv X 162 (5, [(0, .ref 66), (1, .int b1), (2, .int v2)], [], N, sl, rn_hp S M) (some (.int (rn_bi R.1)), N, sl, rn_hp R.2 M) := by
  have qm := rn_m162
  intro fu
  induction fu with
  | zero => intro S v2 k R hk h; cases h
  | succ fu ih =>
    intro S v2 k R hk h
    unfold f162_L5 at h
    refine rn_eg qm 2 (s2 := ((if v2 < 0 then 33 else 7), [(0, .ref 66), (1, .int b1), (2, .int v2)], [], N, sl, rn_hp S M)) rfl ?_
    refine rn_ite (fun c1 => ?_) (fun c1 => ?_)
    · rw [if_pos c1] at h
      refine rn_kq qm (s2 := (33, [(0, .ref 66)], [], N, sl, rn_hp S M)) rfl rfl ?_
      exact hk _ h
    · rw [if_neg c1] at h
      refine rn_eg qm 3 (s2 := (10, [(0, .ref 66), (1, .int b1), (2, .int v2)], [.int v2, .ref 67], N, sl, rn_hp S M)) rfl ?_
      have c2 : ¬ (rn_ob v2 100) := fun c => by rw [if_pos c] at h; cases h
      rw [if_neg c2] at h
      refine rn_e1 qm (s2 := (11, [(0, .ref 66), (1, .int b1), (2, .int v2)], [.ref (76 + 2 * (Int32.toNatClampNeg v2))], N, sl, rn_hp S M)) (rn_g_aald (r := some (76 + 2 * (Int32.toNatClampNeg v2))) rfl rfl (ar_x23 (q := 67) rfl (Nat.le_of_ble_eq_true rfl)) c2 (rn_cr_at (rn_ob_lt c2))) ?_
      refine rn_eg qm 2 (s2 := (13, [(3, .ref (76 + 2 * (Int32.toNatClampNeg v2))), (0, .ref 66), (1, .int b1), (2, .int v2)], [.ref (76 + 2 * (Int32.toNatClampNeg v2))], N, sl, rn_hp S M)) rfl ?_
      refine rn_e1 qm (s2 := (14, [(3, .ref (76 + 2 * (Int32.toNatClampNeg v2))), (0, .ref 66), (1, .int b1), (2, .int v2)], [.int (rI S (76 + 2 * (Int32.toNatClampNeg v2)) 4)], N, sl, rn_hp S M)) (rn_g_getf rfl rfl (en_3 (show rn_kd (76 + 2 * (Int32.toNatClampNeg v2)) = 3 from ck_23 (q := 67) rfl (rn_ob_lt c2))) rfl) ?_
      refine rn_eg qm 2 (s2 := ((if (rI S (76 + 2 * (Int32.toNatClampNeg v2)) 4) = (5 : Int32) then 16 else 19), [(3, .ref (76 + 2 * (Int32.toNatClampNeg v2))), (0, .ref 66), (1, .int b1), (2, .int v2)], [], N, sl, rn_hp S M)) rfl ?_
      refine rn_ite (fun c3 => ?_) (fun c3 => ?_)
      · rw [if_pos c3] at h
        refine rn_eg qm 2 (s2 := (18, [(3, .ref (76 + 2 * (Int32.toNatClampNeg v2))), (0, .ref 66), (1, .int b1), (2, .int v2)], [.int b1, .ref (76 + 2 * (Int32.toNatClampNeg v2))], N, sl, rn_hp S M)) rfl ?_
        obtain ⟨p4, hp4, h⟩ := Option.bind_eq_some_iff.mp h
        refine rn_ec qm rfl rfl rfl rfl rn_m118 rfl rfl rfl (fun h => by cases h) (E118 hp4) ?_
        refine rn_eg qm 0 (s2 := (19, [(3, .ref (76 + 2 * (Int32.toNatClampNeg v2))), (0, .ref 66), (1, .int b1), (2, .int v2)], [], N, sl, rn_hp p4 M)) rfl ?_
        refine rn_kq qm (s2 := (19, [(0, .ref 66), (1, .int b1), (2, .int v2), (3, .ref (76 + 2 * (Int32.toNatClampNeg v2)))], [], N, sl, rn_hp p4 M)) rfl rfl ?_
        exact E162_J19_5 (show rn_kd (76 + 2 * (Int32.toNatClampNeg v2)) = 3 from ck_23 (q := 67) rfl (rn_ob_lt c2)) (fun S v2 h => ih S v2 k R hk h) hk h
      · rw [if_neg c3] at h
        refine rn_kq qm (s2 := (19, [(0, .ref 66), (1, .int b1), (2, .int v2), (3, .ref (76 + 2 * (Int32.toNatClampNeg v2)))], [], N, sl, rn_hp S M)) rfl rfl ?_
        exact E162_J19_5 (show rn_kd (76 + 2 * (Int32.toNatClampNeg v2)) = 3 from ck_23 (q := 67) rfl (rn_ob_lt c2)) (fun S v2 h => ih S v2 k R hk h) hk h
def f162_L35 : Nat → rn_T → Int32 → (rn_T → Option (Bool × rn_T)) → Option (Bool × rn_T)
  | 0, _, _, _ => none
  | fu + 1, S, v2, k =>
    if (rI S 66 0) ≤ v2 then
      k S
    else
      if rn_ob v2 100 then none else
        rn_om (rR S (76 + 2 * (Int32.toNatClampNeg v2)))
          (f162_L35 fu S (v2 + (1 : Int32)) k)
          fun r12 =>
            rn_om (rR S (76 + 2 * (Int32.toNatClampNeg v2)))
              (none)
              fun r14 =>
                if rn_kd r14 = 3 then
                  f162_L35 fu (wI S (76 + 2 * (Int32.toNatClampNeg v2)) 15 ((rI S r14 15) + (rI S (76 + 2 * (Int32.toNatClampNeg v2)) 7))) (v2 + (1 : Int32)) k
                else none
set_option maxHeartbeats 4000000 in
theorem E162_L35 {X : rn_X} {N sl : Nat} {M : rn_T} : ∀ (fu : Nat) (S : rn_T) (v2 : Int32) (k : (rn_T → Option (Bool × rn_T))) (R : (Bool × rn_T)), (∀ (S : rn_T), k S = some R → rn_rv X 162 (57, [], [], N, sl, rn_hp S M) (some (.int (rn_bi R.1)), N, sl, rn_hp R.2 M)) → f162_L35 fu S v2 k = some R → rn_rv X 162 (35, [(0, .ref 66), (2, .int v2)], [], N, sl, rn_hp S M) (some (.int (rn_bi R.1)), N, sl, rn_hp R.2 M) := by
  have qm := rn_m162
  intro fu
  induction fu with
  | zero => intro S v2 k R hk h; cases h
  | succ fu ih =>
    intro S v2 k R hk h
    unfold f162_L35 at h
    refine rn_eg qm 4 (s2 := ((if (rI S 66 0) ≤ v2 then 57 else 39), [(0, .ref 66), (2, .int v2)], [], N, sl, rn_hp S M)) rfl ?_
    refine rn_ite (fun c10 => ?_) (fun c10 => ?_)
    · rw [if_pos c10] at h
      refine rn_kq qm (s2 := (57, [], [], N, sl, rn_hp S M)) rfl rfl ?_
      exact hk _ h
    · rw [if_neg c10] at h
      refine rn_eg qm 3 (s2 := (42, [(0, .ref 66), (2, .int v2)], [.int v2, .ref 67], N, sl, rn_hp S M)) rfl ?_
      have c11 : ¬ (rn_ob v2 100) := fun c => by rw [if_pos c] at h; cases h
      rw [if_neg c11] at h
      refine rn_e1 qm (s2 := (43, [(0, .ref 66), (2, .int v2)], [.ref (76 + 2 * (Int32.toNatClampNeg v2))], N, sl, rn_hp S M)) (rn_g_aald (r := some (76 + 2 * (Int32.toNatClampNeg v2))) rfl rfl (ar_x23 (q := 67) rfl (Nat.le_of_ble_eq_true rfl)) c11 (rn_cr_at (rn_ob_lt c11))) ?_
      refine rn_eg qm 2 (s2 := (45, [(3, .ref (76 + 2 * (Int32.toNatClampNeg v2))), (0, .ref 66), (2, .int v2)], [.ref (76 + 2 * (Int32.toNatClampNeg v2))], N, sl, rn_hp S M)) rfl ?_
      cases o13 : rR S (76 + 2 * (Int32.toNatClampNeg v2)) with
      | none =>
        rw [rn_om_n o13] at h
        refine rn_e1 qm (s2 := (46, [(3, .ref (76 + 2 * (Int32.toNatClampNeg v2))), (0, .ref 66), (2, .int v2)], [.null], N, sl, rn_hp S M)) (rn_g_getf rfl rfl (en_3 (show rn_kd (76 + 2 * (Int32.toNatClampNeg v2)) = 3 from ck_23 (q := 67) rfl (rn_ob_lt c11))) (congrArg (fun o => some (va_rf o)) o13)) ?_
        refine rn_eg qm 3 (s2 := (35, [(2, .int (v2 + (1 : Int32))), (0, .ref 66)], [], N, sl, rn_hp S M)) rfl ?_
        refine rn_kq qm (s2 := (35, [(0, .ref 66), (2, .int (v2 + (1 : Int32)))], [], N, sl, rn_hp S M)) rfl rfl ?_
        exact ih _ _ k R hk h
      | some r12 =>
        rw [rn_om_s o13] at h
        refine rn_e1 qm (s2 := (46, [(3, .ref (76 + 2 * (Int32.toNatClampNeg v2))), (0, .ref 66), (2, .int v2)], [.ref r12], N, sl, rn_hp S M)) (rn_g_getf rfl rfl (en_3 (show rn_kd (76 + 2 * (Int32.toNatClampNeg v2)) = 3 from ck_23 (q := 67) rfl (rn_ob_lt c11))) (congrArg (fun o => some (va_rf o)) o13)) ?_
        refine rn_eg qm 3 (s2 := (49, [(3, .ref (76 + 2 * (Int32.toNatClampNeg v2))), (0, .ref 66), (2, .int v2)], [.ref (76 + 2 * (Int32.toNatClampNeg v2)), .ref (76 + 2 * (Int32.toNatClampNeg v2))], N, sl, rn_hp S M)) rfl ?_
        cases o15 : rR S (76 + 2 * (Int32.toNatClampNeg v2)) with
        | none =>
          rw [rn_om_n o15] at h
          refine rn_e1 qm (s2 := (50, [(3, .ref (76 + 2 * (Int32.toNatClampNeg v2))), (0, .ref 66), (2, .int v2)], [.null, .ref (76 + 2 * (Int32.toNatClampNeg v2))], N, sl, rn_hp S M)) (rn_g_getf rfl rfl (en_3 (show rn_kd (76 + 2 * (Int32.toNatClampNeg v2)) = 3 from ck_23 (q := 67) rfl (rn_ob_lt c11))) (congrArg (fun o => some (va_rf o)) o15)) ?_
          cases h
        | some r14 =>
          rw [rn_om_s o15] at h
          refine rn_e1 qm (s2 := (50, [(3, .ref (76 + 2 * (Int32.toNatClampNeg v2))), (0, .ref 66), (2, .int v2)], [.ref r14, .ref (76 + 2 * (Int32.toNatClampNeg v2))], N, sl, rn_hp S M)) (rn_g_getf rfl rfl (en_3 (show rn_kd (76 + 2 * (Int32.toNatClampNeg v2)) = 3 from ck_23 (q := 67) rfl (rn_ob_lt c11))) (congrArg (fun o => some (va_rf o)) o15)) ?_
          have k16 : rn_kd r14 = 3 := Decidable.byContradiction fun c => by rw [if_neg c] at h; cases h
          rw [if_pos k16] at h
          refine rn_e1 qm (s2 := (51, [(3, .ref (76 + 2 * (Int32.toNatClampNeg v2))), (0, .ref 66), (2, .int v2)], [.int (rI S r14 15), .ref (76 + 2 * (Int32.toNatClampNeg v2))], N, sl, rn_hp S M)) (rn_g_getf rfl rfl (en_3 k16) rfl) ?_
          refine rn_eg qm 1 (s2 := (52, [(3, .ref (76 + 2 * (Int32.toNatClampNeg v2))), (0, .ref 66), (2, .int v2)], [.ref (76 + 2 * (Int32.toNatClampNeg v2)), .int (rI S r14 15), .ref (76 + 2 * (Int32.toNatClampNeg v2))], N, sl, rn_hp S M)) rfl ?_
          refine rn_e1 qm (s2 := (53, [(3, .ref (76 + 2 * (Int32.toNatClampNeg v2))), (0, .ref 66), (2, .int v2)], [.int (rI S (76 + 2 * (Int32.toNatClampNeg v2)) 7), .int (rI S r14 15), .ref (76 + 2 * (Int32.toNatClampNeg v2))], N, sl, rn_hp S M)) (rn_g_getf rfl rfl (en_3 (show rn_kd (76 + 2 * (Int32.toNatClampNeg v2)) = 3 from ck_23 (q := 67) rfl (rn_ob_lt c11))) rfl) ?_
          refine rn_eg qm 1 (s2 := (54, [(3, .ref (76 + 2 * (Int32.toNatClampNeg v2))), (0, .ref 66), (2, .int v2)], [.int ((rI S r14 15) + (rI S (76 + 2 * (Int32.toNatClampNeg v2)) 7)), .ref (76 + 2 * (Int32.toNatClampNeg v2))], N, sl, rn_hp S M)) rfl ?_
          refine rn_e1 qm (s2 := (55, [(3, .ref (76 + 2 * (Int32.toNatClampNeg v2))), (0, .ref 66), (2, .int v2)], [], N, sl, rn_hp (wI S (76 + 2 * (Int32.toNatClampNeg v2)) 15 ((rI S r14 15) + (rI S (76 + 2 * (Int32.toNatClampNeg v2)) 7))) M)) (rn_g_putf rfl rfl (en_3 (show rn_kd (76 + 2 * (Int32.toNatClampNeg v2)) = 3 from ck_23 (q := 67) rfl (rn_ob_lt c11))) rfl rfl rfl (wf_3_15 (v := ((rI S r14 15) + (rI S (76 + 2 * (Int32.toNatClampNeg v2)) 7))) (show rn_kd (76 + 2 * (Int32.toNatClampNeg v2)) = 3 from ck_23 (q := 67) rfl (rn_ob_lt c11)))) ?_
          refine rn_eg qm 2 (s2 := (35, [(2, .int (v2 + (1 : Int32))), (0, .ref 66)], [], N, sl, rn_hp (wI S (76 + 2 * (Int32.toNatClampNeg v2)) 15 ((rI S r14 15) + (rI S (76 + 2 * (Int32.toNatClampNeg v2)) 7))) M)) rfl ?_
          refine rn_kq qm (s2 := (35, [(0, .ref 66), (2, .int (v2 + (1 : Int32)))], [], N, sl, rn_hp (wI S (76 + 2 * (Int32.toNatClampNeg v2)) 15 ((rI S r14 15) + (rI S (76 + 2 * (Int32.toNatClampNeg v2)) 7))) M)) rfl rfl ?_
          exact ih _ _ k R hk h
def f162 (S : rn_T) (a1 : Int32) : Option (Bool × rn_T) :=
  f162_L5 a1 rn_FU S ((rI S 66 0) - (1 : Int32)) (fun S9 =>
    f162_L35 rn_FU S9 (0 : Int32) (fun S17 =>
      some (true, S17)))
set_option maxHeartbeats 4000000 in
theorem E162 {X : rn_X} {N sl : Nat} {S M : rn_T} {a1 : Int32} {R : (Bool × rn_T)} (h : f162 S a1 = some R) : rn_rv X 162 (0, [(0, .ref 66), (1, .int a1)], [], N, sl, rn_hp S M) (some (.int (rn_bi R.1)), N, sl, rn_hp R.2 M) := by
  have qm := rn_m162
  unfold f162 at h
  refine rn_eg qm 5 (s2 := (5, [(2, .int ((rI S 66 0) - (1 : Int32))), (0, .ref 66), (1, .int a1)], [], N, sl, rn_hp S M)) rfl ?_
  refine rn_kq qm (s2 := (5, [(0, .ref 66), (1, .int a1), (2, .int ((rI S 66 0) - (1 : Int32)))], [], N, sl, rn_hp S M)) rfl rfl ?_
  refine E162_L5 rn_FU _ _ _ R ?_ h
  intro S9 h
  refine rn_eg qm 2 (s2 := (35, [(2, .int (0 : Int32)), (0, .ref 66)], [], N, sl, rn_hp S9 M)) rfl ?_
  refine rn_kq qm (s2 := (35, [(0, .ref 66), (2, .int (0 : Int32))], [], N, sl, rn_hp S9 M)) rfl rfl ?_
  refine E162_L35 rn_FU _ _ _ R ?_ h
  intro S17 h
  refine rn_eg qm 1 (s2 := (58, [], [.int (1 : Int32)], N, sl, rn_hp S17 M)) rfl ?_
  cases h
  exact rn_er qm rfl rfl rn_rt1
/-! 24: RecordNiches.prepare(II)I -/
def f24 (S : rn_T) (a1 : Int32) (a2 : Int32) : Option (Int32 × rn_T) :=
  Option.bind (f110 S 1 a1 a2) fun p1 =>
    if p1.1 = true then
      Option.bind (f156 p1.2 1 a1 a2) fun p3 =>
        if p3.1 = true then
          Option.bind (f162 p3.2 (rI p3.2 1 4)) fun p5 =>
            if p5.1 = true then
              some ((0 : Int32), p5.2)
            else
              some ((-3 : Int32), p5.2)
        else
          some ((-3 : Int32), p3.2)
    else
      some ((-5 : Int32), p1.2)
set_option maxHeartbeats 4000000 in
theorem E24 {X : rn_X} {N sl : Nat} {S M : rn_T} {a1 : Int32} {a2 : Int32} {R : (Int32 × rn_T)} (h : f24 S a1 a2 = some R) : rn_rv X 24 (0, [(0, .ref 0), (1, .int a1), (2, .int a2)], [], N, sl, rn_hp S M) (some (.int R.1), N, sl, rn_hp R.2 M) := by
  have qm := rn_m24
  unfold f24 at h
  refine rn_eg qm 6 (s2 := (6, [(0, .ref 0), (1, .int a1), (2, .int a2)], [.int a2, .int a1, .ref 1, .ref 23], N, sl, rn_hp S M)) rfl ?_
  obtain ⟨p1, hp1, h⟩ := Option.bind_eq_some_iff.mp h
  refine rn_ec qm rfl rfl rfl rfl rn_m110 rfl rfl rfl (fun _ => rn_rc_of (en_0 (q := 23) rfl)) (E110 hp1) ?_
  refine rn_eg qm 0 (s2 := (7, [(0, .ref 0), (1, .int a1), (2, .int a2)], [.int (rn_bi p1.1)], N, sl, rn_hp p1.2 M)) rfl ?_
  refine rn_eg qm 1 (s2 := ((if (rn_bi p1.1) = 0 then 8 else 10), [(0, .ref 0), (1, .int a1), (2, .int a2)], [], N, sl, rn_hp p1.2 M)) rfl ?_
  refine rn_iteb (fun c2 => ?_) (fun c2 => ?_)
  · rw [if_neg (rn_bf c2)] at h
    refine rn_eg qm 1 (s2 := (9, [(0, .ref 0), (1, .int a1), (2, .int a2)], [.int (-5 : Int32)], N, sl, rn_hp p1.2 M)) rfl ?_
    cases h
    exact rn_er qm rfl rfl rfl
  · rw [if_pos c2] at h
    refine rn_eg qm 8 (s2 := (18, [(0, .ref 0), (1, .int a1), (2, .int a2)], [.int a2, .int a1, .ref 23, .ref 1, .ref 66], N, sl, rn_hp p1.2 M)) rfl ?_
    obtain ⟨p3, hp3, h⟩ := Option.bind_eq_some_iff.mp h
    refine rn_ec qm rfl rfl rfl rfl rn_m156 rfl rfl rfl (fun _ => rn_rc_of (en_7 (q := 66) rfl)) (E156 hp3) ?_
    refine rn_eg qm 0 (s2 := (19, [(0, .ref 0), (1, .int a1), (2, .int a2)], [.int (rn_bi p3.1)], N, sl, rn_hp p3.2 M)) rfl ?_
    refine rn_eg qm 1 (s2 := ((if (rn_bi p3.1) = 0 then 20 else 22), [(0, .ref 0), (1, .int a1), (2, .int a2)], [], N, sl, rn_hp p3.2 M)) rfl ?_
    refine rn_iteb (fun c4 => ?_) (fun c4 => ?_)
    · rw [if_neg (rn_bf c4)] at h
      refine rn_eg qm 1 (s2 := (21, [(0, .ref 0), (1, .int a1), (2, .int a2)], [.int (-3 : Int32)], N, sl, rn_hp p3.2 M)) rfl ?_
      cases h
      exact rn_er qm rfl rfl rfl
    · rw [if_pos c4] at h
      refine rn_eg qm 5 (s2 := (27, [(0, .ref 0), (1, .int a1), (2, .int a2)], [.int (rI p3.2 1 4), .ref 66], N, sl, rn_hp p3.2 M)) rfl ?_
      obtain ⟨p5, hp5, h⟩ := Option.bind_eq_some_iff.mp h
      refine rn_ec qm rfl rfl rfl rfl rn_m162 rfl rfl rfl (fun _ => rn_rc_of (en_7 (q := 66) rfl)) (E162 hp5) ?_
      refine rn_eg qm 0 (s2 := (28, [(0, .ref 0), (1, .int a1), (2, .int a2)], [.int (rn_bi p5.1)], N, sl, rn_hp p5.2 M)) rfl ?_
      refine rn_eg qm 1 (s2 := ((if (rn_bi p5.1) = 0 then 31 else 29), [(0, .ref 0), (1, .int a1), (2, .int a2)], [], N, sl, rn_hp p5.2 M)) rfl ?_
      refine rn_iteb (fun c6 => ?_) (fun c6 => ?_)
      · rw [if_neg (rn_bf c6)] at h
        refine rn_eg qm 1 (s2 := (32, [(0, .ref 0), (1, .int a1), (2, .int a2)], [.int (-3 : Int32)], N, sl, rn_hp p5.2 M)) rfl ?_
        cases h
        exact rn_er qm rfl rfl rfl
      · rw [if_pos c6] at h
        refine rn_eg qm 2 (s2 := (32, [(0, .ref 0), (1, .int a1), (2, .int a2)], [.int (0 : Int32)], N, sl, rn_hp p5.2 M)) rfl ?_
        cases h
        exact rn_er qm rfl rfl rfl
/-! 154: RecordNiches$Tree.root()LRecordNiches$Node; -/
def f154 (S : rn_T) : Nat :=
  76
set_option maxHeartbeats 4000000 in
theorem E154 {X : rn_X} {N sl : Nat} {S M : rn_T} {R : Nat} (h : f154 S = R) : rn_rv X 154 (0, [(0, .ref 66)], [], N, sl, rn_hp S M) (some (.ref R), N, sl, rn_hp S M) := by
  have qm := rn_m154
  unfold f154 at h
  refine rn_eg qm 3 (s2 := (3, [(0, .ref 66)], [.int (0 : Int32), .ref 67], N, sl, rn_hp S M)) rfl ?_
  refine rn_e1 qm (s2 := (4, [(0, .ref 66)], [.ref 76], N, sl, rn_hp S M)) (rn_g_aald (r := some 76) rfl rfl (ar_x23 (q := 67) rfl (Nat.le_of_ble_eq_true rfl)) (by decide) (rn_cr_at (by decide : Int32.toNatClampNeg (0 : Int32) < 100))) ?_
  cases h
  exact rn_er qm rfl rfl rfl
/-! 5: RecordNiches.layout(III)I -/
def f5 (S : rn_T) (a1 : Int32) (a2 : Int32) (a3 : Int32) : Option (Int32 × rn_T) :=
  Option.bind (f23 S a1 a2) fun p1 =>
    if p1 = true then
      if a3 < 0 then
        some ((-2 : Int32), S)
      else
        if a3 ≤ (6 : Int32) then
          Option.bind (f24 S a1 a2) fun p5 =>
            if p5.1 = 0 then
              if a3 = 0 then
                if rn_kd (f154 p5.2) = 3 then
                  some ((rI p5.2 (f154 p5.2) 5), p5.2)
                else none
              else
                if a3 = (1 : Int32) then
                  if rn_kd (f154 p5.2) = 3 then
                    some ((rI p5.2 (f154 p5.2) 6), p5.2)
                  else none
                else
                  if a3 = (6 : Int32) then
                    some ((rI p5.2 66 0), p5.2)
                  else
                    if rn_kd (f154 p5.2) = 3 then
                      if (rI p5.2 (f154 p5.2) 11) = 0 then
                        some ((-6 : Int32), p5.2)
                      else
                        if a3 = (2 : Int32) then
                          some ((rI p5.2 (f154 p5.2) 8), p5.2)
                        else
                          if a3 = (3 : Int32) then
                            some ((rI p5.2 (f154 p5.2) 9), p5.2)
                          else
                            if a3 = (4 : Int32) then
                              some ((rI p5.2 (f154 p5.2) 10), p5.2)
                            else
                              some ((rI p5.2 (f154 p5.2) 11), p5.2)
                    else none
            else
              some (p5.1, p5.2)
        else
          some ((-2 : Int32), S)
    else
      some ((-1 : Int32), S)
set_option maxHeartbeats 4000000 in
theorem E5 {X : rn_X} {N sl : Nat} {S M : rn_T} {a1 : Int32} {a2 : Int32} {a3 : Int32} {R : (Int32 × rn_T)} (h : f5 S a1 a2 a3 = some R) : rn_rv X 5 (0, [(0, .ref 0), (1, .int a1), (2, .int a2), (3, .int a3)], [], N, sl, rn_hp S M) (some (.int R.1), N, sl, rn_hp R.2 M) := by
  have qm := rn_m5
  unfold f5 at h
  refine rn_eg qm 3 (s2 := (3, [(0, .ref 0), (1, .int a1), (2, .int a2), (3, .int a3)], [.int a2, .int a1, .ref 0], N, sl, rn_hp S M)) rfl ?_
  obtain ⟨p1, hp1, h⟩ := Option.bind_eq_some_iff.mp h
  refine rn_ec qm rfl rfl rfl rfl rn_m23 rfl rfl rfl (fun _ => rn_rc_of (en_8 (q := 0) rfl)) (E23 hp1) ?_
  refine rn_eg qm 0 (s2 := (4, [(0, .ref 0), (1, .int a1), (2, .int a2), (3, .int a3)], [.int (rn_bi p1)], N, sl, rn_hp S M)) rfl ?_
  refine rn_eg qm 1 (s2 := ((if (rn_bi p1) = 0 then 5 else 7), [(0, .ref 0), (1, .int a1), (2, .int a2), (3, .int a3)], [], N, sl, rn_hp S M)) rfl ?_
  refine rn_iteb (fun c2 => ?_) (fun c2 => ?_)
  · rw [if_neg (rn_bf c2)] at h
    refine rn_eg qm 1 (s2 := (6, [(0, .ref 0), (1, .int a1), (2, .int a2), (3, .int a3)], [.int (-1 : Int32)], N, sl, rn_hp S M)) rfl ?_
    cases h
    exact rn_er qm rfl rfl rfl
  · rw [if_pos c2] at h
    refine rn_eg qm 2 (s2 := ((if a3 < 0 then 12 else 9), [(0, .ref 0), (1, .int a1), (2, .int a2), (3, .int a3)], [], N, sl, rn_hp S M)) rfl ?_
    refine rn_ite (fun c3 => ?_) (fun c3 => ?_)
    · rw [if_pos c3] at h
      refine rn_eg qm 1 (s2 := (13, [], [.int (-2 : Int32)], N, sl, rn_hp S M)) rfl ?_
      cases h
      exact rn_er qm rfl rfl rfl
    · rw [if_neg c3] at h
      refine rn_eg qm 3 (s2 := ((if a3 ≤ (6 : Int32) then 14 else 12), [(0, .ref 0), (1, .int a1), (2, .int a2), (3, .int a3)], [], N, sl, rn_hp S M)) rfl ?_
      refine rn_ite (fun c4 => ?_) (fun c4 => ?_)
      · rw [if_pos c4] at h
        refine rn_eg qm 3 (s2 := (17, [(0, .ref 0), (1, .int a1), (2, .int a2), (3, .int a3)], [.int a2, .int a1, .ref 0], N, sl, rn_hp S M)) rfl ?_
        obtain ⟨p5, hp5, h⟩ := Option.bind_eq_some_iff.mp h
        refine rn_ec qm rfl rfl rfl rfl rn_m24 rfl rfl rfl (fun _ => rn_rc_of (en_8 (q := 0) rfl)) (E24 hp5) ?_
        refine rn_eg qm 0 (s2 := (18, [(0, .ref 0), (1, .int a1), (2, .int a2), (3, .int a3)], [.int p5.1], N, sl, rn_hp p5.2 M)) rfl ?_
        refine rn_eg qm 3 (s2 := ((if p5.1 = 0 then 23 else 21), [(4, .int p5.1), (0, .ref 0), (1, .int a1), (2, .int a2), (3, .int a3)], [], N, sl, rn_hp p5.2 M)) rfl ?_
        refine rn_ite (fun c6 => ?_) (fun c6 => ?_)
        · rw [if_pos c6] at h
          refine rn_eg qm 2 (s2 := (25, [(4, .int p5.1), (0, .ref 0), (1, .int a1), (2, .int a2), (3, .int a3)], [.ref 66], N, sl, rn_hp p5.2 M)) rfl ?_
          refine rn_ec qm rfl rfl rfl rfl rn_m154 rfl rfl rfl (fun _ => rn_rc_of (en_7 (q := 66) rfl)) (E154 rfl) ?_
          refine rn_eg qm 0 (s2 := (26, [(4, .int p5.1), (0, .ref 0), (1, .int a1), (2, .int a2), (3, .int a3)], [.ref (f154 p5.2)], N, sl, rn_hp p5.2 M)) rfl ?_
          refine rn_eg qm 3 (s2 := ((if a3 = 0 then 29 else 32), [(5, .ref (f154 p5.2)), (4, .int p5.1), (0, .ref 0), (1, .int a1), (2, .int a2), (3, .int a3)], [], N, sl, rn_hp p5.2 M)) rfl ?_
          refine rn_ite (fun c8 => ?_) (fun c8 => ?_)
          · rw [if_pos c8] at h
            refine rn_eg qm 1 (s2 := (30, [(5, .ref (f154 p5.2)), (4, .int p5.1), (0, .ref 0), (1, .int a1), (2, .int a2), (3, .int a3)], [.ref (f154 p5.2)], N, sl, rn_hp p5.2 M)) rfl ?_
            have k9 : rn_kd (f154 p5.2) = 3 := Decidable.byContradiction fun c => by rw [if_neg c] at h; cases h
            rw [if_pos k9] at h
            refine rn_e1 qm (s2 := (31, [(5, .ref (f154 p5.2)), (4, .int p5.1), (0, .ref 0), (1, .int a1), (2, .int a2), (3, .int a3)], [.int (rI p5.2 (f154 p5.2) 5)], N, sl, rn_hp p5.2 M)) (rn_g_getf rfl rfl (en_3 k9) rfl) ?_
            cases h
            exact rn_er qm rfl rfl rfl
          · rw [if_neg c8] at h
            refine rn_eg qm 3 (s2 := ((if a3 = (1 : Int32) then 35 else 38), [(5, .ref (f154 p5.2)), (4, .int p5.1), (0, .ref 0), (1, .int a1), (2, .int a2), (3, .int a3)], [], N, sl, rn_hp p5.2 M)) rfl ?_
            refine rn_ite (fun c10 => ?_) (fun c10 => ?_)
            · rw [if_pos c10] at h
              refine rn_eg qm 1 (s2 := (36, [(5, .ref (f154 p5.2)), (4, .int p5.1), (0, .ref 0), (1, .int a1), (2, .int a2), (3, .int a3)], [.ref (f154 p5.2)], N, sl, rn_hp p5.2 M)) rfl ?_
              have k11 : rn_kd (f154 p5.2) = 3 := Decidable.byContradiction fun c => by rw [if_neg c] at h; cases h
              rw [if_pos k11] at h
              refine rn_e1 qm (s2 := (37, [(5, .ref (f154 p5.2)), (4, .int p5.1), (0, .ref 0), (1, .int a1), (2, .int a2), (3, .int a3)], [.int (rI p5.2 (f154 p5.2) 6)], N, sl, rn_hp p5.2 M)) (rn_g_getf rfl rfl (en_3 k11) rfl) ?_
              cases h
              exact rn_er qm rfl rfl rfl
            · rw [if_neg c10] at h
              refine rn_eg qm 3 (s2 := ((if a3 = (6 : Int32) then 41 else 45), [(5, .ref (f154 p5.2)), (4, .int p5.1), (0, .ref 0), (1, .int a1), (2, .int a2), (3, .int a3)], [], N, sl, rn_hp p5.2 M)) rfl ?_
              refine rn_ite (fun c12 => ?_) (fun c12 => ?_)
              · rw [if_pos c12] at h
                refine rn_eg qm 3 (s2 := (44, [(5, .ref (f154 p5.2)), (4, .int p5.1), (0, .ref 0), (1, .int a1), (2, .int a2), (3, .int a3)], [.int (rI p5.2 66 0)], N, sl, rn_hp p5.2 M)) rfl ?_
                cases h
                exact rn_er qm rfl rfl rfl
              · rw [if_neg c12] at h
                refine rn_eg qm 1 (s2 := (46, [(5, .ref (f154 p5.2)), (4, .int p5.1), (0, .ref 0), (1, .int a1), (2, .int a2), (3, .int a3)], [.ref (f154 p5.2)], N, sl, rn_hp p5.2 M)) rfl ?_
                have k13 : rn_kd (f154 p5.2) = 3 := Decidable.byContradiction fun c => by rw [if_neg c] at h; cases h
                rw [if_pos k13] at h
                refine rn_e1 qm (s2 := (47, [(5, .ref (f154 p5.2)), (4, .int p5.1), (0, .ref 0), (1, .int a1), (2, .int a2), (3, .int a3)], [.int (rI p5.2 (f154 p5.2) 11)], N, sl, rn_hp p5.2 M)) (rn_g_getf rfl rfl (en_3 k13) rfl) ?_
                refine rn_eg qm 1 (s2 := ((if (rI p5.2 (f154 p5.2) 11) = 0 then 48 else 50), [(5, .ref (f154 p5.2)), (4, .int p5.1), (0, .ref 0), (1, .int a1), (2, .int a2), (3, .int a3)], [], N, sl, rn_hp p5.2 M)) rfl ?_
                refine rn_ite (fun c14 => ?_) (fun c14 => ?_)
                · rw [if_pos c14] at h
                  refine rn_eg qm 1 (s2 := (49, [(5, .ref (f154 p5.2)), (4, .int p5.1), (0, .ref 0), (1, .int a1), (2, .int a2), (3, .int a3)], [.int (-6 : Int32)], N, sl, rn_hp p5.2 M)) rfl ?_
                  cases h
                  exact rn_er qm rfl rfl rfl
                · rw [if_neg c14] at h
                  refine rn_eg qm 3 (s2 := ((if a3 = (2 : Int32) then 53 else 56), [(5, .ref (f154 p5.2)), (4, .int p5.1), (0, .ref 0), (1, .int a1), (2, .int a2), (3, .int a3)], [], N, sl, rn_hp p5.2 M)) rfl ?_
                  refine rn_ite (fun c15 => ?_) (fun c15 => ?_)
                  · rw [if_pos c15] at h
                    refine rn_eg qm 1 (s2 := (54, [(5, .ref (f154 p5.2)), (4, .int p5.1), (0, .ref 0), (1, .int a1), (2, .int a2), (3, .int a3)], [.ref (f154 p5.2)], N, sl, rn_hp p5.2 M)) rfl ?_
                    refine rn_e1 qm (s2 := (55, [(5, .ref (f154 p5.2)), (4, .int p5.1), (0, .ref 0), (1, .int a1), (2, .int a2), (3, .int a3)], [.int (rI p5.2 (f154 p5.2) 8)], N, sl, rn_hp p5.2 M)) (rn_g_getf rfl rfl (en_3 k13) rfl) ?_
                    cases h
                    exact rn_er qm rfl rfl rfl
                  · rw [if_neg c15] at h
                    refine rn_eg qm 3 (s2 := ((if a3 = (3 : Int32) then 59 else 62), [(5, .ref (f154 p5.2)), (4, .int p5.1), (0, .ref 0), (1, .int a1), (2, .int a2), (3, .int a3)], [], N, sl, rn_hp p5.2 M)) rfl ?_
                    refine rn_ite (fun c16 => ?_) (fun c16 => ?_)
                    · rw [if_pos c16] at h
                      refine rn_eg qm 1 (s2 := (60, [(5, .ref (f154 p5.2)), (4, .int p5.1), (0, .ref 0), (1, .int a1), (2, .int a2), (3, .int a3)], [.ref (f154 p5.2)], N, sl, rn_hp p5.2 M)) rfl ?_
                      refine rn_e1 qm (s2 := (61, [(5, .ref (f154 p5.2)), (4, .int p5.1), (0, .ref 0), (1, .int a1), (2, .int a2), (3, .int a3)], [.int (rI p5.2 (f154 p5.2) 9)], N, sl, rn_hp p5.2 M)) (rn_g_getf rfl rfl (en_3 k13) rfl) ?_
                      cases h
                      exact rn_er qm rfl rfl rfl
                    · rw [if_neg c16] at h
                      refine rn_eg qm 3 (s2 := ((if a3 = (4 : Int32) then 65 else 68), [(5, .ref (f154 p5.2)), (4, .int p5.1), (0, .ref 0), (1, .int a1), (2, .int a2), (3, .int a3)], [], N, sl, rn_hp p5.2 M)) rfl ?_
                      refine rn_ite (fun c17 => ?_) (fun c17 => ?_)
                      · rw [if_pos c17] at h
                        refine rn_eg qm 1 (s2 := (66, [(5, .ref (f154 p5.2)), (4, .int p5.1), (0, .ref 0), (1, .int a1), (2, .int a2), (3, .int a3)], [.ref (f154 p5.2)], N, sl, rn_hp p5.2 M)) rfl ?_
                        refine rn_e1 qm (s2 := (67, [(5, .ref (f154 p5.2)), (4, .int p5.1), (0, .ref 0), (1, .int a1), (2, .int a2), (3, .int a3)], [.int (rI p5.2 (f154 p5.2) 10)], N, sl, rn_hp p5.2 M)) (rn_g_getf rfl rfl (en_3 k13) rfl) ?_
                        refine rn_eg qm 1 (s2 := (70, [(5, .ref (f154 p5.2)), (4, .int p5.1), (0, .ref 0), (1, .int a1), (2, .int a2), (3, .int a3)], [.int (rI p5.2 (f154 p5.2) 10)], N, sl, rn_hp p5.2 M)) rfl ?_
                        cases h
                        exact rn_er qm rfl rfl rfl
                      · rw [if_neg c17] at h
                        refine rn_eg qm 1 (s2 := (69, [(5, .ref (f154 p5.2)), (4, .int p5.1), (0, .ref 0), (1, .int a1), (2, .int a2), (3, .int a3)], [.ref (f154 p5.2)], N, sl, rn_hp p5.2 M)) rfl ?_
                        refine rn_e1 qm (s2 := (70, [(5, .ref (f154 p5.2)), (4, .int p5.1), (0, .ref 0), (1, .int a1), (2, .int a2), (3, .int a3)], [.int (rI p5.2 (f154 p5.2) 11)], N, sl, rn_hp p5.2 M)) (rn_g_getf rfl rfl (en_3 k13) rfl) ?_
                        cases h
                        exact rn_er qm rfl rfl rfl
        · rw [if_neg c6] at h
          refine rn_eg qm 1 (s2 := (22, [(4, .int p5.1), (0, .ref 0), (1, .int a1), (2, .int a2), (3, .int a3)], [.int p5.1], N, sl, rn_hp p5.2 M)) rfl ?_
          cases h
          exact rn_er qm rfl rfl rfl
      · rw [if_neg c4] at h
        refine rn_eg qm 1 (s2 := (13, [], [.int (-2 : Int32)], N, sl, rn_hp S M)) rfl ?_
        cases h
        exact rn_er qm rfl rfl rfl
/-! 6: RecordNiches.term(IIII)I -/
def f6 (S : rn_T) (a1 : Int32) (a2 : Int32) (a3 : Int32) (a4 : Int32) : Option (Int32 × rn_T) :=
  Option.bind (f23 S a1 a2) fun p1 =>
    if p1 = true then
      if a4 < 0 then
        some ((-2 : Int32), S)
      else
        if a4 ≤ (3 : Int32) then
          Option.bind (f24 S a1 a2) fun p5 =>
            if p5.1 = 0 then
              if a3 < 0 then
                some ((-6 : Int32), p5.2)
              else
                if rn_kd (f154 p5.2) = 3 then
                  if a3 < (rI p5.2 (f154 p5.2) 1) then
                    if rn_ob a3 6 then none else
                      rn_om (rP p5.2 ((f154 p5.2) + 1) (Int32.toNatClampNeg a3))
                        (none)
                        fun r12 =>
                          if a4 = 0 then
                            if rn_kd r12 = 3 then
                              some ((rI p5.2 r12 7), p5.2)
                            else none
                          else
                            if a4 = (1 : Int32) then
                              if rn_kd r12 = 3 then
                                some ((rI p5.2 r12 5), p5.2)
                              else none
                            else
                              if a4 = (2 : Int32) then
                                if rn_kd r12 = 3 then
                                  some ((rI p5.2 r12 6), p5.2)
                                else none
                              else
                                if rn_kd r12 = 3 then
                                  some ((rI p5.2 r12 4), p5.2)
                                else none
                  else
                    some ((-6 : Int32), p5.2)
                else none
            else
              some (p5.1, p5.2)
        else
          some ((-2 : Int32), S)
    else
      some ((-1 : Int32), S)
set_option maxHeartbeats 4000000 in
theorem E6 {X : rn_X} {N sl : Nat} {S M : rn_T} {a1 : Int32} {a2 : Int32} {a3 : Int32} {a4 : Int32} {R : (Int32 × rn_T)} (h : f6 S a1 a2 a3 a4 = some R) : rn_rv X 6 (0, [(0, .ref 0), (1, .int a1), (2, .int a2), (3, .int a3), (4, .int a4)], [], N, sl, rn_hp S M) (some (.int R.1), N, sl, rn_hp R.2 M) := by
  have qm := rn_m6
  unfold f6 at h
  refine rn_eg qm 3 (s2 := (3, [(0, .ref 0), (1, .int a1), (2, .int a2), (3, .int a3), (4, .int a4)], [.int a2, .int a1, .ref 0], N, sl, rn_hp S M)) rfl ?_
  obtain ⟨p1, hp1, h⟩ := Option.bind_eq_some_iff.mp h
  refine rn_ec qm rfl rfl rfl rfl rn_m23 rfl rfl rfl (fun _ => rn_rc_of (en_8 (q := 0) rfl)) (E23 hp1) ?_
  refine rn_eg qm 0 (s2 := (4, [(0, .ref 0), (1, .int a1), (2, .int a2), (3, .int a3), (4, .int a4)], [.int (rn_bi p1)], N, sl, rn_hp S M)) rfl ?_
  refine rn_eg qm 1 (s2 := ((if (rn_bi p1) = 0 then 5 else 7), [(0, .ref 0), (1, .int a1), (2, .int a2), (3, .int a3), (4, .int a4)], [], N, sl, rn_hp S M)) rfl ?_
  refine rn_iteb (fun c2 => ?_) (fun c2 => ?_)
  · rw [if_neg (rn_bf c2)] at h
    refine rn_eg qm 1 (s2 := (6, [(0, .ref 0), (1, .int a1), (2, .int a2), (3, .int a3), (4, .int a4)], [.int (-1 : Int32)], N, sl, rn_hp S M)) rfl ?_
    cases h
    exact rn_er qm rfl rfl rfl
  · rw [if_pos c2] at h
    refine rn_eg qm 2 (s2 := ((if a4 < 0 then 12 else 9), [(0, .ref 0), (1, .int a1), (2, .int a2), (3, .int a3), (4, .int a4)], [], N, sl, rn_hp S M)) rfl ?_
    refine rn_ite (fun c3 => ?_) (fun c3 => ?_)
    · rw [if_pos c3] at h
      refine rn_eg qm 1 (s2 := (13, [], [.int (-2 : Int32)], N, sl, rn_hp S M)) rfl ?_
      cases h
      exact rn_er qm rfl rfl rfl
    · rw [if_neg c3] at h
      refine rn_eg qm 3 (s2 := ((if a4 ≤ (3 : Int32) then 14 else 12), [(0, .ref 0), (1, .int a1), (2, .int a2), (3, .int a3), (4, .int a4)], [], N, sl, rn_hp S M)) rfl ?_
      refine rn_ite (fun c4 => ?_) (fun c4 => ?_)
      · rw [if_pos c4] at h
        refine rn_eg qm 3 (s2 := (17, [(0, .ref 0), (1, .int a1), (2, .int a2), (3, .int a3), (4, .int a4)], [.int a2, .int a1, .ref 0], N, sl, rn_hp S M)) rfl ?_
        obtain ⟨p5, hp5, h⟩ := Option.bind_eq_some_iff.mp h
        refine rn_ec qm rfl rfl rfl rfl rn_m24 rfl rfl rfl (fun _ => rn_rc_of (en_8 (q := 0) rfl)) (E24 hp5) ?_
        refine rn_eg qm 0 (s2 := (18, [(0, .ref 0), (1, .int a1), (2, .int a2), (3, .int a3), (4, .int a4)], [.int p5.1], N, sl, rn_hp p5.2 M)) rfl ?_
        refine rn_eg qm 3 (s2 := ((if p5.1 = 0 then 23 else 21), [(5, .int p5.1), (0, .ref 0), (1, .int a1), (2, .int a2), (3, .int a3), (4, .int a4)], [], N, sl, rn_hp p5.2 M)) rfl ?_
        refine rn_ite (fun c6 => ?_) (fun c6 => ?_)
        · rw [if_pos c6] at h
          refine rn_eg qm 2 (s2 := (25, [(5, .int p5.1), (0, .ref 0), (1, .int a1), (2, .int a2), (3, .int a3), (4, .int a4)], [.ref 66], N, sl, rn_hp p5.2 M)) rfl ?_
          refine rn_ec qm rfl rfl rfl rfl rn_m154 rfl rfl rfl (fun _ => rn_rc_of (en_7 (q := 66) rfl)) (E154 rfl) ?_
          refine rn_eg qm 0 (s2 := (26, [(5, .int p5.1), (0, .ref 0), (1, .int a1), (2, .int a2), (3, .int a3), (4, .int a4)], [.ref (f154 p5.2)], N, sl, rn_hp p5.2 M)) rfl ?_
          refine rn_eg qm 3 (s2 := ((if a3 < 0 then 33 else 29), [(6, .ref (f154 p5.2)), (5, .int p5.1), (0, .ref 0), (1, .int a1), (2, .int a2), (3, .int a3), (4, .int a4)], [], N, sl, rn_hp p5.2 M)) rfl ?_
          refine rn_ite (fun c8 => ?_) (fun c8 => ?_)
          · rw [if_pos c8] at h
            refine rn_eg qm 1 (s2 := (34, [], [.int (-6 : Int32)], N, sl, rn_hp p5.2 M)) rfl ?_
            cases h
            exact rn_er qm rfl rfl rfl
          · rw [if_neg c8] at h
            refine rn_eg qm 2 (s2 := (31, [(6, .ref (f154 p5.2)), (5, .int p5.1), (0, .ref 0), (1, .int a1), (2, .int a2), (3, .int a3), (4, .int a4)], [.ref (f154 p5.2), .int a3], N, sl, rn_hp p5.2 M)) rfl ?_
            have k9 : rn_kd (f154 p5.2) = 3 := Decidable.byContradiction fun c => by rw [if_neg c] at h; cases h
            rw [if_pos k9] at h
            refine rn_e1 qm (s2 := (32, [(6, .ref (f154 p5.2)), (5, .int p5.1), (0, .ref 0), (1, .int a1), (2, .int a2), (3, .int a3), (4, .int a4)], [.int (rI p5.2 (f154 p5.2) 1), .int a3], N, sl, rn_hp p5.2 M)) (rn_g_getf rfl rfl (en_3 k9) rfl) ?_
            refine rn_eg qm 1 (s2 := ((if a3 < (rI p5.2 (f154 p5.2) 1) then 35 else 33), [(6, .ref (f154 p5.2)), (5, .int p5.1), (0, .ref 0), (1, .int a1), (2, .int a2), (3, .int a3), (4, .int a4)], [], N, sl, rn_hp p5.2 M)) rfl ?_
            refine rn_ite (fun c10 => ?_) (fun c10 => ?_)
            · rw [if_pos c10] at h
              refine rn_eg qm 1 (s2 := (36, [(6, .ref (f154 p5.2)), (5, .int p5.1), (0, .ref 0), (1, .int a1), (2, .int a2), (3, .int a3), (4, .int a4)], [.ref (f154 p5.2)], N, sl, rn_hp p5.2 M)) rfl ?_
              refine rn_e1 qm (s2 := (37, [(6, .ref (f154 p5.2)), (5, .int p5.1), (0, .ref 0), (1, .int a1), (2, .int a2), (3, .int a3), (4, .int a4)], [.ref ((f154 p5.2) + 1)], N, sl, rn_hp p5.2 M)) (rn_g_getf rfl rfl (en_3 k9) rfl) ?_
              refine rn_eg qm 1 (s2 := (38, [(6, .ref (f154 p5.2)), (5, .int p5.1), (0, .ref 0), (1, .int a1), (2, .int a2), (3, .int a3), (4, .int a4)], [.int a3, .ref ((f154 p5.2) + 1)], N, sl, rn_hp p5.2 M)) rfl ?_
              have c11 : ¬ (rn_ob a3 6) := fun c => by rw [if_pos c] at h; cases h
              rw [if_neg c11] at h
              cases o13 : rP p5.2 ((f154 p5.2) + 1) (Int32.toNatClampNeg a3) with
              | none =>
                rw [rn_om_n o13] at h
                refine rn_e1 qm (s2 := (39, [(6, .ref (f154 p5.2)), (5, .int p5.1), (0, .ref 0), (1, .int a1), (2, .int a2), (3, .int a3), (4, .int a4)], [.null], N, sl, rn_hp p5.2 M)) (rn_g_aald (n := 6) (r := none) rfl rfl (ar_x14 (ko_3_0 k9).1 (ko_3_0 k9).2.1 (ko_3_0 k9).2.2) c11 o13) ?_
                cases h
              | some r12 =>
                rw [rn_om_s o13] at h
                refine rn_e1 qm (s2 := (39, [(6, .ref (f154 p5.2)), (5, .int p5.1), (0, .ref 0), (1, .int a1), (2, .int a2), (3, .int a3), (4, .int a4)], [.ref r12], N, sl, rn_hp p5.2 M)) (rn_g_aald (n := 6) (r := some r12) rfl rfl (ar_x14 (ko_3_0 k9).1 (ko_3_0 k9).2.1 (ko_3_0 k9).2.2) c11 o13) ?_
                refine rn_eg qm 3 (s2 := ((if a4 = 0 then 42 else 45), [(7, .ref r12), (6, .ref (f154 p5.2)), (5, .int p5.1), (0, .ref 0), (1, .int a1), (2, .int a2), (3, .int a3), (4, .int a4)], [], N, sl, rn_hp p5.2 M)) rfl ?_
                refine rn_ite (fun c14 => ?_) (fun c14 => ?_)
                · rw [if_pos c14] at h
                  refine rn_eg qm 1 (s2 := (43, [(7, .ref r12), (6, .ref (f154 p5.2)), (5, .int p5.1), (0, .ref 0), (1, .int a1), (2, .int a2), (3, .int a3), (4, .int a4)], [.ref r12], N, sl, rn_hp p5.2 M)) rfl ?_
                  have k15 : rn_kd r12 = 3 := Decidable.byContradiction fun c => by rw [if_neg c] at h; cases h
                  rw [if_pos k15] at h
                  refine rn_e1 qm (s2 := (44, [(7, .ref r12), (6, .ref (f154 p5.2)), (5, .int p5.1), (0, .ref 0), (1, .int a1), (2, .int a2), (3, .int a3), (4, .int a4)], [.int (rI p5.2 r12 7)], N, sl, rn_hp p5.2 M)) (rn_g_getf rfl rfl (en_3 k15) rfl) ?_
                  cases h
                  exact rn_er qm rfl rfl rfl
                · rw [if_neg c14] at h
                  refine rn_eg qm 3 (s2 := ((if a4 = (1 : Int32) then 48 else 51), [(7, .ref r12), (6, .ref (f154 p5.2)), (5, .int p5.1), (0, .ref 0), (1, .int a1), (2, .int a2), (3, .int a3), (4, .int a4)], [], N, sl, rn_hp p5.2 M)) rfl ?_
                  refine rn_ite (fun c16 => ?_) (fun c16 => ?_)
                  · rw [if_pos c16] at h
                    refine rn_eg qm 1 (s2 := (49, [(7, .ref r12), (6, .ref (f154 p5.2)), (5, .int p5.1), (0, .ref 0), (1, .int a1), (2, .int a2), (3, .int a3), (4, .int a4)], [.ref r12], N, sl, rn_hp p5.2 M)) rfl ?_
                    have k17 : rn_kd r12 = 3 := Decidable.byContradiction fun c => by rw [if_neg c] at h; cases h
                    rw [if_pos k17] at h
                    refine rn_e1 qm (s2 := (50, [(7, .ref r12), (6, .ref (f154 p5.2)), (5, .int p5.1), (0, .ref 0), (1, .int a1), (2, .int a2), (3, .int a3), (4, .int a4)], [.int (rI p5.2 r12 5)], N, sl, rn_hp p5.2 M)) (rn_g_getf rfl rfl (en_3 k17) rfl) ?_
                    cases h
                    exact rn_er qm rfl rfl rfl
                  · rw [if_neg c16] at h
                    refine rn_eg qm 3 (s2 := ((if a4 = (2 : Int32) then 54 else 57), [(7, .ref r12), (6, .ref (f154 p5.2)), (5, .int p5.1), (0, .ref 0), (1, .int a1), (2, .int a2), (3, .int a3), (4, .int a4)], [], N, sl, rn_hp p5.2 M)) rfl ?_
                    refine rn_ite (fun c18 => ?_) (fun c18 => ?_)
                    · rw [if_pos c18] at h
                      refine rn_eg qm 1 (s2 := (55, [(7, .ref r12), (6, .ref (f154 p5.2)), (5, .int p5.1), (0, .ref 0), (1, .int a1), (2, .int a2), (3, .int a3), (4, .int a4)], [.ref r12], N, sl, rn_hp p5.2 M)) rfl ?_
                      have k19 : rn_kd r12 = 3 := Decidable.byContradiction fun c => by rw [if_neg c] at h; cases h
                      rw [if_pos k19] at h
                      refine rn_e1 qm (s2 := (56, [(7, .ref r12), (6, .ref (f154 p5.2)), (5, .int p5.1), (0, .ref 0), (1, .int a1), (2, .int a2), (3, .int a3), (4, .int a4)], [.int (rI p5.2 r12 6)], N, sl, rn_hp p5.2 M)) (rn_g_getf rfl rfl (en_3 k19) rfl) ?_
                      refine rn_eg qm 1 (s2 := (59, [(7, .ref r12), (6, .ref (f154 p5.2)), (5, .int p5.1), (0, .ref 0), (1, .int a1), (2, .int a2), (3, .int a3), (4, .int a4)], [.int (rI p5.2 r12 6)], N, sl, rn_hp p5.2 M)) rfl ?_
                      cases h
                      exact rn_er qm rfl rfl rfl
                    · rw [if_neg c18] at h
                      refine rn_eg qm 1 (s2 := (58, [(7, .ref r12), (6, .ref (f154 p5.2)), (5, .int p5.1), (0, .ref 0), (1, .int a1), (2, .int a2), (3, .int a3), (4, .int a4)], [.ref r12], N, sl, rn_hp p5.2 M)) rfl ?_
                      have k20 : rn_kd r12 = 3 := Decidable.byContradiction fun c => by rw [if_neg c] at h; cases h
                      rw [if_pos k20] at h
                      refine rn_e1 qm (s2 := (59, [(7, .ref r12), (6, .ref (f154 p5.2)), (5, .int p5.1), (0, .ref 0), (1, .int a1), (2, .int a2), (3, .int a3), (4, .int a4)], [.int (rI p5.2 r12 4)], N, sl, rn_hp p5.2 M)) (rn_g_getf rfl rfl (en_3 k20) rfl) ?_
                      cases h
                      exact rn_er qm rfl rfl rfl
            · rw [if_neg c10] at h
              refine rn_eg qm 1 (s2 := (34, [], [.int (-6 : Int32)], N, sl, rn_hp p5.2 M)) rfl ?_
              cases h
              exact rn_er qm rfl rfl rfl
        · rw [if_neg c6] at h
          refine rn_eg qm 1 (s2 := (22, [(5, .int p5.1), (0, .ref 0), (1, .int a1), (2, .int a2), (3, .int a3), (4, .int a4)], [.int p5.1], N, sl, rn_hp p5.2 M)) rfl ?_
          cases h
          exact rn_er qm rfl rfl rfl
      · rw [if_neg c4] at h
        refine rn_eg qm 1 (s2 := (13, [], [.int (-2 : Int32)], N, sl, rn_hp S M)) rfl ?_
        cases h
        exact rn_er qm rfl rfl rfl
/-! 7: RecordNiches.variant(III)I -/
def f7 (S : rn_T) (a1 : Int32) (a2 : Int32) (a3 : Int32) : Option (Int32 × rn_T) :=
  Option.bind (f23 S a1 a2) fun p1 =>
    if p1 = true then
      if a3 < 0 then
        some ((-2 : Int32), S)
      else
        if a3 ≤ (1 : Int32) then
          Option.bind (f24 S a1 a2) fun p5 =>
            if p5.1 = 0 then
              if rn_kd (f154 p5.2) = 3 then
                if (rI p5.2 (f154 p5.2) 4) = (6 : Int32) then
                  if a3 = 0 then
                    some ((rI p5.2 (f154 p5.2) 12), p5.2)
                  else
                    if (rI p5.2 (f154 p5.2) 12) = (1 : Int32) then
                      some ((rI p5.2 (f154 p5.2) 13), p5.2)
                    else
                      some ((-6 : Int32), p5.2)
                else
                  some ((-6 : Int32), p5.2)
              else none
            else
              some (p5.1, p5.2)
        else
          some ((-2 : Int32), S)
    else
      some ((-1 : Int32), S)
set_option maxHeartbeats 4000000 in
theorem E7 {X : rn_X} {N sl : Nat} {S M : rn_T} {a1 : Int32} {a2 : Int32} {a3 : Int32} {R : (Int32 × rn_T)} (h : f7 S a1 a2 a3 = some R) : rn_rv X 7 (0, [(0, .ref 0), (1, .int a1), (2, .int a2), (3, .int a3)], [], N, sl, rn_hp S M) (some (.int R.1), N, sl, rn_hp R.2 M) := by
  have qm := rn_m7
  unfold f7 at h
  refine rn_eg qm 3 (s2 := (3, [(0, .ref 0), (1, .int a1), (2, .int a2), (3, .int a3)], [.int a2, .int a1, .ref 0], N, sl, rn_hp S M)) rfl ?_
  obtain ⟨p1, hp1, h⟩ := Option.bind_eq_some_iff.mp h
  refine rn_ec qm rfl rfl rfl rfl rn_m23 rfl rfl rfl (fun _ => rn_rc_of (en_8 (q := 0) rfl)) (E23 hp1) ?_
  refine rn_eg qm 0 (s2 := (4, [(0, .ref 0), (1, .int a1), (2, .int a2), (3, .int a3)], [.int (rn_bi p1)], N, sl, rn_hp S M)) rfl ?_
  refine rn_eg qm 1 (s2 := ((if (rn_bi p1) = 0 then 5 else 7), [(0, .ref 0), (1, .int a1), (2, .int a2), (3, .int a3)], [], N, sl, rn_hp S M)) rfl ?_
  refine rn_iteb (fun c2 => ?_) (fun c2 => ?_)
  · rw [if_neg (rn_bf c2)] at h
    refine rn_eg qm 1 (s2 := (6, [(0, .ref 0), (1, .int a1), (2, .int a2), (3, .int a3)], [.int (-1 : Int32)], N, sl, rn_hp S M)) rfl ?_
    cases h
    exact rn_er qm rfl rfl rfl
  · rw [if_pos c2] at h
    refine rn_eg qm 2 (s2 := ((if a3 < 0 then 12 else 9), [(0, .ref 0), (1, .int a1), (2, .int a2), (3, .int a3)], [], N, sl, rn_hp S M)) rfl ?_
    refine rn_ite (fun c3 => ?_) (fun c3 => ?_)
    · rw [if_pos c3] at h
      refine rn_eg qm 1 (s2 := (13, [], [.int (-2 : Int32)], N, sl, rn_hp S M)) rfl ?_
      cases h
      exact rn_er qm rfl rfl rfl
    · rw [if_neg c3] at h
      refine rn_eg qm 3 (s2 := ((if a3 ≤ (1 : Int32) then 14 else 12), [(0, .ref 0), (1, .int a1), (2, .int a2), (3, .int a3)], [], N, sl, rn_hp S M)) rfl ?_
      refine rn_ite (fun c4 => ?_) (fun c4 => ?_)
      · rw [if_pos c4] at h
        refine rn_eg qm 3 (s2 := (17, [(0, .ref 0), (1, .int a1), (2, .int a2), (3, .int a3)], [.int a2, .int a1, .ref 0], N, sl, rn_hp S M)) rfl ?_
        obtain ⟨p5, hp5, h⟩ := Option.bind_eq_some_iff.mp h
        refine rn_ec qm rfl rfl rfl rfl rn_m24 rfl rfl rfl (fun _ => rn_rc_of (en_8 (q := 0) rfl)) (E24 hp5) ?_
        refine rn_eg qm 0 (s2 := (18, [(0, .ref 0), (1, .int a1), (2, .int a2), (3, .int a3)], [.int p5.1], N, sl, rn_hp p5.2 M)) rfl ?_
        refine rn_eg qm 3 (s2 := ((if p5.1 = 0 then 23 else 21), [(4, .int p5.1), (0, .ref 0), (1, .int a1), (2, .int a2), (3, .int a3)], [], N, sl, rn_hp p5.2 M)) rfl ?_
        refine rn_ite (fun c6 => ?_) (fun c6 => ?_)
        · rw [if_pos c6] at h
          refine rn_eg qm 2 (s2 := (25, [(4, .int p5.1), (0, .ref 0), (1, .int a1), (2, .int a2), (3, .int a3)], [.ref 66], N, sl, rn_hp p5.2 M)) rfl ?_
          refine rn_ec qm rfl rfl rfl rfl rn_m154 rfl rfl rfl (fun _ => rn_rc_of (en_7 (q := 66) rfl)) (E154 rfl) ?_
          refine rn_eg qm 0 (s2 := (26, [(4, .int p5.1), (0, .ref 0), (1, .int a1), (2, .int a2), (3, .int a3)], [.ref (f154 p5.2)], N, sl, rn_hp p5.2 M)) rfl ?_
          refine rn_eg qm 2 (s2 := (28, [(5, .ref (f154 p5.2)), (4, .int p5.1), (0, .ref 0), (1, .int a1), (2, .int a2), (3, .int a3)], [.ref (f154 p5.2)], N, sl, rn_hp p5.2 M)) rfl ?_
          have k8 : rn_kd (f154 p5.2) = 3 := Decidable.byContradiction fun c => by rw [if_neg c] at h; cases h
          rw [if_pos k8] at h
          refine rn_e1 qm (s2 := (29, [(5, .ref (f154 p5.2)), (4, .int p5.1), (0, .ref 0), (1, .int a1), (2, .int a2), (3, .int a3)], [.int (rI p5.2 (f154 p5.2) 4)], N, sl, rn_hp p5.2 M)) (rn_g_getf rfl rfl (en_3 k8) rfl) ?_
          refine rn_eg qm 2 (s2 := ((if (rI p5.2 (f154 p5.2) 4) = (6 : Int32) then 33 else 31), [(5, .ref (f154 p5.2)), (4, .int p5.1), (0, .ref 0), (1, .int a1), (2, .int a2), (3, .int a3)], [], N, sl, rn_hp p5.2 M)) rfl ?_
          refine rn_ite (fun c9 => ?_) (fun c9 => ?_)
          · rw [if_pos c9] at h
            refine rn_eg qm 2 (s2 := ((if a3 = 0 then 35 else 38), [(5, .ref (f154 p5.2)), (4, .int p5.1), (0, .ref 0), (1, .int a1), (2, .int a2), (3, .int a3)], [], N, sl, rn_hp p5.2 M)) rfl ?_
            refine rn_ite (fun c10 => ?_) (fun c10 => ?_)
            · rw [if_pos c10] at h
              refine rn_eg qm 1 (s2 := (36, [(5, .ref (f154 p5.2)), (4, .int p5.1), (0, .ref 0), (1, .int a1), (2, .int a2), (3, .int a3)], [.ref (f154 p5.2)], N, sl, rn_hp p5.2 M)) rfl ?_
              refine rn_e1 qm (s2 := (37, [(5, .ref (f154 p5.2)), (4, .int p5.1), (0, .ref 0), (1, .int a1), (2, .int a2), (3, .int a3)], [.int (rI p5.2 (f154 p5.2) 12)], N, sl, rn_hp p5.2 M)) (rn_g_getf rfl rfl (en_3 k8) rfl) ?_
              cases h
              exact rn_er qm rfl rfl rfl
            · rw [if_neg c10] at h
              refine rn_eg qm 1 (s2 := (39, [(5, .ref (f154 p5.2)), (4, .int p5.1), (0, .ref 0), (1, .int a1), (2, .int a2), (3, .int a3)], [.ref (f154 p5.2)], N, sl, rn_hp p5.2 M)) rfl ?_
              refine rn_e1 qm (s2 := (40, [(5, .ref (f154 p5.2)), (4, .int p5.1), (0, .ref 0), (1, .int a1), (2, .int a2), (3, .int a3)], [.int (rI p5.2 (f154 p5.2) 12)], N, sl, rn_hp p5.2 M)) (rn_g_getf rfl rfl (en_3 k8) rfl) ?_
              refine rn_eg qm 2 (s2 := ((if (rI p5.2 (f154 p5.2) 12) = (1 : Int32) then 42 else 45), [(5, .ref (f154 p5.2)), (4, .int p5.1), (0, .ref 0), (1, .int a1), (2, .int a2), (3, .int a3)], [], N, sl, rn_hp p5.2 M)) rfl ?_
              refine rn_ite (fun c11 => ?_) (fun c11 => ?_)
              · rw [if_pos c11] at h
                refine rn_eg qm 1 (s2 := (43, [(5, .ref (f154 p5.2)), (4, .int p5.1), (0, .ref 0), (1, .int a1), (2, .int a2), (3, .int a3)], [.ref (f154 p5.2)], N, sl, rn_hp p5.2 M)) rfl ?_
                refine rn_e1 qm (s2 := (44, [(5, .ref (f154 p5.2)), (4, .int p5.1), (0, .ref 0), (1, .int a1), (2, .int a2), (3, .int a3)], [.int (rI p5.2 (f154 p5.2) 13)], N, sl, rn_hp p5.2 M)) (rn_g_getf rfl rfl (en_3 k8) rfl) ?_
                refine rn_eg qm 1 (s2 := (46, [(5, .ref (f154 p5.2)), (4, .int p5.1), (0, .ref 0), (1, .int a1), (2, .int a2), (3, .int a3)], [.int (rI p5.2 (f154 p5.2) 13)], N, sl, rn_hp p5.2 M)) rfl ?_
                cases h
                exact rn_er qm rfl rfl rfl
              · rw [if_neg c11] at h
                refine rn_eg qm 1 (s2 := (46, [(5, .ref (f154 p5.2)), (4, .int p5.1), (0, .ref 0), (1, .int a1), (2, .int a2), (3, .int a3)], [.int (-6 : Int32)], N, sl, rn_hp p5.2 M)) rfl ?_
                cases h
                exact rn_er qm rfl rfl rfl
          · rw [if_neg c9] at h
            refine rn_eg qm 1 (s2 := (32, [(5, .ref (f154 p5.2)), (4, .int p5.1), (0, .ref 0), (1, .int a1), (2, .int a2), (3, .int a3)], [.int (-6 : Int32)], N, sl, rn_hp p5.2 M)) rfl ?_
            cases h
            exact rn_er qm rfl rfl rfl
        · rw [if_neg c6] at h
          refine rn_eg qm 1 (s2 := (22, [(4, .int p5.1), (0, .ref 0), (1, .int a1), (2, .int a2), (3, .int a3)], [.int p5.1], N, sl, rn_hp p5.2 M)) rfl ?_
          cases h
          exact rn_er qm rfl rfl rfl
      · rw [if_neg c4] at h
        refine rn_eg qm 1 (s2 := (13, [], [.int (-2 : Int32)], N, sl, rn_hp S M)) rfl ?_
        cases h
        exact rn_er qm rfl rfl rfl
/-! 8: RecordNiches.pattern(III)I -/
def f8 (S : rn_T) (a1 : Int32) (a2 : Int32) (a3 : Int32) : Option (Int32 × rn_T) :=
  Option.bind (f23 S a1 a2) fun p1 =>
    if p1 = true then
      Option.bind (f24 S a1 a2) fun p3 =>
        if p3.1 = 0 then
          if rn_kd (f154 p3.2) = 3 then
            if (rI p3.2 (f154 p3.2) 4) = (6 : Int32) then
              if a3 < 0 then
                some ((-6 : Int32), p3.2)
              else
                if a3 < (rI p3.2 (f154 p3.2) 1) then
                  if rn_ob a3 6 then none else
                    rn_om (rP p3.2 ((f154 p3.2) + 1) (Int32.toNatClampNeg a3))
                      (none)
                      fun r11 =>
                        if rn_kd r11 = 3 then
                          some ((rI p3.2 r11 14), p3.2)
                        else none
                else
                  some ((-6 : Int32), p3.2)
            else
              some ((-6 : Int32), p3.2)
          else none
        else
          some (p3.1, p3.2)
    else
      some ((-1 : Int32), S)
set_option maxHeartbeats 4000000 in
theorem E8 {X : rn_X} {N sl : Nat} {S M : rn_T} {a1 : Int32} {a2 : Int32} {a3 : Int32} {R : (Int32 × rn_T)} (h : f8 S a1 a2 a3 = some R) : rn_rv X 8 (0, [(0, .ref 0), (1, .int a1), (2, .int a2), (3, .int a3)], [], N, sl, rn_hp S M) (some (.int R.1), N, sl, rn_hp R.2 M) := by
  have qm := rn_m8
  unfold f8 at h
  refine rn_eg qm 3 (s2 := (3, [(0, .ref 0), (1, .int a1), (2, .int a2), (3, .int a3)], [.int a2, .int a1, .ref 0], N, sl, rn_hp S M)) rfl ?_
  obtain ⟨p1, hp1, h⟩ := Option.bind_eq_some_iff.mp h
  refine rn_ec qm rfl rfl rfl rfl rn_m23 rfl rfl rfl (fun _ => rn_rc_of (en_8 (q := 0) rfl)) (E23 hp1) ?_
  refine rn_eg qm 0 (s2 := (4, [(0, .ref 0), (1, .int a1), (2, .int a2), (3, .int a3)], [.int (rn_bi p1)], N, sl, rn_hp S M)) rfl ?_
  refine rn_eg qm 1 (s2 := ((if (rn_bi p1) = 0 then 5 else 7), [(0, .ref 0), (1, .int a1), (2, .int a2), (3, .int a3)], [], N, sl, rn_hp S M)) rfl ?_
  refine rn_iteb (fun c2 => ?_) (fun c2 => ?_)
  · rw [if_neg (rn_bf c2)] at h
    refine rn_eg qm 1 (s2 := (6, [(0, .ref 0), (1, .int a1), (2, .int a2), (3, .int a3)], [.int (-1 : Int32)], N, sl, rn_hp S M)) rfl ?_
    cases h
    exact rn_er qm rfl rfl rfl
  · rw [if_pos c2] at h
    refine rn_eg qm 3 (s2 := (10, [(0, .ref 0), (1, .int a1), (2, .int a2), (3, .int a3)], [.int a2, .int a1, .ref 0], N, sl, rn_hp S M)) rfl ?_
    obtain ⟨p3, hp3, h⟩ := Option.bind_eq_some_iff.mp h
    refine rn_ec qm rfl rfl rfl rfl rn_m24 rfl rfl rfl (fun _ => rn_rc_of (en_8 (q := 0) rfl)) (E24 hp3) ?_
    refine rn_eg qm 0 (s2 := (11, [(0, .ref 0), (1, .int a1), (2, .int a2), (3, .int a3)], [.int p3.1], N, sl, rn_hp p3.2 M)) rfl ?_
    refine rn_eg qm 3 (s2 := ((if p3.1 = 0 then 16 else 14), [(4, .int p3.1), (0, .ref 0), (1, .int a1), (2, .int a2), (3, .int a3)], [], N, sl, rn_hp p3.2 M)) rfl ?_
    refine rn_ite (fun c4 => ?_) (fun c4 => ?_)
    · rw [if_pos c4] at h
      refine rn_eg qm 2 (s2 := (18, [(4, .int p3.1), (0, .ref 0), (1, .int a1), (2, .int a2), (3, .int a3)], [.ref 66], N, sl, rn_hp p3.2 M)) rfl ?_
      refine rn_ec qm rfl rfl rfl rfl rn_m154 rfl rfl rfl (fun _ => rn_rc_of (en_7 (q := 66) rfl)) (E154 rfl) ?_
      refine rn_eg qm 0 (s2 := (19, [(4, .int p3.1), (0, .ref 0), (1, .int a1), (2, .int a2), (3, .int a3)], [.ref (f154 p3.2)], N, sl, rn_hp p3.2 M)) rfl ?_
      refine rn_eg qm 2 (s2 := (21, [(5, .ref (f154 p3.2)), (4, .int p3.1), (0, .ref 0), (1, .int a1), (2, .int a2), (3, .int a3)], [.ref (f154 p3.2)], N, sl, rn_hp p3.2 M)) rfl ?_
      have k6 : rn_kd (f154 p3.2) = 3 := Decidable.byContradiction fun c => by rw [if_neg c] at h; cases h
      rw [if_pos k6] at h
      refine rn_e1 qm (s2 := (22, [(5, .ref (f154 p3.2)), (4, .int p3.1), (0, .ref 0), (1, .int a1), (2, .int a2), (3, .int a3)], [.int (rI p3.2 (f154 p3.2) 4)], N, sl, rn_hp p3.2 M)) (rn_g_getf rfl rfl (en_3 k6) rfl) ?_
      refine rn_eg qm 2 (s2 := ((if (rI p3.2 (f154 p3.2) 4) = (6 : Int32) then 24 else 30), [(5, .ref (f154 p3.2)), (4, .int p3.1), (0, .ref 0), (1, .int a1), (2, .int a2), (3, .int a3)], [], N, sl, rn_hp p3.2 M)) rfl ?_
      refine rn_ite (fun c7 => ?_) (fun c7 => ?_)
      · rw [if_pos c7] at h
        refine rn_eg qm 2 (s2 := ((if a3 < 0 then 30 else 26), [(5, .ref (f154 p3.2)), (4, .int p3.1), (0, .ref 0), (1, .int a1), (2, .int a2), (3, .int a3)], [], N, sl, rn_hp p3.2 M)) rfl ?_
        refine rn_ite (fun c8 => ?_) (fun c8 => ?_)
        · rw [if_pos c8] at h
          refine rn_eg qm 1 (s2 := (31, [], [.int (-6 : Int32)], N, sl, rn_hp p3.2 M)) rfl ?_
          cases h
          exact rn_er qm rfl rfl rfl
        · rw [if_neg c8] at h
          refine rn_eg qm 2 (s2 := (28, [(5, .ref (f154 p3.2)), (4, .int p3.1), (0, .ref 0), (1, .int a1), (2, .int a2), (3, .int a3)], [.ref (f154 p3.2), .int a3], N, sl, rn_hp p3.2 M)) rfl ?_
          refine rn_e1 qm (s2 := (29, [(5, .ref (f154 p3.2)), (4, .int p3.1), (0, .ref 0), (1, .int a1), (2, .int a2), (3, .int a3)], [.int (rI p3.2 (f154 p3.2) 1), .int a3], N, sl, rn_hp p3.2 M)) (rn_g_getf rfl rfl (en_3 k6) rfl) ?_
          refine rn_eg qm 1 (s2 := ((if a3 < (rI p3.2 (f154 p3.2) 1) then 32 else 30), [(5, .ref (f154 p3.2)), (4, .int p3.1), (0, .ref 0), (1, .int a1), (2, .int a2), (3, .int a3)], [], N, sl, rn_hp p3.2 M)) rfl ?_
          refine rn_ite (fun c9 => ?_) (fun c9 => ?_)
          · rw [if_pos c9] at h
            refine rn_eg qm 1 (s2 := (33, [(5, .ref (f154 p3.2)), (4, .int p3.1), (0, .ref 0), (1, .int a1), (2, .int a2), (3, .int a3)], [.ref (f154 p3.2)], N, sl, rn_hp p3.2 M)) rfl ?_
            refine rn_e1 qm (s2 := (34, [(5, .ref (f154 p3.2)), (4, .int p3.1), (0, .ref 0), (1, .int a1), (2, .int a2), (3, .int a3)], [.ref ((f154 p3.2) + 1)], N, sl, rn_hp p3.2 M)) (rn_g_getf rfl rfl (en_3 k6) rfl) ?_
            refine rn_eg qm 1 (s2 := (35, [(5, .ref (f154 p3.2)), (4, .int p3.1), (0, .ref 0), (1, .int a1), (2, .int a2), (3, .int a3)], [.int a3, .ref ((f154 p3.2) + 1)], N, sl, rn_hp p3.2 M)) rfl ?_
            have c10 : ¬ (rn_ob a3 6) := fun c => by rw [if_pos c] at h; cases h
            rw [if_neg c10] at h
            cases o12 : rP p3.2 ((f154 p3.2) + 1) (Int32.toNatClampNeg a3) with
            | none =>
              rw [rn_om_n o12] at h
              refine rn_e1 qm (s2 := (36, [(5, .ref (f154 p3.2)), (4, .int p3.1), (0, .ref 0), (1, .int a1), (2, .int a2), (3, .int a3)], [.null], N, sl, rn_hp p3.2 M)) (rn_g_aald (n := 6) (r := none) rfl rfl (ar_x14 (ko_3_0 k6).1 (ko_3_0 k6).2.1 (ko_3_0 k6).2.2) c10 o12) ?_
              cases h
            | some r11 =>
              rw [rn_om_s o12] at h
              refine rn_e1 qm (s2 := (36, [(5, .ref (f154 p3.2)), (4, .int p3.1), (0, .ref 0), (1, .int a1), (2, .int a2), (3, .int a3)], [.ref r11], N, sl, rn_hp p3.2 M)) (rn_g_aald (n := 6) (r := some r11) rfl rfl (ar_x14 (ko_3_0 k6).1 (ko_3_0 k6).2.1 (ko_3_0 k6).2.2) c10 o12) ?_
              have k13 : rn_kd r11 = 3 := Decidable.byContradiction fun c => by rw [if_neg c] at h; cases h
              rw [if_pos k13] at h
              refine rn_e1 qm (s2 := (37, [(5, .ref (f154 p3.2)), (4, .int p3.1), (0, .ref 0), (1, .int a1), (2, .int a2), (3, .int a3)], [.int (rI p3.2 r11 14)], N, sl, rn_hp p3.2 M)) (rn_g_getf rfl rfl (en_3 k13) rfl) ?_
              cases h
              exact rn_er qm rfl rfl rfl
          · rw [if_neg c9] at h
            refine rn_eg qm 1 (s2 := (31, [], [.int (-6 : Int32)], N, sl, rn_hp p3.2 M)) rfl ?_
            cases h
            exact rn_er qm rfl rfl rfl
      · rw [if_neg c7] at h
        refine rn_eg qm 1 (s2 := (31, [], [.int (-6 : Int32)], N, sl, rn_hp p3.2 M)) rfl ?_
        cases h
        exact rn_er qm rfl rfl rfl
    · rw [if_neg c4] at h
      refine rn_eg qm 1 (s2 := (15, [(4, .int p3.1), (0, .ref 0), (1, .int a1), (2, .int a2), (3, .int a3)], [.int p3.1], N, sl, rn_hp p3.2 M)) rfl ?_
      cases h
      exact rn_er qm rfl rfl rfl
/-! 9: RecordNiches.least(II)I -/
def f9_L30 (b4 : Nat) : Nat → rn_T → Int32 → Int32 → (rn_T → Int32 → Option (Int32 × rn_T)) → Option (Int32 × rn_T)
  | 0, _, _, _, _ => none
  | fu + 1, S, v5, v6, k =>
    if (rI S b4 1) ≤ v6 then
      k S v5
    else
      if rn_ob v6 6 then none else
        rn_om (rP S (b4 + 1) (Int32.toNatClampNeg v6))
          (none)
          fun r10 =>
            if rn_kd r10 = 3 then
              f9_L30 b4 fu S (v5 + (rI S r10 5)) (v6 + (1 : Int32)) k
            else none
set_option maxHeartbeats 4000000 in
theorem E9_L30 {X : rn_X} {N sl : Nat} {M : rn_T} {b4 : Nat} (hb4 : rn_kd b4 = 3) : ∀ (fu : Nat) (S : rn_T) (v5 : Int32) (v6 : Int32) (k : (rn_T → Int32 → Option (Int32 × rn_T))) (R : (Int32 × rn_T)), (∀ (S : rn_T) (w_5 : Int32), k S w_5 = some R → rn_rv X 9 (44, [(4, .ref b4), (5, .int w_5)], [], N, sl, rn_hp S M) (some (.int R.1), N, sl, rn_hp R.2 M)) → f9_L30 b4 fu S v5 v6 k = some R → rn_rv X 9 (30, [(4, .ref b4), (5, .int v5), (6, .int v6)], [], N, sl, rn_hp S M) (some (.int R.1), N, sl, rn_hp R.2 M) := by
  have qm := rn_m9
  intro fu
  induction fu with
  | zero => intro S v5 v6 k R hk h; cases h
  | succ fu ih =>
    intro S v5 v6 k R hk h
    unfold f9_L30 at h
    refine rn_eg qm 2 (s2 := (32, [(4, .ref b4), (5, .int v5), (6, .int v6)], [.ref b4, .int v6], N, sl, rn_hp S M)) rfl ?_
    refine rn_e1 qm (s2 := (33, [(4, .ref b4), (5, .int v5), (6, .int v6)], [.int (rI S b4 1), .int v6], N, sl, rn_hp S M)) (rn_g_getf rfl rfl (en_3 hb4) rfl) ?_
    refine rn_eg qm 1 (s2 := ((if (rI S b4 1) ≤ v6 then 44 else 34), [(4, .ref b4), (5, .int v5), (6, .int v6)], [], N, sl, rn_hp S M)) rfl ?_
    refine rn_ite (fun c8 => ?_) (fun c8 => ?_)
    · rw [if_pos c8] at h
      refine rn_kq qm (s2 := (44, [(4, .ref b4), (5, .int v5)], [], N, sl, rn_hp S M)) rfl rfl ?_
      exact hk _ _ h
    · rw [if_neg c8] at h
      refine rn_eg qm 2 (s2 := (36, [(4, .ref b4), (5, .int v5), (6, .int v6)], [.ref b4, .int v5], N, sl, rn_hp S M)) rfl ?_
      refine rn_e1 qm (s2 := (37, [(4, .ref b4), (5, .int v5), (6, .int v6)], [.ref (b4 + 1), .int v5], N, sl, rn_hp S M)) (rn_g_getf rfl rfl (en_3 hb4) rfl) ?_
      refine rn_eg qm 1 (s2 := (38, [(4, .ref b4), (5, .int v5), (6, .int v6)], [.int v6, .ref (b4 + 1), .int v5], N, sl, rn_hp S M)) rfl ?_
      have c9 : ¬ (rn_ob v6 6) := fun c => by rw [if_pos c] at h; cases h
      rw [if_neg c9] at h
      cases o11 : rP S (b4 + 1) (Int32.toNatClampNeg v6) with
      | none =>
        rw [rn_om_n o11] at h
        refine rn_e1 qm (s2 := (39, [(4, .ref b4), (5, .int v5), (6, .int v6)], [.null, .int v5], N, sl, rn_hp S M)) (rn_g_aald (n := 6) (r := none) rfl rfl (ar_x14 (ko_3_0 hb4).1 (ko_3_0 hb4).2.1 (ko_3_0 hb4).2.2) c9 o11) ?_
        cases h
      | some r10 =>
        rw [rn_om_s o11] at h
        refine rn_e1 qm (s2 := (39, [(4, .ref b4), (5, .int v5), (6, .int v6)], [.ref r10, .int v5], N, sl, rn_hp S M)) (rn_g_aald (n := 6) (r := some r10) rfl rfl (ar_x14 (ko_3_0 hb4).1 (ko_3_0 hb4).2.1 (ko_3_0 hb4).2.2) c9 o11) ?_
        have k12 : rn_kd r10 = 3 := Decidable.byContradiction fun c => by rw [if_neg c] at h; cases h
        rw [if_pos k12] at h
        refine rn_e1 qm (s2 := (40, [(4, .ref b4), (5, .int v5), (6, .int v6)], [.int (rI S r10 5), .int v5], N, sl, rn_hp S M)) (rn_g_getf rfl rfl (en_3 k12) rfl) ?_
        refine rn_eg qm 4 (s2 := (30, [(6, .int (v6 + (1 : Int32))), (5, .int (v5 + (rI S r10 5))), (4, .ref b4)], [], N, sl, rn_hp S M)) rfl ?_
        refine rn_kq qm (s2 := (30, [(4, .ref b4), (5, .int (v5 + (rI S r10 5))), (6, .int (v6 + (1 : Int32)))], [], N, sl, rn_hp S M)) rfl rfl ?_
        exact ih _ _ _ k R hk h
def f9 (S : rn_T) (a1 : Int32) (a2 : Int32) : Option (Int32 × rn_T) :=
  Option.bind (f23 S a1 a2) fun p1 =>
    if p1 = true then
      Option.bind (f24 S a1 a2) fun p3 =>
        if p3.1 = 0 then
          if rn_kd (f154 p3.2) = 3 then
            if (rI p3.2 (f154 p3.2) 4) = (5 : Int32) then
              f9_L30 (f154 p3.2) rn_FU p3.2 (0 : Int32) (0 : Int32) (fun S13 w13_5 =>
                some ((f26 w13_5 (rI S13 (f154 p3.2) 6)), S13))
            else
              some ((-6 : Int32), p3.2)
          else none
        else
          some (p3.1, p3.2)
    else
      some ((-1 : Int32), S)
set_option maxHeartbeats 4000000 in
theorem E9 {X : rn_X} {N sl : Nat} {S M : rn_T} {a1 : Int32} {a2 : Int32} {R : (Int32 × rn_T)} (h : f9 S a1 a2 = some R) : rn_rv X 9 (0, [(0, .ref 0), (1, .int a1), (2, .int a2)], [], N, sl, rn_hp S M) (some (.int R.1), N, sl, rn_hp R.2 M) := by
  have qm := rn_m9
  unfold f9 at h
  refine rn_eg qm 3 (s2 := (3, [(0, .ref 0), (1, .int a1), (2, .int a2)], [.int a2, .int a1, .ref 0], N, sl, rn_hp S M)) rfl ?_
  obtain ⟨p1, hp1, h⟩ := Option.bind_eq_some_iff.mp h
  refine rn_ec qm rfl rfl rfl rfl rn_m23 rfl rfl rfl (fun _ => rn_rc_of (en_8 (q := 0) rfl)) (E23 hp1) ?_
  refine rn_eg qm 0 (s2 := (4, [(0, .ref 0), (1, .int a1), (2, .int a2)], [.int (rn_bi p1)], N, sl, rn_hp S M)) rfl ?_
  refine rn_eg qm 1 (s2 := ((if (rn_bi p1) = 0 then 5 else 7), [(0, .ref 0), (1, .int a1), (2, .int a2)], [], N, sl, rn_hp S M)) rfl ?_
  refine rn_iteb (fun c2 => ?_) (fun c2 => ?_)
  · rw [if_neg (rn_bf c2)] at h
    refine rn_eg qm 1 (s2 := (6, [(0, .ref 0), (1, .int a1), (2, .int a2)], [.int (-1 : Int32)], N, sl, rn_hp S M)) rfl ?_
    cases h
    exact rn_er qm rfl rfl rfl
  · rw [if_pos c2] at h
    refine rn_eg qm 3 (s2 := (10, [(0, .ref 0), (1, .int a1), (2, .int a2)], [.int a2, .int a1, .ref 0], N, sl, rn_hp S M)) rfl ?_
    obtain ⟨p3, hp3, h⟩ := Option.bind_eq_some_iff.mp h
    refine rn_ec qm rfl rfl rfl rfl rn_m24 rfl rfl rfl (fun _ => rn_rc_of (en_8 (q := 0) rfl)) (E24 hp3) ?_
    refine rn_eg qm 0 (s2 := (11, [(0, .ref 0), (1, .int a1), (2, .int a2)], [.int p3.1], N, sl, rn_hp p3.2 M)) rfl ?_
    refine rn_eg qm 3 (s2 := ((if p3.1 = 0 then 16 else 14), [(3, .int p3.1), (0, .ref 0), (1, .int a1), (2, .int a2)], [], N, sl, rn_hp p3.2 M)) rfl ?_
    refine rn_ite (fun c4 => ?_) (fun c4 => ?_)
    · rw [if_pos c4] at h
      refine rn_eg qm 2 (s2 := (18, [(3, .int p3.1), (0, .ref 0), (1, .int a1), (2, .int a2)], [.ref 66], N, sl, rn_hp p3.2 M)) rfl ?_
      refine rn_ec qm rfl rfl rfl rfl rn_m154 rfl rfl rfl (fun _ => rn_rc_of (en_7 (q := 66) rfl)) (E154 rfl) ?_
      refine rn_eg qm 0 (s2 := (19, [(3, .int p3.1), (0, .ref 0), (1, .int a1), (2, .int a2)], [.ref (f154 p3.2)], N, sl, rn_hp p3.2 M)) rfl ?_
      refine rn_eg qm 2 (s2 := (21, [(4, .ref (f154 p3.2)), (3, .int p3.1), (0, .ref 0), (1, .int a1), (2, .int a2)], [.ref (f154 p3.2)], N, sl, rn_hp p3.2 M)) rfl ?_
      have k6 : rn_kd (f154 p3.2) = 3 := Decidable.byContradiction fun c => by rw [if_neg c] at h; cases h
      rw [if_pos k6] at h
      refine rn_e1 qm (s2 := (22, [(4, .ref (f154 p3.2)), (3, .int p3.1), (0, .ref 0), (1, .int a1), (2, .int a2)], [.int (rI p3.2 (f154 p3.2) 4)], N, sl, rn_hp p3.2 M)) (rn_g_getf rfl rfl (en_3 k6) rfl) ?_
      refine rn_eg qm 2 (s2 := ((if (rI p3.2 (f154 p3.2) 4) = (5 : Int32) then 26 else 24), [(4, .ref (f154 p3.2)), (3, .int p3.1), (0, .ref 0), (1, .int a1), (2, .int a2)], [], N, sl, rn_hp p3.2 M)) rfl ?_
      refine rn_ite (fun c7 => ?_) (fun c7 => ?_)
      · rw [if_pos c7] at h
        refine rn_eg qm 4 (s2 := (30, [(6, .int (0 : Int32)), (5, .int (0 : Int32)), (4, .ref (f154 p3.2)), (3, .int p3.1), (0, .ref 0), (1, .int a1), (2, .int a2)], [], N, sl, rn_hp p3.2 M)) rfl ?_
        refine rn_kq qm (s2 := (30, [(4, .ref (f154 p3.2)), (5, .int (0 : Int32)), (6, .int (0 : Int32))], [], N, sl, rn_hp p3.2 M)) rfl rfl ?_
        refine E9_L30 k6 rn_FU _ _ _ _ R ?_ h
        intro S13 w13_5 h
        refine rn_eg qm 2 (s2 := (46, [(4, .ref (f154 p3.2)), (5, .int w13_5)], [.ref (f154 p3.2), .int w13_5], N, sl, rn_hp S13 M)) rfl ?_
        refine rn_e1 qm (s2 := (47, [(4, .ref (f154 p3.2)), (5, .int w13_5)], [.int (rI S13 (f154 p3.2) 6), .int w13_5], N, sl, rn_hp S13 M)) (rn_g_getf rfl rfl (en_3 k6) rfl) ?_
        refine rn_ec qm rfl rfl rfl rfl rn_m26 rfl rfl rfl (fun h => by cases h) (E26 rfl) ?_
        refine rn_eg qm 0 (s2 := (48, [(4, .ref (f154 p3.2)), (5, .int w13_5)], [.int (f26 w13_5 (rI S13 (f154 p3.2) 6))], N, sl, rn_hp S13 M)) rfl ?_
        cases h
        exact rn_er qm rfl rfl rfl
      · rw [if_neg c7] at h
        refine rn_eg qm 1 (s2 := (25, [(4, .ref (f154 p3.2)), (3, .int p3.1), (0, .ref 0), (1, .int a1), (2, .int a2)], [.int (-6 : Int32)], N, sl, rn_hp p3.2 M)) rfl ?_
        cases h
        exact rn_er qm rfl rfl rfl
    · rw [if_neg c4] at h
      refine rn_eg qm 1 (s2 := (15, [(3, .int p3.1), (0, .ref 0), (1, .int a1), (2, .int a2)], [.int p3.1], N, sl, rn_hp p3.2 M)) rfl ?_
      cases h
      exact rn_er qm rfl rfl rfl
/-! 131: RecordNiches$Node.isNumber()Z -/
def f131 (S : rn_T) (a0 : Nat) : Option Bool :=
  if rn_kd a0 = 3 then
    if (rI S a0 4) = (1 : Int32) then
      some true
    else
      if (rI S a0 4) = (2 : Int32) then
        some true
      else
        if (rI S a0 4) = (3 : Int32) then
          some true
        else
          if (rI S a0 4) = (4 : Int32) then
            some true
          else
            some false
  else none
set_option maxHeartbeats 4000000 in
theorem E131 {X : rn_X} {N sl : Nat} {S M : rn_T} {a0 : Nat} {R : (Bool)} (h : f131 S a0 = some R) : rn_rv X 131 (0, [(0, .ref a0)], [], N, sl, rn_hp S M) (some (.int (rn_bi R)), N, sl, rn_hp S M) := by
  have qm := rn_m131
  unfold f131 at h
  refine rn_eg qm 1 (s2 := (1, [(0, .ref a0)], [.ref a0], N, sl, rn_hp S M)) rfl ?_
  have k1 : rn_kd a0 = 3 := Decidable.byContradiction fun c => by rw [if_neg c] at h; cases h
  rw [if_pos k1] at h
  refine rn_e1 qm (s2 := (2, [(0, .ref a0)], [.int (rI S a0 4)], N, sl, rn_hp S M)) (rn_g_getf rfl rfl (en_3 k1) rfl) ?_
  refine rn_eg qm 2 (s2 := ((if (rI S a0 4) = (1 : Int32) then 16 else 4), [(0, .ref a0)], [], N, sl, rn_hp S M)) rfl ?_
  refine rn_ite (fun c2 => ?_) (fun c2 => ?_)
  · rw [if_pos c2] at h
    refine rn_eg qm 2 (s2 := (19, [], [.int (1 : Int32)], N, sl, rn_hp S M)) rfl ?_
    cases h
    exact rn_er qm rfl rfl rn_rt1
  · rw [if_neg c2] at h
    refine rn_eg qm 1 (s2 := (5, [(0, .ref a0)], [.ref a0], N, sl, rn_hp S M)) rfl ?_
    refine rn_e1 qm (s2 := (6, [(0, .ref a0)], [.int (rI S a0 4)], N, sl, rn_hp S M)) (rn_g_getf rfl rfl (en_3 k1) rfl) ?_
    refine rn_eg qm 2 (s2 := ((if (rI S a0 4) = (2 : Int32) then 16 else 8), [(0, .ref a0)], [], N, sl, rn_hp S M)) rfl ?_
    refine rn_ite (fun c3 => ?_) (fun c3 => ?_)
    · rw [if_pos c3] at h
      refine rn_eg qm 2 (s2 := (19, [], [.int (1 : Int32)], N, sl, rn_hp S M)) rfl ?_
      cases h
      exact rn_er qm rfl rfl rn_rt1
    · rw [if_neg c3] at h
      refine rn_eg qm 1 (s2 := (9, [(0, .ref a0)], [.ref a0], N, sl, rn_hp S M)) rfl ?_
      refine rn_e1 qm (s2 := (10, [(0, .ref a0)], [.int (rI S a0 4)], N, sl, rn_hp S M)) (rn_g_getf rfl rfl (en_3 k1) rfl) ?_
      refine rn_eg qm 2 (s2 := ((if (rI S a0 4) = (3 : Int32) then 16 else 12), [(0, .ref a0)], [], N, sl, rn_hp S M)) rfl ?_
      refine rn_ite (fun c4 => ?_) (fun c4 => ?_)
      · rw [if_pos c4] at h
        refine rn_eg qm 2 (s2 := (19, [], [.int (1 : Int32)], N, sl, rn_hp S M)) rfl ?_
        cases h
        exact rn_er qm rfl rfl rn_rt1
      · rw [if_neg c4] at h
        refine rn_eg qm 1 (s2 := (13, [(0, .ref a0)], [.ref a0], N, sl, rn_hp S M)) rfl ?_
        refine rn_e1 qm (s2 := (14, [(0, .ref a0)], [.int (rI S a0 4)], N, sl, rn_hp S M)) (rn_g_getf rfl rfl (en_3 k1) rfl) ?_
        refine rn_eg qm 2 (s2 := ((if (rI S a0 4) = (4 : Int32) then 16 else 18), [(0, .ref a0)], [], N, sl, rn_hp S M)) rfl ?_
        refine rn_ite (fun c5 => ?_) (fun c5 => ?_)
        · rw [if_pos c5] at h
          refine rn_eg qm 2 (s2 := (19, [], [.int (1 : Int32)], N, sl, rn_hp S M)) rfl ?_
          cases h
          exact rn_er qm rfl rfl rn_rt1
        · rw [if_neg c5] at h
          refine rn_eg qm 1 (s2 := (19, [(0, .ref a0)], [.int (0 : Int32)], N, sl, rn_hp S M)) rfl ?_
          cases h
          exact rn_er qm rfl rfl rn_rt0
