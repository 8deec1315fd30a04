/-! 156: RecordNiches$Tree.build(LRecordNiches$Holding;LRecordNiches$Grammar;II)Z -/
def f156_L34 (b1 : Nat) : Nat → rn_T → Int32 → (rn_T → Option (Bool × rn_T)) → Option (Bool × rn_T)
  | 0, _, _, _ => none
  | fu + 1, S, v5, k =>
    if (200 : Int32) ≤ v5 then
      k S
    else
      if (rI S 66 15) ≤ 0 then
        k S
      else
        if rn_ob ((rI S 66 15) - (1 : Int32)) 100 then none else
          if rn_kd b1 = 1 then
            Option.bind (f115 S b1 (rA S 73 (Int32.toNatClampNeg ((rI S 66 15) - (1 : Int32)))) (rA S 74 (Int32.toNatClampNeg ((rI S 66 15) - (1 : Int32))))) fun p10 =>
              if p10 = (41 : Int32) then
                f156_L34 b1 fu (wI S 66 15 ((rI S 66 15) - (1 : Int32))) (v5 + (1 : Int32)) k
              else
                if p10 = (93 : Int32) then
                  f156_L34 b1 fu (wI S 66 15 ((rI S 66 15) - (1 : Int32))) (v5 + (1 : Int32)) k
                else
                  Option.bind (f157 S (rA S 73 (Int32.toNatClampNeg ((rI S 66 15) - (1 : Int32)))) (rA S 74 (Int32.toNatClampNeg ((rI S 66 15) - (1 : Int32)))) (rA S 75 (Int32.toNatClampNeg ((rI S 66 15) - (1 : Int32))))) fun p13 =>
                    Option.bind (f111 p13 (rI p13 66 3) (rI p13 66 4)) fun p14 =>
                      rn_om (rP (wA p13 74 (Int32.toNatClampNeg ((rI S 66 15) - (1 : Int32))) p14) 72 (Int32.toNatClampNeg ((rI S 66 15) - (1 : Int32))))
                        (Option.bind (f159 (wA p13 74 (Int32.toNatClampNeg ((rI S 66 15) - (1 : Int32))) p14) b1 none) fun p17 =>
                          if p17.1 = true then
                            f156_L34 b1 fu p17.2 (v5 + (1 : Int32)) k
                          else
                            some (false, p17.2))
                        fun r15 =>
                          Option.bind (f159 (wA p13 74 (Int32.toNatClampNeg ((rI S 66 15) - (1 : Int32))) p14) b1 (some r15)) fun p19 =>
                            if p19.1 = true then
                              f156_L34 b1 fu p19.2 (v5 + (1 : Int32)) k
                            else
                              some (false, p19.2)
          else none
set_option maxHeartbeats 4000000 in
theorem E156_L34 {X : rn_X} {N sl : Nat} {M : rn_T} {b1 : Nat} : ∀ (fu : Nat) (S : rn_T) (v5 : Int32) (k : (rn_T → Option (Bool × rn_T))) (R : (Bool × rn_T)), (∀ (S : rn_T), k S = some R → rn_rv X 156 (105, [(0, .ref 66)], [], N, sl, rn_hp S M) (some (.int (rn_bi R.1)), N, sl, rn_hp R.2 M)) → f156_L34 b1 fu S v5 k = some R → rn_rv X 156 (34, [(0, .ref 66), (1, .ref b1), (2, .ref 23), (5, .int v5)], [], N, sl, rn_hp S M) (some (.int (rn_bi R.1)), N, sl, rn_hp R.2 M) := by
  have qm := rn_m156
  intro fu
  induction fu with
  | zero => intro S v5 k R hk h; cases h
  | succ fu ih =>
    intro S v5 k R hk h
    unfold f156_L34 at h
    refine rn_eg qm 3 (s2 := ((if (200 : Int32) ≤ v5 then 105 else 37), [(0, .ref 66), (1, .ref b1), (2, .ref 23), (5, .int v5)], [], N, sl, rn_hp S M)) rfl ?_
    refine rn_ite (fun c6 => ?_) (fun c6 => ?_)
    · rw [if_pos c6] at h
      refine rn_kq qm (s2 := (105, [(0, .ref 66)], [], N, sl, rn_hp S M)) rfl rfl ?_
      exact hk _ h
    · rw [if_neg c6] at h
      refine rn_eg qm 3 (s2 := ((if (rI S 66 15) ≤ 0 then 105 else 40), [(0, .ref 66), (1, .ref b1), (2, .ref 23), (5, .int v5)], [], N, sl, rn_hp S M)) rfl ?_
      refine rn_ite (fun c7 => ?_) (fun c7 => ?_)
      · rw [if_pos c7] at h
        refine rn_kq qm (s2 := (105, [(0, .ref 66)], [], N, sl, rn_hp S M)) rfl rfl ?_
        exact hk _ h
      · rw [if_neg c7] at h
        refine rn_eg qm 9 (s2 := (49, [(6, .int ((rI S 66 15) - (1 : Int32))), (0, .ref 66), (1, .ref b1), (2, .ref 23), (5, .int v5)], [.int ((rI S 66 15) - (1 : Int32)), .ref 73, .ref b1], N, sl, rn_hp S M)) rfl ?_
        have c8 : ¬ (rn_ob ((rI S 66 15) - (1 : Int32)) 100) := fun c => by rw [if_pos c] at h; cases h
        rw [if_neg c8] at h
        refine rn_e1 qm (s2 := (50, [(6, .int ((rI S 66 15) - (1 : Int32))), (0, .ref 66), (1, .ref b1), (2, .ref 23), (5, .int v5)], [.int (rA S 73 (Int32.toNatClampNeg ((rI S 66 15) - (1 : Int32)))), .ref b1], N, sl, rn_hp S M)) (rn_g_iald (n := 100) rfl rfl (ar_x10 rfl rfl (Nat.le_of_ble_eq_true rfl)) c8) ?_
        refine rn_eg qm 3 (s2 := (53, [(6, .int ((rI S 66 15) - (1 : Int32))), (0, .ref 66), (1, .ref b1), (2, .ref 23), (5, .int v5)], [.int ((rI S 66 15) - (1 : Int32)), .ref 74, .int (rA S 73 (Int32.toNatClampNeg ((rI S 66 15) - (1 : Int32)))), .ref b1], N, sl, rn_hp S M)) rfl ?_
        refine rn_e1 qm (s2 := (54, [(6, .int ((rI S 66 15) - (1 : Int32))), (0, .ref 66), (1, .ref b1), (2, .ref 23), (5, .int v5)], [.int (rA S 74 (Int32.toNatClampNeg ((rI S 66 15) - (1 : Int32)))), .int (rA S 73 (Int32.toNatClampNeg ((rI S 66 15) - (1 : Int32)))), .ref b1], N, sl, rn_hp S M)) (rn_g_iald (n := 100) rfl rfl (ar_x10 rfl rfl (Nat.le_of_ble_eq_true rfl)) c8) ?_
        have k9 : rn_kd b1 = 1 := Decidable.byContradiction fun c => by rw [if_neg c] at h; cases h
        rw [if_pos k9] at h
        obtain ⟨p10, hp10, h⟩ := Option.bind_eq_some_iff.mp h
        refine rn_ec qm rfl rfl rfl rfl rn_m115 rfl rfl rfl (fun _ => rn_rc_of (en_1 k9)) (E115 hp10) ?_
        refine rn_eg qm 0 (s2 := (55, [(6, .int ((rI S 66 15) - (1 : Int32))), (0, .ref 66), (1, .ref b1), (2, .ref 23), (5, .int v5)], [.int p10], N, sl, rn_hp S M)) rfl ?_
        refine rn_eg qm 4 (s2 := ((if p10 = (41 : Int32) then 62 else 59), [(7, .int p10), (6, .int ((rI S 66 15) - (1 : Int32))), (0, .ref 66), (1, .ref b1), (2, .ref 23), (5, .int v5)], [], N, sl, rn_hp S M)) rfl ?_
        refine rn_ite (fun c11 => ?_) (fun c11 => ?_)
        · rw [if_pos c11] at h
          refine rn_eg qm 5 (s2 := (67, [(0, .ref 66), (1, .ref b1), (2, .ref 23), (5, .int v5)], [.int ((rI S 66 15) - (1 : Int32)), .ref 66], N, sl, rn_hp S M)) rfl ?_
          refine rn_e1 qm (s2 := (68, [(0, .ref 66), (1, .ref b1), (2, .ref 23), (5, .int v5)], [], N, sl, rn_hp (wI S 66 15 ((rI S 66 15) - (1 : Int32))) M)) (rn_g_putf rfl rfl (en_7 rfl) rfl rfl rfl (wf_7_15 (v := ((rI S 66 15) - (1 : Int32))) rfl)) ?_
          refine rn_eg qm 3 (s2 := (34, [(5, .int (v5 + (1 : Int32))), (0, .ref 66), (1, .ref b1), (2, .ref 23)], [], N, sl, rn_hp (wI S 66 15 ((rI S 66 15) - (1 : Int32))) M)) rfl ?_
          refine rn_kq qm (s2 := (34, [(0, .ref 66), (1, .ref b1), (2, .ref 23), (5, .int (v5 + (1 : Int32)))], [], N, sl, rn_hp (wI S 66 15 ((rI S 66 15) - (1 : Int32))) M)) rfl rfl ?_
          exact ih _ _ k R hk h
        · rw [if_neg c11] at h
          refine rn_eg qm 3 (s2 := ((if p10 = (93 : Int32) then 62 else 69), [(7, .int p10), (6, .int ((rI S 66 15) - (1 : Int32))), (0, .ref 66), (1, .ref b1), (2, .ref 23), (5, .int v5)], [], N, sl, rn_hp S M)) rfl ?_
          refine rn_ite (fun c12 => ?_) (fun c12 => ?_)
          · rw [if_pos c12] at h
            refine rn_eg qm 5 (s2 := (67, [(0, .ref 66), (1, .ref b1), (2, .ref 23), (5, .int v5)], [.int ((rI S 66 15) - (1 : Int32)), .ref 66], N, sl, rn_hp S M)) rfl ?_
            refine rn_e1 qm (s2 := (68, [(0, .ref 66), (1, .ref b1), (2, .ref 23), (5, .int v5)], [], N, sl, rn_hp (wI S 66 15 ((rI S 66 15) - (1 : Int32))) M)) (rn_g_putf rfl rfl (en_7 rfl) rfl rfl rfl (wf_7_15 (v := ((rI S 66 15) - (1 : Int32))) rfl)) ?_
            refine rn_eg qm 3 (s2 := (34, [(5, .int (v5 + (1 : Int32))), (0, .ref 66), (1, .ref b1), (2, .ref 23)], [], N, sl, rn_hp (wI S 66 15 ((rI S 66 15) - (1 : Int32))) M)) rfl ?_
            refine rn_kq qm (s2 := (34, [(0, .ref 66), (1, .ref b1), (2, .ref 23), (5, .int (v5 + (1 : Int32)))], [], N, sl, rn_hp (wI S 66 15 ((rI S 66 15) - (1 : Int32))) M)) rfl rfl ?_
            exact ih _ _ k R hk h
          · rw [if_neg c12] at h
            refine rn_eg qm 4 (s2 := (73, [(7, .int p10), (6, .int ((rI S 66 15) - (1 : Int32))), (0, .ref 66), (1, .ref b1), (2, .ref 23), (5, .int v5)], [.int ((rI S 66 15) - (1 : Int32)), .ref 73, .ref 66], N, sl, rn_hp S M)) rfl ?_
            refine rn_e1 qm (s2 := (74, [(7, .int p10), (6, .int ((rI S 66 15) - (1 : Int32))), (0, .ref 66), (1, .ref b1), (2, .ref 23), (5, .int v5)], [.int (rA S 73 (Int32.toNatClampNeg ((rI S 66 15) - (1 : Int32)))), .ref 66], N, sl, rn_hp S M)) (rn_g_iald (n := 100) rfl rfl (ar_x10 rfl rfl (Nat.le_of_ble_eq_true rfl)) c8) ?_
            refine rn_eg qm 3 (s2 := (77, [(7, .int p10), (6, .int ((rI S 66 15) - (1 : Int32))), (0, .ref 66), (1, .ref b1), (2, .ref 23), (5, .int v5)], [.int ((rI S 66 15) - (1 : Int32)), .ref 74, .int (rA S 73 (Int32.toNatClampNeg ((rI S 66 15) - (1 : Int32)))), .ref 66], N, sl, rn_hp S M)) rfl ?_
            refine rn_e1 qm (s2 := (78, [(7, .int p10), (6, .int ((rI S 66 15) - (1 : Int32))), (0, .ref 66), (1, .ref b1), (2, .ref 23), (5, .int v5)], [.int (rA S 74 (Int32.toNatClampNeg ((rI S 66 15) - (1 : Int32)))), .int (rA S 73 (Int32.toNatClampNeg ((rI S 66 15) - (1 : Int32)))), .ref 66], N, sl, rn_hp S M)) (rn_g_iald (n := 100) rfl rfl (ar_x10 rfl rfl (Nat.le_of_ble_eq_true rfl)) c8) ?_
            refine rn_eg qm 3 (s2 := (81, [(7, .int p10), (6, .int ((rI S 66 15) - (1 : Int32))), (0, .ref 66), (1, .ref b1), (2, .ref 23), (5, .int v5)], [.int ((rI S 66 15) - (1 : Int32)), .ref 75, .int (rA S 74 (Int32.toNatClampNeg ((rI S 66 15) - (1 : Int32)))), .int (rA S 73 (Int32.toNatClampNeg ((rI S 66 15) - (1 : Int32)))), .ref 66], N, sl, rn_hp S M)) rfl ?_
            refine rn_e1 qm (s2 := (82, [(7, .int p10), (6, .int ((rI S 66 15) - (1 : Int32))), (0, .ref 66), (1, .ref b1), (2, .ref 23), (5, .int v5)], [.int (rA S 75 (Int32.toNatClampNeg ((rI S 66 15) - (1 : Int32)))), .int (rA S 74 (Int32.toNatClampNeg ((rI S 66 15) - (1 : Int32)))), .int (rA S 73 (Int32.toNatClampNeg ((rI S 66 15) - (1 : Int32)))), .ref 66], N, sl, rn_hp S M)) (rn_g_iald (n := 100) rfl rfl (ar_x10 rfl rfl (Nat.le_of_ble_eq_true rfl)) c8) ?_
            obtain ⟨p13, hp13, h⟩ := Option.bind_eq_some_iff.mp h
            refine rn_ec qm rfl rfl rfl rfl rn_m157 rfl rfl rfl (fun _ => rn_rc_of (en_7 (q := 66) rfl)) (E157 hp13) ?_
            refine rn_eg qm 0 (s2 := (83, [(7, .int p10), (6, .int ((rI S 66 15) - (1 : Int32))), (0, .ref 66), (1, .ref b1), (2, .ref 23), (5, .int v5)], [], N, sl, rn_hp p13 M)) rfl ?_
            refine rn_eg qm 8 (s2 := (91, [(7, .int p10), (6, .int ((rI S 66 15) - (1 : Int32))), (0, .ref 66), (1, .ref b1), (2, .ref 23), (5, .int v5)], [.int (rI p13 66 4), .int (rI p13 66 3), .ref 23, .int ((rI S 66 15) - (1 : Int32)), .ref 74], N, sl, rn_hp p13 M)) rfl ?_
            obtain ⟨p14, hp14, h⟩ := Option.bind_eq_some_iff.mp h
            refine rn_ec qm rfl rfl rfl rfl rn_m111 rfl rfl rfl (fun _ => rn_rc_of (en_0 (q := 23) rfl)) (E111 hp14) ?_
            refine rn_eg qm 0 (s2 := (92, [(7, .int p10), (6, .int ((rI S 66 15) - (1 : Int32))), (0, .ref 66), (1, .ref b1), (2, .ref 23), (5, .int v5)], [.int p14, .int ((rI S 66 15) - (1 : Int32)), .ref 74], N, sl, rn_hp p13 M)) rfl ?_
            refine rn_e1 qm (s2 := (93, [(7, .int p10), (6, .int ((rI S 66 15) - (1 : Int32))), (0, .ref 66), (1, .ref b1), (2, .ref 23), (5, .int v5)], [], N, sl, rn_hp (wA p13 74 (Int32.toNatClampNeg ((rI S 66 15) - (1 : Int32))) p14) M)) (rn_g_iast (n := 100) rfl rfl (ar_x10 rfl rfl (Nat.le_of_ble_eq_true rfl)) c8 (aw_x10 rfl rfl (Nat.le_of_ble_eq_true rfl))) ?_
            refine rn_eg qm 5 (s2 := (98, [(7, .int p10), (6, .int ((rI S 66 15) - (1 : Int32))), (0, .ref 66), (1, .ref b1), (2, .ref 23), (5, .int v5)], [.int ((rI S 66 15) - (1 : Int32)), .ref 72, .ref b1, .ref 66], N, sl, rn_hp (wA p13 74 (Int32.toNatClampNeg ((rI S 66 15) - (1 : Int32))) p14) M)) rfl ?_
            cases o16 : rP (wA p13 74 (Int32.toNatClampNeg ((rI S 66 15) - (1 : Int32))) p14) 72 (Int32.toNatClampNeg ((rI S 66 15) - (1 : Int32))) with
            | none =>
              rw [rn_om_n o16] at h
              refine rn_e1 qm (s2 := (99, [(7, .int p10), (6, .int ((rI S 66 15) - (1 : Int32))), (0, .ref 66), (1, .ref b1), (2, .ref 23), (5, .int v5)], [.null, .ref b1, .ref 66], N, sl, rn_hp (wA p13 74 (Int32.toNatClampNeg ((rI S 66 15) - (1 : Int32))) p14) M)) (rn_g_aald (n := 100) (r := none) rfl rfl (ar_x14 rfl rfl (Nat.le_of_ble_eq_true rfl)) c8 o16) ?_
              obtain ⟨p17, hp17, h⟩ := Option.bind_eq_some_iff.mp h
              refine rn_ec qm rfl rfl rfl rfl rn_m159 rfl rfl rfl (fun _ => rn_rc_of (en_7 (q := 66) rfl)) (E159 hp17) ?_
              refine rn_eg qm 0 (s2 := (100, [(7, .int p10), (6, .int ((rI S 66 15) - (1 : Int32))), (0, .ref 66), (1, .ref b1), (2, .ref 23), (5, .int v5)], [.int (rn_bi p17.1)], N, sl, rn_hp p17.2 M)) rfl ?_
              refine rn_eg qm 1 (s2 := ((if (rn_bi p17.1) = 0 then 101 else 103), [(7, .int p10), (6, .int ((rI S 66 15) - (1 : Int32))), (0, .ref 66), (1, .ref b1), (2, .ref 23), (5, .int v5)], [], N, sl, rn_hp p17.2 M)) rfl ?_
              refine rn_iteb (fun c18 => ?_) (fun c18 => ?_)
              · rw [if_neg (rn_bf c18)] at h
                refine rn_eg qm 1 (s2 := (102, [(7, .int p10), (6, .int ((rI S 66 15) - (1 : Int32))), (0, .ref 66), (1, .ref b1), (2, .ref 23), (5, .int v5)], [.int (0 : Int32)], N, sl, rn_hp p17.2 M)) rfl ?_
                cases h
                exact rn_er qm rfl rfl rn_rt0
              · rw [if_pos c18] at h
                refine rn_eg qm 2 (s2 := (34, [(5, .int (v5 + (1 : Int32))), (0, .ref 66), (1, .ref b1), (2, .ref 23)], [], N, sl, rn_hp p17.2 M)) rfl ?_
                refine rn_kq qm (s2 := (34, [(0, .ref 66), (1, .ref b1), (2, .ref 23), (5, .int (v5 + (1 : Int32)))], [], N, sl, rn_hp p17.2 M)) rfl rfl ?_
                exact ih _ _ k R hk h
            | some r15 =>
              rw [rn_om_s o16] at h
              refine rn_e1 qm (s2 := (99, [(7, .int p10), (6, .int ((rI S 66 15) - (1 : Int32))), (0, .ref 66), (1, .ref b1), (2, .ref 23), (5, .int v5)], [.ref r15, .ref b1, .ref 66], N, sl, rn_hp (wA p13 74 (Int32.toNatClampNeg ((rI S 66 15) - (1 : Int32))) p14) M)) (rn_g_aald (n := 100) (r := some r15) rfl rfl (ar_x14 rfl rfl (Nat.le_of_ble_eq_true rfl)) c8 o16) ?_
              obtain ⟨p19, hp19, h⟩ := Option.bind_eq_some_iff.mp h
              refine rn_ec qm rfl rfl rfl rfl rn_m159 rfl rfl rfl (fun _ => rn_rc_of (en_7 (q := 66) rfl)) (E159 hp19) ?_
              refine rn_eg qm 0 (s2 := (100, [(7, .int p10), (6, .int ((rI S 66 15) - (1 : Int32))), (0, .ref 66), (1, .ref b1), (2, .ref 23), (5, .int v5)], [.int (rn_bi p19.1)], N, sl, rn_hp p19.2 M)) rfl ?_
              refine rn_eg qm 1 (s2 := ((if (rn_bi p19.1) = 0 then 101 else 103), [(7, .int p10), (6, .int ((rI S 66 15) - (1 : Int32))), (0, .ref 66), (1, .ref b1), (2, .ref 23), (5, .int v5)], [], N, sl, rn_hp p19.2 M)) rfl ?_
              refine rn_iteb (fun c20 => ?_) (fun c20 => ?_)
              · rw [if_neg (rn_bf c20)] at h
                refine rn_eg qm 1 (s2 := (102, [(7, .int p10), (6, .int ((rI S 66 15) - (1 : Int32))), (0, .ref 66), (1, .ref b1), (2, .ref 23), (5, .int v5)], [.int (0 : Int32)], N, sl, rn_hp p19.2 M)) rfl ?_
                cases h
                exact rn_er qm rfl rfl rn_rt0
              · rw [if_pos c20] at h
                refine rn_eg qm 2 (s2 := (34, [(5, .int (v5 + (1 : Int32))), (0, .ref 66), (1, .ref b1), (2, .ref 23)], [], N, sl, rn_hp p19.2 M)) rfl ?_
                refine rn_kq qm (s2 := (34, [(0, .ref 66), (1, .ref b1), (2, .ref 23), (5, .int (v5 + (1 : Int32)))], [], N, sl, rn_hp p19.2 M)) rfl rfl ?_
                exact ih _ _ k R hk h
def f156_J24 (S : rn_T) (u1 : Nat) (t1 : Int32) (t2 : Int32) (t3 : Int32) : Option (Bool × rn_T) :=
  Option.bind (f157 S t1 t2 t3) fun p3 =>
    Option.bind (f159 p3 u1 none) fun p4 =>
      if p4.1 = true then
        f156_L34 u1 rn_FU p4.2 (0 : Int32) (fun S21 =>
          if (rI S21 66 15) = 0 then
            some (true, S21)
          else
            some (false, S21))
      else
        some (false, p4.2)
set_option maxHeartbeats 4000000 in
theorem E156_J24 {X : rn_X} {N sl : Nat} {M : rn_T} {S : rn_T} {u1 : Nat} {t1 : Int32} {t2 : Int32} {t3 : Int32} {R : (Bool × rn_T)} (h : f156_J24 S u1 t1 t2 t3 = some R) : rn_rv X 156 (24, [(0, .ref 66), (1, .ref u1), (2, .ref 23)], [.int t3, .int t2, .int t1, .ref 66], N, sl, rn_hp S M) (some (.int (rn_bi R.1)), N, sl, rn_hp R.2 M) := by
  have qm := rn_m156
  unfold f156_J24 at h
  obtain ⟨p3, hp3, h⟩ := Option.bind_eq_some_iff.mp h
  refine rn_ec qm rfl rfl rfl rfl rn_m157 rfl rfl rfl (fun _ => rn_rc_of (en_7 (q := 66) rfl)) (E157 hp3) ?_
  refine rn_eg qm 0 (s2 := (25, [(0, .ref 66), (1, .ref u1), (2, .ref 23)], [], N, sl, rn_hp p3 M)) rfl ?_
  refine rn_eg qm 3 (s2 := (28, [(0, .ref 66), (1, .ref u1), (2, .ref 23)], [.null, .ref u1, .ref 66], N, sl, rn_hp p3 M)) rfl ?_
  obtain ⟨p4, hp4, h⟩ := Option.bind_eq_some_iff.mp h
  refine rn_ec qm rfl rfl rfl rfl rn_m159 rfl rfl rfl (fun _ => rn_rc_of (en_7 (q := 66) rfl)) (E159 hp4) ?_
  refine rn_eg qm 0 (s2 := (29, [(0, .ref 66), (1, .ref u1), (2, .ref 23)], [.int (rn_bi p4.1)], N, sl, rn_hp p4.2 M)) rfl ?_
  refine rn_eg qm 1 (s2 := ((if (rn_bi p4.1) = 0 then 30 else 32), [(0, .ref 66), (1, .ref u1), (2, .ref 23)], [], N, sl, rn_hp p4.2 M)) rfl ?_
  refine rn_iteb (fun c5 => ?_) (fun c5 => ?_)
  · rw [if_neg (rn_bf c5)] at h
    refine rn_eg qm 1 (s2 := (31, [(0, .ref 66), (1, .ref u1), (2, .ref 23)], [.int (0 : Int32)], N, sl, rn_hp p4.2 M)) rfl ?_
    cases h
    exact rn_er qm rfl rfl rn_rt0
  · rw [if_pos c5] at h
    refine rn_eg qm 2 (s2 := (34, [(5, .int (0 : Int32)), (0, .ref 66), (1, .ref u1), (2, .ref 23)], [], N, sl, rn_hp p4.2 M)) rfl ?_
    refine rn_kq qm (s2 := (34, [(0, .ref 66), (1, .ref u1), (2, .ref 23), (5, .int (0 : Int32))], [], N, sl, rn_hp p4.2 M)) rfl rfl ?_
    refine E156_L34 rn_FU _ _ _ R ?_ h
    intro S21 h
    refine rn_eg qm 3 (s2 := ((if (rI S21 66 15) = 0 then 108 else 110), [(0, .ref 66)], [], N, sl, rn_hp S21 M)) rfl ?_
    refine rn_ite (fun c22 => ?_) (fun c22 => ?_)
    · rw [if_pos c22] at h
      refine rn_eg qm 2 (s2 := (111, [(0, .ref 66)], [.int (1 : Int32)], N, sl, rn_hp S21 M)) rfl ?_
      cases h
      exact rn_er qm rfl rfl rn_rt1
    · rw [if_neg c22] at h
      refine rn_eg qm 1 (s2 := (111, [(0, .ref 66)], [.int (0 : Int32)], N, sl, rn_hp S21 M)) rfl ?_
      cases h
      exact rn_er qm rfl rfl rn_rt0
def f156 (S : rn_T) (a1 : Nat) (a3 : Int32) (a4 : Int32) : Option (Bool × rn_T) :=
  if 0 ≤ a4 then
    Option.bind (f158 (wI (wI (wI (wI S 66 0 (0 : Int32)) 66 6 (0 : Int32)) 66 10 (0 : Int32)) 66 15 (0 : Int32)) a4 (0 : Int32) (-1 : Int32)) fun p2 =>
      f156_J24 p2.2 a1 a3 (0 : Int32) p2.1
  else
    f156_J24 (wI (wI (wI (wI S 66 0 (0 : Int32)) 66 6 (0 : Int32)) 66 10 (0 : Int32)) 66 15 (0 : Int32)) a1 a3 (0 : Int32) (-1 : Int32)
set_option maxHeartbeats 4000000 in
theorem E156 {X : rn_X} {N sl : Nat} {S M : rn_T} {a1 : Nat} {a3 : Int32} {a4 : Int32} {R : (Bool × rn_T)} (h : f156 S a1 a3 a4 = some R) : rn_rv X 156 (0, [(0, .ref 66), (1, .ref a1), (2, .ref 23), (3, .int a3), (4, .int a4)], [], N, sl, rn_hp S M) (some (.int (rn_bi R.1)), N, sl, rn_hp R.2 M) := by
  have qm := rn_m156
  unfold f156 at h
  refine rn_eg qm 2 (s2 := (2, [(0, .ref 66), (1, .ref a1), (2, .ref 23), (3, .int a3), (4, .int a4)], [.int (0 : Int32), .ref 66], N, sl, rn_hp S M)) rfl ?_
  refine rn_e1 qm (s2 := (3, [(0, .ref 66), (1, .ref a1), (2, .ref 23), (3, .int a3), (4, .int a4)], [], N, sl, rn_hp (wI S 66 0 (0 : Int32)) M)) (rn_g_putf rfl rfl (en_7 rfl) rfl rfl rfl (wf_7_0 (v := (0 : Int32)) rfl)) ?_
  refine rn_eg qm 2 (s2 := (5, [(0, .ref 66), (1, .ref a1), (2, .ref 23), (3, .int a3), (4, .int a4)], [.int (0 : Int32), .ref 66], N, sl, rn_hp (wI S 66 0 (0 : Int32)) M)) rfl ?_
  refine rn_e1 qm (s2 := (6, [(0, .ref 66), (1, .ref a1), (2, .ref 23), (3, .int a3), (4, .int a4)], [], N, sl, rn_hp (wI (wI S 66 0 (0 : Int32)) 66 6 (0 : Int32)) M)) (rn_g_putf rfl rfl (en_7 rfl) rfl rfl rfl (wf_7_6 (v := (0 : Int32)) rfl)) ?_
  refine rn_eg qm 2 (s2 := (8, [(0, .ref 66), (1, .ref a1), (2, .ref 23), (3, .int a3), (4, .int a4)], [.int (0 : Int32), .ref 66], N, sl, rn_hp (wI (wI S 66 0 (0 : Int32)) 66 6 (0 : Int32)) M)) rfl ?_
  refine rn_e1 qm (s2 := (9, [(0, .ref 66), (1, .ref a1), (2, .ref 23), (3, .int a3), (4, .int a4)], [], N, sl, rn_hp (wI (wI (wI S 66 0 (0 : Int32)) 66 6 (0 : Int32)) 66 10 (0 : Int32)) M)) (rn_g_putf rfl rfl (en_7 rfl) rfl rfl rfl (wf_7_10 (v := (0 : Int32)) rfl)) ?_
  refine rn_eg qm 2 (s2 := (11, [(0, .ref 66), (1, .ref a1), (2, .ref 23), (3, .int a3), (4, .int a4)], [.int (0 : Int32), .ref 66], N, sl, rn_hp (wI (wI (wI S 66 0 (0 : Int32)) 66 6 (0 : Int32)) 66 10 (0 : Int32)) M)) rfl ?_
  refine rn_e1 qm (s2 := (12, [(0, .ref 66), (1, .ref a1), (2, .ref 23), (3, .int a3), (4, .int a4)], [], N, sl, rn_hp (wI (wI (wI (wI S 66 0 (0 : Int32)) 66 6 (0 : Int32)) 66 10 (0 : Int32)) 66 15 (0 : Int32)) M)) (rn_g_putf rfl rfl (en_7 rfl) rfl rfl rfl (wf_7_15 (v := (0 : Int32)) rfl)) ?_
  refine rn_eg qm 5 (s2 := ((if 0 ≤ a4 then 19 else 17), [(0, .ref 66), (1, .ref a1), (2, .ref 23), (3, .int a3), (4, .int a4)], [.int (0 : Int32), .int a3, .ref 66], N, sl, rn_hp (wI (wI (wI (wI S 66 0 (0 : Int32)) 66 6 (0 : Int32)) 66 10 (0 : Int32)) 66 15 (0 : Int32)) M)) rfl ?_
  refine rn_ite (fun c1 => ?_) (fun c1 => ?_)
  · rw [if_pos c1] at h
    refine rn_eg qm 4 (s2 := (23, [(0, .ref 66), (1, .ref a1), (2, .ref 23), (3, .int a3), (4, .int a4)], [.int (-1 : Int32), .int (0 : Int32), .int a4, .ref 66, .int (0 : Int32), .int a3, .ref 66], N, sl, rn_hp (wI (wI (wI (wI S 66 0 (0 : Int32)) 66 6 (0 : Int32)) 66 10 (0 : Int32)) 66 15 (0 : Int32)) M)) rfl ?_
    obtain ⟨p2, hp2, h⟩ := Option.bind_eq_some_iff.mp h
    refine rn_ec qm rfl rfl rfl rfl rn_m158 rfl rfl rfl (fun _ => rn_rc_of (en_7 (q := 66) rfl)) (E158 hp2) ?_
    refine rn_eg qm 0 (s2 := (24, [(0, .ref 66), (1, .ref a1), (2, .ref 23), (3, .int a3), (4, .int a4)], [.int p2.1, .int (0 : Int32), .int a3, .ref 66], N, sl, rn_hp p2.2 M)) rfl ?_
    refine rn_kq qm (s2 := (24, [(0, .ref 66), (1, .ref a1), (2, .ref 23)], [.int p2.1, .int (0 : Int32), .int a3, .ref 66], N, sl, rn_hp p2.2 M)) rfl rfl ?_
    exact E156_J24 h
  · rw [if_neg c1] at h
    refine rn_eg qm 2 (s2 := (24, [(0, .ref 66), (1, .ref a1), (2, .ref 23), (3, .int a3), (4, .int a4)], [.int (-1 : Int32), .int (0 : Int32), .int a3, .ref 66], N, sl, rn_hp (wI (wI (wI (wI S 66 0 (0 : Int32)) 66 6 (0 : Int32)) 66 10 (0 : Int32)) 66 15 (0 : Int32)) M)) rfl ?_
    refine rn_kq qm (s2 := (24, [(0, .ref 66), (1, .ref a1), (2, .ref 23)], [.int (-1 : Int32), .int (0 : Int32), .int a3, .ref 66], N, sl, rn_hp (wI (wI (wI (wI S 66 0 (0 : Int32)) 66 6 (0 : Int32)) 66 10 (0 : Int32)) 66 15 (0 : Int32)) M)) rfl rfl ?_
    exact E156_J24 h
/-! 120: RecordNiches$Lay.greatestAlign(LRecordNiches$Node;)I -/
def f120_L4 (b0 : Nat) : Nat → rn_T → Int32 → Int32 → (rn_T → Int32 → Option Int32) → Option Int32
  | 0, _, _, _, _ => none
  | fu + 1, S, v1, v2, k =>
    if rn_kd b0 = 3 then
      if (rI S b0 1) ≤ v2 then
        k S v1
      else
        if rn_ob v2 6 then none else
          rn_om (rP S (b0 + 1) (Int32.toNatClampNeg v2))
            (none)
            fun r4 =>
              if rn_kd r4 = 3 then
                f120_L4 b0 fu S (if v1 < (rI S r4 6) then (rI S r4 6) else v1) (v2 + (1 : Int32)) k
              else none
    else none
set_option maxHeartbeats 4000000 in
theorem E120_L4 {X : rn_X} {N sl : Nat} {M : rn_T} {b0 : Nat} : ∀ (fu : Nat) (S : rn_T) (v1 : Int32) (v2 : Int32) (k : (rn_T → Int32 → Option Int32)) (R : (Int32)), (∀ (S : rn_T) (w_1 : Int32), k S w_1 = some R → rn_rv X 120 (18, [(1, .int w_1)], [], N, sl, rn_hp S M) (some (.int R), N, sl, rn_hp S M)) → f120_L4 b0 fu S v1 v2 k = some R → rn_rv X 120 (4, [(0, .ref b0), (1, .int v1), (2, .int v2)], [], N, sl, rn_hp S M) (some (.int R), N, sl, rn_hp S M) := by
  have qm := rn_m120
  intro fu
  induction fu with
  | zero => intro S v1 v2 k R hk h; cases h
  | succ fu ih =>
    intro S v1 v2 k R hk h
    unfold f120_L4 at h
    refine rn_eg qm 2 (s2 := (6, [(0, .ref b0), (1, .int v1), (2, .int v2)], [.ref b0, .int v2], N, sl, rn_hp S M)) rfl ?_
    have k1 : rn_kd b0 = 3 := Decidable.byContradiction fun c => by rw [if_neg c] at h; cases h
    rw [if_pos k1] at h
    refine rn_e1 qm (s2 := (7, [(0, .ref b0), (1, .int v1), (2, .int v2)], [.int (rI S b0 1), .int v2], N, sl, rn_hp S M)) (rn_g_getf rfl rfl (en_3 k1) rfl) ?_
    refine rn_eg qm 1 (s2 := ((if (rI S b0 1) ≤ v2 then 18 else 8), [(0, .ref b0), (1, .int v1), (2, .int v2)], [], N, sl, rn_hp S M)) rfl ?_
    refine rn_ite (fun c2 => ?_) (fun c2 => ?_)
    · rw [if_pos c2] at h
      refine rn_kq qm (s2 := (18, [(1, .int v1)], [], N, sl, rn_hp S M)) rfl rfl ?_
      exact hk _ _ h
    · rw [if_neg c2] at h
      refine rn_eg qm 2 (s2 := (10, [(0, .ref b0), (1, .int v1), (2, .int v2)], [.ref b0, .int v1], N, sl, rn_hp S M)) rfl ?_
      refine rn_e1 qm (s2 := (11, [(0, .ref b0), (1, .int v1), (2, .int v2)], [.ref (b0 + 1), .int v1], N, sl, rn_hp S M)) (rn_g_getf rfl rfl (en_3 k1) rfl) ?_
      refine rn_eg qm 1 (s2 := (12, [(0, .ref b0), (1, .int v1), (2, .int v2)], [.int v2, .ref (b0 + 1), .int v1], N, sl, rn_hp S M)) rfl ?_
      have c3 : ¬ (rn_ob v2 6) := fun c => by rw [if_pos c] at h; cases h
      rw [if_neg c3] at h
      cases o5 : rP S (b0 + 1) (Int32.toNatClampNeg v2) with
      | none =>
        rw [rn_om_n o5] at h
        refine rn_e1 qm (s2 := (13, [(0, .ref b0), (1, .int v1), (2, .int v2)], [.null, .int v1], N, sl, rn_hp S M)) (rn_g_aald (n := 6) (r := none) rfl rfl (ar_x14 (ko_3_0 k1).1 (ko_3_0 k1).2.1 (ko_3_0 k1).2.2) c3 o5) ?_
        cases h
      | some r4 =>
        rw [rn_om_s o5] at h
        refine rn_e1 qm (s2 := (13, [(0, .ref b0), (1, .int v1), (2, .int v2)], [.ref r4, .int v1], N, sl, rn_hp S M)) (rn_g_aald (n := 6) (r := some r4) rfl rfl (ar_x14 (ko_3_0 k1).1 (ko_3_0 k1).2.1 (ko_3_0 k1).2.2) c3 o5) ?_
        have k6 : rn_kd r4 = 3 := Decidable.byContradiction fun c => by rw [if_neg c] at h; cases h
        rw [if_pos k6] at h
        refine rn_e1 qm (s2 := (14, [(0, .ref b0), (1, .int v1), (2, .int v2)], [.int (rI S r4 6), .int v1], N, sl, rn_hp S M)) (rn_g_getf rfl rfl (en_3 k6) rfl) ?_
        refine rn_eg qm 4 (s2 := (4, [(2, .int (v2 + (1 : Int32))), (1, .int (if v1 < (rI S r4 6) then (rI S r4 6) else v1)), (0, .ref b0)], [], N, sl, rn_hp S M)) rfl ?_
        refine rn_kq qm (s2 := (4, [(0, .ref b0), (1, .int (if v1 < (rI S r4 6) then (rI S r4 6) else v1)), (2, .int (v2 + (1 : Int32)))], [], N, sl, rn_hp S M)) rfl rfl ?_
        exact ih _ _ _ k R hk h
def f120 (S : rn_T) (a0 : Nat) : Option Int32 :=
  f120_L4 a0 rn_FU S (1 : Int32) (0 : Int32) (fun S7 w7_1 =>
    some w7_1)
set_option maxHeartbeats 4000000 in
theorem E120 {X : rn_X} {N sl : Nat} {S M : rn_T} {a0 : Nat} {R : (Int32)} (h : f120 S a0 = some R) : rn_rv X 120 (0, [(0, .ref a0)], [], N, sl, rn_hp S M) (some (.int R), N, sl, rn_hp S M) := by
  have qm := rn_m120
  unfold f120 at h
  refine rn_eg qm 4 (s2 := (4, [(2, .int (0 : Int32)), (1, .int (1 : Int32)), (0, .ref a0)], [], N, sl, rn_hp S M)) rfl ?_
  refine rn_kq qm (s2 := (4, [(0, .ref a0), (1, .int (1 : Int32)), (2, .int (0 : Int32))], [], N, sl, rn_hp S M)) rfl rfl ?_
  refine E120_L4 rn_FU _ _ _ _ R ?_ h
  intro S7 w7_1 h
  refine rn_eg qm 1 (s2 := (19, [(1, .int w7_1)], [.int w7_1], N, sl, rn_hp S7 M)) rfl ?_
  cases h
  exact rn_er qm rfl rfl rfl
/-! 26: RecordNiches.upTo(II)I -/
def f26 (a0 : Int32) (a1 : Int32) : Int32 :=
  (((a0 + a1) - (1 : Int32)) &&& (-a1))
set_option maxHeartbeats 4000000 in
theorem E26 {X : rn_X} {N sl : Nat} {S M : rn_T} {a0 : Int32} {a1 : Int32} {R : Int32} (h : f26 a0 a1 = R) : rn_rv X 26 (0, [(0, .int a0), (1, .int a1)], [], N, sl, rn_hp S M) (some (.int R), N, sl, rn_hp S M) := by
  have qm := rn_m26
  unfold f26 at h
  refine rn_eg qm 8 (s2 := (8, [(0, .int a0), (1, .int a1)], [.int (((a0 + a1) - (1 : Int32)) &&& (-a1))], N, sl, rn_hp S M)) rfl ?_
  cases h
  exact rn_er qm rfl rfl rfl
/-! 121: RecordNiches$Lay.inLine(LRecordNiches$Node;II)I -/
def f121_J20_4 (S : rn_T) (u0 : Nat) (u2 : Int32) (u3 : Int32) (u4 : Int32) (u5 : Nat) (rc : (rn_T → Int32 → Int32 → Option (Int32 × rn_T))) (k : (rn_T → Int32 → Option (Int32 × rn_T))) : Option (Int32 × rn_T) :=
  if rn_kd u5 = 3 then
    rc (wI S u5 7 (f26 u3 (rI S u5 6))) ((rI (wI S u5 7 (f26 u3 (rI S u5 6))) u5 7) + (rI (wI S u5 7 (f26 u3 (rI S u5 6))) u5 5)) (u4 + (1 : Int32))
  else none
set_option maxHeartbeats 4000000 in
theorem E121_J20_4 {X : rn_X} {N sl : Nat} {M : rn_T} {S : rn_T} {u0 : Nat} {u2 : Int32} {u3 : Int32} {u4 : Int32} {u5 : Nat} {R : (Int32 × rn_T)} (hu0 : rn_kd u0 = 3) {rc : (rn_T → Int32 → Int32 → Option (Int32 × rn_T))} (hrc : ∀ (S : rn_T) (v3 : Int32) (v4 : Int32), rc S v3 v4 = some R → rn_rv X 121 (4, [(0, .ref u0), (2, .int u2), (3, .int v3), (4, .int v4)], [], N, sl, rn_hp S M) (some (.int R.1), N, sl, rn_hp R.2 M)) {k : (rn_T → Int32 → Option (Int32 × rn_T))} (hk : ∀ (S : rn_T) (w_3 : Int32), k S w_3 = some R → rn_rv X 121 (34, [(3, .int w_3)], [], N, sl, rn_hp S M) (some (.int R.1), N, sl, rn_hp R.2 M)) (h : f121_J20_4 S u0 u2 u3 u4 u5 rc k = some R) : rn_rv X 121 (20, [(0, .ref u0), (2, .int u2), (3, .int u3), (4, .int u4), (5, .ref u5)], [], N, sl, rn_hp S M) (some (.int R.1), N, sl, rn_hp R.2 M) := by
  have qm := rn_m121
  unfold f121_J20_4 at h
  refine rn_eg qm 3 (s2 := (23, [(0, .ref u0), (2, .int u2), (3, .int u3), (4, .int u4), (5, .ref u5)], [.ref u5, .int u3, .ref u5], N, sl, rn_hp S M)) rfl ?_
  have k7 : rn_kd u5 = 3 := Decidable.byContradiction fun c => by rw [if_neg c] at h; cases h
  rw [if_pos k7] at h
  refine rn_e1 qm (s2 := (24, [(0, .ref u0), (2, .int u2), (3, .int u3), (4, .int u4), (5, .ref u5)], [.int (rI S u5 6), .int u3, .ref u5], N, sl, rn_hp S M)) (rn_g_getf rfl rfl (en_3 k7) rfl) ?_
  refine rn_ec qm rfl rfl rfl rfl rn_m26 rfl rfl rfl (fun h => by cases h) (E26 rfl) ?_
  refine rn_eg qm 0 (s2 := (25, [(0, .ref u0), (2, .int u2), (3, .int u3), (4, .int u4), (5, .ref u5)], [.int (f26 u3 (rI S u5 6)), .ref u5], N, sl, rn_hp S M)) rfl ?_
  refine rn_e1 qm (s2 := (26, [(0, .ref u0), (2, .int u2), (3, .int u3), (4, .int u4), (5, .ref u5)], [], N, sl, rn_hp (wI S u5 7 (f26 u3 (rI S u5 6))) M)) (rn_g_putf rfl rfl (en_3 k7) rfl rfl rfl (wf_3_7 (v := (f26 u3 (rI S u5 6))) k7)) ?_
  refine rn_eg qm 1 (s2 := (27, [(0, .ref u0), (2, .int u2), (3, .int u3), (4, .int u4), (5, .ref u5)], [.ref u5], N, sl, rn_hp (wI S u5 7 (f26 u3 (rI S u5 6))) M)) rfl ?_
  refine rn_e1 qm (s2 := (28, [(0, .ref u0), (2, .int u2), (3, .int u3), (4, .int u4), (5, .ref u5)], [.int (rI (wI S u5 7 (f26 u3 (rI S u5 6))) u5 7)], N, sl, rn_hp (wI S u5 7 (f26 u3 (rI S u5 6))) M)) (rn_g_getf rfl rfl (en_3 k7) rfl) ?_
  refine rn_eg qm 1 (s2 := (29, [(0, .ref u0), (2, .int u2), (3, .int u3), (4, .int u4), (5, .ref u5)], [.ref u5, .int (rI (wI S u5 7 (f26 u3 (rI S u5 6))) u5 7)], N, sl, rn_hp (wI S u5 7 (f26 u3 (rI S u5 6))) M)) rfl ?_
  refine rn_e1 qm (s2 := (30, [(0, .ref u0), (2, .int u2), (3, .int u3), (4, .int u4), (5, .ref u5)], [.int (rI (wI S u5 7 (f26 u3 (rI S u5 6))) u5 5), .int (rI (wI S u5 7 (f26 u3 (rI S u5 6))) u5 7)], N, sl, rn_hp (wI S u5 7 (f26 u3 (rI S u5 6))) M)) (rn_g_getf rfl rfl (en_3 k7) rfl) ?_
  refine rn_eg qm 4 (s2 := (4, [(4, .int (u4 + (1 : Int32))), (0, .ref u0), (2, .int u2), (3, .int ((rI (wI S u5 7 (f26 u3 (rI S u5 6))) u5 7) + (rI (wI S u5 7 (f26 u3 (rI S u5 6))) u5 5)))], [], N, sl, rn_hp (wI S u5 7 (f26 u3 (rI S u5 6))) M)) rfl ?_
  refine rn_kq qm (s2 := (4, [(0, .ref u0), (2, .int u2), (3, .int ((rI (wI S u5 7 (f26 u3 (rI S u5 6))) u5 7) + (rI (wI S u5 7 (f26 u3 (rI S u5 6))) u5 5))), (4, .int (u4 + (1 : Int32)))], [], N, sl, rn_hp (wI S u5 7 (f26 u3 (rI S u5 6))) M)) rfl rfl ?_
  exact hrc _ _ _ h
def f121_L4 (b0 : Nat) (b2 : Int32) : Nat → rn_T → Int32 → Int32 → (rn_T → Int32 → Option (Int32 × rn_T)) → Option (Int32 × rn_T)
  | 0, _, _, _, _ => none
  | fu + 1, S, v3, v4, k =>
    if rn_kd b0 = 3 then
      if (rI S b0 1) ≤ v4 then
        k S v3
      else
        if rn_ob v4 6 then none else
          rn_om (rP S (b0 + 1) (Int32.toNatClampNeg v4))
            (none)
            fun r4 =>
              if b2 = 0 then
                f121_J20_4 S b0 b2 v3 v4 r4 (fun S v3 v4 => f121_L4 b0 b2 fu S v3 v4 k) k
              else
                if rn_kd r4 = 3 then
                  if (rI S r4 6) = b2 then
                    f121_J20_4 S b0 b2 v3 v4 r4 (fun S v3 v4 => f121_L4 b0 b2 fu S v3 v4 k) k
                  else
                    f121_L4 b0 b2 fu S v3 (v4 + (1 : Int32)) k
                else none
    else none
set_option maxHeartbeats 4000000 in
theorem E121_L4 {X : rn_X} {N sl : Nat} {M : rn_T} {b0 : Nat} {b2 : Int32} : ∀ (fu : Nat) (S : rn_T) (v3 : Int32) (v4 : Int32) (k : (rn_T → Int32 → Option (Int32 × rn_T))) (R : (Int32 × rn_T)), (∀ (S : rn_T) (w_3 : Int32), k S w_3 = some R → rn_rv X 121 (34, [(3, .int w_3)], [], N, sl, rn_hp S M) (some (.int R.1), N, sl, rn_hp R.2 M)) → f121_L4 b0 b2 fu S v3 v4 k = some R → rn_rv X 121 (4, [(0, .ref b0), (2, .int b2), (3, .int v3), (4, .int v4)], [], N, sl, rn_hp S M) (some (.int R.1), N, sl, rn_hp R.2 M) := by
  have qm := rn_m121
  intro fu
  induction fu with
  | zero => intro S v3 v4 k R hk h; cases h
  | succ fu ih =>
    intro S v3 v4 k R hk h
    unfold f121_L4 at h
    refine rn_eg qm 2 (s2 := (6, [(0, .ref b0), (2, .int b2), (3, .int v3), (4, .int v4)], [.ref b0, .int v4], N, sl, rn_hp S M)) rfl ?_
    have k1 : rn_kd b0 = 3 := Decidable.byContradiction fun c => by rw [if_neg c] at h; cases h
    rw [if_pos k1] at h
    refine rn_e1 qm (s2 := (7, [(0, .ref b0), (2, .int b2), (3, .int v3), (4, .int v4)], [.int (rI S b0 1), .int v4], N, sl, rn_hp S M)) (rn_g_getf rfl rfl (en_3 k1) rfl) ?_
    refine rn_eg qm 1 (s2 := ((if (rI S b0 1) ≤ v4 then 34 else 8), [(0, .ref b0), (2, .int b2), (3, .int v3), (4, .int v4)], [], N, sl, rn_hp S M)) rfl ?_
    refine rn_ite (fun c2 => ?_) (fun c2 => ?_)
    · rw [if_pos c2] at h
      refine rn_kq qm (s2 := (34, [(3, .int v3)], [], N, sl, rn_hp S M)) rfl rfl ?_
      exact hk _ _ h
    · rw [if_neg c2] at h
      refine rn_eg qm 1 (s2 := (9, [(0, .ref b0), (2, .int b2), (3, .int v3), (4, .int v4)], [.ref b0], N, sl, rn_hp S M)) rfl ?_
      refine rn_e1 qm (s2 := (10, [(0, .ref b0), (2, .int b2), (3, .int v3), (4, .int v4)], [.ref (b0 + 1)], N, sl, rn_hp S M)) (rn_g_getf rfl rfl (en_3 k1) rfl) ?_
      refine rn_eg qm 1 (s2 := (11, [(0, .ref b0), (2, .int b2), (3, .int v3), (4, .int v4)], [.int v4, .ref (b0 + 1)], N, sl, rn_hp S M)) rfl ?_
      have c3 : ¬ (rn_ob v4 6) := fun c => by rw [if_pos c] at h; cases h
      rw [if_neg c3] at h
      cases o5 : rP S (b0 + 1) (Int32.toNatClampNeg v4) with
      | none =>
        rw [rn_om_n o5] at h
        refine rn_e1 qm (s2 := (12, [(0, .ref b0), (2, .int b2), (3, .int v3), (4, .int v4)], [.null], N, sl, rn_hp S M)) (rn_g_aald (n := 6) (r := none) rfl rfl (ar_x14 (ko_3_0 k1).1 (ko_3_0 k1).2.1 (ko_3_0 k1).2.2) c3 o5) ?_
        cases h
      | some r4 =>
        rw [rn_om_s o5] at h
        refine rn_e1 qm (s2 := (12, [(0, .ref b0), (2, .int b2), (3, .int v3), (4, .int v4)], [.ref r4], N, sl, rn_hp S M)) (rn_g_aald (n := 6) (r := some r4) rfl rfl (ar_x14 (ko_3_0 k1).1 (ko_3_0 k1).2.1 (ko_3_0 k1).2.2) c3 o5) ?_
        refine rn_eg qm 3 (s2 := ((if b2 = 0 then 20 else 15), [(5, .ref r4), (0, .ref b0), (2, .int b2), (3, .int v3), (4, .int v4)], [], N, sl, rn_hp S M)) rfl ?_
        refine rn_ite (fun c6 => ?_) (fun c6 => ?_)
        · rw [if_pos c6] at h
          refine rn_kq qm (s2 := (20, [(0, .ref b0), (2, .int b2), (3, .int v3), (4, .int v4), (5, .ref r4)], [], N, sl, rn_hp S M)) rfl rfl ?_
          exact E121_J20_4 k1 (fun S v3 v4 h => ih S v3 v4 k R hk h) hk h
        · rw [if_neg c6] at h
          refine rn_eg qm 1 (s2 := (16, [(5, .ref r4), (0, .ref b0), (2, .int b2), (3, .int v3), (4, .int v4)], [.ref r4], N, sl, rn_hp S M)) rfl ?_
          have k9 : rn_kd r4 = 3 := Decidable.byContradiction fun c => by rw [if_neg c] at h; cases h
          rw [if_pos k9] at h
          refine rn_e1 qm (s2 := (17, [(5, .ref r4), (0, .ref b0), (2, .int b2), (3, .int v3), (4, .int v4)], [.int (rI S r4 6)], N, sl, rn_hp S M)) (rn_g_getf rfl rfl (en_3 k9) rfl) ?_
          refine rn_eg qm 2 (s2 := ((if (rI S r4 6) = b2 then 20 else 19), [(5, .ref r4), (0, .ref b0), (2, .int b2), (3, .int v3), (4, .int v4)], [], N, sl, rn_hp S M)) rfl ?_
          refine rn_ite (fun c10 => ?_) (fun c10 => ?_)
          · rw [if_pos c10] at h
            refine rn_kq qm (s2 := (20, [(0, .ref b0), (2, .int b2), (3, .int v3), (4, .int v4), (5, .ref r4)], [], N, sl, rn_hp S M)) rfl rfl ?_
            exact E121_J20_4 k1 (fun S v3 v4 h => ih S v3 v4 k R hk h) hk h
          · rw [if_neg c10] at h
            refine rn_eg qm 3 (s2 := (4, [(4, .int (v4 + (1 : Int32))), (0, .ref b0), (2, .int b2), (3, .int v3)], [], N, sl, rn_hp S M)) rfl ?_
            refine rn_kq qm (s2 := (4, [(0, .ref b0), (2, .int b2), (3, .int v3), (4, .int (v4 + (1 : Int32)))], [], N, sl, rn_hp S M)) rfl rfl ?_
            exact ih _ _ _ k R hk h
def f121 (S : rn_T) (a0 : Nat) (a1 : Int32) (a2 : Int32) : Option (Int32 × rn_T) :=
  f121_L4 a0 a2 rn_FU S a1 (0 : Int32) (fun S11 w11_3 =>
    some (w11_3, S11))
set_option maxHeartbeats 4000000 in
theorem E121 {X : rn_X} {N sl : Nat} {S M : rn_T} {a0 : Nat} {a1 : Int32} {a2 : Int32} {R : (Int32 × rn_T)} (h : f121 S a0 a1 a2 = some R) : rn_rv X 121 (0, [(0, .ref a0), (1, .int a1), (2, .int a2)], [], N, sl, rn_hp S M) (some (.int R.1), N, sl, rn_hp R.2 M) := by
  have qm := rn_m121
  unfold f121 at h
  refine rn_eg qm 4 (s2 := (4, [(4, .int (0 : Int32)), (3, .int a1), (0, .ref a0), (1, .int a1), (2, .int a2)], [], N, sl, rn_hp S M)) rfl ?_
  refine rn_kq qm (s2 := (4, [(0, .ref a0), (2, .int a2), (3, .int a1), (4, .int (0 : Int32))], [], N, sl, rn_hp S M)) rfl rfl ?_
  refine E121_L4 rn_FU _ _ _ _ R ?_ h
  intro S11 w11_3 h
  refine rn_eg qm 1 (s2 := (35, [(3, .int w11_3)], [.int w11_3], N, sl, rn_hp S11 M)) rfl ?_
  cases h
  exact rn_er qm rfl rfl rfl
/-! 122: RecordNiches$Lay.takeGreaterGap(LRecordNiches$Node;LRecordNiches$Node;)V -/
def f122_J26 (S : rn_T) (u0 : Nat) (u1 : Nat) (u2 : Int32) : Option (rn_T) :=
  Option.bind (f130 S u0 u2 (rI S u1 9) (rI S u1 10) (rI S u1 11)) fun p6 =>
    some (p6)
set_option maxHeartbeats 4000000 in
theorem E122_J26 {X : rn_X} {N sl : Nat} {M : rn_T} {S : rn_T} {u0 : Nat} {u1 : Nat} {u2 : Int32} {R : (rn_T)} (hu0 : rn_kd u0 = 3) (hu1 : rn_kd u1 = 3) (h : f122_J26 S u0 u1 u2 = some R) : rn_rv X 122 (26, [(0, .ref u0), (1, .ref u1), (2, .int u2)], [], N, sl, rn_hp S M) (none, N, sl, rn_hp R M) := by
  have qm := rn_m122
  unfold f122_J26 at h
  refine rn_eg qm 3 (s2 := (29, [(0, .ref u0), (1, .ref u1), (2, .int u2)], [.ref u1, .int u2, .ref u0], N, sl, rn_hp S M)) rfl ?_
  refine rn_e1 qm (s2 := (30, [(0, .ref u0), (1, .ref u1), (2, .int u2)], [.int (rI S u1 9), .int u2, .ref u0], N, sl, rn_hp S M)) (rn_g_getf rfl rfl (en_3 hu1) rfl) ?_
  refine rn_eg qm 1 (s2 := (31, [(0, .ref u0), (1, .ref u1), (2, .int u2)], [.ref u1, .int (rI S u1 9), .int u2, .ref u0], N, sl, rn_hp S M)) rfl ?_
  refine rn_e1 qm (s2 := (32, [(0, .ref u0), (1, .ref u1), (2, .int u2)], [.int (rI S u1 10), .int (rI S u1 9), .int u2, .ref u0], N, sl, rn_hp S M)) (rn_g_getf rfl rfl (en_3 hu1) rfl) ?_
  refine rn_eg qm 1 (s2 := (33, [(0, .ref u0), (1, .ref u1), (2, .int u2)], [.ref u1, .int (rI S u1 10), .int (rI S u1 9), .int u2, .ref u0], N, sl, rn_hp S M)) rfl ?_
  refine rn_e1 qm (s2 := (34, [(0, .ref u0), (1, .ref u1), (2, .int u2)], [.int (rI S u1 11), .int (rI S u1 10), .int (rI S u1 9), .int u2, .ref u0], N, sl, rn_hp S M)) (rn_g_getf rfl rfl (en_3 hu1) rfl) ?_
  obtain ⟨p6, hp6, h⟩ := Option.bind_eq_some_iff.mp h
  refine rn_ec qm rfl rfl rfl rfl rn_m130 rfl rfl rfl (fun _ => rn_rc_of (en_3 hu0)) (E130 hp6) ?_
  refine rn_eg qm 0 (s2 := (35, [(0, .ref u0), (1, .ref u1), (2, .int u2)], [], N, sl, rn_hp p6 M)) rfl ?_
  cases h
  exact rn_er qm rfl rfl rfl
def f122_J18 (S : rn_T) (u0 : Nat) (u1 : Nat) (u2 : Int32) (t0 : Int32) : Option (rn_T) :=
  if (rI S u0 11) < (rI S u1 11) then
    f122_J26 S u0 u1 u2
  else
    if t0 = 0 then
      some (S)
    else
      f122_J26 S u0 u1 u2
set_option maxHeartbeats 4000000 in
theorem E122_J18 {X : rn_X} {N sl : Nat} {M : rn_T} {S : rn_T} {u0 : Nat} {u1 : Nat} {u2 : Int32} {t0 : Int32} {R : (rn_T)} (hu0 : rn_kd u0 = 3) (hu1 : rn_kd u1 = 3) (h : f122_J18 S u0 u1 u2 t0 = some R) : rn_rv X 122 (18, [(0, .ref u0), (1, .ref u1), (2, .int u2)], [.int t0], N, sl, rn_hp S M) (none, N, sl, rn_hp R M) := by
  have qm := rn_m122
  unfold f122_J18 at h
  refine rn_eg qm 2 (s2 := (20, [(3, .int t0), (0, .ref u0), (1, .ref u1), (2, .int u2)], [.ref u1], N, sl, rn_hp S M)) rfl ?_
  refine rn_e1 qm (s2 := (21, [(3, .int t0), (0, .ref u0), (1, .ref u1), (2, .int u2)], [.int (rI S u1 11)], N, sl, rn_hp S M)) (rn_g_getf rfl rfl (en_3 hu1) rfl) ?_
  refine rn_eg qm 1 (s2 := (22, [(3, .int t0), (0, .ref u0), (1, .ref u1), (2, .int u2)], [.ref u0, .int (rI S u1 11)], N, sl, rn_hp S M)) rfl ?_
  refine rn_e1 qm (s2 := (23, [(3, .int t0), (0, .ref u0), (1, .ref u1), (2, .int u2)], [.int (rI S u0 11), .int (rI S u1 11)], N, sl, rn_hp S M)) (rn_g_getf rfl rfl (en_3 hu0) rfl) ?_
  refine rn_eg qm 1 (s2 := ((if (rI S u0 11) < (rI S u1 11) then 26 else 24), [(3, .int t0), (0, .ref u0), (1, .ref u1), (2, .int u2)], [], N, sl, rn_hp S M)) rfl ?_
  refine rn_ite (fun c5 => ?_) (fun c5 => ?_)
  · rw [if_pos c5] at h
    refine rn_kq qm (s2 := (26, [(0, .ref u0), (1, .ref u1), (2, .int u2)], [], N, sl, rn_hp S M)) rfl rfl ?_
    exact E122_J26 hu0 hu1 h
  · rw [if_neg c5] at h
    refine rn_eg qm 2 (s2 := ((if t0 = 0 then 35 else 26), [(3, .int t0), (0, .ref u0), (1, .ref u1), (2, .int u2)], [], N, sl, rn_hp S M)) rfl ?_
    refine rn_ite (fun c7 => ?_) (fun c7 => ?_)
    · rw [if_pos c7] at h
      cases h
      exact rn_er qm rfl rfl rfl
    · rw [if_neg c7] at h
      refine rn_kq qm (s2 := (26, [(0, .ref u0), (1, .ref u1), (2, .int u2)], [], N, sl, rn_hp S M)) rfl rfl ?_
      exact E122_J26 hu0 hu1 h
def f122_J17 (S : rn_T) (u0 : Nat) (u1 : Nat) (u2 : Int32) : Option (rn_T) :=
  f122_J18 S u0 u1 u2 (0 : Int32)
set_option maxHeartbeats 4000000 in
theorem E122_J17 {X : rn_X} {N sl : Nat} {M : rn_T} {S : rn_T} {u0 : Nat} {u1 : Nat} {u2 : Int32} {R : (rn_T)} (hu0 : rn_kd u0 = 3) (hu1 : rn_kd u1 = 3) (h : f122_J17 S u0 u1 u2 = some R) : rn_rv X 122 (17, [(0, .ref u0), (1, .ref u1), (2, .int u2)], [], N, sl, rn_hp S M) (none, N, sl, rn_hp R M) := by
  have qm := rn_m122
  unfold f122_J17 at h
  refine rn_eg qm 1 (s2 := (18, [(0, .ref u0), (1, .ref u1), (2, .int u2)], [.int (0 : Int32)], N, sl, rn_hp S M)) rfl ?_
  refine rn_kq qm (s2 := (18, [(0, .ref u0), (1, .ref u1), (2, .int u2)], [.int (0 : Int32)], N, sl, rn_hp S M)) rfl rfl ?_
  exact E122_J18 hu0 hu1 h
def f122 (S : rn_T) (a0 : Nat) (a1 : Nat) : Option (rn_T) :=
  if rn_kd a1 = 3 then
    if rn_kd a0 = 3 then
      if (rI S a1 11) = (rI S a0 11) then
        if (rI S a0 8) ≤ ((rI S a1 7) + (rI S a1 8)) then
          f122_J17 S a0 a1 ((rI S a1 7) + (rI S a1 8))
        else
          f122_J18 S a0 a1 ((rI S a1 7) + (rI S a1 8)) (1 : Int32)
      else
        f122_J17 S a0 a1 ((rI S a1 7) + (rI S a1 8))
    else none
  else none
set_option maxHeartbeats 4000000 in
theorem E122 {X : rn_X} {N sl : Nat} {S M : rn_T} {a0 : Nat} {a1 : Nat} {R : (rn_T)} (h : f122 S a0 a1 = some R) : rn_rv X 122 (0, [(0, .ref a0), (1, .ref a1)], [], N, sl, rn_hp S M) (none, N, sl, rn_hp R M) := by
  have qm := rn_m122
  unfold f122 at h
  refine rn_eg qm 1 (s2 := (1, [(0, .ref a0), (1, .ref a1)], [.ref a1], N, sl, rn_hp S M)) rfl ?_
  have k1 : rn_kd a1 = 3 := Decidable.byContradiction fun c => by rw [if_neg c] at h; cases h
  rw [if_pos k1] at h
  refine rn_e1 qm (s2 := (2, [(0, .ref a0), (1, .ref a1)], [.int (rI S a1 7)], N, sl, rn_hp S M)) (rn_g_getf rfl rfl (en_3 k1) rfl) ?_
  refine rn_eg qm 1 (s2 := (3, [(0, .ref a0), (1, .ref a1)], [.ref a1, .int (rI S a1 7)], N, sl, rn_hp S M)) rfl ?_
  refine rn_e1 qm (s2 := (4, [(0, .ref a0), (1, .ref a1)], [.int (rI S a1 8), .int (rI S a1 7)], N, sl, rn_hp S M)) (rn_g_getf rfl rfl (en_3 k1) rfl) ?_
  refine rn_eg qm 3 (s2 := (7, [(2, .int ((rI S a1 7) + (rI S a1 8))), (0, .ref a0), (1, .ref a1)], [.ref a1], N, sl, rn_hp S M)) rfl ?_
  refine rn_e1 qm (s2 := (8, [(2, .int ((rI S a1 7) + (rI S a1 8))), (0, .ref a0), (1, .ref a1)], [.int (rI S a1 11)], N, sl, rn_hp S M)) (rn_g_getf rfl rfl (en_3 k1) rfl) ?_
  refine rn_eg qm 1 (s2 := (9, [(2, .int ((rI S a1 7) + (rI S a1 8))), (0, .ref a0), (1, .ref a1)], [.ref a0, .int (rI S a1 11)], N, sl, rn_hp S M)) rfl ?_
  have k2 : rn_kd a0 = 3 := Decidable.byContradiction fun c => by rw [if_neg c] at h; cases h
  rw [if_pos k2] at h
  refine rn_e1 qm (s2 := (10, [(2, .int ((rI S a1 7) + (rI S a1 8))), (0, .ref a0), (1, .ref a1)], [.int (rI S a0 11), .int (rI S a1 11)], N, sl, rn_hp S M)) (rn_g_getf rfl rfl (en_3 k2) rfl) ?_
  refine rn_eg qm 1 (s2 := ((if (rI S a1 11) = (rI S a0 11) then 11 else 17), [(2, .int ((rI S a1 7) + (rI S a1 8))), (0, .ref a0), (1, .ref a1)], [], N, sl, rn_hp S M)) rfl ?_
  refine rn_ite (fun c3 => ?_) (fun c3 => ?_)
  · rw [if_pos c3] at h
    refine rn_eg qm 2 (s2 := (13, [(2, .int ((rI S a1 7) + (rI S a1 8))), (0, .ref a0), (1, .ref a1)], [.ref a0, .int ((rI S a1 7) + (rI S a1 8))], N, sl, rn_hp S M)) rfl ?_
    refine rn_e1 qm (s2 := (14, [(2, .int ((rI S a1 7) + (rI S a1 8))), (0, .ref a0), (1, .ref a1)], [.int (rI S a0 8), .int ((rI S a1 7) + (rI S a1 8))], N, sl, rn_hp S M)) (rn_g_getf rfl rfl (en_3 k2) rfl) ?_
    refine rn_eg qm 1 (s2 := ((if (rI S a0 8) ≤ ((rI S a1 7) + (rI S a1 8)) then 17 else 15), [(2, .int ((rI S a1 7) + (rI S a1 8))), (0, .ref a0), (1, .ref a1)], [], N, sl, rn_hp S M)) rfl ?_
    refine rn_ite (fun c4 => ?_) (fun c4 => ?_)
    · rw [if_pos c4] at h
      refine rn_kq qm (s2 := (17, [(0, .ref a0), (1, .ref a1), (2, .int ((rI S a1 7) + (rI S a1 8)))], [], N, sl, rn_hp S M)) rfl rfl ?_
      exact E122_J17 k2 k1 h
    · rw [if_neg c4] at h
      refine rn_eg qm 2 (s2 := (18, [(2, .int ((rI S a1 7) + (rI S a1 8))), (0, .ref a0), (1, .ref a1)], [.int (1 : Int32)], N, sl, rn_hp S M)) rfl ?_
      refine rn_kq qm (s2 := (18, [(0, .ref a0), (1, .ref a1), (2, .int ((rI S a1 7) + (rI S a1 8)))], [.int (1 : Int32)], N, sl, rn_hp S M)) rfl rfl ?_
      exact E122_J18 k2 k1 h
  · rw [if_neg c3] at h
    refine rn_kq qm (s2 := (17, [(0, .ref a0), (1, .ref a1), (2, .int ((rI S a1 7) + (rI S a1 8)))], [], N, sl, rn_hp S M)) rfl rfl ?_
    exact E122_J17 k2 k1 h
/-! 118: RecordNiches$Lay.fields(LRecordNiches$Node;I)V -/
def f118_L42 (b0 : Nat) : Nat → rn_T → Int32 → (rn_T → Option (rn_T)) → Option (rn_T)
  | 0, _, _, _ => none
  | fu + 1, S, v3, k =>
    if (rI S b0 1) ≤ v3 then
      k S
    else
      if rn_ob v3 6 then none else
        rn_om (rP S (b0 + 1) (Int32.toNatClampNeg v3))
          (none)
          fun r9 =>
            Option.bind (f122 S b0 r9) fun p11 =>
              f118_L42 b0 fu p11 (v3 + (1 : Int32)) k
set_option maxHeartbeats 4000000 in
theorem E118_L42 {X : rn_X} {N sl : Nat} {M : rn_T} {b0 : Nat} (hb0 : rn_kd b0 = 3) : ∀ (fu : Nat) (S : rn_T) (v3 : Int32) (k : (rn_T → Option (rn_T))) (R : (rn_T)), (∀ (S : rn_T), k S = some R → rn_rv X 118 (54, [], [], N, sl, rn_hp S M) (none, N, sl, rn_hp R M)) → f118_L42 b0 fu S v3 k = some R → rn_rv X 118 (42, [(0, .ref b0), (3, .int v3)], [], N, sl, rn_hp S M) (none, N, sl, rn_hp R M) := by
  have qm := rn_m118
  intro fu
  induction fu with
  | zero => intro S v3 k R hk h; cases h
  | succ fu ih =>
    intro S v3 k R hk h
    unfold f118_L42 at h
    refine rn_eg qm 2 (s2 := (44, [(0, .ref b0), (3, .int v3)], [.ref b0, .int v3], N, sl, rn_hp S M)) rfl ?_
    refine rn_e1 qm (s2 := (45, [(0, .ref b0), (3, .int v3)], [.int (rI S b0 1), .int v3], N, sl, rn_hp S M)) (rn_g_getf rfl rfl (en_3 hb0) rfl) ?_
    refine rn_eg qm 1 (s2 := ((if (rI S b0 1) ≤ v3 then 54 else 46), [(0, .ref b0), (3, .int v3)], [], N, sl, rn_hp S M)) rfl ?_
    refine rn_ite (fun c7 => ?_) (fun c7 => ?_)
    · rw [if_pos c7] at h
      refine rn_kq qm (s2 := (54, [], [], N, sl, rn_hp S M)) rfl rfl ?_
      exact hk _ h
    · rw [if_neg c7] at h
      refine rn_eg qm 2 (s2 := (48, [(0, .ref b0), (3, .int v3)], [.ref b0, .ref b0], N, sl, rn_hp S M)) rfl ?_
      refine rn_e1 qm (s2 := (49, [(0, .ref b0), (3, .int v3)], [.ref (b0 + 1), .ref b0], N, sl, rn_hp S M)) (rn_g_getf rfl rfl (en_3 hb0) rfl) ?_
      refine rn_eg qm 1 (s2 := (50, [(0, .ref b0), (3, .int v3)], [.int v3, .ref (b0 + 1), .ref b0], N, sl, rn_hp S M)) rfl ?_
      have c8 : ¬ (rn_ob v3 6) := fun c => by rw [if_pos c] at h; cases h
      rw [if_neg c8] at h
      cases o10 : rP S (b0 + 1) (Int32.toNatClampNeg v3) with
      | none =>
        rw [rn_om_n o10] at h
        refine rn_e1 qm (s2 := (51, [(0, .ref b0), (3, .int v3)], [.null, .ref b0], N, sl, rn_hp S M)) (rn_g_aald (n := 6) (r := none) rfl rfl (ar_x14 (ko_3_0 hb0).1 (ko_3_0 hb0).2.1 (ko_3_0 hb0).2.2) c8 o10) ?_
        cases h
      | some r9 =>
        rw [rn_om_s o10] at h
        refine rn_e1 qm (s2 := (51, [(0, .ref b0), (3, .int v3)], [.ref r9, .ref b0], N, sl, rn_hp S M)) (rn_g_aald (n := 6) (r := some r9) rfl rfl (ar_x14 (ko_3_0 hb0).1 (ko_3_0 hb0).2.1 (ko_3_0 hb0).2.2) c8 o10) ?_
        obtain ⟨p11, hp11, h⟩ := Option.bind_eq_some_iff.mp h
        refine rn_ec qm rfl rfl rfl rfl rn_m122 rfl rfl rfl (fun h => by cases h) (E122 hp11) ?_
        refine rn_eg qm 0 (s2 := (52, [(0, .ref b0), (3, .int v3)], [], N, sl, rn_hp p11 M)) rfl ?_
        refine rn_eg qm 2 (s2 := (42, [(3, .int (v3 + (1 : Int32))), (0, .ref b0)], [], N, sl, rn_hp p11 M)) rfl ?_
        refine rn_kq qm (s2 := (42, [(0, .ref b0), (3, .int (v3 + (1 : Int32)))], [], N, sl, rn_hp p11 M)) rfl rfl ?_
        exact ih _ _ k R hk h
def f118_J28 (S : rn_T) (u0 : Nat) (u2 : Int32) : Option (rn_T) :=
  Option.bind (f130 (wI S u0 5 (f26 u2 (rI S u0 6))) u0 (0 : Int32) (0 : Int32) (0 : Int32) (0 : Int32)) fun p6 =>
    f118_L42 u0 rn_FU p6 (0 : Int32) (fun S12 =>
      some (S12))
set_option maxHeartbeats 4000000 in
theorem E118_J28 {X : rn_X} {N sl : Nat} {M : rn_T} {S : rn_T} {u0 : Nat} {u2 : Int32} {R : (rn_T)} (hu0 : rn_kd u0 = 3) (h : f118_J28 S u0 u2 = some R) : rn_rv X 118 (28, [(0, .ref u0), (2, .int u2)], [], N, sl, rn_hp S M) (none, N, sl, rn_hp R M) := by
  have qm := rn_m118
  unfold f118_J28 at h
  refine rn_eg qm 3 (s2 := (31, [(0, .ref u0), (2, .int u2)], [.ref u0, .int u2, .ref u0], N, sl, rn_hp S M)) rfl ?_
  refine rn_e1 qm (s2 := (32, [(0, .ref u0), (2, .int u2)], [.int (rI S u0 6), .int u2, .ref u0], N, sl, rn_hp S M)) (rn_g_getf rfl rfl (en_3 hu0) rfl) ?_
  refine rn_ec qm rfl rfl rfl rfl rn_m26 rfl rfl rfl (fun h => by cases h) (E26 rfl) ?_
  refine rn_eg qm 0 (s2 := (33, [(0, .ref u0), (2, .int u2)], [.int (f26 u2 (rI S u0 6)), .ref u0], N, sl, rn_hp S M)) rfl ?_
  refine rn_e1 qm (s2 := (34, [(0, .ref u0), (2, .int u2)], [], N, sl, rn_hp (wI S u0 5 (f26 u2 (rI S u0 6))) M)) (rn_g_putf rfl rfl (en_3 hu0) rfl rfl rfl (wf_3_5 (v := (f26 u2 (rI S u0 6))) hu0)) ?_
  refine rn_eg qm 5 (s2 := (39, [(0, .ref u0), (2, .int u2)], [.int (0 : Int32), .int (0 : Int32), .int (0 : Int32), .int (0 : Int32), .ref u0], N, sl, rn_hp (wI S u0 5 (f26 u2 (rI S u0 6))) M)) rfl ?_
  obtain ⟨p6, hp6, h⟩ := Option.bind_eq_some_iff.mp h
  refine rn_ec qm rfl rfl rfl rfl rn_m130 rfl rfl rfl (fun _ => rn_rc_of (en_3 hu0)) (E130 hp6) ?_
  refine rn_eg qm 0 (s2 := (40, [(0, .ref u0), (2, .int u2)], [], N, sl, rn_hp p6 M)) rfl ?_
  refine rn_eg qm 2 (s2 := (42, [(3, .int (0 : Int32)), (0, .ref u0), (2, .int u2)], [], N, sl, rn_hp p6 M)) rfl ?_
  refine rn_kq qm (s2 := (42, [(0, .ref u0), (3, .int (0 : Int32))], [], N, sl, rn_hp p6 M)) rfl rfl ?_
  refine E118_L42 hu0 rn_FU _ _ _ R ?_ h
  intro S12 h
  cases h
  exact rn_er qm rfl rfl rfl
def f118_L16 (b0 : Nat) : Nat → rn_T → Int32 → Int32 → (rn_T → Int32 → Option (rn_T)) → Option (rn_T)
  | 0, _, _, _, _ => none
  | fu + 1, S, v2, v3, k =>
    if v3 ≤ 0 then
      k S v2
    else
      Option.bind (f121 S b0 v2 v3) fun p14 =>
        f118_L16 b0 fu p14.2 p14.1 (v3 >>> ((1 : Int32) &&& 31)) k
set_option maxHeartbeats 4000000 in
theorem E118_L16 {X : rn_X} {N sl : Nat} {M : rn_T} {b0 : Nat} (hb0 : rn_kd b0 = 3) : ∀ (fu : Nat) (S : rn_T) (v2 : Int32) (v3 : Int32) (k : (rn_T → Int32 → Option (rn_T))) (R : (rn_T)), (∀ (S : rn_T) (w_2 : Int32), k S w_2 = some R → rn_rv X 118 (28, [(0, .ref b0), (2, .int w_2)], [], N, sl, rn_hp S M) (none, N, sl, rn_hp R M)) → f118_L16 b0 fu S v2 v3 k = some R → rn_rv X 118 (16, [(0, .ref b0), (2, .int v2), (3, .int v3)], [], N, sl, rn_hp S M) (none, N, sl, rn_hp R M) := by
  have qm := rn_m118
  intro fu
  induction fu with
  | zero => intro S v2 v3 k R hk h; cases h
  | succ fu ih =>
    intro S v2 v3 k R hk h
    unfold f118_L16 at h
    refine rn_eg qm 2 (s2 := ((if v3 ≤ 0 then 28 else 18), [(0, .ref b0), (2, .int v2), (3, .int v3)], [], N, sl, rn_hp S M)) rfl ?_
    refine rn_ite (fun c13 => ?_) (fun c13 => ?_)
    · rw [if_pos c13] at h
      refine rn_kq qm (s2 := (28, [(0, .ref b0), (2, .int v2)], [], N, sl, rn_hp S M)) rfl rfl ?_
      exact hk _ _ h
    · rw [if_neg c13] at h
      refine rn_eg qm 3 (s2 := (21, [(0, .ref b0), (2, .int v2), (3, .int v3)], [.int v3, .int v2, .ref b0], N, sl, rn_hp S M)) rfl ?_
      obtain ⟨p14, hp14, h⟩ := Option.bind_eq_some_iff.mp h
      refine rn_ec qm rfl rfl rfl rfl rn_m121 rfl rfl rfl (fun h => by cases h) (E121 hp14) ?_
      refine rn_eg qm 0 (s2 := (22, [(0, .ref b0), (2, .int v2), (3, .int v3)], [.int p14.1], N, sl, rn_hp p14.2 M)) rfl ?_
      refine rn_eg qm 6 (s2 := (16, [(3, .int (v3 >>> ((1 : Int32) &&& 31))), (2, .int p14.1), (0, .ref b0)], [], N, sl, rn_hp p14.2 M)) rfl ?_
      refine rn_kq qm (s2 := (16, [(0, .ref b0), (2, .int p14.1), (3, .int (v3 >>> ((1 : Int32) &&& 31)))], [], N, sl, rn_hp p14.2 M)) rfl rfl ?_
      exact ih _ _ _ k R hk h
def f118 (S : rn_T) (a0 : Nat) (a1 : Int32) : Option (rn_T) :=
  Option.bind (f120 S a0) fun p1 =>
    if rn_kd a0 = 3 then
      if a1 = 0 then
        Option.bind (f121 (wI S a0 6 p1) a0 (0 : Int32) (0 : Int32)) fun p4 =>
          f118_J28 p4.2 a0 p4.1
      else
        f118_L16 a0 rn_FU (wI S a0 6 p1) (0 : Int32) (4 : Int32) (fun S15 w15_2 =>
          f118_J28 S15 a0 w15_2)
    else none
set_option maxHeartbeats 4000000 in
theorem E118 {X : rn_X} {N sl : Nat} {S M : rn_T} {a0 : Nat} {a1 : Int32} {R : (rn_T)} (h : f118 S a0 a1 = some R) : rn_rv X 118 (0, [(0, .ref a0), (1, .int a1)], [], N, sl, rn_hp S M) (none, N, sl, rn_hp R M) := by
  have qm := rn_m118
  unfold f118 at h
  refine rn_eg qm 2 (s2 := (2, [(0, .ref a0), (1, .int a1)], [.ref a0, .ref a0], N, sl, rn_hp S M)) rfl ?_
  obtain ⟨p1, hp1, h⟩ := Option.bind_eq_some_iff.mp h
  refine rn_ec qm rfl rfl rfl rfl rn_m120 rfl rfl rfl (fun h => by cases h) (E120 hp1) ?_
  refine rn_eg qm 0 (s2 := (3, [(0, .ref a0), (1, .int a1)], [.int p1, .ref a0], N, sl, rn_hp S M)) rfl ?_
  have k2 : rn_kd a0 = 3 := Decidable.byContradiction fun c => by rw [if_neg c] at h; cases h
  rw [if_pos k2] at h
  refine rn_e1 qm (s2 := (4, [(0, .ref a0), (1, .int a1)], [], N, sl, rn_hp (wI S a0 6 p1) M)) (rn_g_putf rfl rfl (en_3 k2) rfl rfl rfl (wf_3_6 (v := p1) k2)) ?_
  refine rn_eg qm 4 (s2 := ((if a1 = 0 then 8 else 14), [(2, .int (0 : Int32)), (0, .ref a0), (1, .int a1)], [], N, sl, rn_hp (wI S a0 6 p1) M)) rfl ?_
  refine rn_ite (fun c3 => ?_) (fun c3 => ?_)
  · rw [if_pos c3] at h
    refine rn_eg qm 3 (s2 := (11, [(2, .int (0 : Int32)), (0, .ref a0), (1, .int a1)], [.int (0 : Int32), .int (0 : Int32), .ref a0], N, sl, rn_hp (wI S a0 6 p1) M)) rfl ?_
    obtain ⟨p4, hp4, h⟩ := Option.bind_eq_some_iff.mp h
    refine rn_ec qm rfl rfl rfl rfl rn_m121 rfl rfl rfl (fun h => by cases h) (E121 hp4) ?_
    refine rn_eg qm 0 (s2 := (12, [(2, .int (0 : Int32)), (0, .ref a0), (1, .int a1)], [.int p4.1], N, sl, rn_hp p4.2 M)) rfl ?_
    refine rn_eg qm 2 (s2 := (28, [(2, .int p4.1), (0, .ref a0), (1, .int a1)], [], N, sl, rn_hp p4.2 M)) rfl ?_
    refine rn_kq qm (s2 := (28, [(0, .ref a0), (2, .int p4.1)], [], N, sl, rn_hp p4.2 M)) rfl rfl ?_
    exact E118_J28 k2 h
  · rw [if_neg c3] at h
    refine rn_eg qm 2 (s2 := (16, [(3, .int (4 : Int32)), (2, .int (0 : Int32)), (0, .ref a0), (1, .int a1)], [], N, sl, rn_hp (wI S a0 6 p1) M)) rfl ?_
    refine rn_kq qm (s2 := (16, [(0, .ref a0), (2, .int (0 : Int32)), (3, .int (4 : Int32))], [], N, sl, rn_hp (wI S a0 6 p1) M)) rfl rfl ?_
    refine E118_L16 k2 rn_FU _ _ _ _ R ?_ h
    intro S15 w15_2 h
    refine rn_kq qm (s2 := (28, [(0, .ref a0), (2, .int w15_2)], [], N, sl, rn_hp S15 M)) rfl rfl ?_
    exact E118_J28 k2 h
/-! 123: RecordNiches$Lay.alone(LRecordNiches$Node;LRecordNiches$Node;)V -/
def f123 (S : rn_T) (a0 : Nat) (a1 : Nat) : Option (rn_T) :=
  if rn_kd a0 = 3 then
    if rn_kd a1 = 3 then
      Option.bind (f130 (wI (wI (wI S a0 12 (0 : Int32)) a1 7 (0 : Int32)) a0 5 (rI (wI (wI S a0 12 (0 : Int32)) a1 7 (0 : Int32)) a1 5)) a0 (rI (wI (wI (wI S a0 12 (0 : Int32)) a1 7 (0 : Int32)) a0 5 (rI (wI (wI S a0 12 (0 : Int32)) a1 7 (0 : Int32)) a1 5)) a1 8) (rI (wI (wI (wI S a0 12 (0 : Int32)) a1 7 (0 : Int32)) a0 5 (rI (wI (wI S a0 12 (0 : Int32)) a1 7 (0 : Int32)) a1 5)) a1 9) (rI (wI (wI (wI S a0 12 (0 : Int32)) a1 7 (0 : Int32)) a0 5 (rI (wI (wI S a0 12 (0 : Int32)) a1 7 (0 : Int32)) a1 5)) a1 10) (rI (wI (wI (wI S a0 12 (0 : Int32)) a1 7 (0 : Int32)) a0 5 (rI (wI (wI S a0 12 (0 : Int32)) a1 7 (0 : Int32)) a1 5)) a1 11)) fun p3 =>
        some (p3)
    else none
  else none
set_option maxHeartbeats 4000000 in
theorem E123 {X : rn_X} {N sl : Nat} {S M : rn_T} {a0 : Nat} {a1 : Nat} {R : (rn_T)} (h : f123 S a0 a1 = some R) : rn_rv X 123 (0, [(0, .ref a0), (1, .ref a1)], [], N, sl, rn_hp S M) (none, N, sl, rn_hp R M) := by
  have qm := rn_m123
  unfold f123 at h
  refine rn_eg qm 2 (s2 := (2, [(0, .ref a0), (1, .ref a1)], [.int (0 : Int32), .ref a0], N, sl, rn_hp S M)) rfl ?_
  have k1 : rn_kd a0 = 3 := Decidable.byContradiction fun c => by rw [if_neg c] at h; cases h
  rw [if_pos k1] at h
  refine rn_e1 qm (s2 := (3, [(0, .ref a0), (1, .ref a1)], [], N, sl, rn_hp (wI S a0 12 (0 : Int32)) M)) (rn_g_putf rfl rfl (en_3 k1) rfl rfl rfl (wf_3_12 (v := (0 : Int32)) k1)) ?_
  refine rn_eg qm 2 (s2 := (5, [(0, .ref a0), (1, .ref a1)], [.int (0 : Int32), .ref a1], N, sl, rn_hp (wI S a0 12 (0 : Int32)) M)) rfl ?_
  have k2 : rn_kd a1 = 3 := Decidable.byContradiction fun c => by rw [if_neg c] at h; cases h
  rw [if_pos k2] at h
  refine rn_e1 qm (s2 := (6, [(0, .ref a0), (1, .ref a1)], [], N, sl, rn_hp (wI (wI S a0 12 (0 : Int32)) a1 7 (0 : Int32)) M)) (rn_g_putf rfl rfl (en_3 k2) rfl rfl rfl (wf_3_7 (v := (0 : Int32)) k2)) ?_
  refine rn_eg qm 2 (s2 := (8, [(0, .ref a0), (1, .ref a1)], [.ref a1, .ref a0], N, sl, rn_hp (wI (wI S a0 12 (0 : Int32)) a1 7 (0 : Int32)) M)) rfl ?_
  refine rn_e1 qm (s2 := (9, [(0, .ref a0), (1, .ref a1)], [.int (rI (wI (wI S a0 12 (0 : Int32)) a1 7 (0 : Int32)) a1 5), .ref a0], N, sl, rn_hp (wI (wI S a0 12 (0 : Int32)) a1 7 (0 : Int32)) M)) (rn_g_getf rfl rfl (en_3 k2) rfl) ?_
  refine rn_e1 qm (s2 := (10, [(0, .ref a0), (1, .ref a1)], [], N, sl, rn_hp (wI (wI (wI S a0 12 (0 : Int32)) a1 7 (0 : Int32)) a0 5 (rI (wI (wI S a0 12 (0 : Int32)) a1 7 (0 : Int32)) a1 5)) M)) (rn_g_putf rfl rfl (en_3 k1) rfl rfl rfl (wf_3_5 (v := (rI (wI (wI S a0 12 (0 : Int32)) a1 7 (0 : Int32)) a1 5)) k1)) ?_
  refine rn_eg qm 2 (s2 := (12, [(0, .ref a0), (1, .ref a1)], [.ref a1, .ref a0], N, sl, rn_hp (wI (wI (wI S a0 12 (0 : Int32)) a1 7 (0 : Int32)) a0 5 (rI (wI (wI S a0 12 (0 : Int32)) a1 7 (0 : Int32)) a1 5)) M)) rfl ?_
  refine rn_e1 qm (s2 := (13, [(0, .ref a0), (1, .ref a1)], [.int (rI (wI (wI (wI S a0 12 (0 : Int32)) a1 7 (0 : Int32)) a0 5 (rI (wI (wI S a0 12 (0 : Int32)) a1 7 (0 : Int32)) a1 5)) a1 8), .ref a0], N, sl, rn_hp (wI (wI (wI S a0 12 (0 : Int32)) a1 7 (0 : Int32)) a0 5 (rI (wI (wI S a0 12 (0 : Int32)) a1 7 (0 : Int32)) a1 5)) M)) (rn_g_getf rfl rfl (en_3 k2) rfl) ?_
  refine rn_eg qm 1 (s2 := (14, [(0, .ref a0), (1, .ref a1)], [.ref a1, .int (rI (wI (wI (wI S a0 12 (0 : Int32)) a1 7 (0 : Int32)) a0 5 (rI (wI (wI S a0 12 (0 : Int32)) a1 7 (0 : Int32)) a1 5)) a1 8), .ref a0], N, sl, rn_hp (wI (wI (wI S a0 12 (0 : Int32)) a1 7 (0 : Int32)) a0 5 (rI (wI (wI S a0 12 (0 : Int32)) a1 7 (0 : Int32)) a1 5)) M)) rfl ?_
  refine rn_e1 qm (s2 := (15, [(0, .ref a0), (1, .ref a1)], [.int (rI (wI (wI (wI S a0 12 (0 : Int32)) a1 7 (0 : Int32)) a0 5 (rI (wI (wI S a0 12 (0 : Int32)) a1 7 (0 : Int32)) a1 5)) a1 9), .int (rI (wI (wI (wI S a0 12 (0 : Int32)) a1 7 (0 : Int32)) a0 5 (rI (wI (wI S a0 12 (0 : Int32)) a1 7 (0 : Int32)) a1 5)) a1 8), .ref a0], N, sl, rn_hp (wI (wI (wI S a0 12 (0 : Int32)) a1 7 (0 : Int32)) a0 5 (rI (wI (wI S a0 12 (0 : Int32)) a1 7 (0 : Int32)) a1 5)) M)) (rn_g_getf rfl rfl (en_3 k2) rfl) ?_
  refine rn_eg qm 1 (s2 := (16, [(0, .ref a0), (1, .ref a1)], [.ref a1, .int (rI (wI (wI (wI S a0 12 (0 : Int32)) a1 7 (0 : Int32)) a0 5 (rI (wI (wI S a0 12 (0 : Int32)) a1 7 (0 : Int32)) a1 5)) a1 9), .int (rI (wI (wI (wI S a0 12 (0 : Int32)) a1 7 (0 : Int32)) a0 5 (rI (wI (wI S a0 12 (0 : Int32)) a1 7 (0 : Int32)) a1 5)) a1 8), .ref a0], N, sl, rn_hp (wI (wI (wI S a0 12 (0 : Int32)) a1 7 (0 : Int32)) a0 5 (rI (wI (wI S a0 12 (0 : Int32)) a1 7 (0 : Int32)) a1 5)) M)) rfl ?_
  refine rn_e1 qm (s2 := (17, [(0, .ref a0), (1, .ref a1)], [.int (rI (wI (wI (wI S a0 12 (0 : Int32)) a1 7 (0 : Int32)) a0 5 (rI (wI (wI S a0 12 (0 : Int32)) a1 7 (0 : Int32)) a1 5)) a1 10), .int (rI (wI (wI (wI S a0 12 (0 : Int32)) a1 7 (0 : Int32)) a0 5 (rI (wI (wI S a0 12 (0 : Int32)) a1 7 (0 : Int32)) a1 5)) a1 9), .int (rI (wI (wI (wI S a0 12 (0 : Int32)) a1 7 (0 : Int32)) a0 5 (rI (wI (wI S a0 12 (0 : Int32)) a1 7 (0 : Int32)) a1 5)) a1 8), .ref a0], N, sl, rn_hp (wI (wI (wI S a0 12 (0 : Int32)) a1 7 (0 : Int32)) a0 5 (rI (wI (wI S a0 12 (0 : Int32)) a1 7 (0 : Int32)) a1 5)) M)) (rn_g_getf rfl rfl (en_3 k2) rfl) ?_
  refine rn_eg qm 1 (s2 := (18, [(0, .ref a0), (1, .ref a1)], [.ref a1, .int (rI (wI (wI (wI S a0 12 (0 : Int32)) a1 7 (0 : Int32)) a0 5 (rI (wI (wI S a0 12 (0 : Int32)) a1 7 (0 : Int32)) a1 5)) a1 10), .int (rI (wI (wI (wI S a0 12 (0 : Int32)) a1 7 (0 : Int32)) a0 5 (rI (wI (wI S a0 12 (0 : Int32)) a1 7 (0 : Int32)) a1 5)) a1 9), .int (rI (wI (wI (wI S a0 12 (0 : Int32)) a1 7 (0 : Int32)) a0 5 (rI (wI (wI S a0 12 (0 : Int32)) a1 7 (0 : Int32)) a1 5)) a1 8), .ref a0], N, sl, rn_hp (wI (wI (wI S a0 12 (0 : Int32)) a1 7 (0 : Int32)) a0 5 (rI (wI (wI S a0 12 (0 : Int32)) a1 7 (0 : Int32)) a1 5)) M)) rfl ?_
  refine rn_e1 qm (s2 := (19, [(0, .ref a0), (1, .ref a1)], [.int (rI (wI (wI (wI S a0 12 (0 : Int32)) a1 7 (0 : Int32)) a0 5 (rI (wI (wI S a0 12 (0 : Int32)) a1 7 (0 : Int32)) a1 5)) a1 11), .int (rI (wI (wI (wI S a0 12 (0 : Int32)) a1 7 (0 : Int32)) a0 5 (rI (wI (wI S a0 12 (0 : Int32)) a1 7 (0 : Int32)) a1 5)) a1 10), .int (rI (wI (wI (wI S a0 12 (0 : Int32)) a1 7 (0 : Int32)) a0 5 (rI (wI (wI S a0 12 (0 : Int32)) a1 7 (0 : Int32)) a1 5)) a1 9), .int (rI (wI (wI (wI S a0 12 (0 : Int32)) a1 7 (0 : Int32)) a0 5 (rI (wI (wI S a0 12 (0 : Int32)) a1 7 (0 : Int32)) a1 5)) a1 8), .ref a0], N, sl, rn_hp (wI (wI (wI S a0 12 (0 : Int32)) a1 7 (0 : Int32)) a0 5 (rI (wI (wI S a0 12 (0 : Int32)) a1 7 (0 : Int32)) a1 5)) M)) (rn_g_getf rfl rfl (en_3 k2) rfl) ?_
  obtain ⟨p3, hp3, h⟩ := Option.bind_eq_some_iff.mp h
  refine rn_ec qm rfl rfl rfl rfl rn_m130 rfl rfl rfl (fun _ => rn_rc_of (en_3 k1)) (E130 hp3) ?_
  refine rn_eg qm 0 (s2 := (20, [(0, .ref a0), (1, .ref a1)], [], N, sl, rn_hp p3 M)) rfl ?_
  cases h
  exact rn_er qm rfl rfl rfl
/-! 124: RecordNiches$Lay.findsRoom(LRecordNiches$Node;I)Z -/
def f124_L19 (b0 : Nat) (b1 : Int32) (b2 : Nat) : Nat → rn_T → Int32 → (rn_T → Option (Bool × rn_T)) → Option (Bool × rn_T)
  | 0, _, _, _ => none
  | fu + 1, S, v3, k =>
    if (rI S b0 1) ≤ v3 then
      k S
    else
      if rn_ob v3 6 then none else
        rn_om (rP S (b0 + 1) (Int32.toNatClampNeg v3))
          (none)
          fun r10 =>
            if v3 = b1 then
              if rn_kd r10 = 3 then
                f124_L19 b0 b1 b2 fu (wI S r10 7 (0 : Int32)) (v3 + (1 : Int32)) k
              else none
            else
              if rn_kd r10 = 3 then
                if (rI S b2 8) < (rI S r10 5) then
                  if ((rI (wI S r10 7 (f26 ((rI S b2 8) + (rI S b2 9)) (rI S r10 6))) r10 7) + (rI (wI S r10 7 (f26 ((rI S b2 8) + (rI S b2 9)) (rI S r10 6))) r10 5)) ≤ (rI (wI S r10 7 (f26 ((rI S b2 8) + (rI S b2 9)) (rI S r10 6))) b2 5) then
                    f124_L19 b0 b1 b2 fu (wI S r10 7 (f26 ((rI S b2 8) + (rI S b2 9)) (rI S r10 6))) (v3 + (1 : Int32)) k
                  else
                    some (false, wI S r10 7 (f26 ((rI S b2 8) + (rI S b2 9)) (rI S r10 6)))
                else
                  f124_L19 b0 b1 b2 fu (wI S r10 7 (0 : Int32)) (v3 + (1 : Int32)) k
              else none
set_option maxHeartbeats 4000000 in
theorem E124_L19 {X : rn_X} {N sl : Nat} {M : rn_T} {b0 : Nat} {b1 : Int32} {b2 : Nat} (hb0 : rn_kd b0 = 3) (hb2 : rn_kd b2 = 3) : ∀ (fu : Nat) (S : rn_T) (v3 : Int32) (k : (rn_T → Option (Bool × rn_T))) (R : (Bool × rn_T)), (∀ (S : rn_T), k S = some R → rn_rv X 124 (62, [], [], N, sl, rn_hp S M) (some (.int (rn_bi R.1)), N, sl, rn_hp R.2 M)) → f124_L19 b0 b1 b2 fu S v3 k = some R → rn_rv X 124 (19, [(0, .ref b0), (1, .int b1), (2, .ref b2), (3, .int v3)], [], N, sl, rn_hp S M) (some (.int (rn_bi R.1)), N, sl, rn_hp R.2 M) := by
  have qm := rn_m124
  intro fu
  induction fu with
  | zero => intro S v3 k R hk h; cases h
  | succ fu ih =>
    intro S v3 k R hk h
    unfold f124_L19 at h
    refine rn_eg qm 2 (s2 := (21, [(0, .ref b0), (1, .int b1), (2, .ref b2), (3, .int v3)], [.ref b0, .int v3], N, sl, rn_hp S M)) rfl ?_
    refine rn_e1 qm (s2 := (22, [(0, .ref b0), (1, .int b1), (2, .ref b2), (3, .int v3)], [.int (rI S b0 1), .int v3], N, sl, rn_hp S M)) (rn_g_getf rfl rfl (en_3 hb0) rfl) ?_
    refine rn_eg qm 1 (s2 := ((if (rI S b0 1) ≤ v3 then 62 else 23), [(0, .ref b0), (1, .int b1), (2, .ref b2), (3, .int v3)], [], N, sl, rn_hp S M)) rfl ?_
    refine rn_ite (fun c8 => ?_) (fun c8 => ?_)
    · rw [if_pos c8] at h
      refine rn_kq qm (s2 := (62, [], [], N, sl, rn_hp S M)) rfl rfl ?_
      exact hk _ h
    · rw [if_neg c8] at h
      refine rn_eg qm 1 (s2 := (24, [(0, .ref b0), (1, .int b1), (2, .ref b2), (3, .int v3)], [.ref b0], N, sl, rn_hp S M)) rfl ?_
      refine rn_e1 qm (s2 := (25, [(0, .ref b0), (1, .int b1), (2, .ref b2), (3, .int v3)], [.ref (b0 + 1)], N, sl, rn_hp S M)) (rn_g_getf rfl rfl (en_3 hb0) rfl) ?_
      refine rn_eg qm 1 (s2 := (26, [(0, .ref b0), (1, .int b1), (2, .ref b2), (3, .int v3)], [.int v3, .ref (b0 + 1)], N, sl, rn_hp S M)) rfl ?_
      have c9 : ¬ (rn_ob v3 6) := fun c => by rw [if_pos c] at h; cases h
      rw [if_neg c9] at h
      cases o11 : rP S (b0 + 1) (Int32.toNatClampNeg v3) with
      | none =>
        rw [rn_om_n o11] at h
        refine rn_e1 qm (s2 := (27, [(0, .ref b0), (1, .int b1), (2, .ref b2), (3, .int v3)], [.null], N, sl, rn_hp S M)) (rn_g_aald (n := 6) (r := none) rfl rfl (ar_x14 (ko_3_0 hb0).1 (ko_3_0 hb0).2.1 (ko_3_0 hb0).2.2) c9 o11) ?_
        cases h
      | some r10 =>
        rw [rn_om_s o11] at h
        refine rn_e1 qm (s2 := (27, [(0, .ref b0), (1, .int b1), (2, .ref b2), (3, .int v3)], [.ref r10], N, sl, rn_hp S M)) (rn_g_aald (n := 6) (r := some r10) rfl rfl (ar_x14 (ko_3_0 hb0).1 (ko_3_0 hb0).2.1 (ko_3_0 hb0).2.2) c9 o11) ?_
        refine rn_eg qm 4 (s2 := ((if v3 = b1 then 36 else 31), [(4, .ref r10), (0, .ref b0), (1, .int b1), (2, .ref b2), (3, .int v3)], [], N, sl, rn_hp S M)) rfl ?_
        refine rn_ite (fun c12 => ?_) (fun c12 => ?_)
        · rw [if_pos c12] at h
          refine rn_eg qm 2 (s2 := (38, [(0, .ref b0), (1, .int b1), (2, .ref b2), (3, .int v3), (4, .ref r10)], [.int (0 : Int32), .ref r10], N, sl, rn_hp S M)) rfl ?_
          have k13 : rn_kd r10 = 3 := Decidable.byContradiction fun c => by rw [if_neg c] at h; cases h
          rw [if_pos k13] at h
          refine rn_e1 qm (s2 := (39, [(0, .ref b0), (1, .int b1), (2, .ref b2), (3, .int v3), (4, .ref r10)], [], N, sl, rn_hp (wI S r10 7 (0 : Int32)) M)) (rn_g_putf rfl rfl (en_3 k13) rfl rfl rfl (wf_3_7 (v := (0 : Int32)) k13)) ?_
          refine rn_eg qm 3 (s2 := (19, [(3, .int (v3 + (1 : Int32))), (0, .ref b0), (1, .int b1), (2, .ref b2)], [], N, sl, rn_hp (wI S r10 7 (0 : Int32)) M)) rfl ?_
          refine rn_kq qm (s2 := (19, [(0, .ref b0), (1, .int b1), (2, .ref b2), (3, .int (v3 + (1 : Int32)))], [], N, sl, rn_hp (wI S r10 7 (0 : Int32)) M)) rfl rfl ?_
          exact ih _ _ k R hk h
        · rw [if_neg c12] at h
          refine rn_eg qm 1 (s2 := (32, [(4, .ref r10), (0, .ref b0), (1, .int b1), (2, .ref b2), (3, .int v3)], [.ref r10], N, sl, rn_hp S M)) rfl ?_
          have k14 : rn_kd r10 = 3 := Decidable.byContradiction fun c => by rw [if_neg c] at h; cases h
          rw [if_pos k14] at h
          refine rn_e1 qm (s2 := (33, [(4, .ref r10), (0, .ref b0), (1, .int b1), (2, .ref b2), (3, .int v3)], [.int (rI S r10 5)], N, sl, rn_hp S M)) (rn_g_getf rfl rfl (en_3 k14) rfl) ?_
          refine rn_eg qm 1 (s2 := (34, [(4, .ref r10), (0, .ref b0), (1, .int b1), (2, .ref b2), (3, .int v3)], [.ref b2, .int (rI S r10 5)], N, sl, rn_hp S M)) rfl ?_
          refine rn_e1 qm (s2 := (35, [(4, .ref r10), (0, .ref b0), (1, .int b1), (2, .ref b2), (3, .int v3)], [.int (rI S b2 8), .int (rI S r10 5)], N, sl, rn_hp S M)) (rn_g_getf rfl rfl (en_3 hb2) rfl) ?_
          refine rn_eg qm 1 (s2 := ((if (rI S b2 8) < (rI S r10 5) then 40 else 36), [(4, .ref r10), (0, .ref b0), (1, .int b1), (2, .ref b2), (3, .int v3)], [], N, sl, rn_hp S M)) rfl ?_
          refine rn_ite (fun c15 => ?_) (fun c15 => ?_)
          · rw [if_pos c15] at h
            refine rn_eg qm 2 (s2 := (42, [(4, .ref r10), (0, .ref b0), (1, .int b1), (2, .ref b2), (3, .int v3)], [.ref b2, .ref r10], N, sl, rn_hp S M)) rfl ?_
            refine rn_e1 qm (s2 := (43, [(4, .ref r10), (0, .ref b0), (1, .int b1), (2, .ref b2), (3, .int v3)], [.int (rI S b2 8), .ref r10], N, sl, rn_hp S M)) (rn_g_getf rfl rfl (en_3 hb2) rfl) ?_
            refine rn_eg qm 1 (s2 := (44, [(4, .ref r10), (0, .ref b0), (1, .int b1), (2, .ref b2), (3, .int v3)], [.ref b2, .int (rI S b2 8), .ref r10], N, sl, rn_hp S M)) rfl ?_
            refine rn_e1 qm (s2 := (45, [(4, .ref r10), (0, .ref b0), (1, .int b1), (2, .ref b2), (3, .int v3)], [.int (rI S b2 9), .int (rI S b2 8), .ref r10], N, sl, rn_hp S M)) (rn_g_getf rfl rfl (en_3 hb2) rfl) ?_
            refine rn_eg qm 2 (s2 := (47, [(4, .ref r10), (0, .ref b0), (1, .int b1), (2, .ref b2), (3, .int v3)], [.ref r10, .int ((rI S b2 8) + (rI S b2 9)), .ref r10], N, sl, rn_hp S M)) rfl ?_
            refine rn_e1 qm (s2 := (48, [(4, .ref r10), (0, .ref b0), (1, .int b1), (2, .ref b2), (3, .int v3)], [.int (rI S r10 6), .int ((rI S b2 8) + (rI S b2 9)), .ref r10], N, sl, rn_hp S M)) (rn_g_getf rfl rfl (en_3 k14) rfl) ?_
            refine rn_ec qm rfl rfl rfl rfl rn_m26 rfl rfl rfl (fun h => by cases h) (E26 rfl) ?_
            refine rn_eg qm 0 (s2 := (49, [(4, .ref r10), (0, .ref b0), (1, .int b1), (2, .ref b2), (3, .int v3)], [.int (f26 ((rI S b2 8) + (rI S b2 9)) (rI S r10 6)), .ref r10], N, sl, rn_hp S M)) rfl ?_
            refine rn_e1 qm (s2 := (50, [(4, .ref r10), (0, .ref b0), (1, .int b1), (2, .ref b2), (3, .int v3)], [], N, sl, rn_hp (wI S r10 7 (f26 ((rI S b2 8) + (rI S b2 9)) (rI S r10 6))) M)) (rn_g_putf rfl rfl (en_3 k14) rfl rfl rfl (wf_3_7 (v := (f26 ((rI S b2 8) + (rI S b2 9)) (rI S r10 6))) k14)) ?_
            refine rn_eg qm 1 (s2 := (51, [(4, .ref r10), (0, .ref b0), (1, .int b1), (2, .ref b2), (3, .int v3)], [.ref r10], N, sl, rn_hp (wI S r10 7 (f26 ((rI S b2 8) + (rI S b2 9)) (rI S r10 6))) M)) rfl ?_
            refine rn_e1 qm (s2 := (52, [(4, .ref r10), (0, .ref b0), (1, .int b1), (2, .ref b2), (3, .int v3)], [.int (rI (wI S r10 7 (f26 ((rI S b2 8) + (rI S b2 9)) (rI S r10 6))) r10 7)], N, sl, rn_hp (wI S r10 7 (f26 ((rI S b2 8) + (rI S b2 9)) (rI S r10 6))) M)) (rn_g_getf rfl rfl (en_3 k14) rfl) ?_
            refine rn_eg qm 1 (s2 := (53, [(4, .ref r10), (0, .ref b0), (1, .int b1), (2, .ref b2), (3, .int v3)], [.ref r10, .int (rI (wI S r10 7 (f26 ((rI S b2 8) + (rI S b2 9)) (rI S r10 6))) r10 7)], N, sl, rn_hp (wI S r10 7 (f26 ((rI S b2 8) + (rI S b2 9)) (rI S r10 6))) M)) rfl ?_
            refine rn_e1 qm (s2 := (54, [(4, .ref r10), (0, .ref b0), (1, .int b1), (2, .ref b2), (3, .int v3)], [.int (rI (wI S r10 7 (f26 ((rI S b2 8) + (rI S b2 9)) (rI S r10 6))) r10 5), .int (rI (wI S r10 7 (f26 ((rI S b2 8) + (rI S b2 9)) (rI S r10 6))) r10 7)], N, sl, rn_hp (wI S r10 7 (f26 ((rI S b2 8) + (rI S b2 9)) (rI S r10 6))) M)) (rn_g_getf rfl rfl (en_3 k14) rfl) ?_
            refine rn_eg qm 2 (s2 := (56, [(4, .ref r10), (0, .ref b0), (1, .int b1), (2, .ref b2), (3, .int v3)], [.ref b2, .int ((rI (wI S r10 7 (f26 ((rI S b2 8) + (rI S b2 9)) (rI S r10 6))) r10 7) + (rI (wI S r10 7 (f26 ((rI S b2 8) + (rI S b2 9)) (rI S r10 6))) r10 5))], N, sl, rn_hp (wI S r10 7 (f26 ((rI S b2 8) + (rI S b2 9)) (rI S r10 6))) M)) rfl ?_
            refine rn_e1 qm (s2 := (57, [(4, .ref r10), (0, .ref b0), (1, .int b1), (2, .ref b2), (3, .int v3)], [.int (rI (wI S r10 7 (f26 ((rI S b2 8) + (rI S b2 9)) (rI S r10 6))) b2 5), .int ((rI (wI S r10 7 (f26 ((rI S b2 8) + (rI S b2 9)) (rI S r10 6))) r10 7) + (rI (wI S r10 7 (f26 ((rI S b2 8) + (rI S b2 9)) (rI S r10 6))) r10 5))], N, sl, rn_hp (wI S r10 7 (f26 ((rI S b2 8) + (rI S b2 9)) (rI S r10 6))) M)) (rn_g_getf rfl rfl (en_3 hb2) rfl) ?_
            refine rn_eg qm 1 (s2 := ((if ((rI (wI S r10 7 (f26 ((rI S b2 8) + (rI S b2 9)) (rI S r10 6))) r10 7) + (rI (wI S r10 7 (f26 ((rI S b2 8) + (rI S b2 9)) (rI S r10 6))) r10 5)) ≤ (rI (wI S r10 7 (f26 ((rI S b2 8) + (rI S b2 9)) (rI S r10 6))) b2 5) then 60 else 58), [(4, .ref r10), (0, .ref b0), (1, .int b1), (2, .ref b2), (3, .int v3)], [], N, sl, rn_hp (wI S r10 7 (f26 ((rI S b2 8) + (rI S b2 9)) (rI S r10 6))) M)) rfl ?_
            refine rn_ite (fun c17 => ?_) (fun c17 => ?_)
            · rw [if_pos c17] at h
              refine rn_eg qm 2 (s2 := (19, [(3, .int (v3 + (1 : Int32))), (0, .ref b0), (1, .int b1), (2, .ref b2)], [], N, sl, rn_hp (wI S r10 7 (f26 ((rI S b2 8) + (rI S b2 9)) (rI S r10 6))) M)) rfl ?_
              refine rn_kq qm (s2 := (19, [(0, .ref b0), (1, .int b1), (2, .ref b2), (3, .int (v3 + (1 : Int32)))], [], N, sl, rn_hp (wI S r10 7 (f26 ((rI S b2 8) + (rI S b2 9)) (rI S r10 6))) M)) rfl rfl ?_
              exact ih _ _ k R hk h
            · rw [if_neg c17] at h
              refine rn_eg qm 1 (s2 := (59, [(4, .ref r10), (0, .ref b0), (1, .int b1), (2, .ref b2), (3, .int v3)], [.int (0 : Int32)], N, sl, rn_hp (wI S r10 7 (f26 ((rI S b2 8) + (rI S b2 9)) (rI S r10 6))) M)) rfl ?_
              cases h
              exact rn_er qm rfl rfl rn_rt0
          · rw [if_neg c15] at h
            refine rn_eg qm 2 (s2 := (38, [(0, .ref b0), (1, .int b1), (2, .ref b2), (3, .int v3), (4, .ref r10)], [.int (0 : Int32), .ref r10], N, sl, rn_hp S M)) rfl ?_
            refine rn_e1 qm (s2 := (39, [(0, .ref b0), (1, .int b1), (2, .ref b2), (3, .int v3), (4, .ref r10)], [], N, sl, rn_hp (wI S r10 7 (0 : Int32)) M)) (rn_g_putf rfl rfl (en_3 k14) rfl rfl rfl (wf_3_7 (v := (0 : Int32)) k14)) ?_
            refine rn_eg qm 3 (s2 := (19, [(3, .int (v3 + (1 : Int32))), (0, .ref b0), (1, .int b1), (2, .ref b2)], [], N, sl, rn_hp (wI S r10 7 (0 : Int32)) M)) rfl ?_
            refine rn_kq qm (s2 := (19, [(0, .ref b0), (1, .int b1), (2, .ref b2), (3, .int (v3 + (1 : Int32)))], [], N, sl, rn_hp (wI S r10 7 (0 : Int32)) M)) rfl rfl ?_
            exact ih _ _ k R hk h
def f124 (S : rn_T) (a0 : Nat) (a1 : Int32) : Option (Bool × rn_T) :=
  if rn_kd a0 = 3 then
    if rn_ob a1 6 then none else
      rn_om (rP S (a0 + 1) (Int32.toNatClampNeg a1))
        (none)
        fun r3 =>
          if rn_kd r3 = 3 then
            if (rI S r3 11) = 0 then
              some (false, S)
            else
              if ((rI S a0 1) - (1 : Int32)) ≤ (rI S r3 11) then
                f124_L19 a0 a1 r3 rn_FU S (0 : Int32) (fun S18 =>
                  some (true, S18))
              else
                some (false, S)
          else none
  else none
set_option maxHeartbeats 4000000 in
theorem E124 {X : rn_X} {N sl : Nat} {S M : rn_T} {a0 : Nat} {a1 : Int32} {R : (Bool × rn_T)} (h : f124 S a0 a1 = some R) : rn_rv X 124 (0, [(0, .ref a0), (1, .int a1)], [], N, sl, rn_hp S M) (some (.int (rn_bi R.1)), N, sl, rn_hp R.2 M) := by
  have qm := rn_m124
  unfold f124 at h
  refine rn_eg qm 1 (s2 := (1, [(0, .ref a0), (1, .int a1)], [.ref a0], N, sl, rn_hp S M)) rfl ?_
  have k1 : rn_kd a0 = 3 := Decidable.byContradiction fun c => by rw [if_neg c] at h; cases h
  rw [if_pos k1] at h
  refine rn_e1 qm (s2 := (2, [(0, .ref a0), (1, .int a1)], [.ref (a0 + 1)], N, sl, rn_hp S M)) (rn_g_getf rfl rfl (en_3 k1) rfl) ?_
  refine rn_eg qm 1 (s2 := (3, [(0, .ref a0), (1, .int a1)], [.int a1, .ref (a0 + 1)], N, sl, rn_hp S M)) rfl ?_
  have c2 : ¬ (rn_ob a1 6) := fun c => by rw [if_pos c] at h; cases h
  rw [if_neg c2] at h
  cases o4 : rP S (a0 + 1) (Int32.toNatClampNeg a1) with
  | none =>
    rw [rn_om_n o4] at h
    refine rn_e1 qm (s2 := (4, [(0, .ref a0), (1, .int a1)], [.null], N, sl, rn_hp S M)) (rn_g_aald (n := 6) (r := none) rfl rfl (ar_x14 (ko_3_0 k1).1 (ko_3_0 k1).2.1 (ko_3_0 k1).2.2) c2 o4) ?_
    cases h
  | some r3 =>
    rw [rn_om_s o4] at h
    refine rn_e1 qm (s2 := (4, [(0, .ref a0), (1, .int a1)], [.ref r3], N, sl, rn_hp S M)) (rn_g_aald (n := 6) (r := some r3) rfl rfl (ar_x14 (ko_3_0 k1).1 (ko_3_0 k1).2.1 (ko_3_0 k1).2.2) c2 o4) ?_
    refine rn_eg qm 2 (s2 := (6, [(2, .ref r3), (0, .ref a0), (1, .int a1)], [.ref r3], N, sl, rn_hp S M)) rfl ?_
    have k5 : rn_kd r3 = 3 := Decidable.byContradiction fun c => by rw [if_neg c] at h; cases h
    rw [if_pos k5] at h
    refine rn_e1 qm (s2 := (7, [(2, .ref r3), (0, .ref a0), (1, .int a1)], [.int (rI S r3 11)], N, sl, rn_hp S M)) (rn_g_getf rfl rfl (en_3 k5) rfl) ?_
    refine rn_eg qm 1 (s2 := ((if (rI S r3 11) = 0 then 15 else 8), [(2, .ref r3), (0, .ref a0), (1, .int a1)], [], N, sl, rn_hp S M)) rfl ?_
    refine rn_ite (fun c6 => ?_) (fun c6 => ?_)
    · rw [if_pos c6] at h
      refine rn_eg qm 1 (s2 := (16, [], [.int (0 : Int32)], N, sl, rn_hp S M)) rfl ?_
      cases h
      exact rn_er qm rfl rfl rn_rt0
    · rw [if_neg c6] at h
      refine rn_eg qm 1 (s2 := (9, [(2, .ref r3), (0, .ref a0), (1, .int a1)], [.ref r3], N, sl, rn_hp S M)) rfl ?_
      refine rn_e1 qm (s2 := (10, [(2, .ref r3), (0, .ref a0), (1, .int a1)], [.int (rI S r3 11)], N, sl, rn_hp S M)) (rn_g_getf rfl rfl (en_3 k5) rfl) ?_
      refine rn_eg qm 1 (s2 := (11, [(2, .ref r3), (0, .ref a0), (1, .int a1)], [.ref a0, .int (rI S r3 11)], N, sl, rn_hp S M)) rfl ?_
      refine rn_e1 qm (s2 := (12, [(2, .ref r3), (0, .ref a0), (1, .int a1)], [.int (rI S a0 1), .int (rI S r3 11)], N, sl, rn_hp S M)) (rn_g_getf rfl rfl (en_3 k1) rfl) ?_
      refine rn_eg qm 3 (s2 := ((if ((rI S a0 1) - (1 : Int32)) ≤ (rI S r3 11) then 17 else 15), [(2, .ref r3), (0, .ref a0), (1, .int a1)], [], N, sl, rn_hp S M)) rfl ?_
      refine rn_ite (fun c7 => ?_) (fun c7 => ?_)
      · rw [if_pos c7] at h
        refine rn_eg qm 2 (s2 := (19, [(3, .int (0 : Int32)), (2, .ref r3), (0, .ref a0), (1, .int a1)], [], N, sl, rn_hp S M)) rfl ?_
        refine rn_kq qm (s2 := (19, [(0, .ref a0), (1, .int a1), (2, .ref r3), (3, .int (0 : Int32))], [], N, sl, rn_hp S M)) rfl rfl ?_
        refine E124_L19 k1 k5 rn_FU _ _ _ R ?_ h
        intro S18 h
        refine rn_eg qm 1 (s2 := (63, [], [.int (1 : Int32)], N, sl, rn_hp S18 M)) rfl ?_
        cases h
        exact rn_er qm rfl rfl rn_rt1
      · rw [if_neg c7] at h
        refine rn_eg qm 1 (s2 := (16, [], [.int (0 : Int32)], N, sl, rn_hp S M)) rfl ?_
        cases h
        exact rn_er qm rfl rfl rn_rt0
/-! 125: RecordNiches$Lay.hide(LRecordNiches$Node;I)V -/
def f125_L23 (b0 : Nat) (b1 : Int32) (b2 : Nat) : Nat → rn_T → Int32 → Int32 → (rn_T → Int32 → Option (rn_T)) → Option (rn_T)
  | 0, _, _, _, _ => none
  | fu + 1, S, v3, v4, k =>
    if (rI S b0 1) ≤ v4 then
      k S v3
    else
      if v4 = b1 then
        f125_L23 b0 b1 b2 fu S v3 (v4 + (1 : Int32)) k
      else
        if rn_ob v4 6 then none else
          rn_om (rP S (b0 + 1) (Int32.toNatClampNeg v4))
            (none)
            fun r10 =>
              if rn_kd r10 = 3 then
                f125_L23 b0 b1 b2 fu (wI S r10 14 v3) (v3 + (1 : Int32)) (v4 + (1 : Int32)) k
              else none
set_option maxHeartbeats 4000000 in
theorem E125_L23 {X : rn_X} {N sl : Nat} {M : rn_T} {b0 : Nat} {b1 : Int32} {b2 : Nat} (hb0 : rn_kd b0 = 3) (hb2 : rn_kd b2 = 3) : ∀ (fu : Nat) (S : rn_T) (v3 : Int32) (v4 : Int32) (k : (rn_T → Int32 → Option (rn_T))) (R : (rn_T)), (∀ (S : rn_T) (w_3 : Int32), k S w_3 = some R → rn_rv X 125 (40, [(0, .ref b0), (2, .ref b2), (3, .int w_3)], [], N, sl, rn_hp S M) (none, N, sl, rn_hp R M)) → f125_L23 b0 b1 b2 fu S v3 v4 k = some R → rn_rv X 125 (23, [(0, .ref b0), (1, .int b1), (2, .ref b2), (3, .int v3), (4, .int v4)], [], N, sl, rn_hp S M) (none, N, sl, rn_hp R M) := by
  have qm := rn_m125
  intro fu
  induction fu with
  | zero => intro S v3 v4 k R hk h; cases h
  | succ fu ih =>
    intro S v3 v4 k R hk h
    unfold f125_L23 at h
    refine rn_eg qm 2 (s2 := (25, [(0, .ref b0), (1, .int b1), (2, .ref b2), (3, .int v3), (4, .int v4)], [.ref b0, .int v4], N, sl, rn_hp S M)) rfl ?_
    refine rn_e1 qm (s2 := (26, [(0, .ref b0), (1, .int b1), (2, .ref b2), (3, .int v3), (4, .int v4)], [.int (rI S b0 1), .int v4], N, sl, rn_hp S M)) (rn_g_getf rfl rfl (en_3 hb0) rfl) ?_
    refine rn_eg qm 1 (s2 := ((if (rI S b0 1) ≤ v4 then 40 else 27), [(0, .ref b0), (1, .int b1), (2, .ref b2), (3, .int v3), (4, .int v4)], [], N, sl, rn_hp S M)) rfl ?_
    refine rn_ite (fun c7 => ?_) (fun c7 => ?_)
    · rw [if_pos c7] at h
      refine rn_kq qm (s2 := (40, [(0, .ref b0), (2, .ref b2), (3, .int v3)], [], N, sl, rn_hp S M)) rfl rfl ?_
      exact hk _ _ h
    · rw [if_neg c7] at h
      refine rn_eg qm 3 (s2 := ((if v4 = b1 then 30 else 31), [(0, .ref b0), (1, .int b1), (2, .ref b2), (3, .int v3), (4, .int v4)], [], N, sl, rn_hp S M)) rfl ?_
      refine rn_ite (fun c8 => ?_) (fun c8 => ?_)
      · rw [if_pos c8] at h
        refine rn_eg qm 3 (s2 := (23, [(4, .int (v4 + (1 : Int32))), (0, .ref b0), (1, .int b1), (2, .ref b2), (3, .int v3)], [], N, sl, rn_hp S M)) rfl ?_
        refine rn_kq qm (s2 := (23, [(0, .ref b0), (1, .int b1), (2, .ref b2), (3, .int v3), (4, .int (v4 + (1 : Int32)))], [], N, sl, rn_hp S M)) rfl rfl ?_
        exact ih _ _ _ k R hk h
      · rw [if_neg c8] at h
        refine rn_eg qm 1 (s2 := (32, [(0, .ref b0), (1, .int b1), (2, .ref b2), (3, .int v3), (4, .int v4)], [.ref b0], N, sl, rn_hp S M)) rfl ?_
        refine rn_e1 qm (s2 := (33, [(0, .ref b0), (1, .int b1), (2, .ref b2), (3, .int v3), (4, .int v4)], [.ref (b0 + 1)], N, sl, rn_hp S M)) (rn_g_getf rfl rfl (en_3 hb0) rfl) ?_
        refine rn_eg qm 1 (s2 := (34, [(0, .ref b0), (1, .int b1), (2, .ref b2), (3, .int v3), (4, .int v4)], [.int v4, .ref (b0 + 1)], N, sl, rn_hp S M)) rfl ?_
        have c9 : ¬ (rn_ob v4 6) := fun c => by rw [if_pos c] at h; cases h
        rw [if_neg c9] at h
        cases o11 : rP S (b0 + 1) (Int32.toNatClampNeg v4) with
        | none =>
          rw [rn_om_n o11] at h
          refine rn_e1 qm (s2 := (35, [(0, .ref b0), (1, .int b1), (2, .ref b2), (3, .int v3), (4, .int v4)], [.null], N, sl, rn_hp S M)) (rn_g_aald (n := 6) (r := none) rfl rfl (ar_x14 (ko_3_0 hb0).1 (ko_3_0 hb0).2.1 (ko_3_0 hb0).2.2) c9 o11) ?_
          refine rn_eg qm 1 (s2 := (36, [(0, .ref b0), (1, .int b1), (2, .ref b2), (3, .int v3), (4, .int v4)], [.int v3, .null], N, sl, rn_hp S M)) rfl ?_
          cases h
        | some r10 =>
          rw [rn_om_s o11] at h
          refine rn_e1 qm (s2 := (35, [(0, .ref b0), (1, .int b1), (2, .ref b2), (3, .int v3), (4, .int v4)], [.ref r10], N, sl, rn_hp S M)) (rn_g_aald (n := 6) (r := some r10) rfl rfl (ar_x14 (ko_3_0 hb0).1 (ko_3_0 hb0).2.1 (ko_3_0 hb0).2.2) c9 o11) ?_
          refine rn_eg qm 1 (s2 := (36, [(0, .ref b0), (1, .int b1), (2, .ref b2), (3, .int v3), (4, .int v4)], [.int v3, .ref r10], N, sl, rn_hp S M)) rfl ?_
          have k12 : rn_kd r10 = 3 := Decidable.byContradiction fun c => by rw [if_neg c] at h; cases h
          rw [if_pos k12] at h
          refine rn_e1 qm (s2 := (37, [(0, .ref b0), (1, .int b1), (2, .ref b2), (3, .int v3), (4, .int v4)], [], N, sl, rn_hp (wI S r10 14 v3) M)) (rn_g_putf rfl rfl (en_3 k12) rfl rfl rfl (wf_3_14 (v := v3) k12)) ?_
          refine rn_eg qm 3 (s2 := (23, [(4, .int (v4 + (1 : Int32))), (0, .ref b0), (1, .int b1), (2, .ref b2), (3, .int (v3 + (1 : Int32)))], [], N, sl, rn_hp (wI S r10 14 v3) M)) rfl ?_
          refine rn_kq qm (s2 := (23, [(0, .ref b0), (1, .int b1), (2, .ref b2), (3, .int (v3 + (1 : Int32))), (4, .int (v4 + (1 : Int32)))], [], N, sl, rn_hp (wI S r10 14 v3) M)) rfl rfl ?_
          exact ih _ _ _ k R hk h
def f125 (S : rn_T) (a0 : Nat) (a1 : Int32) : Option (rn_T) :=
  if rn_kd a0 = 3 then
    if rn_ob a1 6 then none else
      rn_om (rP S (a0 + 1) (Int32.toNatClampNeg a1))
        (none)
        fun r3 =>
          if rn_kd r3 = 3 then
            f125_L23 a0 a1 r3 rn_FU (wI (wI (wI S a0 12 (1 : Int32)) a0 13 a1) a0 5 (f26 (rI (wI (wI S a0 12 (1 : Int32)) a0 13 a1) r3 5) (rI (wI (wI S a0 12 (1 : Int32)) a0 13 a1) a0 6))) (rI (wI (wI (wI S a0 12 (1 : Int32)) a0 13 a1) a0 5 (f26 (rI (wI (wI S a0 12 (1 : Int32)) a0 13 a1) r3 5) (rI (wI (wI S a0 12 (1 : Int32)) a0 13 a1) a0 6))) r3 10) (0 : Int32) (fun S13 w13_3 =>
              Option.bind (f130 S13 a0 (rI S13 r3 8) (rI S13 r3 9) w13_3 ((rI S13 r3 11) - ((rI S13 a0 1) - (1 : Int32)))) fun p14 =>
                some (p14))
          else none
  else none
set_option maxHeartbeats 4000000 in
theorem E125 {X : rn_X} {N sl : Nat} {S M : rn_T} {a0 : Nat} {a1 : Int32} {R : (rn_T)} (h : f125 S a0 a1 = some R) : rn_rv X 125 (0, [(0, .ref a0), (1, .int a1)], [], N, sl, rn_hp S M) (none, N, sl, rn_hp R M) := by
  have qm := rn_m125
  unfold f125 at h
  refine rn_eg qm 1 (s2 := (1, [(0, .ref a0), (1, .int a1)], [.ref a0], N, sl, rn_hp S M)) rfl ?_
  have k1 : rn_kd a0 = 3 := Decidable.byContradiction fun c => by rw [if_neg c] at h; cases h
  rw [if_pos k1] at h
  refine rn_e1 qm (s2 := (2, [(0, .ref a0), (1, .int a1)], [.ref (a0 + 1)], N, sl, rn_hp S M)) (rn_g_getf rfl rfl (en_3 k1) rfl) ?_
  refine rn_eg qm 1 (s2 := (3, [(0, .ref a0), (1, .int a1)], [.int a1, .ref (a0 + 1)], N, sl, rn_hp S M)) rfl ?_
  have c2 : ¬ (rn_ob a1 6) := fun c => by rw [if_pos c] at h; cases h
  rw [if_neg c2] at h
  cases o4 : rP S (a0 + 1) (Int32.toNatClampNeg a1) with
  | none =>
    rw [rn_om_n o4] at h
    refine rn_e1 qm (s2 := (4, [(0, .ref a0), (1, .int a1)], [.null], N, sl, rn_hp S M)) (rn_g_aald (n := 6) (r := none) rfl rfl (ar_x14 (ko_3_0 k1).1 (ko_3_0 k1).2.1 (ko_3_0 k1).2.2) c2 o4) ?_
    cases h
  | some r3 =>
    rw [rn_om_s o4] at h
    refine rn_e1 qm (s2 := (4, [(0, .ref a0), (1, .int a1)], [.ref r3], N, sl, rn_hp S M)) (rn_g_aald (n := 6) (r := some r3) rfl rfl (ar_x14 (ko_3_0 k1).1 (ko_3_0 k1).2.1 (ko_3_0 k1).2.2) c2 o4) ?_
    refine rn_eg qm 3 (s2 := (7, [(2, .ref r3), (0, .ref a0), (1, .int a1)], [.int (1 : Int32), .ref a0], N, sl, rn_hp S M)) rfl ?_
    refine rn_e1 qm (s2 := (8, [(2, .ref r3), (0, .ref a0), (1, .int a1)], [], N, sl, rn_hp (wI S a0 12 (1 : Int32)) M)) (rn_g_putf rfl rfl (en_3 k1) rfl rfl rfl (wf_3_12 (v := (1 : Int32)) k1)) ?_
    refine rn_eg qm 2 (s2 := (10, [(2, .ref r3), (0, .ref a0), (1, .int a1)], [.int a1, .ref a0], N, sl, rn_hp (wI S a0 12 (1 : Int32)) M)) rfl ?_
    refine rn_e1 qm (s2 := (11, [(2, .ref r3), (0, .ref a0), (1, .int a1)], [], N, sl, rn_hp (wI (wI S a0 12 (1 : Int32)) a0 13 a1) M)) (rn_g_putf rfl rfl (en_3 k1) rfl rfl rfl (wf_3_13 (v := a1) k1)) ?_
    refine rn_eg qm 2 (s2 := (13, [(2, .ref r3), (0, .ref a0), (1, .int a1)], [.ref r3, .ref a0], N, sl, rn_hp (wI (wI S a0 12 (1 : Int32)) a0 13 a1) M)) rfl ?_
    have k5 : rn_kd r3 = 3 := Decidable.byContradiction fun c => by rw [if_neg c] at h; cases h
    rw [if_pos k5] at h
    refine rn_e1 qm (s2 := (14, [(2, .ref r3), (0, .ref a0), (1, .int a1)], [.int (rI (wI (wI S a0 12 (1 : Int32)) a0 13 a1) r3 5), .ref a0], N, sl, rn_hp (wI (wI S a0 12 (1 : Int32)) a0 13 a1) M)) (rn_g_getf rfl rfl (en_3 k5) rfl) ?_
    refine rn_eg qm 1 (s2 := (15, [(2, .ref r3), (0, .ref a0), (1, .int a1)], [.ref a0, .int (rI (wI (wI S a0 12 (1 : Int32)) a0 13 a1) r3 5), .ref a0], N, sl, rn_hp (wI (wI S a0 12 (1 : Int32)) a0 13 a1) M)) rfl ?_
    refine rn_e1 qm (s2 := (16, [(2, .ref r3), (0, .ref a0), (1, .int a1)], [.int (rI (wI (wI S a0 12 (1 : Int32)) a0 13 a1) a0 6), .int (rI (wI (wI S a0 12 (1 : Int32)) a0 13 a1) r3 5), .ref a0], N, sl, rn_hp (wI (wI S a0 12 (1 : Int32)) a0 13 a1) M)) (rn_g_getf rfl rfl (en_3 k1) rfl) ?_
    refine rn_ec qm rfl rfl rfl rfl rn_m26 rfl rfl rfl (fun h => by cases h) (E26 rfl) ?_
    refine rn_eg qm 0 (s2 := (17, [(2, .ref r3), (0, .ref a0), (1, .int a1)], [.int (f26 (rI (wI (wI S a0 12 (1 : Int32)) a0 13 a1) r3 5) (rI (wI (wI S a0 12 (1 : Int32)) a0 13 a1) a0 6)), .ref a0], N, sl, rn_hp (wI (wI S a0 12 (1 : Int32)) a0 13 a1) M)) rfl ?_
    refine rn_e1 qm (s2 := (18, [(2, .ref r3), (0, .ref a0), (1, .int a1)], [], N, sl, rn_hp (wI (wI (wI S a0 12 (1 : Int32)) a0 13 a1) a0 5 (f26 (rI (wI (wI S a0 12 (1 : Int32)) a0 13 a1) r3 5) (rI (wI (wI S a0 12 (1 : Int32)) a0 13 a1) a0 6))) M)) (rn_g_putf rfl rfl (en_3 k1) rfl rfl rfl (wf_3_5 (v := (f26 (rI (wI (wI S a0 12 (1 : Int32)) a0 13 a1) r3 5) (rI (wI (wI S a0 12 (1 : Int32)) a0 13 a1) a0 6))) k1)) ?_
    refine rn_eg qm 1 (s2 := (19, [(2, .ref r3), (0, .ref a0), (1, .int a1)], [.ref r3], N, sl, rn_hp (wI (wI (wI S a0 12 (1 : Int32)) a0 13 a1) a0 5 (f26 (rI (wI (wI S a0 12 (1 : Int32)) a0 13 a1) r3 5) (rI (wI (wI S a0 12 (1 : Int32)) a0 13 a1) a0 6))) M)) rfl ?_
    refine rn_e1 qm (s2 := (20, [(2, .ref r3), (0, .ref a0), (1, .int a1)], [.int (rI (wI (wI (wI S a0 12 (1 : Int32)) a0 13 a1) a0 5 (f26 (rI (wI (wI S a0 12 (1 : Int32)) a0 13 a1) r3 5) (rI (wI (wI S a0 12 (1 : Int32)) a0 13 a1) a0 6))) r3 10)], N, sl, rn_hp (wI (wI (wI S a0 12 (1 : Int32)) a0 13 a1) a0 5 (f26 (rI (wI (wI S a0 12 (1 : Int32)) a0 13 a1) r3 5) (rI (wI (wI S a0 12 (1 : Int32)) a0 13 a1) a0 6))) M)) (rn_g_getf rfl rfl (en_3 k5) rfl) ?_
    refine rn_eg qm 3 (s2 := (23, [(4, .int (0 : Int32)), (3, .int (rI (wI (wI (wI S a0 12 (1 : Int32)) a0 13 a1) a0 5 (f26 (rI (wI (wI S a0 12 (1 : Int32)) a0 13 a1) r3 5) (rI (wI (wI S a0 12 (1 : Int32)) a0 13 a1) a0 6))) r3 10)), (2, .ref r3), (0, .ref a0), (1, .int a1)], [], N, sl, rn_hp (wI (wI (wI S a0 12 (1 : Int32)) a0 13 a1) a0 5 (f26 (rI (wI (wI S a0 12 (1 : Int32)) a0 13 a1) r3 5) (rI (wI (wI S a0 12 (1 : Int32)) a0 13 a1) a0 6))) M)) rfl ?_
    refine rn_kq qm (s2 := (23, [(0, .ref a0), (1, .int a1), (2, .ref r3), (3, .int (rI (wI (wI (wI S a0 12 (1 : Int32)) a0 13 a1) a0 5 (f26 (rI (wI (wI S a0 12 (1 : Int32)) a0 13 a1) r3 5) (rI (wI (wI S a0 12 (1 : Int32)) a0 13 a1) a0 6))) r3 10)), (4, .int (0 : Int32))], [], N, sl, rn_hp (wI (wI (wI S a0 12 (1 : Int32)) a0 13 a1) a0 5 (f26 (rI (wI (wI S a0 12 (1 : Int32)) a0 13 a1) r3 5) (rI (wI (wI S a0 12 (1 : Int32)) a0 13 a1) a0 6))) M)) rfl rfl ?_
    refine E125_L23 k1 k5 rn_FU _ _ _ _ R ?_ h
    intro S13 w13_3 h
    refine rn_eg qm 2 (s2 := (42, [(0, .ref a0), (2, .ref r3), (3, .int w13_3)], [.ref r3, .ref a0], N, sl, rn_hp S13 M)) rfl ?_
    refine rn_e1 qm (s2 := (43, [(0, .ref a0), (2, .ref r3), (3, .int w13_3)], [.int (rI S13 r3 8), .ref a0], N, sl, rn_hp S13 M)) (rn_g_getf rfl rfl (en_3 k5) rfl) ?_
    refine rn_eg qm 1 (s2 := (44, [(0, .ref a0), (2, .ref r3), (3, .int w13_3)], [.ref r3, .int (rI S13 r3 8), .ref a0], N, sl, rn_hp S13 M)) rfl ?_
    refine rn_e1 qm (s2 := (45, [(0, .ref a0), (2, .ref r3), (3, .int w13_3)], [.int (rI S13 r3 9), .int (rI S13 r3 8), .ref a0], N, sl, rn_hp S13 M)) (rn_g_getf rfl rfl (en_3 k5) rfl) ?_
    refine rn_eg qm 2 (s2 := (47, [(0, .ref a0), (2, .ref r3), (3, .int w13_3)], [.ref r3, .int w13_3, .int (rI S13 r3 9), .int (rI S13 r3 8), .ref a0], N, sl, rn_hp S13 M)) rfl ?_
    refine rn_e1 qm (s2 := (48, [(0, .ref a0), (2, .ref r3), (3, .int w13_3)], [.int (rI S13 r3 11), .int w13_3, .int (rI S13 r3 9), .int (rI S13 r3 8), .ref a0], N, sl, rn_hp S13 M)) (rn_g_getf rfl rfl (en_3 k5) rfl) ?_
    refine rn_eg qm 1 (s2 := (49, [(0, .ref a0), (2, .ref r3), (3, .int w13_3)], [.ref a0, .int (rI S13 r3 11), .int w13_3, .int (rI S13 r3 9), .int (rI S13 r3 8), .ref a0], N, sl, rn_hp S13 M)) rfl ?_
    refine rn_e1 qm (s2 := (50, [(0, .ref a0), (2, .ref r3), (3, .int w13_3)], [.int (rI S13 a0 1), .int (rI S13 r3 11), .int w13_3, .int (rI S13 r3 9), .int (rI S13 r3 8), .ref a0], N, sl, rn_hp S13 M)) (rn_g_getf rfl rfl (en_3 k1) rfl) ?_
    refine rn_eg qm 3 (s2 := (53, [(0, .ref a0), (2, .ref r3), (3, .int w13_3)], [.int ((rI S13 r3 11) - ((rI S13 a0 1) - (1 : Int32))), .int w13_3, .int (rI S13 r3 9), .int (rI S13 r3 8), .ref a0], N, sl, rn_hp S13 M)) rfl ?_
    obtain ⟨p14, hp14, h⟩ := Option.bind_eq_some_iff.mp h
    refine rn_ec qm rfl rfl rfl rfl rn_m130 rfl rfl rfl (fun _ => rn_rc_of (en_3 k1)) (E130 hp14) ?_
    refine rn_eg qm 0 (s2 := (54, [(0, .ref a0), (2, .ref r3), (3, .int w13_3)], [], N, sl, rn_hp p14 M)) rfl ?_
    cases h
    exact rn_er qm rfl rfl rfl
/-! 126: RecordNiches$Lay.tag(LRecordNiches$Node;)V -/
def f126_L7 (b0 : Nat) : Nat → rn_T → Int32 → Int32 → (rn_T → Int32 → Option (rn_T)) → Option (rn_T)
  | 0, _, _, _, _ => none
  | fu + 1, S, v1, v2, k =>
    if (rI S b0 1) ≤ v2 then
      k S v1
    else
      if rn_ob v2 6 then none else
        rn_om (rP S (b0 + 1) (Int32.toNatClampNeg v2))
          (none)
          fun r4 =>
            if rn_kd r4 = 3 then
              f126_L7 b0 fu (wI (wI S r4 14 v2) r4 7 (f26 (1 : Int32) (rI (wI S r4 14 v2) r4 6))) (if v1 < ((rI (wI (wI S r4 14 v2) r4 7 (f26 (1 : Int32) (rI (wI S r4 14 v2) r4 6))) r4 7) + (rI (wI (wI S r4 14 v2) r4 7 (f26 (1 : Int32) (rI (wI S r4 14 v2) r4 6))) r4 5)) then ((rI (wI (wI S r4 14 v2) r4 7 (f26 (1 : Int32) (rI (wI S r4 14 v2) r4 6))) r4 7) + (rI (wI (wI S r4 14 v2) r4 7 (f26 (1 : Int32) (rI (wI S r4 14 v2) r4 6))) r4 5)) else v1) (v2 + (1 : Int32)) k
            else none
set_option maxHeartbeats 4000000 in
theorem E126_L7 {X : rn_X} {N sl : Nat} {M : rn_T} {b0 : Nat} (hb0 : rn_kd b0 = 3) : ∀ (fu : Nat) (S : rn_T) (v1 : Int32) (v2 : Int32) (k : (rn_T → Int32 → Option (rn_T))) (R : (rn_T)), (∀ (S : rn_T) (w_1 : Int32), k S w_1 = some R → rn_rv X 126 (35, [(0, .ref b0), (1, .int w_1)], [], N, sl, rn_hp S M) (none, N, sl, rn_hp R M)) → f126_L7 b0 fu S v1 v2 k = some R → rn_rv X 126 (7, [(0, .ref b0), (1, .int v1), (2, .int v2)], [], N, sl, rn_hp S M) (none, N, sl, rn_hp R M) := by
  have qm := rn_m126
  intro fu
  induction fu with
  | zero => intro S v1 v2 k R hk h; cases h
  | succ fu ih =>
    intro S v1 v2 k R hk h
    unfold f126_L7 at h
    refine rn_eg qm 2 (s2 := (9, [(0, .ref b0), (1, .int v1), (2, .int v2)], [.ref b0, .int v2], N, sl, rn_hp S M)) rfl ?_
    refine rn_e1 qm (s2 := (10, [(0, .ref b0), (1, .int v1), (2, .int v2)], [.int (rI S b0 1), .int v2], N, sl, rn_hp S M)) (rn_g_getf rfl rfl (en_3 hb0) rfl) ?_
    refine rn_eg qm 1 (s2 := ((if (rI S b0 1) ≤ v2 then 35 else 11), [(0, .ref b0), (1, .int v1), (2, .int v2)], [], N, sl, rn_hp S M)) rfl ?_
    refine rn_ite (fun c2 => ?_) (fun c2 => ?_)
    · rw [if_pos c2] at h
      refine rn_kq qm (s2 := (35, [(0, .ref b0), (1, .int v1)], [], N, sl, rn_hp S M)) rfl rfl ?_
      exact hk _ _ h
    · rw [if_neg c2] at h
      refine rn_eg qm 1 (s2 := (12, [(0, .ref b0), (1, .int v1), (2, .int v2)], [.ref b0], N, sl, rn_hp S M)) rfl ?_
      refine rn_e1 qm (s2 := (13, [(0, .ref b0), (1, .int v1), (2, .int v2)], [.ref (b0 + 1)], N, sl, rn_hp S M)) (rn_g_getf rfl rfl (en_3 hb0) rfl) ?_
      refine rn_eg qm 1 (s2 := (14, [(0, .ref b0), (1, .int v1), (2, .int v2)], [.int v2, .ref (b0 + 1)], N, sl, rn_hp S M)) rfl ?_
      have c3 : ¬ (rn_ob v2 6) := fun c => by rw [if_pos c] at h; cases h
      rw [if_neg c3] at h
      cases o5 : rP S (b0 + 1) (Int32.toNatClampNeg v2) with
      | none =>
        rw [rn_om_n o5] at h
        refine rn_e1 qm (s2 := (15, [(0, .ref b0), (1, .int v1), (2, .int v2)], [.null], N, sl, rn_hp S M)) (rn_g_aald (n := 6) (r := none) rfl rfl (ar_x14 (ko_3_0 hb0).1 (ko_3_0 hb0).2.1 (ko_3_0 hb0).2.2) c3 o5) ?_
        cases h
      | some r4 =>
        rw [rn_om_s o5] at h
        refine rn_e1 qm (s2 := (15, [(0, .ref b0), (1, .int v1), (2, .int v2)], [.ref r4], N, sl, rn_hp S M)) (rn_g_aald (n := 6) (r := some r4) rfl rfl (ar_x14 (ko_3_0 hb0).1 (ko_3_0 hb0).2.1 (ko_3_0 hb0).2.2) c3 o5) ?_
        refine rn_eg qm 3 (s2 := (18, [(3, .ref r4), (0, .ref b0), (1, .int v1), (2, .int v2)], [.int v2, .ref r4], N, sl, rn_hp S M)) rfl ?_
        have k6 : rn_kd r4 = 3 := Decidable.byContradiction fun c => by rw [if_neg c] at h; cases h
        rw [if_pos k6] at h
        refine rn_e1 qm (s2 := (19, [(3, .ref r4), (0, .ref b0), (1, .int v1), (2, .int v2)], [], N, sl, rn_hp (wI S r4 14 v2) M)) (rn_g_putf rfl rfl (en_3 k6) rfl rfl rfl (wf_3_14 (v := v2) k6)) ?_
        refine rn_eg qm 3 (s2 := (22, [(3, .ref r4), (0, .ref b0), (1, .int v1), (2, .int v2)], [.ref r4, .int (1 : Int32), .ref r4], N, sl, rn_hp (wI S r4 14 v2) M)) rfl ?_
        refine rn_e1 qm (s2 := (23, [(3, .ref r4), (0, .ref b0), (1, .int v1), (2, .int v2)], [.int (rI (wI S r4 14 v2) r4 6), .int (1 : Int32), .ref r4], N, sl, rn_hp (wI S r4 14 v2) M)) (rn_g_getf rfl rfl (en_3 k6) rfl) ?_
        refine rn_ec qm rfl rfl rfl rfl rn_m26 rfl rfl rfl (fun h => by cases h) (E26 rfl) ?_
        refine rn_eg qm 0 (s2 := (24, [(3, .ref r4), (0, .ref b0), (1, .int v1), (2, .int v2)], [.int (f26 (1 : Int32) (rI (wI S r4 14 v2) r4 6)), .ref r4], N, sl, rn_hp (wI S r4 14 v2) M)) rfl ?_
        refine rn_e1 qm (s2 := (25, [(3, .ref r4), (0, .ref b0), (1, .int v1), (2, .int v2)], [], N, sl, rn_hp (wI (wI S r4 14 v2) r4 7 (f26 (1 : Int32) (rI (wI S r4 14 v2) r4 6))) M)) (rn_g_putf rfl rfl (en_3 k6) rfl rfl rfl (wf_3_7 (v := (f26 (1 : Int32) (rI (wI S r4 14 v2) r4 6))) k6)) ?_
        refine rn_eg qm 2 (s2 := (27, [(3, .ref r4), (0, .ref b0), (1, .int v1), (2, .int v2)], [.ref r4, .int v1], N, sl, rn_hp (wI (wI S r4 14 v2) r4 7 (f26 (1 : Int32) (rI (wI S r4 14 v2) r4 6))) M)) rfl ?_
        refine rn_e1 qm (s2 := (28, [(3, .ref r4), (0, .ref b0), (1, .int v1), (2, .int v2)], [.int (rI (wI (wI S r4 14 v2) r4 7 (f26 (1 : Int32) (rI (wI S r4 14 v2) r4 6))) r4 7), .int v1], N, sl, rn_hp (wI (wI S r4 14 v2) r4 7 (f26 (1 : Int32) (rI (wI S r4 14 v2) r4 6))) M)) (rn_g_getf rfl rfl (en_3 k6) rfl) ?_
        refine rn_eg qm 1 (s2 := (29, [(3, .ref r4), (0, .ref b0), (1, .int v1), (2, .int v2)], [.ref r4, .int (rI (wI (wI S r4 14 v2) r4 7 (f26 (1 : Int32) (rI (wI S r4 14 v2) r4 6))) r4 7), .int v1], N, sl, rn_hp (wI (wI S r4 14 v2) r4 7 (f26 (1 : Int32) (rI (wI S r4 14 v2) r4 6))) M)) rfl ?_
        refine rn_e1 qm (s2 := (30, [(3, .ref r4), (0, .ref b0), (1, .int v1), (2, .int v2)], [.int (rI (wI (wI S r4 14 v2) r4 7 (f26 (1 : Int32) (rI (wI S r4 14 v2) r4 6))) r4 5), .int (rI (wI (wI S r4 14 v2) r4 7 (f26 (1 : Int32) (rI (wI S r4 14 v2) r4 6))) r4 7), .int v1], N, sl, rn_hp (wI (wI S r4 14 v2) r4 7 (f26 (1 : Int32) (rI (wI S r4 14 v2) r4 6))) M)) (rn_g_getf rfl rfl (en_3 k6) rfl) ?_
        refine rn_eg qm 5 (s2 := (7, [(2, .int (v2 + (1 : Int32))), (1, .int (if v1 < ((rI (wI (wI S r4 14 v2) r4 7 (f26 (1 : Int32) (rI (wI S r4 14 v2) r4 6))) r4 7) + (rI (wI (wI S r4 14 v2) r4 7 (f26 (1 : Int32) (rI (wI S r4 14 v2) r4 6))) r4 5)) then ((rI (wI (wI S r4 14 v2) r4 7 (f26 (1 : Int32) (rI (wI S r4 14 v2) r4 6))) r4 7) + (rI (wI (wI S r4 14 v2) r4 7 (f26 (1 : Int32) (rI (wI S r4 14 v2) r4 6))) r4 5)) else v1)), (3, .ref r4), (0, .ref b0)], [], N, sl, rn_hp (wI (wI S r4 14 v2) r4 7 (f26 (1 : Int32) (rI (wI S r4 14 v2) r4 6))) M)) rfl ?_
        refine rn_kq qm (s2 := (7, [(0, .ref b0), (1, .int (if v1 < ((rI (wI (wI S r4 14 v2) r4 7 (f26 (1 : Int32) (rI (wI S r4 14 v2) r4 6))) r4 7) + (rI (wI (wI S r4 14 v2) r4 7 (f26 (1 : Int32) (rI (wI S r4 14 v2) r4 6))) r4 5)) then ((rI (wI (wI S r4 14 v2) r4 7 (f26 (1 : Int32) (rI (wI S r4 14 v2) r4 6))) r4 7) + (rI (wI (wI S r4 14 v2) r4 7 (f26 (1 : Int32) (rI (wI S r4 14 v2) r4 6))) r4 5)) else v1)), (2, .int (v2 + (1 : Int32)))], [], N, sl, rn_hp (wI (wI S r4 14 v2) r4 7 (f26 (1 : Int32) (rI (wI S r4 14 v2) r4 6))) M)) rfl rfl ?_
        exact ih _ _ _ k R hk h
def f126 (S : rn_T) (a0 : Nat) : Option (rn_T) :=
  if rn_kd a0 = 3 then
    f126_L7 a0 rn_FU (wI S a0 12 (2 : Int32)) (1 : Int32) (0 : Int32) (fun S8 w8_1 =>
      Option.bind (f130 (wI S8 a0 5 (f26 w8_1 (rI S8 a0 6))) a0 (0 : Int32) (1 : Int32) (rI (wI S8 a0 5 (f26 w8_1 (rI S8 a0 6))) a0 1) ((256 : Int32) - (rI (wI S8 a0 5 (f26 w8_1 (rI S8 a0 6))) a0 1))) fun p10 =>
        some (p10))
  else none
set_option maxHeartbeats 4000000 in
theorem E126 {X : rn_X} {N sl : Nat} {S M : rn_T} {a0 : Nat} {R : (rn_T)} (h : f126 S a0 = some R) : rn_rv X 126 (0, [(0, .ref a0)], [], N, sl, rn_hp S M) (none, N, sl, rn_hp R M) := by
  have qm := rn_m126
  unfold f126 at h
  refine rn_eg qm 2 (s2 := (2, [(0, .ref a0)], [.int (2 : Int32), .ref a0], N, sl, rn_hp S M)) rfl ?_
  have k1 : rn_kd a0 = 3 := Decidable.byContradiction fun c => by rw [if_neg c] at h; cases h
  rw [if_pos k1] at h
  refine rn_e1 qm (s2 := (3, [(0, .ref a0)], [], N, sl, rn_hp (wI S a0 12 (2 : Int32)) M)) (rn_g_putf rfl rfl (en_3 k1) rfl rfl rfl (wf_3_12 (v := (2 : Int32)) k1)) ?_
  refine rn_eg qm 4 (s2 := (7, [(2, .int (0 : Int32)), (1, .int (1 : Int32)), (0, .ref a0)], [], N, sl, rn_hp (wI S a0 12 (2 : Int32)) M)) rfl ?_
  refine rn_kq qm (s2 := (7, [(0, .ref a0), (1, .int (1 : Int32)), (2, .int (0 : Int32))], [], N, sl, rn_hp (wI S a0 12 (2 : Int32)) M)) rfl rfl ?_
  refine E126_L7 k1 rn_FU _ _ _ _ R ?_ h
  intro S8 w8_1 h
  refine rn_eg qm 3 (s2 := (38, [(0, .ref a0), (1, .int w8_1)], [.ref a0, .int w8_1, .ref a0], N, sl, rn_hp S8 M)) rfl ?_
  refine rn_e1 qm (s2 := (39, [(0, .ref a0), (1, .int w8_1)], [.int (rI S8 a0 6), .int w8_1, .ref a0], N, sl, rn_hp S8 M)) (rn_g_getf rfl rfl (en_3 k1) rfl) ?_
  refine rn_ec qm rfl rfl rfl rfl rn_m26 rfl rfl rfl (fun h => by cases h) (E26 rfl) ?_
  refine rn_eg qm 0 (s2 := (40, [(0, .ref a0), (1, .int w8_1)], [.int (f26 w8_1 (rI S8 a0 6)), .ref a0], N, sl, rn_hp S8 M)) rfl ?_
  refine rn_e1 qm (s2 := (41, [(0, .ref a0), (1, .int w8_1)], [], N, sl, rn_hp (wI S8 a0 5 (f26 w8_1 (rI S8 a0 6))) M)) (rn_g_putf rfl rfl (en_3 k1) rfl rfl rfl (wf_3_5 (v := (f26 w8_1 (rI S8 a0 6))) k1)) ?_
  refine rn_eg qm 4 (s2 := (45, [(0, .ref a0), (1, .int w8_1)], [.ref a0, .int (1 : Int32), .int (0 : Int32), .ref a0], N, sl, rn_hp (wI S8 a0 5 (f26 w8_1 (rI S8 a0 6))) M)) rfl ?_
  refine rn_e1 qm (s2 := (46, [(0, .ref a0), (1, .int w8_1)], [.int (rI (wI S8 a0 5 (f26 w8_1 (rI S8 a0 6))) a0 1), .int (1 : Int32), .int (0 : Int32), .ref a0], N, sl, rn_hp (wI S8 a0 5 (f26 w8_1 (rI S8 a0 6))) M)) (rn_g_getf rfl rfl (en_3 k1) rfl) ?_
  refine rn_eg qm 2 (s2 := (48, [(0, .ref a0), (1, .int w8_1)], [.ref a0, .int (256 : Int32), .int (rI (wI S8 a0 5 (f26 w8_1 (rI S8 a0 6))) a0 1), .int (1 : Int32), .int (0 : Int32), .ref a0], N, sl, rn_hp (wI S8 a0 5 (f26 w8_1 (rI S8 a0 6))) M)) rfl ?_
  refine rn_e1 qm (s2 := (49, [(0, .ref a0), (1, .int w8_1)], [.int (rI (wI S8 a0 5 (f26 w8_1 (rI S8 a0 6))) a0 1), .int (256 : Int32), .int (rI (wI S8 a0 5 (f26 w8_1 (rI S8 a0 6))) a0 1), .int (1 : Int32), .int (0 : Int32), .ref a0], N, sl, rn_hp (wI S8 a0 5 (f26 w8_1 (rI S8 a0 6))) M)) (rn_g_getf rfl rfl (en_3 k1) rfl) ?_
  refine rn_eg qm 1 (s2 := (50, [(0, .ref a0), (1, .int w8_1)], [.int ((256 : Int32) - (rI (wI S8 a0 5 (f26 w8_1 (rI S8 a0 6))) a0 1)), .int (rI (wI S8 a0 5 (f26 w8_1 (rI S8 a0 6))) a0 1), .int (1 : Int32), .int (0 : Int32), .ref a0], N, sl, rn_hp (wI S8 a0 5 (f26 w8_1 (rI S8 a0 6))) M)) rfl ?_
  obtain ⟨p10, hp10, h⟩ := Option.bind_eq_some_iff.mp h
  refine rn_ec qm rfl rfl rfl rfl rn_m130 rfl rfl rfl (fun _ => rn_rc_of (en_3 k1)) (E130 hp10) ?_
  refine rn_eg qm 0 (s2 := (51, [(0, .ref a0), (1, .int w8_1)], [], N, sl, rn_hp p10 M)) rfl ?_
  cases h
  exact rn_er qm rfl rfl rfl
