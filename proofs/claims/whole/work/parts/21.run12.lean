/-! 165: RecordNichesLaw.law([I)Z -/
def f165_L10 (X : rn_X) : Nat → rn_T → rn_T → Int32 → (rn_T → rn_T → Option (Bool × rn_T × rn_T)) → Option (Bool × rn_T × rn_T)
  | 0, _, _, _, _ => none
  | fu + 1, S, M, v3, k =>
    if ((Int32.ofNat X.1) - (5 : Int32)) < v3 then
      k S M
    else
      if rn_ob v3 X.1 then none else
        if ((X.2 (Int32.toNatClampNeg v3)) &&& (31 : Int32)) = (0 : Int32) then
          if rn_ob (v3 + (1 : Int32)) X.1 then none else
            if rn_ob (v3 + (2 : Int32)) X.1 then none else
              Option.bind (f1 S (X.2 (Int32.toNatClampNeg (v3 + (1 : Int32)))) (X.2 (Int32.toNatClampNeg (v3 + (2 : Int32))))) fun p6 =>
                Option.bind (f34 M (X.2 (Int32.toNatClampNeg (v3 + (1 : Int32)))) (X.2 (Int32.toNatClampNeg (v3 + (2 : Int32))))) fun p7 =>
                  if p6.1 = p7.1 then
                    f165_L10 X fu p6.2 p7.2 (v3 + (5 : Int32)) k
                  else
                    some (false, (p6.2, p7.2))
        else
          if ((X.2 (Int32.toNatClampNeg v3)) &&& (31 : Int32)) = (1 : Int32) then
            if rn_ob (v3 + (1 : Int32)) X.1 then none else
              Option.bind (f2 S (X.2 (Int32.toNatClampNeg (v3 + (1 : Int32))))) fun p11 =>
                Option.bind (f35 M (X.2 (Int32.toNatClampNeg (v3 + (1 : Int32))))) fun p12 =>
                  if p11.1 = p12.1 then
                    f165_L10 X fu p11.2 p12.2 (v3 + (5 : Int32)) k
                  else
                    some (false, (p11.2, p12.2))
          else
            if ((X.2 (Int32.toNatClampNeg v3)) &&& (31 : Int32)) = (2 : Int32) then
              if rn_ob (v3 + (1 : Int32)) X.1 then none else
                Option.bind (f3 S (X.2 (Int32.toNatClampNeg (v3 + (1 : Int32))))) fun p16 =>
                  Option.bind (f44 M (X.2 (Int32.toNatClampNeg (v3 + (1 : Int32))))) fun p17 =>
                    if p16.1 = p17.1 then
                      f165_L10 X fu p16.2 p17.2 (v3 + (5 : Int32)) k
                    else
                      some (false, (p16.2, p17.2))
            else
              if ((X.2 (Int32.toNatClampNeg v3)) &&& (31 : Int32)) = (3 : Int32) then
                if rn_ob (v3 + (1 : Int32)) X.1 then none else
                  Option.bind (f4 S (X.2 (Int32.toNatClampNeg (v3 + (1 : Int32))))) fun p21 =>
                    Option.bind (f45 M (X.2 (Int32.toNatClampNeg (v3 + (1 : Int32))))) fun p22 =>
                      if p21.1 = p22.1 then
                        f165_L10 X fu p21.2 p22.2 (v3 + (5 : Int32)) k
                      else
                        some (false, (p21.2, p22.2))
              else
                if ((X.2 (Int32.toNatClampNeg v3)) &&& (31 : Int32)) = (4 : Int32) then
                  if rn_ob (v3 + (1 : Int32)) X.1 then none else
                    if rn_ob (v3 + (2 : Int32)) X.1 then none else
                      if rn_ob (v3 + (3 : Int32)) X.1 then none else
                        Option.bind (f5 S (X.2 (Int32.toNatClampNeg (v3 + (1 : Int32)))) (X.2 (Int32.toNatClampNeg (v3 + (2 : Int32)))) (X.2 (Int32.toNatClampNeg (v3 + (3 : Int32))))) fun p28 =>
                          Option.bind (f73 M (X.2 (Int32.toNatClampNeg (v3 + (1 : Int32)))) (X.2 (Int32.toNatClampNeg (v3 + (2 : Int32)))) (X.2 (Int32.toNatClampNeg (v3 + (3 : Int32))))) fun p29 =>
                            if p28.1 = p29.1 then
                              f165_L10 X fu p28.2 p29.2 (v3 + (5 : Int32)) k
                            else
                              some (false, (p28.2, p29.2))
                else
                  if ((X.2 (Int32.toNatClampNeg v3)) &&& (31 : Int32)) = (5 : Int32) then
                    if rn_ob (v3 + (1 : Int32)) X.1 then none else
                      if rn_ob (v3 + (2 : Int32)) X.1 then none else
                        if rn_ob (v3 + (3 : Int32)) X.1 then none else
                          if rn_ob (v3 + (4 : Int32)) X.1 then none else
                            Option.bind (f6 S (X.2 (Int32.toNatClampNeg (v3 + (1 : Int32)))) (X.2 (Int32.toNatClampNeg (v3 + (2 : Int32)))) (X.2 (Int32.toNatClampNeg (v3 + (3 : Int32)))) (X.2 (Int32.toNatClampNeg (v3 + (4 : Int32))))) fun p36 =>
                              Option.bind (f75 M (X.2 (Int32.toNatClampNeg (v3 + (1 : Int32)))) (X.2 (Int32.toNatClampNeg (v3 + (2 : Int32)))) (X.2 (Int32.toNatClampNeg (v3 + (3 : Int32)))) (X.2 (Int32.toNatClampNeg (v3 + (4 : Int32))))) fun p37 =>
                                if p36.1 = p37.1 then
                                  f165_L10 X fu p36.2 p37.2 (v3 + (5 : Int32)) k
                                else
                                  some (false, (p36.2, p37.2))
                  else
                    if ((X.2 (Int32.toNatClampNeg v3)) &&& (31 : Int32)) = (6 : Int32) then
                      if rn_ob (v3 + (1 : Int32)) X.1 then none else
                        if rn_ob (v3 + (2 : Int32)) X.1 then none else
                          if rn_ob (v3 + (3 : Int32)) X.1 then none else
                            Option.bind (f7 S (X.2 (Int32.toNatClampNeg (v3 + (1 : Int32)))) (X.2 (Int32.toNatClampNeg (v3 + (2 : Int32)))) (X.2 (Int32.toNatClampNeg (v3 + (3 : Int32))))) fun p43 =>
                              Option.bind (f76 M (X.2 (Int32.toNatClampNeg (v3 + (1 : Int32)))) (X.2 (Int32.toNatClampNeg (v3 + (2 : Int32)))) (X.2 (Int32.toNatClampNeg (v3 + (3 : Int32))))) fun p44 =>
                                if p43.1 = p44.1 then
                                  f165_L10 X fu p43.2 p44.2 (v3 + (5 : Int32)) k
                                else
                                  some (false, (p43.2, p44.2))
                    else
                      if ((X.2 (Int32.toNatClampNeg v3)) &&& (31 : Int32)) = (7 : Int32) then
                        if rn_ob (v3 + (1 : Int32)) X.1 then none else
                          if rn_ob (v3 + (2 : Int32)) X.1 then none else
                            if rn_ob (v3 + (3 : Int32)) X.1 then none else
                              Option.bind (f8 S (X.2 (Int32.toNatClampNeg (v3 + (1 : Int32)))) (X.2 (Int32.toNatClampNeg (v3 + (2 : Int32)))) (X.2 (Int32.toNatClampNeg (v3 + (3 : Int32))))) fun p50 =>
                                Option.bind (f78 M (X.2 (Int32.toNatClampNeg (v3 + (1 : Int32)))) (X.2 (Int32.toNatClampNeg (v3 + (2 : Int32)))) (X.2 (Int32.toNatClampNeg (v3 + (3 : Int32))))) fun p51 =>
                                  if p50.1 = p51.1 then
                                    f165_L10 X fu p50.2 p51.2 (v3 + (5 : Int32)) k
                                  else
                                    some (false, (p50.2, p51.2))
                      else
                        if ((X.2 (Int32.toNatClampNeg v3)) &&& (31 : Int32)) = (8 : Int32) then
                          if rn_ob (v3 + (1 : Int32)) X.1 then none else
                            if rn_ob (v3 + (2 : Int32)) X.1 then none else
                              Option.bind (f9 S (X.2 (Int32.toNatClampNeg (v3 + (1 : Int32)))) (X.2 (Int32.toNatClampNeg (v3 + (2 : Int32))))) fun p56 =>
                                Option.bind (f80 M (X.2 (Int32.toNatClampNeg (v3 + (1 : Int32)))) (X.2 (Int32.toNatClampNeg (v3 + (2 : Int32))))) fun p57 =>
                                  if p56.1 = p57.1 then
                                    f165_L10 X fu p56.2 p57.2 (v3 + (5 : Int32)) k
                                  else
                                    some (false, (p56.2, p57.2))
                        else
                          if ((X.2 (Int32.toNatClampNeg v3)) &&& (31 : Int32)) = (9 : Int32) then
                            if rn_ob (v3 + (1 : Int32)) X.1 then none else
                              if rn_ob (v3 + (2 : Int32)) X.1 then none else
                                Option.bind (f10 S (X.2 (Int32.toNatClampNeg (v3 + (1 : Int32)))) (X.2 (Int32.toNatClampNeg (v3 + (2 : Int32))))) fun p62 =>
                                  Option.bind (f83 M (X.2 (Int32.toNatClampNeg (v3 + (1 : Int32)))) (X.2 (Int32.toNatClampNeg (v3 + (2 : Int32))))) fun p63 =>
                                    if p62.1 = p63.1 then
                                      f165_L10 X fu p62.2 p63.2 (v3 + (5 : Int32)) k
                                    else
                                      some (false, (p62.2, p63.2))
                          else
                            if ((X.2 (Int32.toNatClampNeg v3)) &&& (31 : Int32)) = (10 : Int32) then
                              if rn_ob (v3 + (1 : Int32)) X.1 then none else
                                if rn_ob (v3 + (2 : Int32)) X.1 then none else
                                  Option.bind (f11 S (((Int32.toInt64 (X.2 (Int32.toNatClampNeg (v3 + (1 : Int32))))) <<< ((32 : Int32).toInt64 &&& 63)) ||| ((Int32.toInt64 (X.2 (Int32.toNatClampNeg (v3 + (2 : Int32))))) &&& (4294967295 : Int64)))) fun p68 =>
                                    Option.bind (f84 M (((Int32.toInt64 (X.2 (Int32.toNatClampNeg (v3 + (1 : Int32))))) <<< ((32 : Int32).toInt64 &&& 63)) ||| ((Int32.toInt64 (X.2 (Int32.toNatClampNeg (v3 + (2 : Int32))))) &&& (4294967295 : Int64)))) fun p69 =>
                                      if p68.1 = p69.1 then
                                        f165_L10 X fu p68.2 p69.2 (v3 + (5 : Int32)) k
                                      else
                                        some (false, (p68.2, p69.2))
                            else
                              if ((X.2 (Int32.toNatClampNeg v3)) &&& (31 : Int32)) = (11 : Int32) then
                                Option.bind (f12 S) fun p72 =>
                                  Option.bind (f85 M) fun p73 =>
                                    if p72.1 = p73.1 then
                                      f165_L10 X fu p72.2 p73.2 (v3 + (5 : Int32)) k
                                    else
                                      some (false, (p72.2, p73.2))
                              else
                                if ((X.2 (Int32.toNatClampNeg v3)) &&& (31 : Int32)) = (12 : Int32) then
                                  if rn_ob (v3 + (1 : Int32)) X.1 then none else
                                    Option.bind (f13 S (X.2 (Int32.toNatClampNeg (v3 + (1 : Int32))))) fun p77 =>
                                      Option.bind (f86 M (X.2 (Int32.toNatClampNeg (v3 + (1 : Int32))))) fun p78 =>
                                        if (lg_cmp p77 p78) = 0 then
                                          f165_L10 X fu S M (v3 + (5 : Int32)) k
                                        else
                                          some (false, (S, M))
                                else
                                  if ((X.2 (Int32.toNatClampNeg v3)) &&& (31 : Int32)) = (13 : Int32) then
                                    if rn_ob (v3 + (1 : Int32)) X.1 then none else
                                      if rn_ob (v3 + (2 : Int32)) X.1 then none else
                                        if rn_ob (v3 + (3 : Int32)) X.1 then none else
                                          Option.bind (f14 S (X.2 (Int32.toNatClampNeg (v3 + (1 : Int32)))) (X.2 (Int32.toNatClampNeg (v3 + (2 : Int32)))) (X.2 (Int32.toNatClampNeg (v3 + (3 : Int32))))) fun p84 =>
                                            Option.bind (f94 M (X.2 (Int32.toNatClampNeg (v3 + (1 : Int32)))) (X.2 (Int32.toNatClampNeg (v3 + (2 : Int32)))) (X.2 (Int32.toNatClampNeg (v3 + (3 : Int32))))) fun p85 =>
                                              if p84.1 = p85.1 then
                                                f165_L10 X fu p84.2 p85.2 (v3 + (5 : Int32)) k
                                              else
                                                some (false, (p84.2, p85.2))
                                  else
                                    if ((X.2 (Int32.toNatClampNeg v3)) &&& (31 : Int32)) = (14 : Int32) then
                                      if rn_ob (v3 + (1 : Int32)) X.1 then none else
                                        if rn_ob (v3 + (2 : Int32)) X.1 then none else
                                          if rn_ob (v3 + (3 : Int32)) X.1 then none else
                                            Option.bind (f15 S (X.2 (Int32.toNatClampNeg (v3 + (1 : Int32)))) (X.2 (Int32.toNatClampNeg (v3 + (2 : Int32)))) (X.2 (Int32.toNatClampNeg (v3 + (3 : Int32))))) fun p91 =>
                                              Option.bind (f99 M (X.2 (Int32.toNatClampNeg (v3 + (1 : Int32)))) (X.2 (Int32.toNatClampNeg (v3 + (2 : Int32)))) (X.2 (Int32.toNatClampNeg (v3 + (3 : Int32))))) fun p92 =>
                                                if p91.1 = p92.1 then
                                                  f165_L10 X fu p91.2 p92.2 (v3 + (5 : Int32)) k
                                                else
                                                  some (false, (p91.2, p92.2))
                                    else
                                      if ((X.2 (Int32.toNatClampNeg v3)) &&& (31 : Int32)) = (15 : Int32) then
                                        if rn_ob (v3 + (1 : Int32)) X.1 then none else
                                          if rn_ob (v3 + (2 : Int32)) X.1 then none else
                                            if rn_ob (v3 + (3 : Int32)) X.1 then none else
                                              Option.bind (f16 S (X.2 (Int32.toNatClampNeg (v3 + (1 : Int32)))) (X.2 (Int32.toNatClampNeg (v3 + (2 : Int32)))) (X.2 (Int32.toNatClampNeg (v3 + (3 : Int32))))) fun p98 =>
                                                Option.bind (f100 M (X.2 (Int32.toNatClampNeg (v3 + (1 : Int32)))) (X.2 (Int32.toNatClampNeg (v3 + (2 : Int32)))) (X.2 (Int32.toNatClampNeg (v3 + (3 : Int32))))) fun p99 =>
                                                  if p98.1 = p99.1 then
                                                    f165_L10 X fu p98.2 p99.2 (v3 + (5 : Int32)) k
                                                  else
                                                    some (false, (p98.2, p99.2))
                                      else
                                        if ((X.2 (Int32.toNatClampNeg v3)) &&& (31 : Int32)) = (16 : Int32) then
                                          if rn_ob (v3 + (1 : Int32)) X.1 then none else
                                            if rn_ob (v3 + (2 : Int32)) X.1 then none else
                                              Option.bind (f17 S (X.2 (Int32.toNatClampNeg (v3 + (1 : Int32)))) (X.2 (Int32.toNatClampNeg (v3 + (2 : Int32))))) fun p104 =>
                                                Option.bind (f101 M (X.2 (Int32.toNatClampNeg (v3 + (1 : Int32)))) (X.2 (Int32.toNatClampNeg (v3 + (2 : Int32))))) fun p105 =>
                                                  if p104.1 = p105.1 then
                                                    f165_L10 X fu p104.2 p105.2 (v3 + (5 : Int32)) k
                                                  else
                                                    some (false, (p104.2, p105.2))
                                        else
                                          if ((X.2 (Int32.toNatClampNeg v3)) &&& (31 : Int32)) = (17 : Int32) then
                                            if rn_ob (v3 + (1 : Int32)) X.1 then none else
                                              Option.bind (f18 S (X.2 (Int32.toNatClampNeg (v3 + (1 : Int32))))) fun p109 =>
                                                Option.bind (f102 M (X.2 (Int32.toNatClampNeg (v3 + (1 : Int32))))) fun p110 =>
                                                  if p109 = p110 then
                                                    f165_L10 X fu S M (v3 + (5 : Int32)) k
                                                  else
                                                    some (false, (S, M))
                                          else
                                            if ((X.2 (Int32.toNatClampNeg v3)) &&& (31 : Int32)) = (18 : Int32) then
                                              if rn_ob (v3 + (1 : Int32)) X.1 then none else
                                                Option.bind (f19 S (X.2 (Int32.toNatClampNeg (v3 + (1 : Int32))))) fun p114 =>
                                                  Option.bind (f106 M (X.2 (Int32.toNatClampNeg (v3 + (1 : Int32))))) fun p115 =>
                                                    if p114.1 = p115.1 then
                                                      f165_L10 X fu p114.2 p115.2 (v3 + (5 : Int32)) k
                                                    else
                                                      some (false, (p114.2, p115.2))
                                            else
                                              if ((X.2 (Int32.toNatClampNeg v3)) &&& (31 : Int32)) = (19 : Int32) then
                                                if rn_ob (v3 + (1 : Int32)) X.1 then none else
                                                  Option.bind (f20 S (X.2 (Int32.toNatClampNeg (v3 + (1 : Int32))))) fun p119 =>
                                                    Option.bind (f107 M (X.2 (Int32.toNatClampNeg (v3 + (1 : Int32))))) fun p120 =>
                                                      if p119.1 = p120.1 then
                                                        f165_L10 X fu p119.2 p120.2 (v3 + (5 : Int32)) k
                                                      else
                                                        some (false, (p119.2, p120.2))
                                              else
                                                if ((X.2 (Int32.toNatClampNeg v3)) &&& (31 : Int32)) = (20 : Int32) then
                                                  if rn_ob (v3 + (1 : Int32)) X.1 then none else
                                                    Option.bind (f21 S (X.2 (Int32.toNatClampNeg (v3 + (1 : Int32))))) fun p124 =>
                                                      Option.bind (f108 M (X.2 (Int32.toNatClampNeg (v3 + (1 : Int32))))) fun p125 =>
                                                        if p124 = p125 then
                                                          f165_L10 X fu S M (v3 + (5 : Int32)) k
                                                        else
                                                          some (false, (S, M))
                                                else
                                                  f165_L10 X fu S M (v3 + (5 : Int32)) k
set_option maxRecDepth 100000 in
set_option maxHeartbeats 4000000 in
theorem E165_L10 {X : rn_X} {N sl : Nat} : ∀ (fu : Nat) (S : rn_T) (M : rn_T) (v3 : Int32) (k : (rn_T → rn_T → Option (Bool × rn_T × rn_T))) (R : (Bool × rn_T × rn_T)), (∀ (S : rn_T) (M : rn_T), k S M = some R → rn_rv X 165 (586, [], [], N, sl, rn_hp S M) (some (.int (rn_bi R.1)), N, sl, rn_hp R.2.1 R.2.2)) → f165_L10 X fu S M v3 k = some R → rn_rv X 165 (10, [(0, .ref 1000000), (1, .ref 0), (2, .ref 318), (3, .int v3)], [], N, sl, rn_hp S M) (some (.int (rn_bi R.1)), N, sl, rn_hp R.2.1 R.2.2) := by
  have qm := rn_m165
  intro fu
  induction fu with
  | zero => intro S M v3 k R hk h; cases h
  | succ fu ih =>
    intro S M v3 k R hk h
    unfold f165_L10 at h
    refine rn_eg qm 6 (s2 := ((if ((Int32.ofNat X.1) - (5 : Int32)) < v3 then 586 else 16), [(0, .ref 1000000), (1, .ref 0), (2, .ref 318), (3, .int v3)], [], N, sl, rn_hp S M)) rfl ?_
    refine rn_ite (fun c1 => ?_) (fun c1 => ?_)
    · rw [if_pos c1] at h
      refine rn_kq qm (s2 := (586, [], [], N, sl, rn_hp S M)) rfl rfl ?_
      exact hk _ _ h
    · rw [if_neg c1] at h
      refine rn_eg qm 2 (s2 := (18, [(0, .ref 1000000), (1, .ref 0), (2, .ref 318), (3, .int v3)], [.int v3, .ref 1000000], N, sl, rn_hp S M)) rfl ?_
      have c2 : ¬ (rn_ob v3 X.1) := fun c => by rw [if_pos c] at h; cases h
      rw [if_neg c2] at h
      refine rn_e1 qm (s2 := (19, [(0, .ref 1000000), (1, .ref 0), (2, .ref 318), (3, .int v3)], [.int (X.2 (Int32.toNatClampNeg v3))], N, sl, rn_hp S M)) (rn_g_sald rfl rfl c2) ?_
      refine rn_eg qm 3 (s2 := ((if ((X.2 (Int32.toNatClampNeg v3)) &&& (31 : Int32)) = (0 : Int32) then 22 else (if ((X.2 (Int32.toNatClampNeg v3)) &&& (31 : Int32)) = (1 : Int32) then 49 else (if ((X.2 (Int32.toNatClampNeg v3)) &&& (31 : Int32)) = (2 : Int32) then 66 else (if ((X.2 (Int32.toNatClampNeg v3)) &&& (31 : Int32)) = (3 : Int32) then 83 else (if ((X.2 (Int32.toNatClampNeg v3)) &&& (31 : Int32)) = (4 : Int32) then 100 else (if ((X.2 (Int32.toNatClampNeg v3)) &&& (31 : Int32)) = (5 : Int32) then 137 else (if ((X.2 (Int32.toNatClampNeg v3)) &&& (31 : Int32)) = (6 : Int32) then 184 else (if ((X.2 (Int32.toNatClampNeg v3)) &&& (31 : Int32)) = (7 : Int32) then 221 else (if ((X.2 (Int32.toNatClampNeg v3)) &&& (31 : Int32)) = (8 : Int32) then 258 else (if ((X.2 (Int32.toNatClampNeg v3)) &&& (31 : Int32)) = (9 : Int32) then 285 else (if ((X.2 (Int32.toNatClampNeg v3)) &&& (31 : Int32)) = (10 : Int32) then 312 else (if ((X.2 (Int32.toNatClampNeg v3)) &&& (31 : Int32)) = (11 : Int32) then 353 else (if ((X.2 (Int32.toNatClampNeg v3)) &&& (31 : Int32)) = (12 : Int32) then 360 else (if ((X.2 (Int32.toNatClampNeg v3)) &&& (31 : Int32)) = (13 : Int32) then 378 else (if ((X.2 (Int32.toNatClampNeg v3)) &&& (31 : Int32)) = (14 : Int32) then 415 else (if ((X.2 (Int32.toNatClampNeg v3)) &&& (31 : Int32)) = (15 : Int32) then 452 else (if ((X.2 (Int32.toNatClampNeg v3)) &&& (31 : Int32)) = (16 : Int32) then 489 else (if ((X.2 (Int32.toNatClampNeg v3)) &&& (31 : Int32)) = (17 : Int32) then 516 else (if ((X.2 (Int32.toNatClampNeg v3)) &&& (31 : Int32)) = (18 : Int32) then 533 else (if ((X.2 (Int32.toNatClampNeg v3)) &&& (31 : Int32)) = (19 : Int32) then 550 else (if ((X.2 (Int32.toNatClampNeg v3)) &&& (31 : Int32)) = (20 : Int32) then 567 else 584))))))))))))))))))))), [(0, .ref 1000000), (1, .ref 0), (2, .ref 318), (3, .int v3)], [], N, sl, rn_hp S M)) rfl ?_
      refine rn_ite (fun c3 => ?_) (fun c3 => ?_)
      · rw [if_pos c3] at h
        refine rn_eg qm 5 (s2 := (27, [(0, .ref 1000000), (1, .ref 0), (2, .ref 318), (3, .int v3)], [.int (v3 + (1 : Int32)), .ref 1000000, .ref 0], N, sl, rn_hp S M)) rfl ?_
        have c4 : ¬ (rn_ob (v3 + (1 : Int32)) X.1) := fun c => by rw [if_pos c] at h; cases h
        rw [if_neg c4] at h
        refine rn_e1 qm (s2 := (28, [(0, .ref 1000000), (1, .ref 0), (2, .ref 318), (3, .int v3)], [.int (X.2 (Int32.toNatClampNeg (v3 + (1 : Int32)))), .ref 0], N, sl, rn_hp S M)) (rn_g_sald rfl rfl c4) ?_
        refine rn_eg qm 4 (s2 := (32, [(0, .ref 1000000), (1, .ref 0), (2, .ref 318), (3, .int v3)], [.int (v3 + (2 : Int32)), .ref 1000000, .int (X.2 (Int32.toNatClampNeg (v3 + (1 : Int32)))), .ref 0], N, sl, rn_hp S M)) rfl ?_
        have c5 : ¬ (rn_ob (v3 + (2 : Int32)) X.1) := fun c => by rw [if_pos c] at h; cases h
        rw [if_neg c5] at h
        refine rn_e1 qm (s2 := (33, [(0, .ref 1000000), (1, .ref 0), (2, .ref 318), (3, .int v3)], [.int (X.2 (Int32.toNatClampNeg (v3 + (2 : Int32)))), .int (X.2 (Int32.toNatClampNeg (v3 + (1 : Int32)))), .ref 0], N, sl, rn_hp S M)) (rn_g_sald rfl rfl c5) ?_
        obtain ⟨p6, hp6, h⟩ := Option.bind_eq_some_iff.mp h
        refine rn_ec qm rfl rfl rfl rfl rn_m1 rfl rfl rfl (fun _ => rn_rc_of (en_8 (q := 0) rfl)) (E1 hp6) ?_
        refine rn_eg qm 0 (s2 := (34, [(0, .ref 1000000), (1, .ref 0), (2, .ref 318), (3, .int v3)], [.int p6.1], N, sl, rn_hp p6.2 M)) rfl ?_
        refine rn_eg qm 5 (s2 := (39, [(0, .ref 1000000), (1, .ref 0), (2, .ref 318), (3, .int v3)], [.int (v3 + (1 : Int32)), .ref 1000000, .ref 318, .int p6.1], N, sl, rn_hp p6.2 M)) rfl ?_
        refine rn_e1 qm (s2 := (40, [(0, .ref 1000000), (1, .ref 0), (2, .ref 318), (3, .int v3)], [.int (X.2 (Int32.toNatClampNeg (v3 + (1 : Int32)))), .ref 318, .int p6.1], N, sl, rn_hp p6.2 M)) (rn_g_sald rfl rfl c4) ?_
        refine rn_eg qm 4 (s2 := (44, [(0, .ref 1000000), (1, .ref 0), (2, .ref 318), (3, .int v3)], [.int (v3 + (2 : Int32)), .ref 1000000, .int (X.2 (Int32.toNatClampNeg (v3 + (1 : Int32)))), .ref 318, .int p6.1], N, sl, rn_hp p6.2 M)) rfl ?_
        refine rn_e1 qm (s2 := (45, [(0, .ref 1000000), (1, .ref 0), (2, .ref 318), (3, .int v3)], [.int (X.2 (Int32.toNatClampNeg (v3 + (2 : Int32)))), .int (X.2 (Int32.toNatClampNeg (v3 + (1 : Int32)))), .ref 318, .int p6.1], N, sl, rn_hp p6.2 M)) (rn_g_sald rfl rfl c5) ?_
        obtain ⟨p7, hp7, h⟩ := Option.bind_eq_some_iff.mp h
        refine rn_ec qm rfl rfl rfl rfl rn_m34 rfl rfl rfl (fun _ => rn_rc_of (en_9 (q := 318) rfl)) (E34 hp7) ?_
        refine rn_eg qm 0 (s2 := (46, [(0, .ref 1000000), (1, .ref 0), (2, .ref 318), (3, .int v3)], [.int p7.1, .int p6.1], N, sl, rn_hp p6.2 p7.2)) rfl ?_
        refine rn_eg qm 1 (s2 := ((if p6.1 = p7.1 then 584 else 47), [(0, .ref 1000000), (1, .ref 0), (2, .ref 318), (3, .int v3)], [], N, sl, rn_hp p6.2 p7.2)) rfl ?_
        refine rn_ite (fun c8 => ?_) (fun c8 => ?_)
        · rw [if_pos c8] at h
          refine rn_eg qm 2 (s2 := (10, [(3, .int (v3 + (5 : Int32))), (0, .ref 1000000), (1, .ref 0), (2, .ref 318)], [], N, sl, rn_hp p6.2 p7.2)) rfl ?_
          refine rn_kq qm (s2 := (10, [(0, .ref 1000000), (1, .ref 0), (2, .ref 318), (3, .int (v3 + (5 : Int32)))], [], N, sl, rn_hp p6.2 p7.2)) rfl rfl ?_
          exact ih _ _ _ k R hk h
        · rw [if_neg c8] at h
          refine rn_eg qm 1 (s2 := (48, [(0, .ref 1000000), (1, .ref 0), (2, .ref 318), (3, .int v3)], [.int (0 : Int32)], N, sl, rn_hp p6.2 p7.2)) rfl ?_
          cases h
          exact rn_er qm rfl rfl rn_rt0
      · rw [if_neg c3] at h
        refine rn_ite (fun c9 => ?_) (fun c9 => ?_)
        · rw [if_pos c9] at h
          refine rn_eg qm 5 (s2 := (54, [(0, .ref 1000000), (1, .ref 0), (2, .ref 318), (3, .int v3)], [.int (v3 + (1 : Int32)), .ref 1000000, .ref 0], N, sl, rn_hp S M)) rfl ?_
          have c10 : ¬ (rn_ob (v3 + (1 : Int32)) X.1) := fun c => by rw [if_pos c] at h; cases h
          rw [if_neg c10] at h
          refine rn_e1 qm (s2 := (55, [(0, .ref 1000000), (1, .ref 0), (2, .ref 318), (3, .int v3)], [.int (X.2 (Int32.toNatClampNeg (v3 + (1 : Int32)))), .ref 0], N, sl, rn_hp S M)) (rn_g_sald rfl rfl c10) ?_
          obtain ⟨p11, hp11, h⟩ := Option.bind_eq_some_iff.mp h
          refine rn_ec qm rfl rfl rfl rfl rn_m2 rfl rfl rfl (fun _ => rn_rc_of (en_8 (q := 0) rfl)) (E2 hp11) ?_
          refine rn_eg qm 0 (s2 := (56, [(0, .ref 1000000), (1, .ref 0), (2, .ref 318), (3, .int v3)], [.int p11.1], N, sl, rn_hp p11.2 M)) rfl ?_
          refine rn_eg qm 5 (s2 := (61, [(0, .ref 1000000), (1, .ref 0), (2, .ref 318), (3, .int v3)], [.int (v3 + (1 : Int32)), .ref 1000000, .ref 318, .int p11.1], N, sl, rn_hp p11.2 M)) rfl ?_
          refine rn_e1 qm (s2 := (62, [(0, .ref 1000000), (1, .ref 0), (2, .ref 318), (3, .int v3)], [.int (X.2 (Int32.toNatClampNeg (v3 + (1 : Int32)))), .ref 318, .int p11.1], N, sl, rn_hp p11.2 M)) (rn_g_sald rfl rfl c10) ?_
          obtain ⟨p12, hp12, h⟩ := Option.bind_eq_some_iff.mp h
          refine rn_ec qm rfl rfl rfl rfl rn_m35 rfl rfl rfl (fun _ => rn_rc_of (en_9 (q := 318) rfl)) (E35 hp12) ?_
          refine rn_eg qm 0 (s2 := (63, [(0, .ref 1000000), (1, .ref 0), (2, .ref 318), (3, .int v3)], [.int p12.1, .int p11.1], N, sl, rn_hp p11.2 p12.2)) rfl ?_
          refine rn_eg qm 1 (s2 := ((if p11.1 = p12.1 then 584 else 64), [(0, .ref 1000000), (1, .ref 0), (2, .ref 318), (3, .int v3)], [], N, sl, rn_hp p11.2 p12.2)) rfl ?_
          refine rn_ite (fun c13 => ?_) (fun c13 => ?_)
          · rw [if_pos c13] at h
            refine rn_eg qm 2 (s2 := (10, [(3, .int (v3 + (5 : Int32))), (0, .ref 1000000), (1, .ref 0), (2, .ref 318)], [], N, sl, rn_hp p11.2 p12.2)) rfl ?_
            refine rn_kq qm (s2 := (10, [(0, .ref 1000000), (1, .ref 0), (2, .ref 318), (3, .int (v3 + (5 : Int32)))], [], N, sl, rn_hp p11.2 p12.2)) rfl rfl ?_
            exact ih _ _ _ k R hk h
          · rw [if_neg c13] at h
            refine rn_eg qm 1 (s2 := (65, [(0, .ref 1000000), (1, .ref 0), (2, .ref 318), (3, .int v3)], [.int (0 : Int32)], N, sl, rn_hp p11.2 p12.2)) rfl ?_
            cases h
            exact rn_er qm rfl rfl rn_rt0
        · rw [if_neg c9] at h
          refine rn_ite (fun c14 => ?_) (fun c14 => ?_)
          · rw [if_pos c14] at h
            refine rn_eg qm 5 (s2 := (71, [(0, .ref 1000000), (1, .ref 0), (2, .ref 318), (3, .int v3)], [.int (v3 + (1 : Int32)), .ref 1000000, .ref 0], N, sl, rn_hp S M)) rfl ?_
            have c15 : ¬ (rn_ob (v3 + (1 : Int32)) X.1) := fun c => by rw [if_pos c] at h; cases h
            rw [if_neg c15] at h
            refine rn_e1 qm (s2 := (72, [(0, .ref 1000000), (1, .ref 0), (2, .ref 318), (3, .int v3)], [.int (X.2 (Int32.toNatClampNeg (v3 + (1 : Int32)))), .ref 0], N, sl, rn_hp S M)) (rn_g_sald rfl rfl c15) ?_
            obtain ⟨p16, hp16, h⟩ := Option.bind_eq_some_iff.mp h
            refine rn_ec qm rfl rfl rfl rfl rn_m3 rfl rfl rfl (fun _ => rn_rc_of (en_8 (q := 0) rfl)) (E3 hp16) ?_
            refine rn_eg qm 0 (s2 := (73, [(0, .ref 1000000), (1, .ref 0), (2, .ref 318), (3, .int v3)], [.int p16.1], N, sl, rn_hp p16.2 M)) rfl ?_
            refine rn_eg qm 5 (s2 := (78, [(0, .ref 1000000), (1, .ref 0), (2, .ref 318), (3, .int v3)], [.int (v3 + (1 : Int32)), .ref 1000000, .ref 318, .int p16.1], N, sl, rn_hp p16.2 M)) rfl ?_
            refine rn_e1 qm (s2 := (79, [(0, .ref 1000000), (1, .ref 0), (2, .ref 318), (3, .int v3)], [.int (X.2 (Int32.toNatClampNeg (v3 + (1 : Int32)))), .ref 318, .int p16.1], N, sl, rn_hp p16.2 M)) (rn_g_sald rfl rfl c15) ?_
            obtain ⟨p17, hp17, h⟩ := Option.bind_eq_some_iff.mp h
            refine rn_ec qm rfl rfl rfl rfl rn_m44 rfl rfl rfl (fun _ => rn_rc_of (en_9 (q := 318) rfl)) (E44 hp17) ?_
            refine rn_eg qm 0 (s2 := (80, [(0, .ref 1000000), (1, .ref 0), (2, .ref 318), (3, .int v3)], [.int p17.1, .int p16.1], N, sl, rn_hp p16.2 p17.2)) rfl ?_
            refine rn_eg qm 1 (s2 := ((if p16.1 = p17.1 then 584 else 81), [(0, .ref 1000000), (1, .ref 0), (2, .ref 318), (3, .int v3)], [], N, sl, rn_hp p16.2 p17.2)) rfl ?_
            refine rn_ite (fun c18 => ?_) (fun c18 => ?_)
            · rw [if_pos c18] at h
              refine rn_eg qm 2 (s2 := (10, [(3, .int (v3 + (5 : Int32))), (0, .ref 1000000), (1, .ref 0), (2, .ref 318)], [], N, sl, rn_hp p16.2 p17.2)) rfl ?_
              refine rn_kq qm (s2 := (10, [(0, .ref 1000000), (1, .ref 0), (2, .ref 318), (3, .int (v3 + (5 : Int32)))], [], N, sl, rn_hp p16.2 p17.2)) rfl rfl ?_
              exact ih _ _ _ k R hk h
            · rw [if_neg c18] at h
              refine rn_eg qm 1 (s2 := (82, [(0, .ref 1000000), (1, .ref 0), (2, .ref 318), (3, .int v3)], [.int (0 : Int32)], N, sl, rn_hp p16.2 p17.2)) rfl ?_
              cases h
              exact rn_er qm rfl rfl rn_rt0
          · rw [if_neg c14] at h
            refine rn_ite (fun c19 => ?_) (fun c19 => ?_)
            · rw [if_pos c19] at h
              refine rn_eg qm 5 (s2 := (88, [(0, .ref 1000000), (1, .ref 0), (2, .ref 318), (3, .int v3)], [.int (v3 + (1 : Int32)), .ref 1000000, .ref 0], N, sl, rn_hp S M)) rfl ?_
              have c20 : ¬ (rn_ob (v3 + (1 : Int32)) X.1) := fun c => by rw [if_pos c] at h; cases h
              rw [if_neg c20] at h
              refine rn_e1 qm (s2 := (89, [(0, .ref 1000000), (1, .ref 0), (2, .ref 318), (3, .int v3)], [.int (X.2 (Int32.toNatClampNeg (v3 + (1 : Int32)))), .ref 0], N, sl, rn_hp S M)) (rn_g_sald rfl rfl c20) ?_
              obtain ⟨p21, hp21, h⟩ := Option.bind_eq_some_iff.mp h
              refine rn_ec qm rfl rfl rfl rfl rn_m4 rfl rfl rfl (fun _ => rn_rc_of (en_8 (q := 0) rfl)) (E4 hp21) ?_
              refine rn_eg qm 0 (s2 := (90, [(0, .ref 1000000), (1, .ref 0), (2, .ref 318), (3, .int v3)], [.int p21.1], N, sl, rn_hp p21.2 M)) rfl ?_
              refine rn_eg qm 5 (s2 := (95, [(0, .ref 1000000), (1, .ref 0), (2, .ref 318), (3, .int v3)], [.int (v3 + (1 : Int32)), .ref 1000000, .ref 318, .int p21.1], N, sl, rn_hp p21.2 M)) rfl ?_
              refine rn_e1 qm (s2 := (96, [(0, .ref 1000000), (1, .ref 0), (2, .ref 318), (3, .int v3)], [.int (X.2 (Int32.toNatClampNeg (v3 + (1 : Int32)))), .ref 318, .int p21.1], N, sl, rn_hp p21.2 M)) (rn_g_sald rfl rfl c20) ?_
              obtain ⟨p22, hp22, h⟩ := Option.bind_eq_some_iff.mp h
              refine rn_ec qm rfl rfl rfl rfl rn_m45 rfl rfl rfl (fun _ => rn_rc_of (en_9 (q := 318) rfl)) (E45 hp22) ?_
              refine rn_eg qm 0 (s2 := (97, [(0, .ref 1000000), (1, .ref 0), (2, .ref 318), (3, .int v3)], [.int p22.1, .int p21.1], N, sl, rn_hp p21.2 p22.2)) rfl ?_
              refine rn_eg qm 1 (s2 := ((if p21.1 = p22.1 then 584 else 98), [(0, .ref 1000000), (1, .ref 0), (2, .ref 318), (3, .int v3)], [], N, sl, rn_hp p21.2 p22.2)) rfl ?_
              refine rn_ite (fun c23 => ?_) (fun c23 => ?_)
              · rw [if_pos c23] at h
                refine rn_eg qm 2 (s2 := (10, [(3, .int (v3 + (5 : Int32))), (0, .ref 1000000), (1, .ref 0), (2, .ref 318)], [], N, sl, rn_hp p21.2 p22.2)) rfl ?_
                refine rn_kq qm (s2 := (10, [(0, .ref 1000000), (1, .ref 0), (2, .ref 318), (3, .int (v3 + (5 : Int32)))], [], N, sl, rn_hp p21.2 p22.2)) rfl rfl ?_
                exact ih _ _ _ k R hk h
              · rw [if_neg c23] at h
                refine rn_eg qm 1 (s2 := (99, [(0, .ref 1000000), (1, .ref 0), (2, .ref 318), (3, .int v3)], [.int (0 : Int32)], N, sl, rn_hp p21.2 p22.2)) rfl ?_
                cases h
                exact rn_er qm rfl rfl rn_rt0
            · rw [if_neg c19] at h
              refine rn_ite (fun c24 => ?_) (fun c24 => ?_)
              · rw [if_pos c24] at h
                refine rn_eg qm 5 (s2 := (105, [(0, .ref 1000000), (1, .ref 0), (2, .ref 318), (3, .int v3)], [.int (v3 + (1 : Int32)), .ref 1000000, .ref 0], N, sl, rn_hp S M)) rfl ?_
                have c25 : ¬ (rn_ob (v3 + (1 : Int32)) X.1) := fun c => by rw [if_pos c] at h; cases h
                rw [if_neg c25] at h
                refine rn_e1 qm (s2 := (106, [(0, .ref 1000000), (1, .ref 0), (2, .ref 318), (3, .int v3)], [.int (X.2 (Int32.toNatClampNeg (v3 + (1 : Int32)))), .ref 0], N, sl, rn_hp S M)) (rn_g_sald rfl rfl c25) ?_
                refine rn_eg qm 4 (s2 := (110, [(0, .ref 1000000), (1, .ref 0), (2, .ref 318), (3, .int v3)], [.int (v3 + (2 : Int32)), .ref 1000000, .int (X.2 (Int32.toNatClampNeg (v3 + (1 : Int32)))), .ref 0], N, sl, rn_hp S M)) rfl ?_
                have c26 : ¬ (rn_ob (v3 + (2 : Int32)) X.1) := fun c => by rw [if_pos c] at h; cases h
                rw [if_neg c26] at h
                refine rn_e1 qm (s2 := (111, [(0, .ref 1000000), (1, .ref 0), (2, .ref 318), (3, .int v3)], [.int (X.2 (Int32.toNatClampNeg (v3 + (2 : Int32)))), .int (X.2 (Int32.toNatClampNeg (v3 + (1 : Int32)))), .ref 0], N, sl, rn_hp S M)) (rn_g_sald rfl rfl c26) ?_
                refine rn_eg qm 4 (s2 := (115, [(0, .ref 1000000), (1, .ref 0), (2, .ref 318), (3, .int v3)], [.int (v3 + (3 : Int32)), .ref 1000000, .int (X.2 (Int32.toNatClampNeg (v3 + (2 : Int32)))), .int (X.2 (Int32.toNatClampNeg (v3 + (1 : Int32)))), .ref 0], N, sl, rn_hp S M)) rfl ?_
                have c27 : ¬ (rn_ob (v3 + (3 : Int32)) X.1) := fun c => by rw [if_pos c] at h; cases h
                rw [if_neg c27] at h
                refine rn_e1 qm (s2 := (116, [(0, .ref 1000000), (1, .ref 0), (2, .ref 318), (3, .int v3)], [.int (X.2 (Int32.toNatClampNeg (v3 + (3 : Int32)))), .int (X.2 (Int32.toNatClampNeg (v3 + (2 : Int32)))), .int (X.2 (Int32.toNatClampNeg (v3 + (1 : Int32)))), .ref 0], N, sl, rn_hp S M)) (rn_g_sald rfl rfl c27) ?_
                obtain ⟨p28, hp28, h⟩ := Option.bind_eq_some_iff.mp h
                refine rn_ec qm rfl rfl rfl rfl rn_m5 rfl rfl rfl (fun _ => rn_rc_of (en_8 (q := 0) rfl)) (E5 hp28) ?_
                refine rn_eg qm 0 (s2 := (117, [(0, .ref 1000000), (1, .ref 0), (2, .ref 318), (3, .int v3)], [.int p28.1], N, sl, rn_hp p28.2 M)) rfl ?_
                refine rn_eg qm 5 (s2 := (122, [(0, .ref 1000000), (1, .ref 0), (2, .ref 318), (3, .int v3)], [.int (v3 + (1 : Int32)), .ref 1000000, .ref 318, .int p28.1], N, sl, rn_hp p28.2 M)) rfl ?_
                refine rn_e1 qm (s2 := (123, [(0, .ref 1000000), (1, .ref 0), (2, .ref 318), (3, .int v3)], [.int (X.2 (Int32.toNatClampNeg (v3 + (1 : Int32)))), .ref 318, .int p28.1], N, sl, rn_hp p28.2 M)) (rn_g_sald rfl rfl c25) ?_
                refine rn_eg qm 4 (s2 := (127, [(0, .ref 1000000), (1, .ref 0), (2, .ref 318), (3, .int v3)], [.int (v3 + (2 : Int32)), .ref 1000000, .int (X.2 (Int32.toNatClampNeg (v3 + (1 : Int32)))), .ref 318, .int p28.1], N, sl, rn_hp p28.2 M)) rfl ?_
                refine rn_e1 qm (s2 := (128, [(0, .ref 1000000), (1, .ref 0), (2, .ref 318), (3, .int v3)], [.int (X.2 (Int32.toNatClampNeg (v3 + (2 : Int32)))), .int (X.2 (Int32.toNatClampNeg (v3 + (1 : Int32)))), .ref 318, .int p28.1], N, sl, rn_hp p28.2 M)) (rn_g_sald rfl rfl c26) ?_
                refine rn_eg qm 4 (s2 := (132, [(0, .ref 1000000), (1, .ref 0), (2, .ref 318), (3, .int v3)], [.int (v3 + (3 : Int32)), .ref 1000000, .int (X.2 (Int32.toNatClampNeg (v3 + (2 : Int32)))), .int (X.2 (Int32.toNatClampNeg (v3 + (1 : Int32)))), .ref 318, .int p28.1], N, sl, rn_hp p28.2 M)) rfl ?_
                refine rn_e1 qm (s2 := (133, [(0, .ref 1000000), (1, .ref 0), (2, .ref 318), (3, .int v3)], [.int (X.2 (Int32.toNatClampNeg (v3 + (3 : Int32)))), .int (X.2 (Int32.toNatClampNeg (v3 + (2 : Int32)))), .int (X.2 (Int32.toNatClampNeg (v3 + (1 : Int32)))), .ref 318, .int p28.1], N, sl, rn_hp p28.2 M)) (rn_g_sald rfl rfl c27) ?_
                obtain ⟨p29, hp29, h⟩ := Option.bind_eq_some_iff.mp h
                refine rn_ec qm rfl rfl rfl rfl rn_m73 rfl rfl rfl (fun _ => rn_rc_of (en_9 (q := 318) rfl)) (E73 hp29) ?_
                refine rn_eg qm 0 (s2 := (134, [(0, .ref 1000000), (1, .ref 0), (2, .ref 318), (3, .int v3)], [.int p29.1, .int p28.1], N, sl, rn_hp p28.2 p29.2)) rfl ?_
                refine rn_eg qm 1 (s2 := ((if p28.1 = p29.1 then 584 else 135), [(0, .ref 1000000), (1, .ref 0), (2, .ref 318), (3, .int v3)], [], N, sl, rn_hp p28.2 p29.2)) rfl ?_
                refine rn_ite (fun c30 => ?_) (fun c30 => ?_)
                · rw [if_pos c30] at h
                  refine rn_eg qm 2 (s2 := (10, [(3, .int (v3 + (5 : Int32))), (0, .ref 1000000), (1, .ref 0), (2, .ref 318)], [], N, sl, rn_hp p28.2 p29.2)) rfl ?_
                  refine rn_kq qm (s2 := (10, [(0, .ref 1000000), (1, .ref 0), (2, .ref 318), (3, .int (v3 + (5 : Int32)))], [], N, sl, rn_hp p28.2 p29.2)) rfl rfl ?_
                  exact ih _ _ _ k R hk h
                · rw [if_neg c30] at h
                  refine rn_eg qm 1 (s2 := (136, [(0, .ref 1000000), (1, .ref 0), (2, .ref 318), (3, .int v3)], [.int (0 : Int32)], N, sl, rn_hp p28.2 p29.2)) rfl ?_
                  cases h
                  exact rn_er qm rfl rfl rn_rt0
              · rw [if_neg c24] at h
                refine rn_ite (fun c31 => ?_) (fun c31 => ?_)
                · rw [if_pos c31] at h
                  refine rn_eg qm 5 (s2 := (142, [(0, .ref 1000000), (1, .ref 0), (2, .ref 318), (3, .int v3)], [.int (v3 + (1 : Int32)), .ref 1000000, .ref 0], N, sl, rn_hp S M)) rfl ?_
                  have c32 : ¬ (rn_ob (v3 + (1 : Int32)) X.1) := fun c => by rw [if_pos c] at h; cases h
                  rw [if_neg c32] at h
                  refine rn_e1 qm (s2 := (143, [(0, .ref 1000000), (1, .ref 0), (2, .ref 318), (3, .int v3)], [.int (X.2 (Int32.toNatClampNeg (v3 + (1 : Int32)))), .ref 0], N, sl, rn_hp S M)) (rn_g_sald rfl rfl c32) ?_
                  refine rn_eg qm 4 (s2 := (147, [(0, .ref 1000000), (1, .ref 0), (2, .ref 318), (3, .int v3)], [.int (v3 + (2 : Int32)), .ref 1000000, .int (X.2 (Int32.toNatClampNeg (v3 + (1 : Int32)))), .ref 0], N, sl, rn_hp S M)) rfl ?_
                  have c33 : ¬ (rn_ob (v3 + (2 : Int32)) X.1) := fun c => by rw [if_pos c] at h; cases h
                  rw [if_neg c33] at h
                  refine rn_e1 qm (s2 := (148, [(0, .ref 1000000), (1, .ref 0), (2, .ref 318), (3, .int v3)], [.int (X.2 (Int32.toNatClampNeg (v3 + (2 : Int32)))), .int (X.2 (Int32.toNatClampNeg (v3 + (1 : Int32)))), .ref 0], N, sl, rn_hp S M)) (rn_g_sald rfl rfl c33) ?_
                  refine rn_eg qm 4 (s2 := (152, [(0, .ref 1000000), (1, .ref 0), (2, .ref 318), (3, .int v3)], [.int (v3 + (3 : Int32)), .ref 1000000, .int (X.2 (Int32.toNatClampNeg (v3 + (2 : Int32)))), .int (X.2 (Int32.toNatClampNeg (v3 + (1 : Int32)))), .ref 0], N, sl, rn_hp S M)) rfl ?_
                  have c34 : ¬ (rn_ob (v3 + (3 : Int32)) X.1) := fun c => by rw [if_pos c] at h; cases h
                  rw [if_neg c34] at h
                  refine rn_e1 qm (s2 := (153, [(0, .ref 1000000), (1, .ref 0), (2, .ref 318), (3, .int v3)], [.int (X.2 (Int32.toNatClampNeg (v3 + (3 : Int32)))), .int (X.2 (Int32.toNatClampNeg (v3 + (2 : Int32)))), .int (X.2 (Int32.toNatClampNeg (v3 + (1 : Int32)))), .ref 0], N, sl, rn_hp S M)) (rn_g_sald rfl rfl c34) ?_
                  refine rn_eg qm 4 (s2 := (157, [(0, .ref 1000000), (1, .ref 0), (2, .ref 318), (3, .int v3)], [.int (v3 + (4 : Int32)), .ref 1000000, .int (X.2 (Int32.toNatClampNeg (v3 + (3 : Int32)))), .int (X.2 (Int32.toNatClampNeg (v3 + (2 : Int32)))), .int (X.2 (Int32.toNatClampNeg (v3 + (1 : Int32)))), .ref 0], N, sl, rn_hp S M)) rfl ?_
                  have c35 : ¬ (rn_ob (v3 + (4 : Int32)) X.1) := fun c => by rw [if_pos c] at h; cases h
                  rw [if_neg c35] at h
                  refine rn_e1 qm (s2 := (158, [(0, .ref 1000000), (1, .ref 0), (2, .ref 318), (3, .int v3)], [.int (X.2 (Int32.toNatClampNeg (v3 + (4 : Int32)))), .int (X.2 (Int32.toNatClampNeg (v3 + (3 : Int32)))), .int (X.2 (Int32.toNatClampNeg (v3 + (2 : Int32)))), .int (X.2 (Int32.toNatClampNeg (v3 + (1 : Int32)))), .ref 0], N, sl, rn_hp S M)) (rn_g_sald rfl rfl c35) ?_
                  obtain ⟨p36, hp36, h⟩ := Option.bind_eq_some_iff.mp h
                  refine rn_ec qm rfl rfl rfl rfl rn_m6 rfl rfl rfl (fun _ => rn_rc_of (en_8 (q := 0) rfl)) (E6 hp36) ?_
                  refine rn_eg qm 0 (s2 := (159, [(0, .ref 1000000), (1, .ref 0), (2, .ref 318), (3, .int v3)], [.int p36.1], N, sl, rn_hp p36.2 M)) rfl ?_
                  refine rn_eg qm 5 (s2 := (164, [(0, .ref 1000000), (1, .ref 0), (2, .ref 318), (3, .int v3)], [.int (v3 + (1 : Int32)), .ref 1000000, .ref 318, .int p36.1], N, sl, rn_hp p36.2 M)) rfl ?_
                  refine rn_e1 qm (s2 := (165, [(0, .ref 1000000), (1, .ref 0), (2, .ref 318), (3, .int v3)], [.int (X.2 (Int32.toNatClampNeg (v3 + (1 : Int32)))), .ref 318, .int p36.1], N, sl, rn_hp p36.2 M)) (rn_g_sald rfl rfl c32) ?_
                  refine rn_eg qm 4 (s2 := (169, [(0, .ref 1000000), (1, .ref 0), (2, .ref 318), (3, .int v3)], [.int (v3 + (2 : Int32)), .ref 1000000, .int (X.2 (Int32.toNatClampNeg (v3 + (1 : Int32)))), .ref 318, .int p36.1], N, sl, rn_hp p36.2 M)) rfl ?_
                  refine rn_e1 qm (s2 := (170, [(0, .ref 1000000), (1, .ref 0), (2, .ref 318), (3, .int v3)], [.int (X.2 (Int32.toNatClampNeg (v3 + (2 : Int32)))), .int (X.2 (Int32.toNatClampNeg (v3 + (1 : Int32)))), .ref 318, .int p36.1], N, sl, rn_hp p36.2 M)) (rn_g_sald rfl rfl c33) ?_
                  refine rn_eg qm 4 (s2 := (174, [(0, .ref 1000000), (1, .ref 0), (2, .ref 318), (3, .int v3)], [.int (v3 + (3 : Int32)), .ref 1000000, .int (X.2 (Int32.toNatClampNeg (v3 + (2 : Int32)))), .int (X.2 (Int32.toNatClampNeg (v3 + (1 : Int32)))), .ref 318, .int p36.1], N, sl, rn_hp p36.2 M)) rfl ?_
                  refine rn_e1 qm (s2 := (175, [(0, .ref 1000000), (1, .ref 0), (2, .ref 318), (3, .int v3)], [.int (X.2 (Int32.toNatClampNeg (v3 + (3 : Int32)))), .int (X.2 (Int32.toNatClampNeg (v3 + (2 : Int32)))), .int (X.2 (Int32.toNatClampNeg (v3 + (1 : Int32)))), .ref 318, .int p36.1], N, sl, rn_hp p36.2 M)) (rn_g_sald rfl rfl c34) ?_
                  refine rn_eg qm 4 (s2 := (179, [(0, .ref 1000000), (1, .ref 0), (2, .ref 318), (3, .int v3)], [.int (v3 + (4 : Int32)), .ref 1000000, .int (X.2 (Int32.toNatClampNeg (v3 + (3 : Int32)))), .int (X.2 (Int32.toNatClampNeg (v3 + (2 : Int32)))), .int (X.2 (Int32.toNatClampNeg (v3 + (1 : Int32)))), .ref 318, .int p36.1], N, sl, rn_hp p36.2 M)) rfl ?_
                  refine rn_e1 qm (s2 := (180, [(0, .ref 1000000), (1, .ref 0), (2, .ref 318), (3, .int v3)], [.int (X.2 (Int32.toNatClampNeg (v3 + (4 : Int32)))), .int (X.2 (Int32.toNatClampNeg (v3 + (3 : Int32)))), .int (X.2 (Int32.toNatClampNeg (v3 + (2 : Int32)))), .int (X.2 (Int32.toNatClampNeg (v3 + (1 : Int32)))), .ref 318, .int p36.1], N, sl, rn_hp p36.2 M)) (rn_g_sald rfl rfl c35) ?_
                  obtain ⟨p37, hp37, h⟩ := Option.bind_eq_some_iff.mp h
                  refine rn_ec qm rfl rfl rfl rfl rn_m75 rfl rfl rfl (fun _ => rn_rc_of (en_9 (q := 318) rfl)) (E75 hp37) ?_
                  refine rn_eg qm 0 (s2 := (181, [(0, .ref 1000000), (1, .ref 0), (2, .ref 318), (3, .int v3)], [.int p37.1, .int p36.1], N, sl, rn_hp p36.2 p37.2)) rfl ?_
                  refine rn_eg qm 1 (s2 := ((if p36.1 = p37.1 then 584 else 182), [(0, .ref 1000000), (1, .ref 0), (2, .ref 318), (3, .int v3)], [], N, sl, rn_hp p36.2 p37.2)) rfl ?_
                  refine rn_ite (fun c38 => ?_) (fun c38 => ?_)
                  · rw [if_pos c38] at h
                    refine rn_eg qm 2 (s2 := (10, [(3, .int (v3 + (5 : Int32))), (0, .ref 1000000), (1, .ref 0), (2, .ref 318)], [], N, sl, rn_hp p36.2 p37.2)) rfl ?_
                    refine rn_kq qm (s2 := (10, [(0, .ref 1000000), (1, .ref 0), (2, .ref 318), (3, .int (v3 + (5 : Int32)))], [], N, sl, rn_hp p36.2 p37.2)) rfl rfl ?_
                    exact ih _ _ _ k R hk h
                  · rw [if_neg c38] at h
                    refine rn_eg qm 1 (s2 := (183, [(0, .ref 1000000), (1, .ref 0), (2, .ref 318), (3, .int v3)], [.int (0 : Int32)], N, sl, rn_hp p36.2 p37.2)) rfl ?_
                    cases h
                    exact rn_er qm rfl rfl rn_rt0
                · rw [if_neg c31] at h
                  refine rn_ite (fun c39 => ?_) (fun c39 => ?_)
                  · rw [if_pos c39] at h
                    refine rn_eg qm 5 (s2 := (189, [(0, .ref 1000000), (1, .ref 0), (2, .ref 318), (3, .int v3)], [.int (v3 + (1 : Int32)), .ref 1000000, .ref 0], N, sl, rn_hp S M)) rfl ?_
                    have c40 : ¬ (rn_ob (v3 + (1 : Int32)) X.1) := fun c => by rw [if_pos c] at h; cases h
                    rw [if_neg c40] at h
                    refine rn_e1 qm (s2 := (190, [(0, .ref 1000000), (1, .ref 0), (2, .ref 318), (3, .int v3)], [.int (X.2 (Int32.toNatClampNeg (v3 + (1 : Int32)))), .ref 0], N, sl, rn_hp S M)) (rn_g_sald rfl rfl c40) ?_
                    refine rn_eg qm 4 (s2 := (194, [(0, .ref 1000000), (1, .ref 0), (2, .ref 318), (3, .int v3)], [.int (v3 + (2 : Int32)), .ref 1000000, .int (X.2 (Int32.toNatClampNeg (v3 + (1 : Int32)))), .ref 0], N, sl, rn_hp S M)) rfl ?_
                    have c41 : ¬ (rn_ob (v3 + (2 : Int32)) X.1) := fun c => by rw [if_pos c] at h; cases h
                    rw [if_neg c41] at h
                    refine rn_e1 qm (s2 := (195, [(0, .ref 1000000), (1, .ref 0), (2, .ref 318), (3, .int v3)], [.int (X.2 (Int32.toNatClampNeg (v3 + (2 : Int32)))), .int (X.2 (Int32.toNatClampNeg (v3 + (1 : Int32)))), .ref 0], N, sl, rn_hp S M)) (rn_g_sald rfl rfl c41) ?_
                    refine rn_eg qm 4 (s2 := (199, [(0, .ref 1000000), (1, .ref 0), (2, .ref 318), (3, .int v3)], [.int (v3 + (3 : Int32)), .ref 1000000, .int (X.2 (Int32.toNatClampNeg (v3 + (2 : Int32)))), .int (X.2 (Int32.toNatClampNeg (v3 + (1 : Int32)))), .ref 0], N, sl, rn_hp S M)) rfl ?_
                    have c42 : ¬ (rn_ob (v3 + (3 : Int32)) X.1) := fun c => by rw [if_pos c] at h; cases h
                    rw [if_neg c42] at h
                    refine rn_e1 qm (s2 := (200, [(0, .ref 1000000), (1, .ref 0), (2, .ref 318), (3, .int v3)], [.int (X.2 (Int32.toNatClampNeg (v3 + (3 : Int32)))), .int (X.2 (Int32.toNatClampNeg (v3 + (2 : Int32)))), .int (X.2 (Int32.toNatClampNeg (v3 + (1 : Int32)))), .ref 0], N, sl, rn_hp S M)) (rn_g_sald rfl rfl c42) ?_
                    obtain ⟨p43, hp43, h⟩ := Option.bind_eq_some_iff.mp h
                    refine rn_ec qm rfl rfl rfl rfl rn_m7 rfl rfl rfl (fun _ => rn_rc_of (en_8 (q := 0) rfl)) (E7 hp43) ?_
                    refine rn_eg qm 0 (s2 := (201, [(0, .ref 1000000), (1, .ref 0), (2, .ref 318), (3, .int v3)], [.int p43.1], N, sl, rn_hp p43.2 M)) rfl ?_
                    refine rn_eg qm 5 (s2 := (206, [(0, .ref 1000000), (1, .ref 0), (2, .ref 318), (3, .int v3)], [.int (v3 + (1 : Int32)), .ref 1000000, .ref 318, .int p43.1], N, sl, rn_hp p43.2 M)) rfl ?_
                    refine rn_e1 qm (s2 := (207, [(0, .ref 1000000), (1, .ref 0), (2, .ref 318), (3, .int v3)], [.int (X.2 (Int32.toNatClampNeg (v3 + (1 : Int32)))), .ref 318, .int p43.1], N, sl, rn_hp p43.2 M)) (rn_g_sald rfl rfl c40) ?_
                    refine rn_eg qm 4 (s2 := (211, [(0, .ref 1000000), (1, .ref 0), (2, .ref 318), (3, .int v3)], [.int (v3 + (2 : Int32)), .ref 1000000, .int (X.2 (Int32.toNatClampNeg (v3 + (1 : Int32)))), .ref 318, .int p43.1], N, sl, rn_hp p43.2 M)) rfl ?_
                    refine rn_e1 qm (s2 := (212, [(0, .ref 1000000), (1, .ref 0), (2, .ref 318), (3, .int v3)], [.int (X.2 (Int32.toNatClampNeg (v3 + (2 : Int32)))), .int (X.2 (Int32.toNatClampNeg (v3 + (1 : Int32)))), .ref 318, .int p43.1], N, sl, rn_hp p43.2 M)) (rn_g_sald rfl rfl c41) ?_
                    refine rn_eg qm 4 (s2 := (216, [(0, .ref 1000000), (1, .ref 0), (2, .ref 318), (3, .int v3)], [.int (v3 + (3 : Int32)), .ref 1000000, .int (X.2 (Int32.toNatClampNeg (v3 + (2 : Int32)))), .int (X.2 (Int32.toNatClampNeg (v3 + (1 : Int32)))), .ref 318, .int p43.1], N, sl, rn_hp p43.2 M)) rfl ?_
                    refine rn_e1 qm (s2 := (217, [(0, .ref 1000000), (1, .ref 0), (2, .ref 318), (3, .int v3)], [.int (X.2 (Int32.toNatClampNeg (v3 + (3 : Int32)))), .int (X.2 (Int32.toNatClampNeg (v3 + (2 : Int32)))), .int (X.2 (Int32.toNatClampNeg (v3 + (1 : Int32)))), .ref 318, .int p43.1], N, sl, rn_hp p43.2 M)) (rn_g_sald rfl rfl c42) ?_
                    obtain ⟨p44, hp44, h⟩ := Option.bind_eq_some_iff.mp h
                    refine rn_ec qm rfl rfl rfl rfl rn_m76 rfl rfl rfl (fun _ => rn_rc_of (en_9 (q := 318) rfl)) (E76 hp44) ?_
                    refine rn_eg qm 0 (s2 := (218, [(0, .ref 1000000), (1, .ref 0), (2, .ref 318), (3, .int v3)], [.int p44.1, .int p43.1], N, sl, rn_hp p43.2 p44.2)) rfl ?_
                    refine rn_eg qm 1 (s2 := ((if p43.1 = p44.1 then 584 else 219), [(0, .ref 1000000), (1, .ref 0), (2, .ref 318), (3, .int v3)], [], N, sl, rn_hp p43.2 p44.2)) rfl ?_
                    refine rn_ite (fun c45 => ?_) (fun c45 => ?_)
                    · rw [if_pos c45] at h
                      refine rn_eg qm 2 (s2 := (10, [(3, .int (v3 + (5 : Int32))), (0, .ref 1000000), (1, .ref 0), (2, .ref 318)], [], N, sl, rn_hp p43.2 p44.2)) rfl ?_
                      refine rn_kq qm (s2 := (10, [(0, .ref 1000000), (1, .ref 0), (2, .ref 318), (3, .int (v3 + (5 : Int32)))], [], N, sl, rn_hp p43.2 p44.2)) rfl rfl ?_
                      exact ih _ _ _ k R hk h
                    · rw [if_neg c45] at h
                      refine rn_eg qm 1 (s2 := (220, [(0, .ref 1000000), (1, .ref 0), (2, .ref 318), (3, .int v3)], [.int (0 : Int32)], N, sl, rn_hp p43.2 p44.2)) rfl ?_
                      cases h
                      exact rn_er qm rfl rfl rn_rt0
                  · rw [if_neg c39] at h
                    refine rn_ite (fun c46 => ?_) (fun c46 => ?_)
                    · rw [if_pos c46] at h
                      refine rn_eg qm 5 (s2 := (226, [(0, .ref 1000000), (1, .ref 0), (2, .ref 318), (3, .int v3)], [.int (v3 + (1 : Int32)), .ref 1000000, .ref 0], N, sl, rn_hp S M)) rfl ?_
                      have c47 : ¬ (rn_ob (v3 + (1 : Int32)) X.1) := fun c => by rw [if_pos c] at h; cases h
                      rw [if_neg c47] at h
                      refine rn_e1 qm (s2 := (227, [(0, .ref 1000000), (1, .ref 0), (2, .ref 318), (3, .int v3)], [.int (X.2 (Int32.toNatClampNeg (v3 + (1 : Int32)))), .ref 0], N, sl, rn_hp S M)) (rn_g_sald rfl rfl c47) ?_
                      refine rn_eg qm 4 (s2 := (231, [(0, .ref 1000000), (1, .ref 0), (2, .ref 318), (3, .int v3)], [.int (v3 + (2 : Int32)), .ref 1000000, .int (X.2 (Int32.toNatClampNeg (v3 + (1 : Int32)))), .ref 0], N, sl, rn_hp S M)) rfl ?_
                      have c48 : ¬ (rn_ob (v3 + (2 : Int32)) X.1) := fun c => by rw [if_pos c] at h; cases h
                      rw [if_neg c48] at h
                      refine rn_e1 qm (s2 := (232, [(0, .ref 1000000), (1, .ref 0), (2, .ref 318), (3, .int v3)], [.int (X.2 (Int32.toNatClampNeg (v3 + (2 : Int32)))), .int (X.2 (Int32.toNatClampNeg (v3 + (1 : Int32)))), .ref 0], N, sl, rn_hp S M)) (rn_g_sald rfl rfl c48) ?_
                      refine rn_eg qm 4 (s2 := (236, [(0, .ref 1000000), (1, .ref 0), (2, .ref 318), (3, .int v3)], [.int (v3 + (3 : Int32)), .ref 1000000, .int (X.2 (Int32.toNatClampNeg (v3 + (2 : Int32)))), .int (X.2 (Int32.toNatClampNeg (v3 + (1 : Int32)))), .ref 0], N, sl, rn_hp S M)) rfl ?_
                      have c49 : ¬ (rn_ob (v3 + (3 : Int32)) X.1) := fun c => by rw [if_pos c] at h; cases h
                      rw [if_neg c49] at h
                      refine rn_e1 qm (s2 := (237, [(0, .ref 1000000), (1, .ref 0), (2, .ref 318), (3, .int v3)], [.int (X.2 (Int32.toNatClampNeg (v3 + (3 : Int32)))), .int (X.2 (Int32.toNatClampNeg (v3 + (2 : Int32)))), .int (X.2 (Int32.toNatClampNeg (v3 + (1 : Int32)))), .ref 0], N, sl, rn_hp S M)) (rn_g_sald rfl rfl c49) ?_
                      obtain ⟨p50, hp50, h⟩ := Option.bind_eq_some_iff.mp h
                      refine rn_ec qm rfl rfl rfl rfl rn_m8 rfl rfl rfl (fun _ => rn_rc_of (en_8 (q := 0) rfl)) (E8 hp50) ?_
                      refine rn_eg qm 0 (s2 := (238, [(0, .ref 1000000), (1, .ref 0), (2, .ref 318), (3, .int v3)], [.int p50.1], N, sl, rn_hp p50.2 M)) rfl ?_
                      refine rn_eg qm 5 (s2 := (243, [(0, .ref 1000000), (1, .ref 0), (2, .ref 318), (3, .int v3)], [.int (v3 + (1 : Int32)), .ref 1000000, .ref 318, .int p50.1], N, sl, rn_hp p50.2 M)) rfl ?_
                      refine rn_e1 qm (s2 := (244, [(0, .ref 1000000), (1, .ref 0), (2, .ref 318), (3, .int v3)], [.int (X.2 (Int32.toNatClampNeg (v3 + (1 : Int32)))), .ref 318, .int p50.1], N, sl, rn_hp p50.2 M)) (rn_g_sald rfl rfl c47) ?_
                      refine rn_eg qm 4 (s2 := (248, [(0, .ref 1000000), (1, .ref 0), (2, .ref 318), (3, .int v3)], [.int (v3 + (2 : Int32)), .ref 1000000, .int (X.2 (Int32.toNatClampNeg (v3 + (1 : Int32)))), .ref 318, .int p50.1], N, sl, rn_hp p50.2 M)) rfl ?_
                      refine rn_e1 qm (s2 := (249, [(0, .ref 1000000), (1, .ref 0), (2, .ref 318), (3, .int v3)], [.int (X.2 (Int32.toNatClampNeg (v3 + (2 : Int32)))), .int (X.2 (Int32.toNatClampNeg (v3 + (1 : Int32)))), .ref 318, .int p50.1], N, sl, rn_hp p50.2 M)) (rn_g_sald rfl rfl c48) ?_
                      refine rn_eg qm 4 (s2 := (253, [(0, .ref 1000000), (1, .ref 0), (2, .ref 318), (3, .int v3)], [.int (v3 + (3 : Int32)), .ref 1000000, .int (X.2 (Int32.toNatClampNeg (v3 + (2 : Int32)))), .int (X.2 (Int32.toNatClampNeg (v3 + (1 : Int32)))), .ref 318, .int p50.1], N, sl, rn_hp p50.2 M)) rfl ?_
                      refine rn_e1 qm (s2 := (254, [(0, .ref 1000000), (1, .ref 0), (2, .ref 318), (3, .int v3)], [.int (X.2 (Int32.toNatClampNeg (v3 + (3 : Int32)))), .int (X.2 (Int32.toNatClampNeg (v3 + (2 : Int32)))), .int (X.2 (Int32.toNatClampNeg (v3 + (1 : Int32)))), .ref 318, .int p50.1], N, sl, rn_hp p50.2 M)) (rn_g_sald rfl rfl c49) ?_
                      obtain ⟨p51, hp51, h⟩ := Option.bind_eq_some_iff.mp h
                      refine rn_ec qm rfl rfl rfl rfl rn_m78 rfl rfl rfl (fun _ => rn_rc_of (en_9 (q := 318) rfl)) (E78 hp51) ?_
                      refine rn_eg qm 0 (s2 := (255, [(0, .ref 1000000), (1, .ref 0), (2, .ref 318), (3, .int v3)], [.int p51.1, .int p50.1], N, sl, rn_hp p50.2 p51.2)) rfl ?_
                      refine rn_eg qm 1 (s2 := ((if p50.1 = p51.1 then 584 else 256), [(0, .ref 1000000), (1, .ref 0), (2, .ref 318), (3, .int v3)], [], N, sl, rn_hp p50.2 p51.2)) rfl ?_
                      refine rn_ite (fun c52 => ?_) (fun c52 => ?_)
                      · rw [if_pos c52] at h
                        refine rn_eg qm 2 (s2 := (10, [(3, .int (v3 + (5 : Int32))), (0, .ref 1000000), (1, .ref 0), (2, .ref 318)], [], N, sl, rn_hp p50.2 p51.2)) rfl ?_
                        refine rn_kq qm (s2 := (10, [(0, .ref 1000000), (1, .ref 0), (2, .ref 318), (3, .int (v3 + (5 : Int32)))], [], N, sl, rn_hp p50.2 p51.2)) rfl rfl ?_
                        exact ih _ _ _ k R hk h
                      · rw [if_neg c52] at h
                        refine rn_eg qm 1 (s2 := (257, [(0, .ref 1000000), (1, .ref 0), (2, .ref 318), (3, .int v3)], [.int (0 : Int32)], N, sl, rn_hp p50.2 p51.2)) rfl ?_
                        cases h
                        exact rn_er qm rfl rfl rn_rt0
                    · rw [if_neg c46] at h
                      refine rn_ite (fun c53 => ?_) (fun c53 => ?_)
                      · rw [if_pos c53] at h
                        refine rn_eg qm 5 (s2 := (263, [(0, .ref 1000000), (1, .ref 0), (2, .ref 318), (3, .int v3)], [.int (v3 + (1 : Int32)), .ref 1000000, .ref 0], N, sl, rn_hp S M)) rfl ?_
                        have c54 : ¬ (rn_ob (v3 + (1 : Int32)) X.1) := fun c => by rw [if_pos c] at h; cases h
                        rw [if_neg c54] at h
                        refine rn_e1 qm (s2 := (264, [(0, .ref 1000000), (1, .ref 0), (2, .ref 318), (3, .int v3)], [.int (X.2 (Int32.toNatClampNeg (v3 + (1 : Int32)))), .ref 0], N, sl, rn_hp S M)) (rn_g_sald rfl rfl c54) ?_
                        refine rn_eg qm 4 (s2 := (268, [(0, .ref 1000000), (1, .ref 0), (2, .ref 318), (3, .int v3)], [.int (v3 + (2 : Int32)), .ref 1000000, .int (X.2 (Int32.toNatClampNeg (v3 + (1 : Int32)))), .ref 0], N, sl, rn_hp S M)) rfl ?_
                        have c55 : ¬ (rn_ob (v3 + (2 : Int32)) X.1) := fun c => by rw [if_pos c] at h; cases h
                        rw [if_neg c55] at h
                        refine rn_e1 qm (s2 := (269, [(0, .ref 1000000), (1, .ref 0), (2, .ref 318), (3, .int v3)], [.int (X.2 (Int32.toNatClampNeg (v3 + (2 : Int32)))), .int (X.2 (Int32.toNatClampNeg (v3 + (1 : Int32)))), .ref 0], N, sl, rn_hp S M)) (rn_g_sald rfl rfl c55) ?_
                        obtain ⟨p56, hp56, h⟩ := Option.bind_eq_some_iff.mp h
                        refine rn_ec qm rfl rfl rfl rfl rn_m9 rfl rfl rfl (fun _ => rn_rc_of (en_8 (q := 0) rfl)) (E9 hp56) ?_
                        refine rn_eg qm 0 (s2 := (270, [(0, .ref 1000000), (1, .ref 0), (2, .ref 318), (3, .int v3)], [.int p56.1], N, sl, rn_hp p56.2 M)) rfl ?_
                        refine rn_eg qm 5 (s2 := (275, [(0, .ref 1000000), (1, .ref 0), (2, .ref 318), (3, .int v3)], [.int (v3 + (1 : Int32)), .ref 1000000, .ref 318, .int p56.1], N, sl, rn_hp p56.2 M)) rfl ?_
                        refine rn_e1 qm (s2 := (276, [(0, .ref 1000000), (1, .ref 0), (2, .ref 318), (3, .int v3)], [.int (X.2 (Int32.toNatClampNeg (v3 + (1 : Int32)))), .ref 318, .int p56.1], N, sl, rn_hp p56.2 M)) (rn_g_sald rfl rfl c54) ?_
                        refine rn_eg qm 4 (s2 := (280, [(0, .ref 1000000), (1, .ref 0), (2, .ref 318), (3, .int v3)], [.int (v3 + (2 : Int32)), .ref 1000000, .int (X.2 (Int32.toNatClampNeg (v3 + (1 : Int32)))), .ref 318, .int p56.1], N, sl, rn_hp p56.2 M)) rfl ?_
                        refine rn_e1 qm (s2 := (281, [(0, .ref 1000000), (1, .ref 0), (2, .ref 318), (3, .int v3)], [.int (X.2 (Int32.toNatClampNeg (v3 + (2 : Int32)))), .int (X.2 (Int32.toNatClampNeg (v3 + (1 : Int32)))), .ref 318, .int p56.1], N, sl, rn_hp p56.2 M)) (rn_g_sald rfl rfl c55) ?_
                        obtain ⟨p57, hp57, h⟩ := Option.bind_eq_some_iff.mp h
                        refine rn_ec qm rfl rfl rfl rfl rn_m80 rfl rfl rfl (fun _ => rn_rc_of (en_9 (q := 318) rfl)) (E80 hp57) ?_
                        refine rn_eg qm 0 (s2 := (282, [(0, .ref 1000000), (1, .ref 0), (2, .ref 318), (3, .int v3)], [.int p57.1, .int p56.1], N, sl, rn_hp p56.2 p57.2)) rfl ?_
                        refine rn_eg qm 1 (s2 := ((if p56.1 = p57.1 then 584 else 283), [(0, .ref 1000000), (1, .ref 0), (2, .ref 318), (3, .int v3)], [], N, sl, rn_hp p56.2 p57.2)) rfl ?_
                        refine rn_ite (fun c58 => ?_) (fun c58 => ?_)
                        · rw [if_pos c58] at h
                          refine rn_eg qm 2 (s2 := (10, [(3, .int (v3 + (5 : Int32))), (0, .ref 1000000), (1, .ref 0), (2, .ref 318)], [], N, sl, rn_hp p56.2 p57.2)) rfl ?_
                          refine rn_kq qm (s2 := (10, [(0, .ref 1000000), (1, .ref 0), (2, .ref 318), (3, .int (v3 + (5 : Int32)))], [], N, sl, rn_hp p56.2 p57.2)) rfl rfl ?_
                          exact ih _ _ _ k R hk h
                        · rw [if_neg c58] at h
                          refine rn_eg qm 1 (s2 := (284, [(0, .ref 1000000), (1, .ref 0), (2, .ref 318), (3, .int v3)], [.int (0 : Int32)], N, sl, rn_hp p56.2 p57.2)) rfl ?_
                          cases h
                          exact rn_er qm rfl rfl rn_rt0
                      · rw [if_neg c53] at h
                        refine rn_ite (fun c59 => ?_) (fun c59 => ?_)
                        · rw [if_pos c59] at h
                          refine rn_eg qm 5 (s2 := (290, [(0, .ref 1000000), (1, .ref 0), (2, .ref 318), (3, .int v3)], [.int (v3 + (1 : Int32)), .ref 1000000, .ref 0], N, sl, rn_hp S M)) rfl ?_
                          have c60 : ¬ (rn_ob (v3 + (1 : Int32)) X.1) := fun c => by rw [if_pos c] at h; cases h
                          rw [if_neg c60] at h
                          refine rn_e1 qm (s2 := (291, [(0, .ref 1000000), (1, .ref 0), (2, .ref 318), (3, .int v3)], [.int (X.2 (Int32.toNatClampNeg (v3 + (1 : Int32)))), .ref 0], N, sl, rn_hp S M)) (rn_g_sald rfl rfl c60) ?_
                          refine rn_eg qm 4 (s2 := (295, [(0, .ref 1000000), (1, .ref 0), (2, .ref 318), (3, .int v3)], [.int (v3 + (2 : Int32)), .ref 1000000, .int (X.2 (Int32.toNatClampNeg (v3 + (1 : Int32)))), .ref 0], N, sl, rn_hp S M)) rfl ?_
                          have c61 : ¬ (rn_ob (v3 + (2 : Int32)) X.1) := fun c => by rw [if_pos c] at h; cases h
                          rw [if_neg c61] at h
                          refine rn_e1 qm (s2 := (296, [(0, .ref 1000000), (1, .ref 0), (2, .ref 318), (3, .int v3)], [.int (X.2 (Int32.toNatClampNeg (v3 + (2 : Int32)))), .int (X.2 (Int32.toNatClampNeg (v3 + (1 : Int32)))), .ref 0], N, sl, rn_hp S M)) (rn_g_sald rfl rfl c61) ?_
                          obtain ⟨p62, hp62, h⟩ := Option.bind_eq_some_iff.mp h
                          refine rn_ec qm rfl rfl rfl rfl rn_m10 rfl rfl rfl (fun _ => rn_rc_of (en_8 (q := 0) rfl)) (E10 hp62) ?_
                          refine rn_eg qm 0 (s2 := (297, [(0, .ref 1000000), (1, .ref 0), (2, .ref 318), (3, .int v3)], [.int p62.1], N, sl, rn_hp p62.2 M)) rfl ?_
                          refine rn_eg qm 5 (s2 := (302, [(0, .ref 1000000), (1, .ref 0), (2, .ref 318), (3, .int v3)], [.int (v3 + (1 : Int32)), .ref 1000000, .ref 318, .int p62.1], N, sl, rn_hp p62.2 M)) rfl ?_
                          refine rn_e1 qm (s2 := (303, [(0, .ref 1000000), (1, .ref 0), (2, .ref 318), (3, .int v3)], [.int (X.2 (Int32.toNatClampNeg (v3 + (1 : Int32)))), .ref 318, .int p62.1], N, sl, rn_hp p62.2 M)) (rn_g_sald rfl rfl c60) ?_
                          refine rn_eg qm 4 (s2 := (307, [(0, .ref 1000000), (1, .ref 0), (2, .ref 318), (3, .int v3)], [.int (v3 + (2 : Int32)), .ref 1000000, .int (X.2 (Int32.toNatClampNeg (v3 + (1 : Int32)))), .ref 318, .int p62.1], N, sl, rn_hp p62.2 M)) rfl ?_
                          refine rn_e1 qm (s2 := (308, [(0, .ref 1000000), (1, .ref 0), (2, .ref 318), (3, .int v3)], [.int (X.2 (Int32.toNatClampNeg (v3 + (2 : Int32)))), .int (X.2 (Int32.toNatClampNeg (v3 + (1 : Int32)))), .ref 318, .int p62.1], N, sl, rn_hp p62.2 M)) (rn_g_sald rfl rfl c61) ?_
                          obtain ⟨p63, hp63, h⟩ := Option.bind_eq_some_iff.mp h
                          refine rn_ec qm rfl rfl rfl rfl rn_m83 rfl rfl rfl (fun _ => rn_rc_of (en_9 (q := 318) rfl)) (E83 hp63) ?_
                          refine rn_eg qm 0 (s2 := (309, [(0, .ref 1000000), (1, .ref 0), (2, .ref 318), (3, .int v3)], [.int p63.1, .int p62.1], N, sl, rn_hp p62.2 p63.2)) rfl ?_
                          refine rn_eg qm 1 (s2 := ((if p62.1 = p63.1 then 584 else 310), [(0, .ref 1000000), (1, .ref 0), (2, .ref 318), (3, .int v3)], [], N, sl, rn_hp p62.2 p63.2)) rfl ?_
                          refine rn_ite (fun c64 => ?_) (fun c64 => ?_)
                          · rw [if_pos c64] at h
                            refine rn_eg qm 2 (s2 := (10, [(3, .int (v3 + (5 : Int32))), (0, .ref 1000000), (1, .ref 0), (2, .ref 318)], [], N, sl, rn_hp p62.2 p63.2)) rfl ?_
                            refine rn_kq qm (s2 := (10, [(0, .ref 1000000), (1, .ref 0), (2, .ref 318), (3, .int (v3 + (5 : Int32)))], [], N, sl, rn_hp p62.2 p63.2)) rfl rfl ?_
                            exact ih _ _ _ k R hk h
                          · rw [if_neg c64] at h
                            refine rn_eg qm 1 (s2 := (311, [(0, .ref 1000000), (1, .ref 0), (2, .ref 318), (3, .int v3)], [.int (0 : Int32)], N, sl, rn_hp p62.2 p63.2)) rfl ?_
                            cases h
                            exact rn_er qm rfl rfl rn_rt0
                        · rw [if_neg c59] at h
                          refine rn_ite (fun c65 => ?_) (fun c65 => ?_)
                          · rw [if_pos c65] at h
                            refine rn_eg qm 5 (s2 := (317, [(0, .ref 1000000), (1, .ref 0), (2, .ref 318), (3, .int v3)], [.int (v3 + (1 : Int32)), .ref 1000000, .ref 0], N, sl, rn_hp S M)) rfl ?_
                            have c66 : ¬ (rn_ob (v3 + (1 : Int32)) X.1) := fun c => by rw [if_pos c] at h; cases h
                            rw [if_neg c66] at h
                            refine rn_e1 qm (s2 := (318, [(0, .ref 1000000), (1, .ref 0), (2, .ref 318), (3, .int v3)], [.int (X.2 (Int32.toNatClampNeg (v3 + (1 : Int32)))), .ref 0], N, sl, rn_hp S M)) (rn_g_sald rfl rfl c66) ?_
                            refine rn_eg qm 7 (s2 := (325, [(0, .ref 1000000), (1, .ref 0), (2, .ref 318), (3, .int v3)], [.int (v3 + (2 : Int32)), .ref 1000000, .long ((Int32.toInt64 (X.2 (Int32.toNatClampNeg (v3 + (1 : Int32))))) <<< ((32 : Int32).toInt64 &&& 63)), .ref 0], N, sl, rn_hp S M)) rfl ?_
                            have c67 : ¬ (rn_ob (v3 + (2 : Int32)) X.1) := fun c => by rw [if_pos c] at h; cases h
                            rw [if_neg c67] at h
                            refine rn_e1 qm (s2 := (326, [(0, .ref 1000000), (1, .ref 0), (2, .ref 318), (3, .int v3)], [.int (X.2 (Int32.toNatClampNeg (v3 + (2 : Int32)))), .long ((Int32.toInt64 (X.2 (Int32.toNatClampNeg (v3 + (1 : Int32))))) <<< ((32 : Int32).toInt64 &&& 63)), .ref 0], N, sl, rn_hp S M)) (rn_g_sald rfl rfl c67) ?_
                            refine rn_eg qm 4 (s2 := (330, [(0, .ref 1000000), (1, .ref 0), (2, .ref 318), (3, .int v3)], [.long (((Int32.toInt64 (X.2 (Int32.toNatClampNeg (v3 + (1 : Int32))))) <<< ((32 : Int32).toInt64 &&& 63)) ||| ((Int32.toInt64 (X.2 (Int32.toNatClampNeg (v3 + (2 : Int32))))) &&& (4294967295 : Int64))), .ref 0], N, sl, rn_hp S M)) rfl ?_
                            obtain ⟨p68, hp68, h⟩ := Option.bind_eq_some_iff.mp h
                            refine rn_ec qm rfl rfl rfl rfl rn_m11 rfl rfl rfl (fun _ => rn_rc_of (en_8 (q := 0) rfl)) (E11 hp68) ?_
                            refine rn_eg qm 0 (s2 := (331, [(0, .ref 1000000), (1, .ref 0), (2, .ref 318), (3, .int v3)], [.int p68.1], N, sl, rn_hp p68.2 M)) rfl ?_
                            refine rn_eg qm 5 (s2 := (336, [(0, .ref 1000000), (1, .ref 0), (2, .ref 318), (3, .int v3)], [.int (v3 + (1 : Int32)), .ref 1000000, .ref 318, .int p68.1], N, sl, rn_hp p68.2 M)) rfl ?_
                            refine rn_e1 qm (s2 := (337, [(0, .ref 1000000), (1, .ref 0), (2, .ref 318), (3, .int v3)], [.int (X.2 (Int32.toNatClampNeg (v3 + (1 : Int32)))), .ref 318, .int p68.1], N, sl, rn_hp p68.2 M)) (rn_g_sald rfl rfl c66) ?_
                            refine rn_eg qm 7 (s2 := (344, [(0, .ref 1000000), (1, .ref 0), (2, .ref 318), (3, .int v3)], [.int (v3 + (2 : Int32)), .ref 1000000, .long ((Int32.toInt64 (X.2 (Int32.toNatClampNeg (v3 + (1 : Int32))))) <<< ((32 : Int32).toInt64 &&& 63)), .ref 318, .int p68.1], N, sl, rn_hp p68.2 M)) rfl ?_
                            refine rn_e1 qm (s2 := (345, [(0, .ref 1000000), (1, .ref 0), (2, .ref 318), (3, .int v3)], [.int (X.2 (Int32.toNatClampNeg (v3 + (2 : Int32)))), .long ((Int32.toInt64 (X.2 (Int32.toNatClampNeg (v3 + (1 : Int32))))) <<< ((32 : Int32).toInt64 &&& 63)), .ref 318, .int p68.1], N, sl, rn_hp p68.2 M)) (rn_g_sald rfl rfl c67) ?_
                            refine rn_eg qm 4 (s2 := (349, [(0, .ref 1000000), (1, .ref 0), (2, .ref 318), (3, .int v3)], [.long (((Int32.toInt64 (X.2 (Int32.toNatClampNeg (v3 + (1 : Int32))))) <<< ((32 : Int32).toInt64 &&& 63)) ||| ((Int32.toInt64 (X.2 (Int32.toNatClampNeg (v3 + (2 : Int32))))) &&& (4294967295 : Int64))), .ref 318, .int p68.1], N, sl, rn_hp p68.2 M)) rfl ?_
                            obtain ⟨p69, hp69, h⟩ := Option.bind_eq_some_iff.mp h
                            refine rn_ec qm rfl rfl rfl rfl rn_m84 rfl rfl rfl (fun _ => rn_rc_of (en_9 (q := 318) rfl)) (E84 hp69) ?_
                            refine rn_eg qm 0 (s2 := (350, [(0, .ref 1000000), (1, .ref 0), (2, .ref 318), (3, .int v3)], [.int p69.1, .int p68.1], N, sl, rn_hp p68.2 p69.2)) rfl ?_
                            refine rn_eg qm 1 (s2 := ((if p68.1 = p69.1 then 584 else 351), [(0, .ref 1000000), (1, .ref 0), (2, .ref 318), (3, .int v3)], [], N, sl, rn_hp p68.2 p69.2)) rfl ?_
                            refine rn_ite (fun c70 => ?_) (fun c70 => ?_)
                            · rw [if_pos c70] at h
                              refine rn_eg qm 2 (s2 := (10, [(3, .int (v3 + (5 : Int32))), (0, .ref 1000000), (1, .ref 0), (2, .ref 318)], [], N, sl, rn_hp p68.2 p69.2)) rfl ?_
                              refine rn_kq qm (s2 := (10, [(0, .ref 1000000), (1, .ref 0), (2, .ref 318), (3, .int (v3 + (5 : Int32)))], [], N, sl, rn_hp p68.2 p69.2)) rfl rfl ?_
                              exact ih _ _ _ k R hk h
                            · rw [if_neg c70] at h
                              refine rn_eg qm 1 (s2 := (352, [(0, .ref 1000000), (1, .ref 0), (2, .ref 318), (3, .int v3)], [.int (0 : Int32)], N, sl, rn_hp p68.2 p69.2)) rfl ?_
                              cases h
                              exact rn_er qm rfl rfl rn_rt0
                          · rw [if_neg c65] at h
                            refine rn_ite (fun c71 => ?_) (fun c71 => ?_)
                            · rw [if_pos c71] at h
                              refine rn_eg qm 1 (s2 := (354, [(0, .ref 1000000), (1, .ref 0), (2, .ref 318), (3, .int v3)], [.ref 0], N, sl, rn_hp S M)) rfl ?_
                              obtain ⟨p72, hp72, h⟩ := Option.bind_eq_some_iff.mp h
                              refine rn_ec qm rfl rfl rfl rfl rn_m12 rfl rfl rfl (fun _ => rn_rc_of (en_8 (q := 0) rfl)) (E12 hp72) ?_
                              refine rn_eg qm 0 (s2 := (355, [(0, .ref 1000000), (1, .ref 0), (2, .ref 318), (3, .int v3)], [.int p72.1], N, sl, rn_hp p72.2 M)) rfl ?_
                              refine rn_eg qm 1 (s2 := (356, [(0, .ref 1000000), (1, .ref 0), (2, .ref 318), (3, .int v3)], [.ref 318, .int p72.1], N, sl, rn_hp p72.2 M)) rfl ?_
                              obtain ⟨p73, hp73, h⟩ := Option.bind_eq_some_iff.mp h
                              refine rn_ec qm rfl rfl rfl rfl rn_m85 rfl rfl rfl (fun _ => rn_rc_of (en_9 (q := 318) rfl)) (E85 hp73) ?_
                              refine rn_eg qm 0 (s2 := (357, [(0, .ref 1000000), (1, .ref 0), (2, .ref 318), (3, .int v3)], [.int p73.1, .int p72.1], N, sl, rn_hp p72.2 p73.2)) rfl ?_
                              refine rn_eg qm 1 (s2 := ((if p72.1 = p73.1 then 584 else 358), [(0, .ref 1000000), (1, .ref 0), (2, .ref 318), (3, .int v3)], [], N, sl, rn_hp p72.2 p73.2)) rfl ?_
                              refine rn_ite (fun c74 => ?_) (fun c74 => ?_)
                              · rw [if_pos c74] at h
                                refine rn_eg qm 2 (s2 := (10, [(3, .int (v3 + (5 : Int32))), (0, .ref 1000000), (1, .ref 0), (2, .ref 318)], [], N, sl, rn_hp p72.2 p73.2)) rfl ?_
                                refine rn_kq qm (s2 := (10, [(0, .ref 1000000), (1, .ref 0), (2, .ref 318), (3, .int (v3 + (5 : Int32)))], [], N, sl, rn_hp p72.2 p73.2)) rfl rfl ?_
                                exact ih _ _ _ k R hk h
                              · rw [if_neg c74] at h
                                refine rn_eg qm 1 (s2 := (359, [(0, .ref 1000000), (1, .ref 0), (2, .ref 318), (3, .int v3)], [.int (0 : Int32)], N, sl, rn_hp p72.2 p73.2)) rfl ?_
                                cases h
                                exact rn_er qm rfl rfl rn_rt0
                            · rw [if_neg c71] at h
                              refine rn_ite (fun c75 => ?_) (fun c75 => ?_)
                              · rw [if_pos c75] at h
                                refine rn_eg qm 5 (s2 := (365, [(0, .ref 1000000), (1, .ref 0), (2, .ref 318), (3, .int v3)], [.int (v3 + (1 : Int32)), .ref 1000000, .ref 0], N, sl, rn_hp S M)) rfl ?_
                                have c76 : ¬ (rn_ob (v3 + (1 : Int32)) X.1) := fun c => by rw [if_pos c] at h; cases h
                                rw [if_neg c76] at h
                                refine rn_e1 qm (s2 := (366, [(0, .ref 1000000), (1, .ref 0), (2, .ref 318), (3, .int v3)], [.int (X.2 (Int32.toNatClampNeg (v3 + (1 : Int32)))), .ref 0], N, sl, rn_hp S M)) (rn_g_sald rfl rfl c76) ?_
                                obtain ⟨p77, hp77, h⟩ := Option.bind_eq_some_iff.mp h
                                refine rn_ec qm rfl rfl rfl rfl rn_m13 rfl rfl rfl (fun _ => rn_rc_of (en_8 (q := 0) rfl)) (E13 hp77) ?_
                                refine rn_eg qm 0 (s2 := (367, [(0, .ref 1000000), (1, .ref 0), (2, .ref 318), (3, .int v3)], [.long p77], N, sl, rn_hp S M)) rfl ?_
                                refine rn_eg qm 5 (s2 := (372, [(0, .ref 1000000), (1, .ref 0), (2, .ref 318), (3, .int v3)], [.int (v3 + (1 : Int32)), .ref 1000000, .ref 318, .long p77], N, sl, rn_hp S M)) rfl ?_
                                refine rn_e1 qm (s2 := (373, [(0, .ref 1000000), (1, .ref 0), (2, .ref 318), (3, .int v3)], [.int (X.2 (Int32.toNatClampNeg (v3 + (1 : Int32)))), .ref 318, .long p77], N, sl, rn_hp S M)) (rn_g_sald rfl rfl c76) ?_
                                obtain ⟨p78, hp78, h⟩ := Option.bind_eq_some_iff.mp h
                                refine rn_ec qm rfl rfl rfl rfl rn_m86 rfl rfl rfl (fun _ => rn_rc_of (en_9 (q := 318) rfl)) (E86 hp78) ?_
                                refine rn_eg qm 0 (s2 := (374, [(0, .ref 1000000), (1, .ref 0), (2, .ref 318), (3, .int v3)], [.long p78, .long p77], N, sl, rn_hp S M)) rfl ?_
                                refine rn_eg qm 2 (s2 := ((if (lg_cmp p77 p78) = 0 then 584 else 376), [(0, .ref 1000000), (1, .ref 0), (2, .ref 318), (3, .int v3)], [], N, sl, rn_hp S M)) rfl ?_
                                refine rn_ite (fun c79 => ?_) (fun c79 => ?_)
                                · rw [if_pos c79] at h
                                  refine rn_eg qm 2 (s2 := (10, [(3, .int (v3 + (5 : Int32))), (0, .ref 1000000), (1, .ref 0), (2, .ref 318)], [], N, sl, rn_hp S M)) rfl ?_
                                  refine rn_kq qm (s2 := (10, [(0, .ref 1000000), (1, .ref 0), (2, .ref 318), (3, .int (v3 + (5 : Int32)))], [], N, sl, rn_hp S M)) rfl rfl ?_
                                  exact ih _ _ _ k R hk h
                                · rw [if_neg c79] at h
                                  refine rn_eg qm 1 (s2 := (377, [(0, .ref 1000000), (1, .ref 0), (2, .ref 318), (3, .int v3)], [.int (0 : Int32)], N, sl, rn_hp S M)) rfl ?_
                                  cases h
                                  exact rn_er qm rfl rfl rn_rt0
                              · rw [if_neg c75] at h
                                refine rn_ite (fun c80 => ?_) (fun c80 => ?_)
                                · rw [if_pos c80] at h
                                  refine rn_eg qm 5 (s2 := (383, [(0, .ref 1000000), (1, .ref 0), (2, .ref 318), (3, .int v3)], [.int (v3 + (1 : Int32)), .ref 1000000, .ref 0], N, sl, rn_hp S M)) rfl ?_
                                  have c81 : ¬ (rn_ob (v3 + (1 : Int32)) X.1) := fun c => by rw [if_pos c] at h; cases h
                                  rw [if_neg c81] at h
                                  refine rn_e1 qm (s2 := (384, [(0, .ref 1000000), (1, .ref 0), (2, .ref 318), (3, .int v3)], [.int (X.2 (Int32.toNatClampNeg (v3 + (1 : Int32)))), .ref 0], N, sl, rn_hp S M)) (rn_g_sald rfl rfl c81) ?_
                                  refine rn_eg qm 4 (s2 := (388, [(0, .ref 1000000), (1, .ref 0), (2, .ref 318), (3, .int v3)], [.int (v3 + (2 : Int32)), .ref 1000000, .int (X.2 (Int32.toNatClampNeg (v3 + (1 : Int32)))), .ref 0], N, sl, rn_hp S M)) rfl ?_
                                  have c82 : ¬ (rn_ob (v3 + (2 : Int32)) X.1) := fun c => by rw [if_pos c] at h; cases h
                                  rw [if_neg c82] at h
                                  refine rn_e1 qm (s2 := (389, [(0, .ref 1000000), (1, .ref 0), (2, .ref 318), (3, .int v3)], [.int (X.2 (Int32.toNatClampNeg (v3 + (2 : Int32)))), .int (X.2 (Int32.toNatClampNeg (v3 + (1 : Int32)))), .ref 0], N, sl, rn_hp S M)) (rn_g_sald rfl rfl c82) ?_
                                  refine rn_eg qm 4 (s2 := (393, [(0, .ref 1000000), (1, .ref 0), (2, .ref 318), (3, .int v3)], [.int (v3 + (3 : Int32)), .ref 1000000, .int (X.2 (Int32.toNatClampNeg (v3 + (2 : Int32)))), .int (X.2 (Int32.toNatClampNeg (v3 + (1 : Int32)))), .ref 0], N, sl, rn_hp S M)) rfl ?_
                                  have c83 : ¬ (rn_ob (v3 + (3 : Int32)) X.1) := fun c => by rw [if_pos c] at h; cases h
                                  rw [if_neg c83] at h
                                  refine rn_e1 qm (s2 := (394, [(0, .ref 1000000), (1, .ref 0), (2, .ref 318), (3, .int v3)], [.int (X.2 (Int32.toNatClampNeg (v3 + (3 : Int32)))), .int (X.2 (Int32.toNatClampNeg (v3 + (2 : Int32)))), .int (X.2 (Int32.toNatClampNeg (v3 + (1 : Int32)))), .ref 0], N, sl, rn_hp S M)) (rn_g_sald rfl rfl c83) ?_
                                  obtain ⟨p84, hp84, h⟩ := Option.bind_eq_some_iff.mp h
                                  refine rn_ec qm rfl rfl rfl rfl rn_m14 rfl rfl rfl (fun _ => rn_rc_of (en_8 (q := 0) rfl)) (E14 hp84) ?_
                                  refine rn_eg qm 0 (s2 := (395, [(0, .ref 1000000), (1, .ref 0), (2, .ref 318), (3, .int v3)], [.int p84.1], N, sl, rn_hp p84.2 M)) rfl ?_
                                  refine rn_eg qm 5 (s2 := (400, [(0, .ref 1000000), (1, .ref 0), (2, .ref 318), (3, .int v3)], [.int (v3 + (1 : Int32)), .ref 1000000, .ref 318, .int p84.1], N, sl, rn_hp p84.2 M)) rfl ?_
                                  refine rn_e1 qm (s2 := (401, [(0, .ref 1000000), (1, .ref 0), (2, .ref 318), (3, .int v3)], [.int (X.2 (Int32.toNatClampNeg (v3 + (1 : Int32)))), .ref 318, .int p84.1], N, sl, rn_hp p84.2 M)) (rn_g_sald rfl rfl c81) ?_
                                  refine rn_eg qm 4 (s2 := (405, [(0, .ref 1000000), (1, .ref 0), (2, .ref 318), (3, .int v3)], [.int (v3 + (2 : Int32)), .ref 1000000, .int (X.2 (Int32.toNatClampNeg (v3 + (1 : Int32)))), .ref 318, .int p84.1], N, sl, rn_hp p84.2 M)) rfl ?_
                                  refine rn_e1 qm (s2 := (406, [(0, .ref 1000000), (1, .ref 0), (2, .ref 318), (3, .int v3)], [.int (X.2 (Int32.toNatClampNeg (v3 + (2 : Int32)))), .int (X.2 (Int32.toNatClampNeg (v3 + (1 : Int32)))), .ref 318, .int p84.1], N, sl, rn_hp p84.2 M)) (rn_g_sald rfl rfl c82) ?_
                                  refine rn_eg qm 4 (s2 := (410, [(0, .ref 1000000), (1, .ref 0), (2, .ref 318), (3, .int v3)], [.int (v3 + (3 : Int32)), .ref 1000000, .int (X.2 (Int32.toNatClampNeg (v3 + (2 : Int32)))), .int (X.2 (Int32.toNatClampNeg (v3 + (1 : Int32)))), .ref 318, .int p84.1], N, sl, rn_hp p84.2 M)) rfl ?_
                                  refine rn_e1 qm (s2 := (411, [(0, .ref 1000000), (1, .ref 0), (2, .ref 318), (3, .int v3)], [.int (X.2 (Int32.toNatClampNeg (v3 + (3 : Int32)))), .int (X.2 (Int32.toNatClampNeg (v3 + (2 : Int32)))), .int (X.2 (Int32.toNatClampNeg (v3 + (1 : Int32)))), .ref 318, .int p84.1], N, sl, rn_hp p84.2 M)) (rn_g_sald rfl rfl c83) ?_
                                  obtain ⟨p85, hp85, h⟩ := Option.bind_eq_some_iff.mp h
                                  refine rn_ec qm rfl rfl rfl rfl rn_m94 rfl rfl rfl (fun _ => rn_rc_of (en_9 (q := 318) rfl)) (E94 hp85) ?_
                                  refine rn_eg qm 0 (s2 := (412, [(0, .ref 1000000), (1, .ref 0), (2, .ref 318), (3, .int v3)], [.int p85.1, .int p84.1], N, sl, rn_hp p84.2 p85.2)) rfl ?_
                                  refine rn_eg qm 1 (s2 := ((if p84.1 = p85.1 then 584 else 413), [(0, .ref 1000000), (1, .ref 0), (2, .ref 318), (3, .int v3)], [], N, sl, rn_hp p84.2 p85.2)) rfl ?_
                                  refine rn_ite (fun c86 => ?_) (fun c86 => ?_)
                                  · rw [if_pos c86] at h
                                    refine rn_eg qm 2 (s2 := (10, [(3, .int (v3 + (5 : Int32))), (0, .ref 1000000), (1, .ref 0), (2, .ref 318)], [], N, sl, rn_hp p84.2 p85.2)) rfl ?_
                                    refine rn_kq qm (s2 := (10, [(0, .ref 1000000), (1, .ref 0), (2, .ref 318), (3, .int (v3 + (5 : Int32)))], [], N, sl, rn_hp p84.2 p85.2)) rfl rfl ?_
                                    exact ih _ _ _ k R hk h
                                  · rw [if_neg c86] at h
                                    refine rn_eg qm 1 (s2 := (414, [(0, .ref 1000000), (1, .ref 0), (2, .ref 318), (3, .int v3)], [.int (0 : Int32)], N, sl, rn_hp p84.2 p85.2)) rfl ?_
                                    cases h
                                    exact rn_er qm rfl rfl rn_rt0
                                · rw [if_neg c80] at h
                                  refine rn_ite (fun c87 => ?_) (fun c87 => ?_)
                                  · rw [if_pos c87] at h
                                    refine rn_eg qm 5 (s2 := (420, [(0, .ref 1000000), (1, .ref 0), (2, .ref 318), (3, .int v3)], [.int (v3 + (1 : Int32)), .ref 1000000, .ref 0], N, sl, rn_hp S M)) rfl ?_
                                    have c88 : ¬ (rn_ob (v3 + (1 : Int32)) X.1) := fun c => by rw [if_pos c] at h; cases h
                                    rw [if_neg c88] at h
                                    refine rn_e1 qm (s2 := (421, [(0, .ref 1000000), (1, .ref 0), (2, .ref 318), (3, .int v3)], [.int (X.2 (Int32.toNatClampNeg (v3 + (1 : Int32)))), .ref 0], N, sl, rn_hp S M)) (rn_g_sald rfl rfl c88) ?_
                                    refine rn_eg qm 4 (s2 := (425, [(0, .ref 1000000), (1, .ref 0), (2, .ref 318), (3, .int v3)], [.int (v3 + (2 : Int32)), .ref 1000000, .int (X.2 (Int32.toNatClampNeg (v3 + (1 : Int32)))), .ref 0], N, sl, rn_hp S M)) rfl ?_
                                    have c89 : ¬ (rn_ob (v3 + (2 : Int32)) X.1) := fun c => by rw [if_pos c] at h; cases h
                                    rw [if_neg c89] at h
                                    refine rn_e1 qm (s2 := (426, [(0, .ref 1000000), (1, .ref 0), (2, .ref 318), (3, .int v3)], [.int (X.2 (Int32.toNatClampNeg (v3 + (2 : Int32)))), .int (X.2 (Int32.toNatClampNeg (v3 + (1 : Int32)))), .ref 0], N, sl, rn_hp S M)) (rn_g_sald rfl rfl c89) ?_
                                    refine rn_eg qm 4 (s2 := (430, [(0, .ref 1000000), (1, .ref 0), (2, .ref 318), (3, .int v3)], [.int (v3 + (3 : Int32)), .ref 1000000, .int (X.2 (Int32.toNatClampNeg (v3 + (2 : Int32)))), .int (X.2 (Int32.toNatClampNeg (v3 + (1 : Int32)))), .ref 0], N, sl, rn_hp S M)) rfl ?_
                                    have c90 : ¬ (rn_ob (v3 + (3 : Int32)) X.1) := fun c => by rw [if_pos c] at h; cases h
                                    rw [if_neg c90] at h
                                    refine rn_e1 qm (s2 := (431, [(0, .ref 1000000), (1, .ref 0), (2, .ref 318), (3, .int v3)], [.int (X.2 (Int32.toNatClampNeg (v3 + (3 : Int32)))), .int (X.2 (Int32.toNatClampNeg (v3 + (2 : Int32)))), .int (X.2 (Int32.toNatClampNeg (v3 + (1 : Int32)))), .ref 0], N, sl, rn_hp S M)) (rn_g_sald rfl rfl c90) ?_
                                    obtain ⟨p91, hp91, h⟩ := Option.bind_eq_some_iff.mp h
                                    refine rn_ec qm rfl rfl rfl rfl rn_m15 rfl rfl rfl (fun _ => rn_rc_of (en_8 (q := 0) rfl)) (E15 hp91) ?_
                                    refine rn_eg qm 0 (s2 := (432, [(0, .ref 1000000), (1, .ref 0), (2, .ref 318), (3, .int v3)], [.int p91.1], N, sl, rn_hp p91.2 M)) rfl ?_
                                    refine rn_eg qm 5 (s2 := (437, [(0, .ref 1000000), (1, .ref 0), (2, .ref 318), (3, .int v3)], [.int (v3 + (1 : Int32)), .ref 1000000, .ref 318, .int p91.1], N, sl, rn_hp p91.2 M)) rfl ?_
                                    refine rn_e1 qm (s2 := (438, [(0, .ref 1000000), (1, .ref 0), (2, .ref 318), (3, .int v3)], [.int (X.2 (Int32.toNatClampNeg (v3 + (1 : Int32)))), .ref 318, .int p91.1], N, sl, rn_hp p91.2 M)) (rn_g_sald rfl rfl c88) ?_
                                    refine rn_eg qm 4 (s2 := (442, [(0, .ref 1000000), (1, .ref 0), (2, .ref 318), (3, .int v3)], [.int (v3 + (2 : Int32)), .ref 1000000, .int (X.2 (Int32.toNatClampNeg (v3 + (1 : Int32)))), .ref 318, .int p91.1], N, sl, rn_hp p91.2 M)) rfl ?_
                                    refine rn_e1 qm (s2 := (443, [(0, .ref 1000000), (1, .ref 0), (2, .ref 318), (3, .int v3)], [.int (X.2 (Int32.toNatClampNeg (v3 + (2 : Int32)))), .int (X.2 (Int32.toNatClampNeg (v3 + (1 : Int32)))), .ref 318, .int p91.1], N, sl, rn_hp p91.2 M)) (rn_g_sald rfl rfl c89) ?_
                                    refine rn_eg qm 4 (s2 := (447, [(0, .ref 1000000), (1, .ref 0), (2, .ref 318), (3, .int v3)], [.int (v3 + (3 : Int32)), .ref 1000000, .int (X.2 (Int32.toNatClampNeg (v3 + (2 : Int32)))), .int (X.2 (Int32.toNatClampNeg (v3 + (1 : Int32)))), .ref 318, .int p91.1], N, sl, rn_hp p91.2 M)) rfl ?_
                                    refine rn_e1 qm (s2 := (448, [(0, .ref 1000000), (1, .ref 0), (2, .ref 318), (3, .int v3)], [.int (X.2 (Int32.toNatClampNeg (v3 + (3 : Int32)))), .int (X.2 (Int32.toNatClampNeg (v3 + (2 : Int32)))), .int (X.2 (Int32.toNatClampNeg (v3 + (1 : Int32)))), .ref 318, .int p91.1], N, sl, rn_hp p91.2 M)) (rn_g_sald rfl rfl c90) ?_
                                    obtain ⟨p92, hp92, h⟩ := Option.bind_eq_some_iff.mp h
                                    refine rn_ec qm rfl rfl rfl rfl rn_m99 rfl rfl rfl (fun _ => rn_rc_of (en_9 (q := 318) rfl)) (E99 hp92) ?_
                                    refine rn_eg qm 0 (s2 := (449, [(0, .ref 1000000), (1, .ref 0), (2, .ref 318), (3, .int v3)], [.int p92.1, .int p91.1], N, sl, rn_hp p91.2 p92.2)) rfl ?_
                                    refine rn_eg qm 1 (s2 := ((if p91.1 = p92.1 then 584 else 450), [(0, .ref 1000000), (1, .ref 0), (2, .ref 318), (3, .int v3)], [], N, sl, rn_hp p91.2 p92.2)) rfl ?_
                                    refine rn_ite (fun c93 => ?_) (fun c93 => ?_)
                                    · rw [if_pos c93] at h
                                      refine rn_eg qm 2 (s2 := (10, [(3, .int (v3 + (5 : Int32))), (0, .ref 1000000), (1, .ref 0), (2, .ref 318)], [], N, sl, rn_hp p91.2 p92.2)) rfl ?_
                                      refine rn_kq qm (s2 := (10, [(0, .ref 1000000), (1, .ref 0), (2, .ref 318), (3, .int (v3 + (5 : Int32)))], [], N, sl, rn_hp p91.2 p92.2)) rfl rfl ?_
                                      exact ih _ _ _ k R hk h
                                    · rw [if_neg c93] at h
                                      refine rn_eg qm 1 (s2 := (451, [(0, .ref 1000000), (1, .ref 0), (2, .ref 318), (3, .int v3)], [.int (0 : Int32)], N, sl, rn_hp p91.2 p92.2)) rfl ?_
                                      cases h
                                      exact rn_er qm rfl rfl rn_rt0
                                  · rw [if_neg c87] at h
                                    refine rn_ite (fun c94 => ?_) (fun c94 => ?_)
                                    · rw [if_pos c94] at h
                                      refine rn_eg qm 5 (s2 := (457, [(0, .ref 1000000), (1, .ref 0), (2, .ref 318), (3, .int v3)], [.int (v3 + (1 : Int32)), .ref 1000000, .ref 0], N, sl, rn_hp S M)) rfl ?_
                                      have c95 : ¬ (rn_ob (v3 + (1 : Int32)) X.1) := fun c => by rw [if_pos c] at h; cases h
                                      rw [if_neg c95] at h
                                      refine rn_e1 qm (s2 := (458, [(0, .ref 1000000), (1, .ref 0), (2, .ref 318), (3, .int v3)], [.int (X.2 (Int32.toNatClampNeg (v3 + (1 : Int32)))), .ref 0], N, sl, rn_hp S M)) (rn_g_sald rfl rfl c95) ?_
                                      refine rn_eg qm 4 (s2 := (462, [(0, .ref 1000000), (1, .ref 0), (2, .ref 318), (3, .int v3)], [.int (v3 + (2 : Int32)), .ref 1000000, .int (X.2 (Int32.toNatClampNeg (v3 + (1 : Int32)))), .ref 0], N, sl, rn_hp S M)) rfl ?_
                                      have c96 : ¬ (rn_ob (v3 + (2 : Int32)) X.1) := fun c => by rw [if_pos c] at h; cases h
                                      rw [if_neg c96] at h
                                      refine rn_e1 qm (s2 := (463, [(0, .ref 1000000), (1, .ref 0), (2, .ref 318), (3, .int v3)], [.int (X.2 (Int32.toNatClampNeg (v3 + (2 : Int32)))), .int (X.2 (Int32.toNatClampNeg (v3 + (1 : Int32)))), .ref 0], N, sl, rn_hp S M)) (rn_g_sald rfl rfl c96) ?_
                                      refine rn_eg qm 4 (s2 := (467, [(0, .ref 1000000), (1, .ref 0), (2, .ref 318), (3, .int v3)], [.int (v3 + (3 : Int32)), .ref 1000000, .int (X.2 (Int32.toNatClampNeg (v3 + (2 : Int32)))), .int (X.2 (Int32.toNatClampNeg (v3 + (1 : Int32)))), .ref 0], N, sl, rn_hp S M)) rfl ?_
                                      have c97 : ¬ (rn_ob (v3 + (3 : Int32)) X.1) := fun c => by rw [if_pos c] at h; cases h
                                      rw [if_neg c97] at h
                                      refine rn_e1 qm (s2 := (468, [(0, .ref 1000000), (1, .ref 0), (2, .ref 318), (3, .int v3)], [.int (X.2 (Int32.toNatClampNeg (v3 + (3 : Int32)))), .int (X.2 (Int32.toNatClampNeg (v3 + (2 : Int32)))), .int (X.2 (Int32.toNatClampNeg (v3 + (1 : Int32)))), .ref 0], N, sl, rn_hp S M)) (rn_g_sald rfl rfl c97) ?_
                                      obtain ⟨p98, hp98, h⟩ := Option.bind_eq_some_iff.mp h
                                      refine rn_ec qm rfl rfl rfl rfl rn_m16 rfl rfl rfl (fun _ => rn_rc_of (en_8 (q := 0) rfl)) (E16 hp98) ?_
                                      refine rn_eg qm 0 (s2 := (469, [(0, .ref 1000000), (1, .ref 0), (2, .ref 318), (3, .int v3)], [.int p98.1], N, sl, rn_hp p98.2 M)) rfl ?_
                                      refine rn_eg qm 5 (s2 := (474, [(0, .ref 1000000), (1, .ref 0), (2, .ref 318), (3, .int v3)], [.int (v3 + (1 : Int32)), .ref 1000000, .ref 318, .int p98.1], N, sl, rn_hp p98.2 M)) rfl ?_
                                      refine rn_e1 qm (s2 := (475, [(0, .ref 1000000), (1, .ref 0), (2, .ref 318), (3, .int v3)], [.int (X.2 (Int32.toNatClampNeg (v3 + (1 : Int32)))), .ref 318, .int p98.1], N, sl, rn_hp p98.2 M)) (rn_g_sald rfl rfl c95) ?_
                                      refine rn_eg qm 4 (s2 := (479, [(0, .ref 1000000), (1, .ref 0), (2, .ref 318), (3, .int v3)], [.int (v3 + (2 : Int32)), .ref 1000000, .int (X.2 (Int32.toNatClampNeg (v3 + (1 : Int32)))), .ref 318, .int p98.1], N, sl, rn_hp p98.2 M)) rfl ?_
                                      refine rn_e1 qm (s2 := (480, [(0, .ref 1000000), (1, .ref 0), (2, .ref 318), (3, .int v3)], [.int (X.2 (Int32.toNatClampNeg (v3 + (2 : Int32)))), .int (X.2 (Int32.toNatClampNeg (v3 + (1 : Int32)))), .ref 318, .int p98.1], N, sl, rn_hp p98.2 M)) (rn_g_sald rfl rfl c96) ?_
                                      refine rn_eg qm 4 (s2 := (484, [(0, .ref 1000000), (1, .ref 0), (2, .ref 318), (3, .int v3)], [.int (v3 + (3 : Int32)), .ref 1000000, .int (X.2 (Int32.toNatClampNeg (v3 + (2 : Int32)))), .int (X.2 (Int32.toNatClampNeg (v3 + (1 : Int32)))), .ref 318, .int p98.1], N, sl, rn_hp p98.2 M)) rfl ?_
                                      refine rn_e1 qm (s2 := (485, [(0, .ref 1000000), (1, .ref 0), (2, .ref 318), (3, .int v3)], [.int (X.2 (Int32.toNatClampNeg (v3 + (3 : Int32)))), .int (X.2 (Int32.toNatClampNeg (v3 + (2 : Int32)))), .int (X.2 (Int32.toNatClampNeg (v3 + (1 : Int32)))), .ref 318, .int p98.1], N, sl, rn_hp p98.2 M)) (rn_g_sald rfl rfl c97) ?_
                                      obtain ⟨p99, hp99, h⟩ := Option.bind_eq_some_iff.mp h
                                      refine rn_ec qm rfl rfl rfl rfl rn_m100 rfl rfl rfl (fun _ => rn_rc_of (en_9 (q := 318) rfl)) (E100 hp99) ?_
                                      refine rn_eg qm 0 (s2 := (486, [(0, .ref 1000000), (1, .ref 0), (2, .ref 318), (3, .int v3)], [.int p99.1, .int p98.1], N, sl, rn_hp p98.2 p99.2)) rfl ?_
                                      refine rn_eg qm 1 (s2 := ((if p98.1 = p99.1 then 584 else 487), [(0, .ref 1000000), (1, .ref 0), (2, .ref 318), (3, .int v3)], [], N, sl, rn_hp p98.2 p99.2)) rfl ?_
                                      refine rn_ite (fun c100 => ?_) (fun c100 => ?_)
                                      · rw [if_pos c100] at h
                                        refine rn_eg qm 2 (s2 := (10, [(3, .int (v3 + (5 : Int32))), (0, .ref 1000000), (1, .ref 0), (2, .ref 318)], [], N, sl, rn_hp p98.2 p99.2)) rfl ?_
                                        refine rn_kq qm (s2 := (10, [(0, .ref 1000000), (1, .ref 0), (2, .ref 318), (3, .int (v3 + (5 : Int32)))], [], N, sl, rn_hp p98.2 p99.2)) rfl rfl ?_
                                        exact ih _ _ _ k R hk h
                                      · rw [if_neg c100] at h
                                        refine rn_eg qm 1 (s2 := (488, [(0, .ref 1000000), (1, .ref 0), (2, .ref 318), (3, .int v3)], [.int (0 : Int32)], N, sl, rn_hp p98.2 p99.2)) rfl ?_
                                        cases h
                                        exact rn_er qm rfl rfl rn_rt0
                                    · rw [if_neg c94] at h
                                      refine rn_ite (fun c101 => ?_) (fun c101 => ?_)
                                      · rw [if_pos c101] at h
                                        refine rn_eg qm 5 (s2 := (494, [(0, .ref 1000000), (1, .ref 0), (2, .ref 318), (3, .int v3)], [.int (v3 + (1 : Int32)), .ref 1000000, .ref 0], N, sl, rn_hp S M)) rfl ?_
                                        have c102 : ¬ (rn_ob (v3 + (1 : Int32)) X.1) := fun c => by rw [if_pos c] at h; cases h
                                        rw [if_neg c102] at h
                                        refine rn_e1 qm (s2 := (495, [(0, .ref 1000000), (1, .ref 0), (2, .ref 318), (3, .int v3)], [.int (X.2 (Int32.toNatClampNeg (v3 + (1 : Int32)))), .ref 0], N, sl, rn_hp S M)) (rn_g_sald rfl rfl c102) ?_
                                        refine rn_eg qm 4 (s2 := (499, [(0, .ref 1000000), (1, .ref 0), (2, .ref 318), (3, .int v3)], [.int (v3 + (2 : Int32)), .ref 1000000, .int (X.2 (Int32.toNatClampNeg (v3 + (1 : Int32)))), .ref 0], N, sl, rn_hp S M)) rfl ?_
                                        have c103 : ¬ (rn_ob (v3 + (2 : Int32)) X.1) := fun c => by rw [if_pos c] at h; cases h
                                        rw [if_neg c103] at h
                                        refine rn_e1 qm (s2 := (500, [(0, .ref 1000000), (1, .ref 0), (2, .ref 318), (3, .int v3)], [.int (X.2 (Int32.toNatClampNeg (v3 + (2 : Int32)))), .int (X.2 (Int32.toNatClampNeg (v3 + (1 : Int32)))), .ref 0], N, sl, rn_hp S M)) (rn_g_sald rfl rfl c103) ?_
                                        obtain ⟨p104, hp104, h⟩ := Option.bind_eq_some_iff.mp h
                                        refine rn_ec qm rfl rfl rfl rfl rn_m17 rfl rfl rfl (fun _ => rn_rc_of (en_8 (q := 0) rfl)) (E17 hp104) ?_
                                        refine rn_eg qm 0 (s2 := (501, [(0, .ref 1000000), (1, .ref 0), (2, .ref 318), (3, .int v3)], [.int p104.1], N, sl, rn_hp p104.2 M)) rfl ?_
                                        refine rn_eg qm 5 (s2 := (506, [(0, .ref 1000000), (1, .ref 0), (2, .ref 318), (3, .int v3)], [.int (v3 + (1 : Int32)), .ref 1000000, .ref 318, .int p104.1], N, sl, rn_hp p104.2 M)) rfl ?_
                                        refine rn_e1 qm (s2 := (507, [(0, .ref 1000000), (1, .ref 0), (2, .ref 318), (3, .int v3)], [.int (X.2 (Int32.toNatClampNeg (v3 + (1 : Int32)))), .ref 318, .int p104.1], N, sl, rn_hp p104.2 M)) (rn_g_sald rfl rfl c102) ?_
                                        refine rn_eg qm 4 (s2 := (511, [(0, .ref 1000000), (1, .ref 0), (2, .ref 318), (3, .int v3)], [.int (v3 + (2 : Int32)), .ref 1000000, .int (X.2 (Int32.toNatClampNeg (v3 + (1 : Int32)))), .ref 318, .int p104.1], N, sl, rn_hp p104.2 M)) rfl ?_
                                        refine rn_e1 qm (s2 := (512, [(0, .ref 1000000), (1, .ref 0), (2, .ref 318), (3, .int v3)], [.int (X.2 (Int32.toNatClampNeg (v3 + (2 : Int32)))), .int (X.2 (Int32.toNatClampNeg (v3 + (1 : Int32)))), .ref 318, .int p104.1], N, sl, rn_hp p104.2 M)) (rn_g_sald rfl rfl c103) ?_
                                        obtain ⟨p105, hp105, h⟩ := Option.bind_eq_some_iff.mp h
                                        refine rn_ec qm rfl rfl rfl rfl rn_m101 rfl rfl rfl (fun _ => rn_rc_of (en_9 (q := 318) rfl)) (E101 hp105) ?_
                                        refine rn_eg qm 0 (s2 := (513, [(0, .ref 1000000), (1, .ref 0), (2, .ref 318), (3, .int v3)], [.int p105.1, .int p104.1], N, sl, rn_hp p104.2 p105.2)) rfl ?_
                                        refine rn_eg qm 1 (s2 := ((if p104.1 = p105.1 then 584 else 514), [(0, .ref 1000000), (1, .ref 0), (2, .ref 318), (3, .int v3)], [], N, sl, rn_hp p104.2 p105.2)) rfl ?_
                                        refine rn_ite (fun c106 => ?_) (fun c106 => ?_)
                                        · rw [if_pos c106] at h
                                          refine rn_eg qm 2 (s2 := (10, [(3, .int (v3 + (5 : Int32))), (0, .ref 1000000), (1, .ref 0), (2, .ref 318)], [], N, sl, rn_hp p104.2 p105.2)) rfl ?_
                                          refine rn_kq qm (s2 := (10, [(0, .ref 1000000), (1, .ref 0), (2, .ref 318), (3, .int (v3 + (5 : Int32)))], [], N, sl, rn_hp p104.2 p105.2)) rfl rfl ?_
                                          exact ih _ _ _ k R hk h
                                        · rw [if_neg c106] at h
                                          refine rn_eg qm 1 (s2 := (515, [(0, .ref 1000000), (1, .ref 0), (2, .ref 318), (3, .int v3)], [.int (0 : Int32)], N, sl, rn_hp p104.2 p105.2)) rfl ?_
                                          cases h
                                          exact rn_er qm rfl rfl rn_rt0
                                      · rw [if_neg c101] at h
                                        refine rn_ite (fun c107 => ?_) (fun c107 => ?_)
                                        · rw [if_pos c107] at h
                                          refine rn_eg qm 5 (s2 := (521, [(0, .ref 1000000), (1, .ref 0), (2, .ref 318), (3, .int v3)], [.int (v3 + (1 : Int32)), .ref 1000000, .ref 0], N, sl, rn_hp S M)) rfl ?_
                                          have c108 : ¬ (rn_ob (v3 + (1 : Int32)) X.1) := fun c => by rw [if_pos c] at h; cases h
                                          rw [if_neg c108] at h
                                          refine rn_e1 qm (s2 := (522, [(0, .ref 1000000), (1, .ref 0), (2, .ref 318), (3, .int v3)], [.int (X.2 (Int32.toNatClampNeg (v3 + (1 : Int32)))), .ref 0], N, sl, rn_hp S M)) (rn_g_sald rfl rfl c108) ?_
                                          obtain ⟨p109, hp109, h⟩ := Option.bind_eq_some_iff.mp h
                                          refine rn_ec qm rfl rfl rfl rfl rn_m18 rfl rfl rfl (fun _ => rn_rc_of (en_8 (q := 0) rfl)) (E18 hp109) ?_
                                          refine rn_eg qm 0 (s2 := (523, [(0, .ref 1000000), (1, .ref 0), (2, .ref 318), (3, .int v3)], [.int p109], N, sl, rn_hp S M)) rfl ?_
                                          refine rn_eg qm 5 (s2 := (528, [(0, .ref 1000000), (1, .ref 0), (2, .ref 318), (3, .int v3)], [.int (v3 + (1 : Int32)), .ref 1000000, .ref 318, .int p109], N, sl, rn_hp S M)) rfl ?_
                                          refine rn_e1 qm (s2 := (529, [(0, .ref 1000000), (1, .ref 0), (2, .ref 318), (3, .int v3)], [.int (X.2 (Int32.toNatClampNeg (v3 + (1 : Int32)))), .ref 318, .int p109], N, sl, rn_hp S M)) (rn_g_sald rfl rfl c108) ?_
                                          obtain ⟨p110, hp110, h⟩ := Option.bind_eq_some_iff.mp h
                                          refine rn_ec qm rfl rfl rfl rfl rn_m102 rfl rfl rfl (fun _ => rn_rc_of (en_9 (q := 318) rfl)) (E102 hp110) ?_
                                          refine rn_eg qm 0 (s2 := (530, [(0, .ref 1000000), (1, .ref 0), (2, .ref 318), (3, .int v3)], [.int p110, .int p109], N, sl, rn_hp S M)) rfl ?_
                                          refine rn_eg qm 1 (s2 := ((if p109 = p110 then 584 else 531), [(0, .ref 1000000), (1, .ref 0), (2, .ref 318), (3, .int v3)], [], N, sl, rn_hp S M)) rfl ?_
                                          refine rn_ite (fun c111 => ?_) (fun c111 => ?_)
                                          · rw [if_pos c111] at h
                                            refine rn_eg qm 2 (s2 := (10, [(3, .int (v3 + (5 : Int32))), (0, .ref 1000000), (1, .ref 0), (2, .ref 318)], [], N, sl, rn_hp S M)) rfl ?_
                                            refine rn_kq qm (s2 := (10, [(0, .ref 1000000), (1, .ref 0), (2, .ref 318), (3, .int (v3 + (5 : Int32)))], [], N, sl, rn_hp S M)) rfl rfl ?_
                                            exact ih _ _ _ k R hk h
                                          · rw [if_neg c111] at h
                                            refine rn_eg qm 1 (s2 := (532, [(0, .ref 1000000), (1, .ref 0), (2, .ref 318), (3, .int v3)], [.int (0 : Int32)], N, sl, rn_hp S M)) rfl ?_
                                            cases h
                                            exact rn_er qm rfl rfl rn_rt0
                                        · rw [if_neg c107] at h
                                          refine rn_ite (fun c112 => ?_) (fun c112 => ?_)
                                          · rw [if_pos c112] at h
                                            refine rn_eg qm 5 (s2 := (538, [(0, .ref 1000000), (1, .ref 0), (2, .ref 318), (3, .int v3)], [.int (v3 + (1 : Int32)), .ref 1000000, .ref 0], N, sl, rn_hp S M)) rfl ?_
                                            have c113 : ¬ (rn_ob (v3 + (1 : Int32)) X.1) := fun c => by rw [if_pos c] at h; cases h
                                            rw [if_neg c113] at h
                                            refine rn_e1 qm (s2 := (539, [(0, .ref 1000000), (1, .ref 0), (2, .ref 318), (3, .int v3)], [.int (X.2 (Int32.toNatClampNeg (v3 + (1 : Int32)))), .ref 0], N, sl, rn_hp S M)) (rn_g_sald rfl rfl c113) ?_
                                            obtain ⟨p114, hp114, h⟩ := Option.bind_eq_some_iff.mp h
                                            refine rn_ec qm rfl rfl rfl rfl rn_m19 rfl rfl rfl (fun _ => rn_rc_of (en_8 (q := 0) rfl)) (E19 hp114) ?_
                                            refine rn_eg qm 0 (s2 := (540, [(0, .ref 1000000), (1, .ref 0), (2, .ref 318), (3, .int v3)], [.int p114.1], N, sl, rn_hp p114.2 M)) rfl ?_
                                            refine rn_eg qm 5 (s2 := (545, [(0, .ref 1000000), (1, .ref 0), (2, .ref 318), (3, .int v3)], [.int (v3 + (1 : Int32)), .ref 1000000, .ref 318, .int p114.1], N, sl, rn_hp p114.2 M)) rfl ?_
                                            refine rn_e1 qm (s2 := (546, [(0, .ref 1000000), (1, .ref 0), (2, .ref 318), (3, .int v3)], [.int (X.2 (Int32.toNatClampNeg (v3 + (1 : Int32)))), .ref 318, .int p114.1], N, sl, rn_hp p114.2 M)) (rn_g_sald rfl rfl c113) ?_
                                            obtain ⟨p115, hp115, h⟩ := Option.bind_eq_some_iff.mp h
                                            refine rn_ec qm rfl rfl rfl rfl rn_m106 rfl rfl rfl (fun _ => rn_rc_of (en_9 (q := 318) rfl)) (E106 hp115) ?_
                                            refine rn_eg qm 0 (s2 := (547, [(0, .ref 1000000), (1, .ref 0), (2, .ref 318), (3, .int v3)], [.int p115.1, .int p114.1], N, sl, rn_hp p114.2 p115.2)) rfl ?_
                                            refine rn_eg qm 1 (s2 := ((if p114.1 = p115.1 then 584 else 548), [(0, .ref 1000000), (1, .ref 0), (2, .ref 318), (3, .int v3)], [], N, sl, rn_hp p114.2 p115.2)) rfl ?_
                                            refine rn_ite (fun c116 => ?_) (fun c116 => ?_)
                                            · rw [if_pos c116] at h
                                              refine rn_eg qm 2 (s2 := (10, [(3, .int (v3 + (5 : Int32))), (0, .ref 1000000), (1, .ref 0), (2, .ref 318)], [], N, sl, rn_hp p114.2 p115.2)) rfl ?_
                                              refine rn_kq qm (s2 := (10, [(0, .ref 1000000), (1, .ref 0), (2, .ref 318), (3, .int (v3 + (5 : Int32)))], [], N, sl, rn_hp p114.2 p115.2)) rfl rfl ?_
                                              exact ih _ _ _ k R hk h
                                            · rw [if_neg c116] at h
                                              refine rn_eg qm 1 (s2 := (549, [(0, .ref 1000000), (1, .ref 0), (2, .ref 318), (3, .int v3)], [.int (0 : Int32)], N, sl, rn_hp p114.2 p115.2)) rfl ?_
                                              cases h
                                              exact rn_er qm rfl rfl rn_rt0
                                          · rw [if_neg c112] at h
                                            refine rn_ite (fun c117 => ?_) (fun c117 => ?_)
                                            · rw [if_pos c117] at h
                                              refine rn_eg qm 5 (s2 := (555, [(0, .ref 1000000), (1, .ref 0), (2, .ref 318), (3, .int v3)], [.int (v3 + (1 : Int32)), .ref 1000000, .ref 0], N, sl, rn_hp S M)) rfl ?_
                                              have c118 : ¬ (rn_ob (v3 + (1 : Int32)) X.1) := fun c => by rw [if_pos c] at h; cases h
                                              rw [if_neg c118] at h
                                              refine rn_e1 qm (s2 := (556, [(0, .ref 1000000), (1, .ref 0), (2, .ref 318), (3, .int v3)], [.int (X.2 (Int32.toNatClampNeg (v3 + (1 : Int32)))), .ref 0], N, sl, rn_hp S M)) (rn_g_sald rfl rfl c118) ?_
                                              obtain ⟨p119, hp119, h⟩ := Option.bind_eq_some_iff.mp h
                                              refine rn_ec qm rfl rfl rfl rfl rn_m20 rfl rfl rfl (fun _ => rn_rc_of (en_8 (q := 0) rfl)) (E20 hp119) ?_
                                              refine rn_eg qm 0 (s2 := (557, [(0, .ref 1000000), (1, .ref 0), (2, .ref 318), (3, .int v3)], [.int p119.1], N, sl, rn_hp p119.2 M)) rfl ?_
                                              refine rn_eg qm 5 (s2 := (562, [(0, .ref 1000000), (1, .ref 0), (2, .ref 318), (3, .int v3)], [.int (v3 + (1 : Int32)), .ref 1000000, .ref 318, .int p119.1], N, sl, rn_hp p119.2 M)) rfl ?_
                                              refine rn_e1 qm (s2 := (563, [(0, .ref 1000000), (1, .ref 0), (2, .ref 318), (3, .int v3)], [.int (X.2 (Int32.toNatClampNeg (v3 + (1 : Int32)))), .ref 318, .int p119.1], N, sl, rn_hp p119.2 M)) (rn_g_sald rfl rfl c118) ?_
                                              obtain ⟨p120, hp120, h⟩ := Option.bind_eq_some_iff.mp h
                                              refine rn_ec qm rfl rfl rfl rfl rn_m107 rfl rfl rfl (fun _ => rn_rc_of (en_9 (q := 318) rfl)) (E107 hp120) ?_
                                              refine rn_eg qm 0 (s2 := (564, [(0, .ref 1000000), (1, .ref 0), (2, .ref 318), (3, .int v3)], [.int p120.1, .int p119.1], N, sl, rn_hp p119.2 p120.2)) rfl ?_
                                              refine rn_eg qm 1 (s2 := ((if p119.1 = p120.1 then 584 else 565), [(0, .ref 1000000), (1, .ref 0), (2, .ref 318), (3, .int v3)], [], N, sl, rn_hp p119.2 p120.2)) rfl ?_
                                              refine rn_ite (fun c121 => ?_) (fun c121 => ?_)
                                              · rw [if_pos c121] at h
                                                refine rn_eg qm 2 (s2 := (10, [(3, .int (v3 + (5 : Int32))), (0, .ref 1000000), (1, .ref 0), (2, .ref 318)], [], N, sl, rn_hp p119.2 p120.2)) rfl ?_
                                                refine rn_kq qm (s2 := (10, [(0, .ref 1000000), (1, .ref 0), (2, .ref 318), (3, .int (v3 + (5 : Int32)))], [], N, sl, rn_hp p119.2 p120.2)) rfl rfl ?_
                                                exact ih _ _ _ k R hk h
                                              · rw [if_neg c121] at h
                                                refine rn_eg qm 1 (s2 := (566, [(0, .ref 1000000), (1, .ref 0), (2, .ref 318), (3, .int v3)], [.int (0 : Int32)], N, sl, rn_hp p119.2 p120.2)) rfl ?_
                                                cases h
                                                exact rn_er qm rfl rfl rn_rt0
                                            · rw [if_neg c117] at h
                                              refine rn_ite (fun c122 => ?_) (fun c122 => ?_)
                                              · rw [if_pos c122] at h
                                                refine rn_eg qm 5 (s2 := (572, [(0, .ref 1000000), (1, .ref 0), (2, .ref 318), (3, .int v3)], [.int (v3 + (1 : Int32)), .ref 1000000, .ref 0], N, sl, rn_hp S M)) rfl ?_
                                                have c123 : ¬ (rn_ob (v3 + (1 : Int32)) X.1) := fun c => by rw [if_pos c] at h; cases h
                                                rw [if_neg c123] at h
                                                refine rn_e1 qm (s2 := (573, [(0, .ref 1000000), (1, .ref 0), (2, .ref 318), (3, .int v3)], [.int (X.2 (Int32.toNatClampNeg (v3 + (1 : Int32)))), .ref 0], N, sl, rn_hp S M)) (rn_g_sald rfl rfl c123) ?_
                                                obtain ⟨p124, hp124, h⟩ := Option.bind_eq_some_iff.mp h
                                                refine rn_ec qm rfl rfl rfl rfl rn_m21 rfl rfl rfl (fun _ => rn_rc_of (en_8 (q := 0) rfl)) (E21 hp124) ?_
                                                refine rn_eg qm 0 (s2 := (574, [(0, .ref 1000000), (1, .ref 0), (2, .ref 318), (3, .int v3)], [.int p124], N, sl, rn_hp S M)) rfl ?_
                                                refine rn_eg qm 5 (s2 := (579, [(0, .ref 1000000), (1, .ref 0), (2, .ref 318), (3, .int v3)], [.int (v3 + (1 : Int32)), .ref 1000000, .ref 318, .int p124], N, sl, rn_hp S M)) rfl ?_
                                                refine rn_e1 qm (s2 := (580, [(0, .ref 1000000), (1, .ref 0), (2, .ref 318), (3, .int v3)], [.int (X.2 (Int32.toNatClampNeg (v3 + (1 : Int32)))), .ref 318, .int p124], N, sl, rn_hp S M)) (rn_g_sald rfl rfl c123) ?_
                                                obtain ⟨p125, hp125, h⟩ := Option.bind_eq_some_iff.mp h
                                                refine rn_ec qm rfl rfl rfl rfl rn_m108 rfl rfl rfl (fun _ => rn_rc_of (en_9 (q := 318) rfl)) (E108 hp125) ?_
                                                refine rn_eg qm 0 (s2 := (581, [(0, .ref 1000000), (1, .ref 0), (2, .ref 318), (3, .int v3)], [.int p125, .int p124], N, sl, rn_hp S M)) rfl ?_
                                                refine rn_eg qm 1 (s2 := ((if p124 = p125 then 584 else 582), [(0, .ref 1000000), (1, .ref 0), (2, .ref 318), (3, .int v3)], [], N, sl, rn_hp S M)) rfl ?_
                                                refine rn_ite (fun c126 => ?_) (fun c126 => ?_)
                                                · rw [if_pos c126] at h
                                                  refine rn_eg qm 2 (s2 := (10, [(3, .int (v3 + (5 : Int32))), (0, .ref 1000000), (1, .ref 0), (2, .ref 318)], [], N, sl, rn_hp S M)) rfl ?_
                                                  refine rn_kq qm (s2 := (10, [(0, .ref 1000000), (1, .ref 0), (2, .ref 318), (3, .int (v3 + (5 : Int32)))], [], N, sl, rn_hp S M)) rfl rfl ?_
                                                  exact ih _ _ _ k R hk h
                                                · rw [if_neg c126] at h
                                                  refine rn_eg qm 1 (s2 := (583, [(0, .ref 1000000), (1, .ref 0), (2, .ref 318), (3, .int v3)], [.int (0 : Int32)], N, sl, rn_hp S M)) rfl ?_
                                                  cases h
                                                  exact rn_er qm rfl rfl rn_rt0
                                              · rw [if_neg c122] at h
                                                refine rn_eg qm 2 (s2 := (10, [(3, .int (v3 + (5 : Int32))), (0, .ref 1000000), (1, .ref 0), (2, .ref 318)], [], N, sl, rn_hp S M)) rfl ?_
                                                refine rn_kq qm (s2 := (10, [(0, .ref 1000000), (1, .ref 0), (2, .ref 318), (3, .int (v3 + (5 : Int32)))], [], N, sl, rn_hp S M)) rfl rfl ?_
                                                exact ih _ _ _ k R hk h
def f165 (X : rn_X) (S : rn_T) (M : rn_T) : Option (Bool × rn_T × rn_T) :=
  f165_L10 X rn_FU S M (0 : Int32) (fun S127 M127 =>
    some (true, (S127, M127)))
set_option maxRecDepth 100000 in
set_option maxHeartbeats 4000000 in
theorem E165 {X : rn_X} {N sl : Nat} {S M : rn_T} {R : (Bool × rn_T × rn_T)} (h : f165 X S M = some R) : rn_rv X 165 (10, [(3, .int (0 : Int32)), (2, .ref 318), (1, .ref 0), (0, .ref 1000000)], [], N, sl, rn_hp S M) (some (.int (rn_bi R.1)), N, sl, rn_hp R.2.1 R.2.2) := by
  have qm := rn_m165
  unfold f165 at h
  refine rn_kq qm (s2 := (10, [(0, .ref 1000000), (1, .ref 0), (2, .ref 318), (3, .int (0 : Int32))], [], N, sl, rn_hp S M)) rfl rfl ?_
  refine E165_L10 rn_FU _ _ _ _ R ?_ h
  intro S127 M127 h
  refine rn_eg qm 1 (s2 := (587, [], [.int (1 : Int32)], N, sl, rn_hp S127 M127)) rfl ?_
  cases h
  exact rn_er qm rfl rfl rn_rt1
