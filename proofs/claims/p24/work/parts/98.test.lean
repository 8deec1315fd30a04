/-! a test of speed -/
noncomputable def te_put (c : Nat) (ps : List (Nat × Nat × Nat)) : Nat := match ps with
  | [] => c
  | (q, k, v) :: r => te_put (pe_cs c (pe_bs q + k) v) r
noncomputable def te_c0 : Nat := te_put 0 [(5, 1, 49), (1, 4, 1), (1, 3, 1), (76, 15, 1), (6, 0, 729), (6, 1, 809), (6, 2, 425), (6, 3, 385), (6, 4, 385), (6, 5, 745), (7, 1, 1), (9, 1, 1), (11, 1, 1), (13, 1, 1), (15, 1, 1), (17, 1, 1), (19, 1, 1), (4, 5, 17)]
noncomputable def te_L : Nat := pe_ar 0 [3, 1, 34359738361, 41]
noncomputable def te_n (k v : Nat) : Nat := match pe_ru 318 pe_w0 [] k (12, pe_tb 12, te_L, [], te_put te_c0 [(4, 5, 8 * v + 1)], []) with
  | some (.inl _) => 3
  | some (.inr (.inr (vs, _))) => vs.headD 4
  | _ => 0
theorem te_2 : (List.range 40).all (fun v => te_n 9 v == (if v < 5 then 17 else if v < 7 then 9 else 34359738345)) = true := by decide +kernel
