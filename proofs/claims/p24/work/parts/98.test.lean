/-! a test of speed -/
def te_put (c : Nat) (ps : List (Nat × Nat × Nat)) : Nat := match ps with
  | [] => c
  | (q, k, v) :: r => match pe_pd q k with
    | some a => te_put (pe_cs c a v) r
    | none => te_put c r
def te_c0 : Nat := te_put 0 [(5, 1, 49), (1, 4, 1), (1, 3, 1), (76, 15, 1), (6, 0, 729), (6, 1, 809), (6, 2, 425), (6, 3, 385), (6, 4, 385), (6, 5, 745), (7, 1, 1), (9, 1, 1), (11, 1, 1), (13, 1, 1), (15, 1, 1), (17, 1, 1), (19, 1, 1), (4, 5, 17)]
def te_L : Nat := pe_ar 0 [3, 1, 34359738361, 41]
def te_r (k : Nat) : Option (List Nat) := match pe_ru 318 [] k (12, pe_tb 12, te_L, [], te_c0, []) with
  | some (.inr (.inr (vs, _))) => some vs
  | _ => none
theorem te_1 : te_r 14 = some [17] := by decide +kernel
