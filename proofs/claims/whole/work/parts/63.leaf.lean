/-! 63: the class adds a part -/
def rs (S : rn_T) (T : rn_TR) (p : Option Nat) : rn_T := match p with
  | none => wI (wR (wI (wI S 66 0 (nI (tN T + 1))) (76 + 2 * tN T) 1 (nI 0)) (76 + 2 * tN T) none) (76 + 2 * tN T) 14 (-nI 6)
  | some q => wI (wP (wI (wI (wR (wI (wI S 66 0 (nI (tN T + 1))) (76 + 2 * tN T) 1 (nI 0)) (76 + 2 * tN T) (some (76 + 2 * q))) (76 + 2 * tN T) 14 (-nI 6)) (76 + 2 * tN T) 3 (nI (tC T q))) (77 + 2 * q) (tC T q) (some (76 + 2 * tN T))) (76 + 2 * q) 1 (nI (tC T q + 1))
theorem cl_reset {S : rn_T} {T : rn_TR} {p : Option Nat} (h : SB S T) (hp : PP T p) (hn : tN T < 100) : f128 (wI S 66 0 (nI (tN T + 1))) (76 + 2 * tN T) (p.map fun q => 76 + 2 * q) = some (rs S T p) := by
  have hk := ma_kd3 hn
  rcases hp with ⟨rfl, b⟩ | ⟨q, rfl, b1, b2, b3⟩
  · unfold f128
    rw [Option.map_none, rn_om_n rfl, if_pos hk]
    rfl
  · unfold f128
    have hk2 := ma_kd3 (show q < 100 by omega)
    have e1 := (h.2.1 q b1).1
    rw [Option.map_some, rn_om_s rfl, if_pos hk, if_pos hk2]
    simp (disch := omega) only [e1, nI_lit, nI_add, pk_sub, pk_mul, ma_neg, nI_clamp, ma_ltT, ma_ltF, ma_leT, ma_leF, ma_eqT, ma_eqF, nI_ltI, nI_leI, nI_eq, ma_obT, ma_obF, ma_enF, ma_neF, ma_nlT, ma_lnF, ma_nLT, ma_Ln, ↓reduceIte, Option.bind_some, Option.bind_none, true_and, and_true, false_and, and_false, ne_eq, not_true_eq_false, not_false_eq_true, Bool.false_eq_true, reduceCtorEq, Nat.reduceAdd, Nat.reduceMul, Nat.reduceSub, ra_I, ra_In, ra_A, ra_An, ra_IA, ra_IL, ra_IR, ra_IP, ra_AI, ra_AL, ra_AR, ra_AP, ra_L, ra_Ln, ra_LI, ra_LA, ra_LR, ra_LP, ra_R, ra_Rn, ra_RI, ra_RA, ra_RL, ra_RP, ra_P, ra_Pn, ra_PI, ra_PA, ra_PL, ra_PR]
    rw [show 76 + 2 * q + 1 = 77 + 2 * q by omega]
    rfl
/-- only this one's 4 to 11 are told -/
def LF (b : Nat) (S S2 : rn_T) (k o : Nat) : Prop := (∀ q j, (q ≠ b ∨ j < 4 ∨ 12 ≤ j) → rI S2 q j = rI S q j) ∧ rA S2 = rA S ∧ rL S2 = rL S ∧ rR S2 = rR S ∧ rP S2 = rP S ∧ rI S2 b 4 = nI k ∧ rI S2 b 5 = nI (lS k o) ∧ rI S2 b 6 = nI (lA k o) ∧ rI S2 b 8 = nI 0 ∧ rI S2 b 9 = nI (lW k) ∧ rI S2 b 10 = nI (lF k o) ∧ rI S2 b 11 = nI (lM k o)
def be (S : rn_T) (b k s a : Nat) : rn_T := wI (wI (wI (wI (wI (wI (wI S b 4 (nI k)) b 5 (nI s)) b 6 (nI a)) b 8 (nI 0)) b 9 (nI 0)) b 10 (nI 0)) b 11 (nI 0)
def gp (S : rn_T) (b a1 a2 a3 a4 : Nat) : rn_T := wI (wI (wI (wI S b 8 (nI a1)) b 9 (nI a2)) b 10 (nI a3)) b 11 (nI a4)
theorem cl_gap {S : rn_T} {b a1 a2 a3 a4 : Nat} (hk : rn_kd b = 3) : f130 S b (nI a1) (nI a2) (nI a3) (nI a4) = some (gp S b a1 a2 a3 a4) := by
  unfold f130
  rw [if_pos hk]; rfl
theorem cl_be {S : rn_T} {b k s : Nat} (hk : rn_kd b = 3) (hs : s < 100) : f129 S b (nI k) (nI s) = some (be S b k s (if s = 0 then 1 else s)) := by
  unfold f129 f129_J12
  rw [if_pos hk]
  simp only [nI_lit, cl_gap hk]
  by_cases e : s = 0
  · subst e; rfl
  · simp (disch := omega) only [e, nI_lit, nI_add, pk_sub, pk_mul, ma_neg, nI_clamp, ma_ltT, ma_ltF, ma_leT, ma_leF, ma_eqT, ma_eqF, nI_ltI, nI_leI, nI_eq, ma_obT, ma_obF, ma_enF, ma_neF, ma_nlT, ma_lnF, ma_nLT, ma_Ln, ↓reduceIte, Option.bind_some, Option.bind_none, true_and, and_true, false_and, and_false, ne_eq, not_true_eq_false, not_false_eq_true, Bool.false_eq_true, reduceCtorEq, Nat.reduceAdd, Nat.reduceMul, Nat.reduceSub]
    rfl
theorem lf_be {S : rn_T} {b k o s : Nat} (h1 : lS k o = s) (h2 : lA k o = if s = 0 then 1 else s) (h3 : lW k = 0) (h4 : lF k o = 0) (h5 : lM k o = 0) : LF b S (be S b k s (if s = 0 then 1 else s)) k o := by
  rw [← h2]
  unfold be
  refine ⟨fun q j hq => ?_, rfl, rfl, rfl, rfl, ?_, ?_, ?_, ?_, ?_, ?_, ?_⟩
  · simp (disch := omega) only [ra_I, ra_In, ra_A, ra_An, ra_IA, ra_IL, ra_IR, ra_IP, ra_AI, ra_AL, ra_AR, ra_AP, ra_L, ra_Ln, ra_LI, ra_LA, ra_LR, ra_LP, ra_R, ra_Rn, ra_RI, ra_RA, ra_RL, ra_RP, ra_P, ra_Pn, ra_PI, ra_PA, ra_PL, ra_PR]
  all_goals (first | (simp (disch := omega) only [ra_I, ra_In, ra_A, ra_An, ra_IA, ra_IL, ra_IR, ra_IP, ra_AI, ra_AL, ra_AR, ra_AP, ra_L, ra_Ln, ra_LI, ra_LA, ra_LR, ra_LP, ra_R, ra_Rn, ra_RI, ra_RA, ra_RL, ra_RP, ra_P, ra_Pn, ra_PI, ra_PA, ra_PL, ra_PR]; done) | (simp (disch := omega) only [ra_I, ra_In, ra_A, ra_An, ra_IA, ra_IL, ra_IR, ra_IP, ra_AI, ra_AL, ra_AR, ra_AP, ra_L, ra_Ln, ra_LI, ra_LA, ra_LR, ra_LP, ra_R, ra_Rn, ra_RI, ra_RA, ra_RL, ra_RP, ra_P, ra_Pn, ra_PI, ra_PA, ra_PL, ra_PR]; (first | rw [h1] | rw [h3] | rw [h4] | rw [h5])))
theorem lf_gp {S : rn_T} {b k o s a2 a3 a4 : Nat} (h1 : lS k o = s) (h2 : lA k o = if s = 0 then 1 else s) (h3 : lW k = a2) (h4 : lF k o = a3) (h5 : lM k o = a4) : LF b S (gp (be S b k s (if s = 0 then 1 else s)) b 0 a2 a3 a4) k o := by
  rw [← h2]
  unfold be gp
  refine ⟨fun q j hq => ?_, rfl, rfl, rfl, rfl, ?_, ?_, ?_, ?_, ?_, ?_, ?_⟩
  · simp (disch := omega) only [ra_I, ra_In, ra_A, ra_An, ra_IA, ra_IL, ra_IR, ra_IP, ra_AI, ra_AL, ra_AR, ra_AP, ra_L, ra_Ln, ra_LI, ra_LA, ra_LR, ra_LP, ra_R, ra_Rn, ra_RI, ra_RA, ra_RL, ra_RP, ra_P, ra_Pn, ra_PI, ra_PA, ra_PL, ra_PR]
  all_goals (first | (simp (disch := omega) only [ra_I, ra_In, ra_A, ra_An, ra_IA, ra_IL, ra_IR, ra_IP, ra_AI, ra_AL, ra_AR, ra_AP, ra_L, ra_Ln, ra_LI, ra_LA, ra_LR, ra_LP, ra_R, ra_Rn, ra_RI, ra_RA, ra_RL, ra_RP, ra_P, ra_Pn, ra_PI, ra_PA, ra_PL, ra_PR]; done) | (simp (disch := omega) only [ra_I, ra_In, ra_A, ra_An, ra_IA, ra_IL, ra_IR, ra_IP, ra_AI, ra_AL, ra_AR, ra_AP, ra_L, ra_Ln, ra_LI, ra_LA, ra_LR, ra_LP, ra_R, ra_Rn, ra_RI, ra_RA, ra_RL, ra_RP, ra_P, ra_Pn, ra_PI, ra_PA, ra_PL, ra_PR]; (first | rw [h1] | rw [h3] | rw [h4] | rw [h5])))
/-- the kind and the number that signs tell -/
def kO (c : Nat) : Nat := if c = 40 then 5 else if c = 48 then 0 else if c = 91 then 6 else if c = 98 then 2 else if c = 101 then 3 else if c = 112 then 4 else 1
def nO (c d : Nat) : Nat := if c = 101 then d - 48 else c - 48
theorem cl_leaf {S : rn_T} {b c d : Nat} (hk : rn_kd b = 3) (h : c = 48 ∨ c = 49 ∨ c = 50 ∨ c = 52 ∨ c = 98 ∨ c = 112 ∨ (c = 101 ∧ 50 ≤ d ∧ d ≤ 57)) : ∃ S2, f161 S b (nI c) (nI d) = some (true, S2) ∧ LF b S S2 (kO c) (nO c d) := by
  have hb : ∀ k s, s < 100 → f129 S b (nI k) (nI s) = some (be S b k s (if s = 0 then 1 else s)) := fun k s hs => cl_be hk hs
  rcases h with rfl | rfl | rfl | rfl | rfl | rfl | ⟨rfl, h1, h2⟩
  · refine ⟨be S b 0 0 (if (0:Nat) = 0 then 1 else 0), ?_, lf_be rfl rfl rfl rfl rfl⟩
    unfold f161
    simp (disch := omega) only [hk, hb, nI_lit, nI_add, pk_sub, pk_mul, ma_neg, nI_clamp, ma_ltT, ma_ltF, ma_leT, ma_leF, ma_eqT, ma_eqF, nI_ltI, nI_leI, nI_eq, ma_obT, ma_obF, ma_enF, ma_neF, ma_nlT, ma_lnF, ma_nLT, ma_Ln, ↓reduceIte, Option.bind_some, Option.bind_none, true_and, and_true, false_and, and_false, ne_eq, not_true_eq_false, not_false_eq_true, Bool.false_eq_true, reduceCtorEq, Nat.reduceAdd, Nat.reduceMul, Nat.reduceSub]
  · refine ⟨be S b 1 1 (if (1:Nat) = 0 then 1 else 1), ?_, lf_be rfl rfl rfl rfl rfl⟩
    unfold f161
    simp (disch := omega) only [hk, hb, nI_lit, nI_add, pk_sub, pk_mul, ma_neg, nI_clamp, ma_ltT, ma_ltF, ma_leT, ma_leF, ma_eqT, ma_eqF, nI_ltI, nI_leI, nI_eq, ma_obT, ma_obF, ma_enF, ma_neF, ma_nlT, ma_lnF, ma_nLT, ma_Ln, ↓reduceIte, Option.bind_some, Option.bind_none, true_and, and_true, false_and, and_false, ne_eq, not_true_eq_false, not_false_eq_true, Bool.false_eq_true, reduceCtorEq, Nat.reduceAdd, Nat.reduceMul, Nat.reduceSub]
  · refine ⟨be S b 1 2 (if (2:Nat) = 0 then 1 else 2), ?_, lf_be rfl rfl rfl rfl rfl⟩
    unfold f161
    simp (disch := omega) only [hk, hb, nI_lit, nI_add, pk_sub, pk_mul, ma_neg, nI_clamp, ma_ltT, ma_ltF, ma_leT, ma_leF, ma_eqT, ma_eqF, nI_ltI, nI_leI, nI_eq, ma_obT, ma_obF, ma_enF, ma_neF, ma_nlT, ma_lnF, ma_nLT, ma_Ln, ↓reduceIte, Option.bind_some, Option.bind_none, true_and, and_true, false_and, and_false, ne_eq, not_true_eq_false, not_false_eq_true, Bool.false_eq_true, reduceCtorEq, Nat.reduceAdd, Nat.reduceMul, Nat.reduceSub]
  · refine ⟨be S b 1 4 (if (4:Nat) = 0 then 1 else 4), ?_, lf_be rfl rfl rfl rfl rfl⟩
    unfold f161
    simp (disch := omega) only [hk, hb, nI_lit, nI_add, pk_sub, pk_mul, ma_neg, nI_clamp, ma_ltT, ma_ltF, ma_leT, ma_leF, ma_eqT, ma_eqF, nI_ltI, nI_leI, nI_eq, ma_obT, ma_obF, ma_enF, ma_neF, ma_nlT, ma_lnF, ma_nLT, ma_Ln, ↓reduceIte, Option.bind_some, Option.bind_none, true_and, and_true, false_and, and_false, ne_eq, not_true_eq_false, not_false_eq_true, Bool.false_eq_true, reduceCtorEq, Nat.reduceAdd, Nat.reduceMul, Nat.reduceSub]
  · refine ⟨gp (be S b 2 1 (if (1:Nat) = 0 then 1 else 1)) b 0 1 2 254, ?_, lf_gp rfl rfl rfl rfl rfl⟩
    unfold f161
    simp (disch := omega) only [hk, hb, cl_gap hk, nI_lit, nI_add, pk_sub, pk_mul, ma_neg, nI_clamp, ma_ltT, ma_ltF, ma_leT, ma_leF, ma_eqT, ma_eqF, nI_ltI, nI_leI, nI_eq, ma_obT, ma_obF, ma_enF, ma_neF, ma_nlT, ma_lnF, ma_nLT, ma_Ln, ↓reduceIte, Option.bind_some, Option.bind_none, true_and, and_true, false_and, and_false, ne_eq, not_true_eq_false, not_false_eq_true, Bool.false_eq_true, reduceCtorEq, Nat.reduceAdd, Nat.reduceMul, Nat.reduceSub]
  · refine ⟨gp (be S b 4 4 (if (4:Nat) = 0 then 1 else 4)) b 0 4 0 1, ?_, lf_gp rfl rfl rfl rfl rfl⟩
    unfold f161
    simp (disch := omega) only [hk, hb, cl_gap hk, nI_lit, nI_add, pk_sub, pk_mul, ma_neg, nI_clamp, ma_ltT, ma_ltF, ma_leT, ma_leF, ma_eqT, ma_eqF, nI_ltI, nI_leI, nI_eq, ma_obT, ma_obF, ma_enF, ma_neF, ma_nlT, ma_lnF, ma_nLT, ma_Ln, ↓reduceIte, Option.bind_some, Option.bind_none, true_and, and_true, false_and, and_false, ne_eq, not_true_eq_false, not_false_eq_true, Bool.false_eq_true, reduceCtorEq, Nat.reduceAdd, Nat.reduceMul, Nat.reduceSub]
  · refine ⟨gp (be S b 3 1 (if (1:Nat) = 0 then 1 else 1)) b 0 1 (d - 48) (256 - (d - 48)), ?_, lf_gp rfl rfl rfl rfl rfl⟩
    unfold f161
    simp (disch := omega) only [hk, hb, cl_gap hk, nI_lit, nI_add, pk_sub, pk_mul, ma_neg, nI_clamp, ma_ltT, ma_ltF, ma_leT, ma_leF, ma_eqT, ma_eqF, nI_ltI, nI_leI, nI_eq, ma_obT, ma_obF, ma_enF, ma_neF, ma_nlT, ma_lnF, ma_nLT, ma_Ln, ↓reduceIte, Option.bind_some, Option.bind_none, true_and, and_true, false_and, and_false, ne_eq, not_true_eq_false, not_false_eq_true, Bool.false_eq_true, reduceCtorEq, Nat.reduceAdd, Nat.reduceMul, Nat.reduceSub]
theorem cl_group {S : rn_T} {b k : Nat} (hk : rn_kd b = 3) (h : k = 5 ∨ k = 6) (o : Nat) : ∃ S2, f129 S b (nI k) (0 : Int32) = some S2 ∧ LF b S S2 k o := by
  refine ⟨_, cl_be (s := 0) hk (by omega), ?_⟩
  rcases h with rfl | rfl
  · exact lf_be rfl rfl rfl rfl rfl
  · exact lf_be rfl rfl rfl rfl rfl
theorem rs_I {S : rn_T} {T : rn_TR} {p : Option Nat} {q j : Nat} (h : q ≠ 76 + 2 * tN T) (h1 : q ≠ 66 ∨ j ≠ 0) (h2 : ∀ a, p = some a → q ≠ 76 + 2 * a ∨ j ≠ 1) : rI (rs S T p) q j = rI S q j := by
  unfold rs
  split
  · simp (disch := omega) only [ra_I, ra_In, ra_A, ra_An, ra_IA, ra_IL, ra_IR, ra_IP, ra_AI, ra_AL, ra_AR, ra_AP, ra_L, ra_Ln, ra_LI, ra_LA, ra_LR, ra_LP, ra_R, ra_Rn, ra_RI, ra_RA, ra_RL, ra_RP, ra_P, ra_Pn, ra_PI, ra_PA, ra_PL, ra_PR]
  · rename_i a
    have := h2 a rfl
    simp (disch := omega) only [ra_I, ra_In, ra_A, ra_An, ra_IA, ra_IL, ra_IR, ra_IP, ra_AI, ra_AL, ra_AR, ra_AP, ra_L, ra_Ln, ra_LI, ra_LA, ra_LR, ra_LP, ra_R, ra_Rn, ra_RI, ra_RA, ra_RL, ra_RP, ra_P, ra_Pn, ra_PI, ra_PA, ra_PL, ra_PR]
theorem sb_add {S S2 : rn_T} {T : rn_TR} {p : Option Nat} {k o : Nat} (h : SB S T) (hw : TW T) (hp : PP T p) (hn : tN T < 100) (hL : LF (76 + 2 * tN T) (rs S T p) S2 k o) : SB S2 (addP T k o p) := by
  obtain ⟨f1, -, -, fR, fP, f4, f5, f6, f8, f9, f10, f11⟩ := hL
  obtain ⟨w1, w2, w3⟩ := hw
  have hq : ∀ q, p = some q → q < tN T := by
    intro q e
    rcases hp with ⟨rfl, b⟩ | ⟨q2, rfl, b1, b2, b3⟩
    · cases e
    · cases e; exact b1
  refine ⟨?_, fun i hi => ?_, ?_⟩
  · rw [f1 66 0 (by omega)]
    show _ = nI (tN T + 1)
    unfold rs
    split
    · simp (disch := omega) only [ra_I, ra_In, ra_A, ra_An, ra_IA, ra_IL, ra_IR, ra_IP, ra_AI, ra_AL, ra_AR, ra_AP, ra_L, ra_Ln, ra_LI, ra_LA, ra_LR, ra_LP, ra_R, ra_Rn, ra_RI, ra_RA, ra_RL, ra_RP, ra_P, ra_Pn, ra_PI, ra_PA, ra_PL, ra_PR]
    · rename_i q
      have := hq q rfl
      simp (disch := omega) only [ra_I, ra_In, ra_A, ra_An, ra_IA, ra_IL, ra_IR, ra_IP, ra_AI, ra_AL, ra_AR, ra_AP, ra_L, ra_Ln, ra_LI, ra_LA, ra_LR, ra_LP, ra_R, ra_Rn, ra_RI, ra_RA, ra_RL, ra_RP, ra_P, ra_Pn, ra_PI, ra_PA, ra_PL, ra_PR]
  · have hi : i < tN T + 1 := hi
    by_cases e : i = tN T
    · subst e
      unfold nB
      have eC : tC (addP T k o p) (tN T) = 0 := by rw [ad_C, if_pos rfl]
      have eK : tK (addP T k o p) (tN T) = k := by rw [ad_K, if_pos rfl]
      have eO : tO (addP T k o p) (tN T) = o := by rw [ad_O, if_pos rfl]
      have eP : tP (addP T k o p) (tN T) = p.getD 0 := by rw [ad_P, if_pos rfl]
      have eI : tI (addP T k o p) (tN T) = pI T p := by rw [ad_I, if_pos rfl]
      rw [eC, eK, eO, eP, eI, fR, fP]
      refine ⟨?_, f4, f5, f6, f8, f9, f10, f11, ?_, ?_, fun h0 => ?_⟩
      · rw [f1 _ 1 (by omega)]
        unfold rs
        split
        · simp (disch := omega) only [ra_I, ra_In, ra_A, ra_An, ra_IA, ra_IL, ra_IR, ra_IP, ra_AI, ra_AL, ra_AR, ra_AP, ra_L, ra_Ln, ra_LI, ra_LA, ra_LR, ra_LP, ra_R, ra_Rn, ra_RI, ra_RA, ra_RL, ra_RP, ra_P, ra_Pn, ra_PI, ra_PA, ra_PL, ra_PR]
        · rename_i q
          have := hq q rfl
          simp (disch := omega) only [ra_I, ra_In, ra_A, ra_An, ra_IA, ra_IL, ra_IR, ra_IP, ra_AI, ra_AL, ra_AR, ra_AP, ra_L, ra_Ln, ra_LI, ra_LA, ra_LR, ra_LP, ra_R, ra_Rn, ra_RI, ra_RA, ra_RL, ra_RP, ra_P, ra_Pn, ra_PI, ra_PA, ra_PL, ra_PR]
      · rw [f1 _ 14 (by omega)]
        unfold rs
        split
        · simp (disch := omega) only [ra_I, ra_In, ra_A, ra_An, ra_IA, ra_IL, ra_IR, ra_IP, ra_AI, ra_AL, ra_AR, ra_AP, ra_L, ra_Ln, ra_LI, ra_LA, ra_LR, ra_LP, ra_R, ra_Rn, ra_RI, ra_RA, ra_RL, ra_RP, ra_P, ra_Pn, ra_PI, ra_PA, ra_PL, ra_PR]
        · rename_i q
          have := hq q rfl
          simp (disch := omega) only [ra_I, ra_In, ra_A, ra_An, ra_IA, ra_IL, ra_IR, ra_IP, ra_AI, ra_AL, ra_AR, ra_AP, ra_L, ra_Ln, ra_LI, ra_LA, ra_LR, ra_LP, ra_R, ra_Rn, ra_RI, ra_RA, ra_RL, ra_RP, ra_P, ra_Pn, ra_PI, ra_PA, ra_PL, ra_PR]
      · rcases hp with ⟨rfl, b⟩ | ⟨q2, rfl, b1, b2, b3⟩
        · rw [if_pos b]; unfold rs; simp (disch := omega) only [ra_I, ra_In, ra_A, ra_An, ra_IA, ra_IL, ra_IR, ra_IP, ra_AI, ra_AL, ra_AR, ra_AP, ra_L, ra_Ln, ra_LI, ra_LA, ra_LR, ra_LP, ra_R, ra_Rn, ra_RI, ra_RA, ra_RL, ra_RP, ra_P, ra_Pn, ra_PI, ra_PA, ra_PL, ra_PR]
        · rw [if_neg (show ¬ tN T = 0 by omega)]; unfold rs; simp (disch := omega) only [ra_I, ra_In, ra_A, ra_An, ra_IA, ra_IL, ra_IR, ra_IP, ra_AI, ra_AL, ra_AR, ra_AP, ra_L, ra_Ln, ra_LI, ra_LA, ra_LR, ra_LP, ra_R, ra_Rn, ra_RI, ra_RA, ra_RL, ra_RP, ra_P, ra_Pn, ra_PI, ra_PA, ra_PL, ra_PR]; rfl
      · rcases hp with ⟨rfl, b⟩ | ⟨q2, rfl, b1, b2, b3⟩
        · omega
        · rw [f1 _ 3 (by omega)]
          unfold rs
          rw [show pI T (some q2) = tC T q2 from rfl]
          refine ⟨?_, ?_⟩
          · simp (disch := omega) only [ra_I, ra_In, ra_A, ra_An, ra_IA, ra_IL, ra_IR, ra_IP, ra_AI, ra_AL, ra_AR, ra_AP, ra_L, ra_Ln, ra_LI, ra_LA, ra_LR, ra_LP, ra_R, ra_Rn, ra_RI, ra_RA, ra_RL, ra_RP, ra_P, ra_Pn, ra_PI, ra_PA, ra_PL, ra_PR]
          · simp only [Option.getD_some]
            simp (disch := omega) only [ra_I, ra_In, ra_A, ra_An, ra_IA, ra_IL, ra_IR, ra_IP, ra_AI, ra_AL, ra_AR, ra_AP, ra_L, ra_Ln, ra_LI, ra_LA, ra_LR, ra_LP, ra_R, ra_Rn, ra_RI, ra_RA, ra_RL, ra_RP, ra_P, ra_Pn, ra_PI, ra_PA, ra_PL, ra_PR]
    · have hi2 : i < tN T := by omega
      obtain ⟨g1, g4, g5, g6, g8, g9, g10, g11, g14, gR, gP⟩ := h.2.1 i hi2
      have eC : tC (addP T k o p) i = if p = some i then tC T i + 1 else tC T i := by rw [ad_C, if_neg e]
      have eK : tK (addP T k o p) i = tK T i := by rw [ad_K, if_neg e]
      have eO : tO (addP T k o p) i = tO T i := by rw [ad_O, if_neg e]
      have eP : tP (addP T k o p) i = tP T i := by rw [ad_P, if_neg e]
      have eI : tI (addP T k o p) i = tI T i := by rw [ad_I, if_neg e]
      have hx : ∀ j, j ≠ 1 → rI S2 (76 + 2 * i) j = rI S (76 + 2 * i) j := fun j hj => (f1 _ j (by omega)).trans (rs_I (by omega) (by omega) (fun a ha => .inr hj))
      unfold nB
      rw [eC, eK, eO, eP, eI, fR, fP, hx 4 (by omega), hx 5 (by omega), hx 6 (by omega), hx 8 (by omega), hx 9 (by omega), hx 10 (by omega), hx 11 (by omega), hx 14 (by omega), hx 3 (by omega)]
      refine ⟨?_, g4, g5, g6, g8, g9, g10, g11, g14, ?_, fun h0 => ⟨(gP h0).1, ?_⟩⟩
      · rw [f1 _ 1 (by omega)]
        by_cases e2 : p = some i
        · subst e2
          rw [if_pos rfl]
          unfold rs
          simp (disch := omega) only [ra_I, ra_In, ra_A, ra_An, ra_IA, ra_IL, ra_IR, ra_IP, ra_AI, ra_AL, ra_AR, ra_AP, ra_L, ra_Ln, ra_LI, ra_LA, ra_LR, ra_LP, ra_R, ra_Rn, ra_RI, ra_RA, ra_RL, ra_RP, ra_P, ra_Pn, ra_PI, ra_PA, ra_PL, ra_PR]
        · rw [if_neg e2, rs_I (by omega) (by omega) (fun a ha => .inl (fun hh => e2 (by rw [ha]; congr 1; omega)))]
          exact g1
      · rw [← gR]
        unfold rs
        split
        · simp (disch := omega) only [ra_I, ra_In, ra_A, ra_An, ra_IA, ra_IL, ra_IR, ra_IP, ra_AI, ra_AL, ra_AR, ra_AP, ra_L, ra_Ln, ra_LI, ra_LA, ra_LR, ra_LP, ra_R, ra_Rn, ra_RI, ra_RA, ra_RL, ra_RP, ra_P, ra_Pn, ra_PI, ra_PA, ra_PL, ra_PR]
        · simp (disch := omega) only [ra_I, ra_In, ra_A, ra_An, ra_IA, ra_IL, ra_IR, ra_IP, ra_AI, ra_AL, ra_AR, ra_AP, ra_L, ra_Ln, ra_LI, ra_LA, ra_LR, ra_LP, ra_R, ra_Rn, ra_RI, ra_RA, ra_RL, ra_RP, ra_P, ra_Pn, ra_PI, ra_PA, ra_PL, ra_PR]
      · rw [← (gP h0).2]
        have := (w2 i h0 hi2).2.1
        have := (w2 i h0 hi2).1
        unfold rs
        split
        · simp (disch := omega) only [ra_I, ra_In, ra_A, ra_An, ra_IA, ra_IL, ra_IR, ra_IP, ra_AI, ra_AL, ra_AR, ra_AP, ra_L, ra_Ln, ra_LI, ra_LA, ra_LR, ra_LP, ra_R, ra_Rn, ra_RI, ra_RA, ra_RL, ra_RP, ra_P, ra_Pn, ra_PI, ra_PA, ra_PL, ra_PR]
        · rename_i q
          by_cases e3 : q = tP T i
          · subst e3; simp (disch := omega) only [ra_I, ra_In, ra_A, ra_An, ra_IA, ra_IL, ra_IR, ra_IP, ra_AI, ra_AL, ra_AR, ra_AP, ra_L, ra_Ln, ra_LI, ra_LA, ra_LR, ra_LP, ra_R, ra_Rn, ra_RI, ra_RA, ra_RL, ra_RP, ra_P, ra_Pn, ra_PI, ra_PA, ra_PL, ra_PR]
          · simp (disch := omega) only [ra_I, ra_In, ra_A, ra_An, ra_IA, ra_IL, ra_IR, ra_IP, ra_AI, ra_AL, ra_AR, ra_AP, ra_L, ra_Ln, ra_LI, ra_LA, ra_LR, ra_LP, ra_R, ra_Rn, ra_RI, ra_RA, ra_RL, ra_RP, ra_P, ra_Pn, ra_PI, ra_PA, ra_PL, ra_PR]
  · rw [f1 76 15 (by omega), ← h.2.2]
    unfold rs
    split
    · simp (disch := omega) only [ra_I, ra_In, ra_A, ra_An, ra_IA, ra_IL, ra_IR, ra_IP, ra_AI, ra_AL, ra_AR, ra_AP, ra_L, ra_Ln, ra_LI, ra_LA, ra_LR, ra_LP, ra_R, ra_Rn, ra_RI, ra_RA, ra_RL, ra_RP, ra_P, ra_Pn, ra_PI, ra_PA, ra_PL, ra_PR]
    · simp (disch := omega) only [ra_I, ra_In, ra_A, ra_An, ra_IA, ra_IL, ra_IR, ra_IP, ra_AI, ra_AL, ra_AR, ra_AP, ra_L, ra_Ln, ra_LI, ra_LA, ra_LR, ra_LP, ra_R, ra_Rn, ra_RI, ra_RA, ra_RL, ra_RP, ra_P, ra_Pn, ra_PI, ra_PA, ra_PL, ra_PR]
