/-! 47: one sign of the class's scan; the end of terms -/
def tk (A : rn_AT) (s : Nat) (l : List (Nat × Nat × Nat)) (p c : Nat) : Nat × List (Nat × Nat × Nat) := match l with
  | [] => if p = 0 then (beg A s c, [(c, p, 0)]) else (0, [])
  | (o, b, h) :: t => if o = 101 then (if 50 ≤ c ∧ c ≤ 57 then 2 else 0, (o, b, h) :: t) else if 65 ≤ o ∧ o < 73 then (beg A s c, (c, p, 0) :: (o, b, h) :: t) else if c = (if o = 40 then 41 else 93) then (if 0 < h then 2 else 0, (o, b, h) :: t) else if h < 6 then (beg A s c, (c, p, 0) :: (o, b, h) :: t) else (0, (o, b, h) :: t)
set_option maxHeartbeats 4000000 in
theorem ma_f136 {S : rn_T} {A : rn_AT} {a c p s : Nat} {l : List (Nat × Nat × Nat)} {E : Nat → Nat} (h : PS S A) (ho : OKA A) (ha : rn_kd a = 4) (ha2 : 23 ≤ a) (hS : SC S a l E) (hn : l.length < 40) (hc : c ≤ 126) (hs : s < 8) (hp : p < 40) : ∃ S2, f136 S a 1 (nI s) (nI p) (nI c) = some (nI (tk A s l p c).1, S2) ∧ EqT (scO a) S S2 ∧ SC S2 a (tk A s l p c).2 E := by
  have hl := hS.1
  have hb := ma_f137 (p := p) h ho ha ha2 hl hn hc hs
  unfold f136
  cases l with
  | nil =>
    have hl0 : rI S a 5 = nI 0 := hl
    unfold tk
    by_cases h0 : p = 0
    · subst h0
      refine ⟨pu S a 0 c 0, ?_, pu_eq, ?_⟩
      · simp (disch := omega) only [ha, hl0, nI_lit, nI_add, pk_sub, pk_mul, ma_neg, nI_clamp, ma_ltT, ma_ltF, ma_leT, ma_leF, ma_eqT, ma_eqF, nI_ltI, nI_leI, nI_eq, ma_obT, ma_obF, ma_enF, ma_neF, ma_nlT, ma_lnF, ma_nLT, ma_Ln, ↓reduceIte, Option.bind_some, Option.bind_none, true_and, and_true, false_and, and_false, ne_eq, not_true_eq_false, not_false_eq_true, Bool.false_eq_true, reduceCtorEq, Nat.reduceAdd, Nat.reduceMul, Nat.reduceSub, ra_I, ra_In, ra_A, ra_An, ra_IA, ra_IL, ra_IR, ra_IP, ra_AI, ra_AL, ra_AR, ra_AP, ra_L, ra_Ln, ra_LI, ra_LA, ra_LR, ra_LP, ra_R, ra_Rn, ra_RI, ra_RA, ra_RL, ra_RP, ra_P, ra_Pn, ra_PI, ra_PA, ra_PL, ra_PR]
        have hb2 : f137 S a 1 (nI s) (nI 0) (nI c) = some (nI (beg A s c), pu S a 0 c 0) := hb
        simp (disch := omega) only [hb2, nI_lit, nI_add, pk_sub, pk_mul, ma_neg, nI_clamp, ma_ltT, ma_ltF, ma_leT, ma_leF, ma_eqT, ma_eqF, nI_ltI, nI_leI, nI_eq, ma_obT, ma_obF, ma_enF, ma_neF, ma_nlT, ma_lnF, ma_nLT, ma_Ln, ↓reduceIte, Option.bind_some, Option.bind_none, true_and, and_true, false_and, and_false, ne_eq, not_true_eq_false, not_false_eq_true, Bool.false_eq_true, reduceCtorEq, Nat.reduceAdd, Nat.reduceMul, Nat.reduceSub, ra_I, ra_In, ra_A, ra_An, ra_IA, ra_IL, ra_IR, ra_IP, ra_AI, ra_AL, ra_AR, ra_AP, ra_L, ra_Ln, ra_LI, ra_LA, ra_LR, ra_LP, ra_R, ra_Rn, ra_RI, ra_RA, ra_RL, ra_RP, ra_P, ra_Pn, ra_PI, ra_PA, ra_PL, ra_PR]
      · rw [if_pos rfl]
        exact pu_SC (l := []) hS hc hp
    · refine ⟨S, ?_, eq_r, ?_⟩
      · simp (disch := omega) only [ha, hl0, h0, nI_lit, nI_add, pk_sub, pk_mul, ma_neg, nI_clamp, ma_ltT, ma_ltF, ma_leT, ma_leF, ma_eqT, ma_eqF, nI_ltI, nI_leI, nI_eq, ma_obT, ma_obF, ma_enF, ma_neF, ma_nlT, ma_lnF, ma_nLT, ma_Ln, ↓reduceIte, Option.bind_some, Option.bind_none, true_and, and_true, false_and, and_false, ne_eq, not_true_eq_false, not_false_eq_true, Bool.false_eq_true, reduceCtorEq, Nat.reduceAdd, Nat.reduceMul, Nat.reduceSub, ra_I, ra_In, ra_A, ra_An, ra_IA, ra_IL, ra_IR, ra_IP, ra_AI, ra_AL, ra_AR, ra_AP, ra_L, ra_Ln, ra_LI, ra_LA, ra_LR, ra_LP, ra_R, ra_Rn, ra_RI, ra_RA, ra_RL, ra_RP, ra_P, ra_Pn, ra_PI, ra_PA, ra_PL, ra_PR]
      · rw [if_neg h0]; exact hS
  | cons f t =>
    obtain ⟨o, b, k⟩ := f
    obtain ⟨c1, c2, c3, c4, c5, c6, c7⟩ := hS.2.1
    have hl2 : rI S a 5 = nI (t.length + 1) := hl
    have hn2 : t.length + 1 < 40 := hn
    simp only at c1 c2 c3 c4 c5 c6
    have hb2 : f137 S a 1 (nI s) (nI p) (nI c) = some (nI (beg A s c), pu S a (t.length + 1) c p) := hb
    unfold tk
    by_cases h1 : o = 101
    · by_cases h2 : 50 ≤ c ∧ c ≤ 57
      · refine ⟨S, ?_, eq_r, ?_⟩
        · simp (disch := omega) only [ha, hl2, c1, h1, h2, Nat.add_sub_cancel, if_true, nI_lit, nI_add, pk_sub, pk_mul, ma_neg, nI_clamp, ma_ltT, ma_ltF, ma_leT, ma_leF, ma_eqT, ma_eqF, nI_ltI, nI_leI, nI_eq, ma_obT, ma_obF, ma_enF, ma_neF, ma_nlT, ma_lnF, ma_nLT, ma_Ln, ↓reduceIte, Option.bind_some, Option.bind_none, true_and, and_true, false_and, and_false, ne_eq, not_true_eq_false, not_false_eq_true, Bool.false_eq_true, reduceCtorEq, Nat.reduceAdd, Nat.reduceMul, Nat.reduceSub, ra_I, ra_In, ra_A, ra_An, ra_IA, ra_IL, ra_IR, ra_IP, ra_AI, ra_AL, ra_AR, ra_AP, ra_L, ra_Ln, ra_LI, ra_LA, ra_LR, ra_LP, ra_R, ra_Rn, ra_RI, ra_RA, ra_RL, ra_RP, ra_P, ra_Pn, ra_PI, ra_PA, ra_PL, ra_PR]
        · simp only [h1, if_true]; rw [h1] at hS; exact hS
      · refine ⟨S, ?_, eq_r, ?_⟩
        · by_cases h3 : c < 50
          · simp (disch := omega) only [ha, hl2, c1, h1, h2, Nat.add_sub_cancel, if_false, nI_lit, nI_add, pk_sub, pk_mul, ma_neg, nI_clamp, ma_ltT, ma_ltF, ma_leT, ma_leF, ma_eqT, ma_eqF, nI_ltI, nI_leI, nI_eq, ma_obT, ma_obF, ma_enF, ma_neF, ma_nlT, ma_lnF, ma_nLT, ma_Ln, ↓reduceIte, Option.bind_some, Option.bind_none, true_and, and_true, false_and, and_false, ne_eq, not_true_eq_false, not_false_eq_true, Bool.false_eq_true, reduceCtorEq, Nat.reduceAdd, Nat.reduceMul, Nat.reduceSub, ra_I, ra_In, ra_A, ra_An, ra_IA, ra_IL, ra_IR, ra_IP, ra_AI, ra_AL, ra_AR, ra_AP, ra_L, ra_Ln, ra_LI, ra_LA, ra_LR, ra_LP, ra_R, ra_Rn, ra_RI, ra_RA, ra_RL, ra_RP, ra_P, ra_Pn, ra_PI, ra_PA, ra_PL, ra_PR]
          · simp (disch := omega) only [ha, hl2, c1, h1, h2, Nat.add_sub_cancel, if_false, nI_lit, nI_add, pk_sub, pk_mul, ma_neg, nI_clamp, ma_ltT, ma_ltF, ma_leT, ma_leF, ma_eqT, ma_eqF, nI_ltI, nI_leI, nI_eq, ma_obT, ma_obF, ma_enF, ma_neF, ma_nlT, ma_lnF, ma_nLT, ma_Ln, ↓reduceIte, Option.bind_some, Option.bind_none, true_and, and_true, false_and, and_false, ne_eq, not_true_eq_false, not_false_eq_true, Bool.false_eq_true, reduceCtorEq, Nat.reduceAdd, Nat.reduceMul, Nat.reduceSub, ra_I, ra_In, ra_A, ra_An, ra_IA, ra_IL, ra_IR, ra_IP, ra_AI, ra_AL, ra_AR, ra_AP, ra_L, ra_Ln, ra_LI, ra_LA, ra_LR, ra_LP, ra_R, ra_Rn, ra_RI, ra_RA, ra_RL, ra_RP, ra_P, ra_Pn, ra_PI, ra_PA, ra_PL, ra_PR]
        · simp only [h1, if_true]; rw [h1] at hS; exact hS
    · by_cases h2 : 65 ≤ o ∧ o < 73
      · have e27 : f27 (nI o) = true := by rw [ma_f27 c4, decide_eq_true_iff]; exact h2
        refine ⟨pu S a (t.length + 1) c p, ?_, pu_eq, ?_⟩
        · simp (disch := omega) only [ha, hl2, c1, h1, h2, e27, hb2, Nat.add_sub_cancel, if_true, if_false, and_self, nI_lit, nI_add, pk_sub, pk_mul, ma_neg, nI_clamp, ma_ltT, ma_ltF, ma_leT, ma_leF, ma_eqT, ma_eqF, nI_ltI, nI_leI, nI_eq, ma_obT, ma_obF, ma_enF, ma_neF, ma_nlT, ma_lnF, ma_nLT, ma_Ln, ↓reduceIte, Option.bind_some, Option.bind_none, true_and, and_true, false_and, and_false, ne_eq, not_true_eq_false, not_false_eq_true, Bool.false_eq_true, reduceCtorEq, Nat.reduceAdd, Nat.reduceMul, Nat.reduceSub, ra_I, ra_In, ra_A, ra_An, ra_IA, ra_IL, ra_IR, ra_IP, ra_AI, ra_AL, ra_AR, ra_AP, ra_L, ra_Ln, ra_LI, ra_LA, ra_LR, ra_LP, ra_R, ra_Rn, ra_RI, ra_RA, ra_RL, ra_RP, ra_P, ra_Pn, ra_PI, ra_PA, ra_PL, ra_PR]
        · simp only [h1, h2, if_true, if_false, and_self]
          exact pu_SC (l := (o, b, k) :: t) hS hc hp
      · have e27 : f27 (nI o) = false := by rw [ma_f27 c4, decide_eq_false_iff_not]; exact h2
        have h2n : (65 ≤ o ∧ o < 73) = False := eq_false h2
        have key : ∀ cl : Nat, cl ≤ 93 → (if o = 40 then 41 else 93) = cl → ∃ S2, f136_J52 S a 1 (nI s) (nI p) (nI c) (nI c) (nI cl) = some (nI (if c = cl then (if 0 < k then 2 else 0) else if k < 6 then beg A s c else 0), S2) ∧ EqT (scO a) S S2 ∧ SC S2 a (if c = cl then (o, b, k) :: t else if k < 6 then (c, p, 0) :: (o, b, k) :: t else (o, b, k) :: t) E := by
          intro cl hcl _
          unfold f136_J52
          by_cases h3 : c = cl
          · refine ⟨S, ?_, eq_r, ?_⟩
            · by_cases h4 : 0 < k
              · simp (disch := omega) only [hl2, h3, c3, h4, Nat.add_sub_cancel, if_true, if_false, nI_lit, nI_add, pk_sub, pk_mul, ma_neg, nI_clamp, ma_ltT, ma_ltF, ma_leT, ma_leF, ma_eqT, ma_eqF, nI_ltI, nI_leI, nI_eq, ma_obT, ma_obF, ma_enF, ma_neF, ma_nlT, ma_lnF, ma_nLT, ma_Ln, ↓reduceIte, Option.bind_some, Option.bind_none, true_and, and_true, false_and, and_false, ne_eq, not_true_eq_false, not_false_eq_true, Bool.false_eq_true, reduceCtorEq, Nat.reduceAdd, Nat.reduceMul, Nat.reduceSub, ra_I, ra_In, ra_A, ra_An, ra_IA, ra_IL, ra_IR, ra_IP, ra_AI, ra_AL, ra_AR, ra_AP, ra_L, ra_Ln, ra_LI, ra_LA, ra_LR, ra_LP, ra_R, ra_Rn, ra_RI, ra_RA, ra_RL, ra_RP, ra_P, ra_Pn, ra_PI, ra_PA, ra_PL, ra_PR]
              · simp (disch := omega) only [hl2, h3, c3, h4, Nat.add_sub_cancel, if_true, if_false, nI_lit, nI_add, pk_sub, pk_mul, ma_neg, nI_clamp, ma_ltT, ma_ltF, ma_leT, ma_leF, ma_eqT, ma_eqF, nI_ltI, nI_leI, nI_eq, ma_obT, ma_obF, ma_enF, ma_neF, ma_nlT, ma_lnF, ma_nLT, ma_Ln, ↓reduceIte, Option.bind_some, Option.bind_none, true_and, and_true, false_and, and_false, ne_eq, not_true_eq_false, not_false_eq_true, Bool.false_eq_true, reduceCtorEq, Nat.reduceAdd, Nat.reduceMul, Nat.reduceSub, ra_I, ra_In, ra_A, ra_An, ra_IA, ra_IL, ra_IR, ra_IP, ra_AI, ra_AL, ra_AR, ra_AP, ra_L, ra_Ln, ra_LI, ra_LA, ra_LR, ra_LP, ra_R, ra_Rn, ra_RI, ra_RA, ra_RL, ra_RP, ra_P, ra_Pn, ra_PI, ra_PA, ra_PL, ra_PR]
            · rw [if_pos h3]; exact hS
          · by_cases h4 : k < 6
            · refine ⟨pu S a (t.length + 1) c p, ?_, pu_eq, ?_⟩
              · simp (disch := omega) only [hl2, h3, c3, h4, hb2, Nat.add_sub_cancel, if_true, if_false, nI_lit, nI_add, pk_sub, pk_mul, ma_neg, nI_clamp, ma_ltT, ma_ltF, ma_leT, ma_leF, ma_eqT, ma_eqF, nI_ltI, nI_leI, nI_eq, ma_obT, ma_obF, ma_enF, ma_neF, ma_nlT, ma_lnF, ma_nLT, ma_Ln, ↓reduceIte, Option.bind_some, Option.bind_none, true_and, and_true, false_and, and_false, ne_eq, not_true_eq_false, not_false_eq_true, Bool.false_eq_true, reduceCtorEq, Nat.reduceAdd, Nat.reduceMul, Nat.reduceSub, ra_I, ra_In, ra_A, ra_An, ra_IA, ra_IL, ra_IR, ra_IP, ra_AI, ra_AL, ra_AR, ra_AP, ra_L, ra_Ln, ra_LI, ra_LA, ra_LR, ra_LP, ra_R, ra_Rn, ra_RI, ra_RA, ra_RL, ra_RP, ra_P, ra_Pn, ra_PI, ra_PA, ra_PL, ra_PR]
              · rw [if_neg h3, if_pos h4]
                exact pu_SC (l := (o, b, k) :: t) hS hc hp
            · refine ⟨S, ?_, eq_r, ?_⟩
              · simp (disch := omega) only [hl2, h3, c3, h4, Nat.add_sub_cancel, if_true, if_false, nI_lit, nI_add, pk_sub, pk_mul, ma_neg, nI_clamp, ma_ltT, ma_ltF, ma_leT, ma_leF, ma_eqT, ma_eqF, nI_ltI, nI_leI, nI_eq, ma_obT, ma_obF, ma_enF, ma_neF, ma_nlT, ma_lnF, ma_nLT, ma_Ln, ↓reduceIte, Option.bind_some, Option.bind_none, true_and, and_true, false_and, and_false, ne_eq, not_true_eq_false, not_false_eq_true, Bool.false_eq_true, reduceCtorEq, Nat.reduceAdd, Nat.reduceMul, Nat.reduceSub, ra_I, ra_In, ra_A, ra_An, ra_IA, ra_IL, ra_IR, ra_IP, ra_AI, ra_AL, ra_AR, ra_AP, ra_L, ra_Ln, ra_LI, ra_LA, ra_LR, ra_LP, ra_R, ra_Rn, ra_RI, ra_RA, ra_RL, ra_RP, ra_P, ra_Pn, ra_PI, ra_PA, ra_PL, ra_PR]
              · rw [if_neg h3, if_neg h4]; exact hS
        have htk : ∀ cl : Nat, (if o = 40 then 41 else 93) = cl → tk A s ((o, b, k) :: t) p c = (if c = cl then (if 0 < k then 2 else 0) else if k < 6 then beg A s c else 0, if c = cl then (o, b, k) :: t else if k < 6 then (c, p, 0) :: (o, b, k) :: t else (o, b, k) :: t) := by
          intro cl hcl
          show (if o = 101 then _ else _) = _
          rw [if_neg h1, if_neg h2, hcl]
          by_cases h3 : c = cl
          · rw [if_pos h3, if_pos h3, if_pos h3]
          · rw [if_neg h3, if_neg h3, if_neg h3]
            by_cases h4 : k < 6
            · rw [if_pos h4, if_pos h4, if_pos h4]
            · rw [if_neg h4, if_neg h4, if_neg h4]
        by_cases h5 : o = 40
        · obtain ⟨S2, k1, k2, k3⟩ := key 41 (by omega) (by rw [if_pos h5])
          have ht := htk 41 (by rw [if_pos h5])
          refine ⟨S2, ?_, k2, ?_⟩
          · refine Eq.trans ?_ (k1.trans (congrArg (fun z => some (nI z, S2)) (congrArg Prod.fst ht).symm))
            simp (disch := omega) only [ha, hl2, c1, h1, h5, Nat.add_sub_cancel, nI_lit, nI_add, pk_sub, pk_mul, ma_neg, nI_clamp, ma_ltT, ma_ltF, ma_leT, ma_leF, ma_eqT, ma_eqF, nI_ltI, nI_leI, nI_eq, ma_obT, ma_obF, ma_enF, ma_neF, ma_nlT, ma_lnF, ma_nLT, ma_Ln, ↓reduceIte, Option.bind_some, Option.bind_none, true_and, and_true, false_and, and_false, ne_eq, not_true_eq_false, not_false_eq_true, Bool.false_eq_true, reduceCtorEq, Nat.reduceAdd, Nat.reduceMul, Nat.reduceSub, ra_I, ra_In, ra_A, ra_An, ra_IA, ra_IL, ra_IR, ra_IP, ra_AI, ra_AL, ra_AR, ra_AP, ra_L, ra_Ln, ra_LI, ra_LA, ra_LR, ra_LP, ra_R, ra_Rn, ra_RI, ra_RA, ra_RL, ra_RP, ra_P, ra_Pn, ra_PI, ra_PA, ra_PL, ra_PR]
            rw [h5] at e27
            simp (disch := omega) only [e27, nI_lit, nI_add, pk_sub, pk_mul, ma_neg, nI_clamp, ma_ltT, ma_ltF, ma_leT, ma_leF, ma_eqT, ma_eqF, nI_ltI, nI_leI, nI_eq, ma_obT, ma_obF, ma_enF, ma_neF, ma_nlT, ma_lnF, ma_nLT, ma_Ln, ↓reduceIte, Option.bind_some, Option.bind_none, true_and, and_true, false_and, and_false, ne_eq, not_true_eq_false, not_false_eq_true, Bool.false_eq_true, reduceCtorEq, Nat.reduceAdd, Nat.reduceMul, Nat.reduceSub, ra_I, ra_In, ra_A, ra_An, ra_IA, ra_IL, ra_IR, ra_IP, ra_AI, ra_AL, ra_AR, ra_AP, ra_L, ra_Ln, ra_LI, ra_LA, ra_LR, ra_LP, ra_R, ra_Rn, ra_RI, ra_RA, ra_RL, ra_RP, ra_P, ra_Pn, ra_PI, ra_PA, ra_PL, ra_PR]
          · exact (congrArg Prod.snd ht).symm ▸ k3
        · obtain ⟨S2, k1, k2, k3⟩ := key 93 (by omega) (by rw [if_neg h5])
          have ht := htk 93 (by rw [if_neg h5])
          refine ⟨S2, ?_, k2, ?_⟩
          · refine Eq.trans ?_ (k1.trans (congrArg (fun z => some (nI z, S2)) (congrArg Prod.fst ht).symm))
            simp (disch := omega) only [ha, hl2, c1, h1, h5, e27, Nat.add_sub_cancel, nI_lit, nI_add, pk_sub, pk_mul, ma_neg, nI_clamp, ma_ltT, ma_ltF, ma_leT, ma_leF, ma_eqT, ma_eqF, nI_ltI, nI_leI, nI_eq, ma_obT, ma_obF, ma_enF, ma_neF, ma_nlT, ma_lnF, ma_nLT, ma_Ln, ↓reduceIte, Option.bind_some, Option.bind_none, true_and, and_true, false_and, and_false, ne_eq, not_true_eq_false, not_false_eq_true, Bool.false_eq_true, reduceCtorEq, Nat.reduceAdd, Nat.reduceMul, Nat.reduceSub, ra_I, ra_In, ra_A, ra_An, ra_IA, ra_IL, ra_IR, ra_IP, ra_AI, ra_AL, ra_AR, ra_AP, ra_L, ra_Ln, ra_LI, ra_LA, ra_LR, ra_LP, ra_R, ra_Rn, ra_RI, ra_RA, ra_RL, ra_RP, ra_P, ra_Pn, ra_PI, ra_PA, ra_PL, ra_PR]
          · exact (congrArg Prod.snd ht).symm ▸ k3
/-- letters begun go with the term that they stand in front of -/
def pl : List (Nat × Nat × Nat) → List (Nat × Nat × Nat)
  | [] => []
  | (o, b, h) :: l => if 65 ≤ o ∧ o < 73 then pl l else (o, b, h) :: l
def eE (E : Nat → Nat) (e : Nat) : List (Nat × Nat × Nat) → Nat → Nat
  | [] => E
  | (o, b, _) :: l => if 65 ≤ o ∧ o < 73 then eE (fun i => if i = b then e else E i) e l else E
def hi1 : List (Nat × Nat × Nat) → List (Nat × Nat × Nat)
  | [] => []
  | (o, b, h) :: l => (o, b, h + 1) :: l
theorem po_SC {S : rn_T} {a e : Nat} {f : Nat × Nat × Nat} {l : List (Nat × Nat × Nat)} {E : Nat → Nat} (h : SC S a (f :: l) E) : SC (wA (wI S a 5 (nI l.length)) (a + 1) f.2.1 (nI e)) a l (fun i => if i = f.2.1 then e else E i) := by
  obtain ⟨h1, h2, h3⟩ := h
  refine ⟨by simp (disch := omega) only [ra_I, ra_In, ra_A, ra_An, ra_IA, ra_IL, ra_IR, ra_IP, ra_AI, ra_AL, ra_AR, ra_AP, ra_L, ra_Ln, ra_LI, ra_LA, ra_LR, ra_LP, ra_R, ra_Rn, ra_RI, ra_RA, ra_RL, ra_RP, ra_P, ra_Pn, ra_PI, ra_PA, ra_PL, ra_PR], ck_eq (fun i hi => ⟨by simp (disch := omega) only [ra_I, ra_In, ra_A, ra_An, ra_IA, ra_IL, ra_IR, ra_IP, ra_AI, ra_AL, ra_AR, ra_AP, ra_L, ra_Ln, ra_LI, ra_LA, ra_LR, ra_LP, ra_R, ra_Rn, ra_RI, ra_RA, ra_RL, ra_RP, ra_P, ra_Pn, ra_PI, ra_PA, ra_PL, ra_PR], by simp (disch := omega) only [ra_I, ra_In, ra_A, ra_An, ra_IA, ra_IL, ra_IR, ra_IP, ra_AI, ra_AL, ra_AR, ra_AP, ra_L, ra_Ln, ra_LI, ra_LA, ra_LR, ra_LP, ra_R, ra_Rn, ra_RI, ra_RA, ra_RL, ra_RP, ra_P, ra_Pn, ra_PI, ra_PA, ra_PL, ra_PR], by simp (disch := omega) only [ra_I, ra_In, ra_A, ra_An, ra_IA, ra_IL, ra_IR, ra_IP, ra_AI, ra_AL, ra_AR, ra_AP, ra_L, ra_Ln, ra_LI, ra_LA, ra_LR, ra_LP, ra_R, ra_Rn, ra_RI, ra_RA, ra_RL, ra_RP, ra_P, ra_Pn, ra_PI, ra_PA, ra_PL, ra_PR]⟩) h2.2.2.2.2.2.2, fun i hi => ?_⟩
  by_cases hb : i = f.2.1
  · subst hb
    simp only [if_true]
    simp (disch := omega) only [ra_I, ra_In, ra_A, ra_An, ra_IA, ra_IL, ra_IR, ra_IP, ra_AI, ra_AL, ra_AR, ra_AP, ra_L, ra_Ln, ra_LI, ra_LA, ra_LR, ra_LP, ra_R, ra_Rn, ra_RI, ra_RA, ra_RL, ra_RP, ra_P, ra_Pn, ra_PI, ra_PA, ra_PL, ra_PR]
  · simp only [if_neg hb]
    simp (disch := omega) only [ra_I, ra_In, ra_A, ra_An, ra_IA, ra_IL, ra_IR, ra_IP, ra_AI, ra_AL, ra_AR, ra_AP, ra_L, ra_Ln, ra_LI, ra_LA, ra_LR, ra_LP, ra_R, ra_Rn, ra_RI, ra_RA, ra_RL, ra_RP, ra_P, ra_Pn, ra_PI, ra_PA, ra_PL, ra_PR]
    exact h3 i hi
set_option maxHeartbeats 1000000 in
theorem ma_f138L {a e : Nat} {k : rn_T → Option rn_T} (ha : rn_kd a = 4) : ∀ (l : List (Nat × Nat × Nat)) (S : rn_T) (E : Nat → Nat) (fu : Nat), SC S a l E → l.length < 40 → l.length < fu → ∃ S2, f138_L19 a (nI e) fu S k = k S2 ∧ EqT (scO a) S S2 ∧ SC S2 a (pl l) (eE E e l) := by
  intro l
  induction l with
  | nil =>
    intro S E fu hS hl hf
    obtain ⟨g, rfl⟩ : ∃ g, fu = g + 1 := ⟨fu - 1, by omega⟩
    have h0 : rI S a 5 = nI 0 := hS.1
    refine ⟨S, ?_, eq_r, hS⟩
    unfold f138_L19
    simp (disch := omega) only [h0, nI_lit, nI_add, pk_sub, pk_mul, ma_neg, nI_clamp, ma_ltT, ma_ltF, ma_leT, ma_leF, ma_eqT, ma_eqF, nI_ltI, nI_leI, nI_eq, ma_obT, ma_obF, ma_enF, ma_neF, ma_nlT, ma_lnF, ma_nLT, ma_Ln, ↓reduceIte, Option.bind_some, Option.bind_none, true_and, and_true, false_and, and_false, ne_eq, not_true_eq_false, not_false_eq_true, Bool.false_eq_true, reduceCtorEq, Nat.reduceAdd, Nat.reduceMul, Nat.reduceSub, ra_I, ra_In, ra_A, ra_An, ra_IA, ra_IL, ra_IR, ra_IP, ra_AI, ra_AL, ra_AR, ra_AP, ra_L, ra_Ln, ra_LI, ra_LA, ra_LR, ra_LP, ra_R, ra_Rn, ra_RI, ra_RA, ra_RL, ra_RP, ra_P, ra_Pn, ra_PI, ra_PA, ra_PL, ra_PR]
  | cons f t ih =>
    intro S E fu hS hl hf
    obtain ⟨g, rfl⟩ : ∃ g, fu = g + 1 := ⟨fu - 1, by omega⟩
    obtain ⟨o, b, h⟩ := f
    have h0 : rI S a 5 = nI (t.length + 1) := hS.1
    have hl2 : t.length + 1 < 40 := hl
    have hf2 : t.length + 1 < g + 1 := hf
    obtain ⟨c1, c2, c3, c4, c5, c6, c7⟩ := hS.2.1
    simp only at c1 c2 c3 c4 c5 c6
    have e27 := ma_f27 c4
    unfold f138_L19
    by_cases h2 : 65 ≤ o ∧ o < 73
    · obtain ⟨S2, k1, k2, k3⟩ := ih (wA (wI S a 5 (nI t.length)) (a + 1) b (nI e)) _ g (po_SC hS) (by omega) (by omega)
      refine ⟨S2, ?_, eq_t (eq_t (eq_I (by unfold scO; omega)) (eq_A (by unfold scO; omega))) k2, ?_⟩
      · rw [← k1]
        have e27t : f27 (nI o) = true := by rw [e27, decide_eq_true_iff]; exact h2
        simp (disch := omega) only [h0, c1, c2, e27t, Nat.add_sub_cancel, nI_lit, nI_add, pk_sub, pk_mul, ma_neg, nI_clamp, ma_ltT, ma_ltF, ma_leT, ma_leF, ma_eqT, ma_eqF, nI_ltI, nI_leI, nI_eq, ma_obT, ma_obF, ma_enF, ma_neF, ma_nlT, ma_lnF, ma_nLT, ma_Ln, ↓reduceIte, Option.bind_some, Option.bind_none, true_and, and_true, false_and, and_false, ne_eq, not_true_eq_false, not_false_eq_true, Bool.false_eq_true, reduceCtorEq, Nat.reduceAdd, Nat.reduceMul, Nat.reduceSub, ra_I, ra_In, ra_A, ra_An, ra_IA, ra_IL, ra_IR, ra_IP, ra_AI, ra_AL, ra_AR, ra_AP, ra_L, ra_Ln, ra_LI, ra_LA, ra_LR, ra_LP, ra_R, ra_Rn, ra_RI, ra_RA, ra_RL, ra_RP, ra_P, ra_Pn, ra_PI, ra_PA, ra_PL, ra_PR]
      · unfold pl eE
        rw [if_pos h2, if_pos h2]
        exact k3
    · refine ⟨S, ?_, eq_r, ?_⟩
      · have e27t : f27 (nI o) = false := by rw [e27, decide_eq_false_iff_not]; exact h2
        simp (disch := omega) only [h0, c1, e27t, Nat.add_sub_cancel, nI_lit, nI_add, pk_sub, pk_mul, ma_neg, nI_clamp, ma_ltT, ma_ltF, ma_leT, ma_leF, ma_eqT, ma_eqF, nI_ltI, nI_leI, nI_eq, ma_obT, ma_obF, ma_enF, ma_neF, ma_nlT, ma_lnF, ma_nLT, ma_Ln, ↓reduceIte, Option.bind_some, Option.bind_none, true_and, and_true, false_and, and_false, ne_eq, not_true_eq_false, not_false_eq_true, Bool.false_eq_true, reduceCtorEq, Nat.reduceAdd, Nat.reduceMul, Nat.reduceSub, ra_I, ra_In, ra_A, ra_An, ra_IA, ra_IL, ra_IR, ra_IP, ra_AI, ra_AL, ra_AR, ra_AP, ra_L, ra_Ln, ra_LI, ra_LA, ra_LR, ra_LP, ra_R, ra_Rn, ra_RI, ra_RA, ra_RL, ra_RP, ra_P, ra_Pn, ra_PI, ra_PA, ra_PL, ra_PR]
      · unfold pl eE
        rw [if_neg h2, if_neg h2]
        exact hS
theorem pl_le : ∀ {l : List (Nat × Nat × Nat)}, (pl l).length ≤ l.length := by
  intro l
  induction l with
  | nil => exact Nat.le_refl _
  | cons f t ih =>
    obtain ⟨o, b, h⟩ := f
    unfold pl
    split
    · exact Nat.le_succ_of_le ih
    · exact Nat.le_refl _
set_option maxHeartbeats 1000000 in
theorem ma_f138 {S : rn_T} {a e : Nat} {f : Nat × Nat × Nat} {l : List (Nat × Nat × Nat)} {E : Nat → Nat} (ha : rn_kd a = 4) (hS : SC S a (f :: l) E) (hl : l.length < 40) (h5 : ∀ g t, pl l = g :: t → g.2.2 ≤ 5) : ∃ S2, f138 S a (nI e) = some S2 ∧ EqT (scO a) S S2 ∧ SC S2 a (hi1 (pl l)) (eE (fun i => if i = f.2.1 then e else E i) e l) := by
  have h0 : rI S a 5 = nI (l.length + 1) := hS.1
  obtain ⟨o, b, h⟩ := f
  obtain ⟨c1, c2, c3, c4, c5, c6, c7⟩ := hS.2.1
  simp only at c1 c2 c3 c4 c5 c6
  obtain ⟨S2, k1, k2, k3⟩ := ma_f138L (k := fun S11 => f138_J47 S11 a) (e := e) ha l _ _ rn_FU (po_SC (e := e) hS) hl (by unfold rn_FU; omega)
  have k2' : EqT (scO a) S S2 := eq_t (eq_t (eq_I (by unfold scO; omega)) (eq_A (by unfold scO; omega))) k2
  have hlen : (pl l).length ≤ l.length := pl_le
  have hf : f138 S a (nI e) = f138_J47 S2 a := by
    unfold f138
    rw [← k1]
    simp (disch := omega) only [ha, h0, c2, Nat.add_sub_cancel, nI_lit, nI_add, pk_sub, pk_mul, ma_neg, nI_clamp, ma_ltT, ma_ltF, ma_leT, ma_leF, ma_eqT, ma_eqF, nI_ltI, nI_leI, nI_eq, ma_obT, ma_obF, ma_enF, ma_neF, ma_nlT, ma_lnF, ma_nLT, ma_Ln, ↓reduceIte, Option.bind_some, Option.bind_none, true_and, and_true, false_and, and_false, ne_eq, not_true_eq_false, not_false_eq_true, Bool.false_eq_true, reduceCtorEq, Nat.reduceAdd, Nat.reduceMul, Nat.reduceSub, ra_I, ra_In, ra_A, ra_An, ra_IA, ra_IL, ra_IR, ra_IP, ra_AI, ra_AL, ra_AR, ra_AP, ra_L, ra_Ln, ra_LI, ra_LA, ra_LR, ra_LP, ra_R, ra_Rn, ra_RI, ra_RA, ra_RL, ra_RP, ra_P, ra_Pn, ra_PI, ra_PA, ra_PL, ra_PR]
  rw [hf]
  unfold f138_J47
  cases hp : pl l with
  | nil =>
    rw [hp] at k3
    refine ⟨S2, ?_, k2', k3⟩
    have h0 : rI S2 a 5 = nI 0 := k3.1
    simp (disch := omega) only [h0, nI_lit, nI_add, pk_sub, pk_mul, ma_neg, nI_clamp, ma_ltT, ma_ltF, ma_leT, ma_leF, ma_eqT, ma_eqF, nI_ltI, nI_leI, nI_eq, ma_obT, ma_obF, ma_enF, ma_neF, ma_nlT, ma_lnF, ma_nLT, ma_Ln, ↓reduceIte, Option.bind_some, Option.bind_none, true_and, and_true, false_and, and_false, ne_eq, not_true_eq_false, not_false_eq_true, Bool.false_eq_true, reduceCtorEq, Nat.reduceAdd, Nat.reduceMul, Nat.reduceSub, ra_I, ra_In, ra_A, ra_An, ra_IA, ra_IL, ra_IR, ra_IP, ra_AI, ra_AL, ra_AR, ra_AP, ra_L, ra_Ln, ra_LI, ra_LA, ra_LR, ra_LP, ra_R, ra_Rn, ra_RI, ra_RA, ra_RL, ra_RP, ra_P, ra_Pn, ra_PI, ra_PA, ra_PL, ra_PR]
  | cons g t =>
    rw [hp] at k3 hlen
    obtain ⟨o2, b2, h2⟩ := g
    have hg := h5 _ _ hp
    simp only at hg
    have h02 : rI S2 a 5 = nI (t.length + 1) := k3.1
    obtain ⟨d1, d2, d3, d4, d5, d6, d7⟩ := k3.2.1
    simp only [List.length_cons] at hlen d1 d2 d3 d4 d5 d6
    refine ⟨wA S2 (a + 4) t.length (nI (h2 + 1)), ?_, eq_t k2' (eq_A (by unfold scO; omega)), ?_⟩
    · simp (disch := omega) only [h02, d3, Nat.add_sub_cancel, nI_lit, nI_add, pk_sub, pk_mul, ma_neg, nI_clamp, ma_ltT, ma_ltF, ma_leT, ma_leF, ma_eqT, ma_eqF, nI_ltI, nI_leI, nI_eq, ma_obT, ma_obF, ma_enF, ma_neF, ma_nlT, ma_lnF, ma_nLT, ma_Ln, ↓reduceIte, Option.bind_some, Option.bind_none, true_and, and_true, false_and, and_false, ne_eq, not_true_eq_false, not_false_eq_true, Bool.false_eq_true, reduceCtorEq, Nat.reduceAdd, Nat.reduceMul, Nat.reduceSub, ra_I, ra_In, ra_A, ra_An, ra_IA, ra_IL, ra_IR, ra_IP, ra_AI, ra_AL, ra_AR, ra_AP, ra_L, ra_Ln, ra_LI, ra_LA, ra_LR, ra_LP, ra_R, ra_Rn, ra_RI, ra_RA, ra_RL, ra_RP, ra_P, ra_Pn, ra_PI, ra_PA, ra_PL, ra_PR]
    · refine ⟨h02, ⟨by simp (disch := omega) only [ra_I, ra_In, ra_A, ra_An, ra_IA, ra_IL, ra_IR, ra_IP, ra_AI, ra_AL, ra_AR, ra_AP, ra_L, ra_Ln, ra_LI, ra_LA, ra_LR, ra_LP, ra_R, ra_Rn, ra_RI, ra_RA, ra_RL, ra_RP, ra_P, ra_Pn, ra_PI, ra_PA, ra_PL, ra_PR]; exact d1, by simp (disch := omega) only [ra_I, ra_In, ra_A, ra_An, ra_IA, ra_IL, ra_IR, ra_IP, ra_AI, ra_AL, ra_AR, ra_AP, ra_L, ra_Ln, ra_LI, ra_LA, ra_LR, ra_LP, ra_R, ra_Rn, ra_RI, ra_RA, ra_RL, ra_RP, ra_P, ra_Pn, ra_PI, ra_PA, ra_PL, ra_PR]; exact d2, ra_A, d4, d5, by show h2 + 1 ≤ 6; omega, ck_eq (fun i hi => ⟨by simp (disch := omega) only [ra_I, ra_In, ra_A, ra_An, ra_IA, ra_IL, ra_IR, ra_IP, ra_AI, ra_AL, ra_AR, ra_AP, ra_L, ra_Ln, ra_LI, ra_LA, ra_LR, ra_LP, ra_R, ra_Rn, ra_RI, ra_RA, ra_RL, ra_RP, ra_P, ra_Pn, ra_PI, ra_PA, ra_PL, ra_PR], by simp (disch := omega) only [ra_I, ra_In, ra_A, ra_An, ra_IA, ra_IL, ra_IR, ra_IP, ra_AI, ra_AL, ra_AR, ra_AP, ra_L, ra_Ln, ra_LI, ra_LA, ra_LR, ra_LP, ra_R, ra_Rn, ra_RI, ra_RA, ra_RL, ra_RP, ra_P, ra_Pn, ra_PI, ra_PA, ra_PL, ra_PR], by simp (disch := omega) only [ra_I, ra_In, ra_A, ra_An, ra_IA, ra_IL, ra_IR, ra_IP, ra_AI, ra_AL, ra_AR, ra_AP, ra_L, ra_Ln, ra_LI, ra_LA, ra_LR, ra_LP, ra_R, ra_Rn, ra_RI, ra_RA, ra_RL, ra_RP, ra_P, ra_Pn, ra_PI, ra_PA, ra_PL, ra_PR]⟩) d7⟩, fun i hi => ?_⟩
      simp (disch := omega) only [ra_I, ra_In, ra_A, ra_An, ra_IA, ra_IL, ra_IR, ra_IP, ra_AI, ra_AL, ra_AR, ra_AP, ra_L, ra_Ln, ra_LI, ra_LA, ra_LR, ra_LP, ra_R, ra_Rn, ra_RI, ra_RA, ra_RL, ra_RP, ra_P, ra_Pn, ra_PI, ra_PA, ra_PL, ra_PR]
      exact k3.2.2 i hi
