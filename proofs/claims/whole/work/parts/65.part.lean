/-! 65: the reference adds a part -/
theorem ma_f52 {c : Nat} (h : c ≤ 126) : f52 (nI c) = nI (kO c) := (by decide +kernel : ∀ c, c ≤ 126 → f52 (nI c) = nI (kO c)) c h
def mp (M : rn_T) (T : rn_TR) (p : Option Nat) (k : Nat) (t2 : Int32) : rn_T := match p with
  | none => wI (wA (wA (wA (wA (wA M 322 (tN T) (nI k)) 323 (tN T) t2) 324 (tN T) (-nI 6)) 326 (tN T) (nI 0)) 325 (tN T) (nI 0)) 318 10 (nI (tN T + 1))
  | some q => wI (wA (wA (wA (wA (wA (wA M 322 (tN T) (nI k)) 323 (tN T) t2) 324 (tN T) (nI q)) 326 (tN T) (nI 0)) 325 (tN T) (nI (tC T q))) 326 q (nI (tC T q + 1))) 318 10 (nI (tN T + 1))
def eP (M M2 : rn_T) : Prop := EqT (fun q => q ≠ 318 ∧ (q < 322 ∨ 327 ≤ q)) M M2 ∧ ∀ k, k ≠ 10 → rI M2 318 k = rI M 318 k
theorem eP_M {M M2 : rn_T} (h : eP M M2) : eqM M M2 := ⟨eq_m h.1 (fun q hq => by omega), h.2 2 (by omega), h.2 33 (by omega)⟩
theorem eP_mp {M : rn_T} {T : rn_TR} {p : Option Nat} {k : Nat} {t2 : Int32} : eP M (mp M T p k t2) := by
  unfold mp
  split
  · refine ⟨?_, fun k hk => by simp (disch := omega) only [ra_I, ra_In, ra_A, ra_An, ra_IA, ra_IL, ra_IR, ra_IP, ra_AI, ra_AL, ra_AR, ra_AP, ra_L, ra_Ln, ra_LI, ra_LA, ra_LR, ra_LP, ra_R, ra_Rn, ra_RI, ra_RA, ra_RL, ra_RP, ra_P, ra_Pn, ra_PI, ra_PA, ra_PL, ra_PR]⟩
    exact eq_t (eq_t (eq_t (eq_t (eq_t (eq_A (by omega)) (eq_A (by omega))) (eq_A (by omega))) (eq_A (by omega))) (eq_A (by omega))) (eq_I (by omega))
  · refine ⟨?_, fun k hk => by simp (disch := omega) only [ra_I, ra_In, ra_A, ra_An, ra_IA, ra_IL, ra_IR, ra_IP, ra_AI, ra_AL, ra_AR, ra_AP, ra_L, ra_Ln, ra_LI, ra_LA, ra_LR, ra_LP, ra_R, ra_Rn, ra_RI, ra_RA, ra_RL, ra_RP, ra_P, ra_Pn, ra_PI, ra_PA, ra_PL, ra_PR]⟩
    exact eq_t (eq_t (eq_t (eq_t (eq_t (eq_t (eq_A (by omega)) (eq_A (by omega))) (eq_A (by omega))) (eq_A (by omega))) (eq_A (by omega))) (eq_A (by omega))) (eq_I (by omega))
theorem mb_add {M : rn_T} {T : rn_TR} {p : Option Nat} {k o : Nat} {t2 : Int32} (h : MB M T) (hp : PP T p) (hw : TW T) (ho : k = 1 ∨ k = 3 → t2 = nI o) : MB (mp M T p k t2) (addP T k o p) := by
  have hq : ∀ q, p = some q → q < tN T := by
    intro q e
    rcases hp with ⟨rfl, b⟩ | ⟨q2, rfl, b1, b2, b3⟩
    · cases e
    · cases e; exact b1
  refine ⟨?_, fun i hi => ?_⟩
  · show _ = nI (tN T + 1)
    unfold mp
    split <;> simp (disch := omega) only [ra_I, ra_In, ra_A, ra_An, ra_IA, ra_IL, ra_IR, ra_IP, ra_AI, ra_AL, ra_AR, ra_AP, ra_L, ra_Ln, ra_LI, ra_LA, ra_LR, ra_LP, ra_R, ra_Rn, ra_RI, ra_RA, ra_RL, ra_RP, ra_P, ra_Pn, ra_PI, ra_PA, ra_PL, ra_PR]
  · have hi : i < tN T + 1 := hi
    by_cases e : i = tN T
    · subst e
      unfold mB
      have eC : tC (addP T k o p) (tN T) = 0 := by rw [ad_C, if_pos rfl]
      have eK : tK (addP T k o p) (tN T) = k := by rw [ad_K, if_pos rfl]
      have eO : tO (addP T k o p) (tN T) = o := by rw [ad_O, if_pos rfl]
      have eP : tP (addP T k o p) (tN T) = p.getD 0 := by rw [ad_P, if_pos rfl]
      have eI : tI (addP T k o p) (tN T) = pI T p := by rw [ad_I, if_pos rfl]
      rw [eC, eK, eO, eP, eI]
      rcases hp with ⟨rfl, b⟩ | ⟨q2, rfl, b1, b2, b3⟩
      · unfold mp
        rw [if_pos b]
        refine ⟨?_, fun hk => ?_, ?_, ?_, ?_⟩
        · simp (disch := omega) only [ra_I, ra_In, ra_A, ra_An, ra_IA, ra_IL, ra_IR, ra_IP, ra_AI, ra_AL, ra_AR, ra_AP, ra_L, ra_Ln, ra_LI, ra_LA, ra_LR, ra_LP, ra_R, ra_Rn, ra_RI, ra_RA, ra_RL, ra_RP, ra_P, ra_Pn, ra_PI, ra_PA, ra_PL, ra_PR]
        · simp (disch := omega) only [ra_I, ra_In, ra_A, ra_An, ra_IA, ra_IL, ra_IR, ra_IP, ra_AI, ra_AL, ra_AR, ra_AP, ra_L, ra_Ln, ra_LI, ra_LA, ra_LR, ra_LP, ra_R, ra_Rn, ra_RI, ra_RA, ra_RL, ra_RP, ra_P, ra_Pn, ra_PI, ra_PA, ra_PL, ra_PR]
          exact ho hk
        · simp (disch := omega) only [ra_I, ra_In, ra_A, ra_An, ra_IA, ra_IL, ra_IR, ra_IP, ra_AI, ra_AL, ra_AR, ra_AP, ra_L, ra_Ln, ra_LI, ra_LA, ra_LR, ra_LP, ra_R, ra_Rn, ra_RI, ra_RA, ra_RL, ra_RP, ra_P, ra_Pn, ra_PI, ra_PA, ra_PL, ra_PR]
        · rw [show pI T none = 0 from rfl]; simp (disch := omega) only [ra_I, ra_In, ra_A, ra_An, ra_IA, ra_IL, ra_IR, ra_IP, ra_AI, ra_AL, ra_AR, ra_AP, ra_L, ra_Ln, ra_LI, ra_LA, ra_LR, ra_LP, ra_R, ra_Rn, ra_RI, ra_RA, ra_RL, ra_RP, ra_P, ra_Pn, ra_PI, ra_PA, ra_PL, ra_PR]
        · simp (disch := omega) only [ra_I, ra_In, ra_A, ra_An, ra_IA, ra_IL, ra_IR, ra_IP, ra_AI, ra_AL, ra_AR, ra_AP, ra_L, ra_Ln, ra_LI, ra_LA, ra_LR, ra_LP, ra_R, ra_Rn, ra_RI, ra_RA, ra_RL, ra_RP, ra_P, ra_Pn, ra_PI, ra_PA, ra_PL, ra_PR]
      · unfold mp
        rw [if_neg (show ¬ tN T = 0 by omega)]
        refine ⟨?_, fun hk => ?_, ?_, ?_, ?_⟩
        · simp (disch := omega) only [ra_I, ra_In, ra_A, ra_An, ra_IA, ra_IL, ra_IR, ra_IP, ra_AI, ra_AL, ra_AR, ra_AP, ra_L, ra_Ln, ra_LI, ra_LA, ra_LR, ra_LP, ra_R, ra_Rn, ra_RI, ra_RA, ra_RL, ra_RP, ra_P, ra_Pn, ra_PI, ra_PA, ra_PL, ra_PR]
        · simp (disch := omega) only [ra_I, ra_In, ra_A, ra_An, ra_IA, ra_IL, ra_IR, ra_IP, ra_AI, ra_AL, ra_AR, ra_AP, ra_L, ra_Ln, ra_LI, ra_LA, ra_LR, ra_LP, ra_R, ra_Rn, ra_RI, ra_RA, ra_RL, ra_RP, ra_P, ra_Pn, ra_PI, ra_PA, ra_PL, ra_PR]
          exact ho hk
        · simp (disch := omega) only [ra_I, ra_In, ra_A, ra_An, ra_IA, ra_IL, ra_IR, ra_IP, ra_AI, ra_AL, ra_AR, ra_AP, ra_L, ra_Ln, ra_LI, ra_LA, ra_LR, ra_LP, ra_R, ra_Rn, ra_RI, ra_RA, ra_RL, ra_RP, ra_P, ra_Pn, ra_PI, ra_PA, ra_PL, ra_PR]
          rfl
        · rw [show pI T (some q2) = tC T q2 from rfl]; simp (disch := omega) only [ra_I, ra_In, ra_A, ra_An, ra_IA, ra_IL, ra_IR, ra_IP, ra_AI, ra_AL, ra_AR, ra_AP, ra_L, ra_Ln, ra_LI, ra_LA, ra_LR, ra_LP, ra_R, ra_Rn, ra_RI, ra_RA, ra_RL, ra_RP, ra_P, ra_Pn, ra_PI, ra_PA, ra_PL, ra_PR]
        · simp (disch := omega) only [ra_I, ra_In, ra_A, ra_An, ra_IA, ra_IL, ra_IR, ra_IP, ra_AI, ra_AL, ra_AR, ra_AP, ra_L, ra_Ln, ra_LI, ra_LA, ra_LR, ra_LP, ra_R, ra_Rn, ra_RI, ra_RA, ra_RL, ra_RP, ra_P, ra_Pn, ra_PI, ra_PA, ra_PL, ra_PR]
    · have hi2 : i < tN T := by omega
      obtain ⟨g1, g2, g3, g4, g5⟩ := h.2 i hi2
      have eC : tC (addP T k o p) i = if p = some i then tC T i + 1 else tC T i := by rw [ad_C, if_neg e]
      have eK : tK (addP T k o p) i = tK T i := by rw [ad_K, if_neg e]
      have eO : tO (addP T k o p) i = tO T i := by rw [ad_O, if_neg e]
      have eP : tP (addP T k o p) i = tP T i := by rw [ad_P, if_neg e]
      have eI : tI (addP T k o p) i = tI T i := by rw [ad_I, if_neg e]
      unfold mB
      rw [eC, eK, eO, eP, eI, ← g1, ← g3, ← g4]
      refine ⟨?_, fun hk => ?_, ?_, ?_, ?_⟩
      · unfold mp; split <;> simp (disch := omega) only [ra_I, ra_In, ra_A, ra_An, ra_IA, ra_IL, ra_IR, ra_IP, ra_AI, ra_AL, ra_AR, ra_AP, ra_L, ra_Ln, ra_LI, ra_LA, ra_LR, ra_LP, ra_R, ra_Rn, ra_RI, ra_RA, ra_RL, ra_RP, ra_P, ra_Pn, ra_PI, ra_PA, ra_PL, ra_PR]
      · rw [← g2 hk]
        unfold mp; split <;> simp (disch := omega) only [ra_I, ra_In, ra_A, ra_An, ra_IA, ra_IL, ra_IR, ra_IP, ra_AI, ra_AL, ra_AR, ra_AP, ra_L, ra_Ln, ra_LI, ra_LA, ra_LR, ra_LP, ra_R, ra_Rn, ra_RI, ra_RA, ra_RL, ra_RP, ra_P, ra_Pn, ra_PI, ra_PA, ra_PL, ra_PR]
      · unfold mp; split <;> simp (disch := omega) only [ra_I, ra_In, ra_A, ra_An, ra_IA, ra_IL, ra_IR, ra_IP, ra_AI, ra_AL, ra_AR, ra_AP, ra_L, ra_Ln, ra_LI, ra_LA, ra_LR, ra_LP, ra_R, ra_Rn, ra_RI, ra_RA, ra_RL, ra_RP, ra_P, ra_Pn, ra_PI, ra_PA, ra_PL, ra_PR]
      · unfold mp; split <;> simp (disch := omega) only [ra_I, ra_In, ra_A, ra_An, ra_IA, ra_IL, ra_IR, ra_IP, ra_AI, ra_AL, ra_AR, ra_AP, ra_L, ra_Ln, ra_LI, ra_LA, ra_LR, ra_LP, ra_R, ra_Rn, ra_RI, ra_RA, ra_RL, ra_RP, ra_P, ra_Pn, ra_PI, ra_PA, ra_PL, ra_PR]
      · unfold mp
        split
        · simp only [reduceCtorEq, if_false]
          rw [← g5]
          simp (disch := omega) only [ra_I, ra_In, ra_A, ra_An, ra_IA, ra_IL, ra_IR, ra_IP, ra_AI, ra_AL, ra_AR, ra_AP, ra_L, ra_Ln, ra_LI, ra_LA, ra_LR, ra_LP, ra_R, ra_Rn, ra_RI, ra_RA, ra_RL, ra_RP, ra_P, ra_Pn, ra_PI, ra_PA, ra_PL, ra_PR]
        · rename_i q
          have := hq q rfl
          by_cases e2 : q = i
          · subst e2
            rw [if_pos rfl]
            simp (disch := omega) only [ra_I, ra_In, ra_A, ra_An, ra_IA, ra_IL, ra_IR, ra_IP, ra_AI, ra_AL, ra_AR, ra_AP, ra_L, ra_Ln, ra_LI, ra_LA, ra_LR, ra_LP, ra_R, ra_Rn, ra_RI, ra_RA, ra_RL, ra_RP, ra_P, ra_Pn, ra_PI, ra_PA, ra_PL, ra_PR]
          · rw [if_neg (fun hh => e2 (Option.some.inj hh)), ← g5]
            simp (disch := omega) only [ra_I, ra_In, ra_A, ra_An, ra_IA, ra_IL, ra_IR, ra_IP, ra_AI, ra_AL, ra_AR, ra_AP, ra_L, ra_Ln, ra_LI, ra_LA, ra_LR, ra_LP, ra_R, ra_Rn, ra_RI, ra_RA, ra_RL, ra_RP, ra_P, ra_Pn, ra_PI, ra_PA, ra_PL, ra_PR]
/-- f54 up to what is within -/
theorem rf_part {M : rn_T} {A : rn_AT} {T : rn_TR} {p : Option Nat} {sh at1 : Nat} {bi : Int32} (hm : PM M A) (ho : OKA A) (hs : sh < 8) (h : MB M T) (hp : PP T p) (hn : tN T < 101) (ha : at1 < aN A sh) (he : aC A sh at1 = 101 → at1 + 1 < aN A sh ∧ 50 ≤ aC A sh (at1 + 1)) (hsg : aC A sh at1 = 40 ∨ aC A sh at1 = 48 ∨ aC A sh at1 = 49 ∨ aC A sh at1 = 50 ∨ aC A sh at1 = 52 ∨ aC A sh at1 = 91 ∨ aC A sh at1 = 98 ∨ aC A sh at1 = 101 ∨ aC A sh at1 = 112) : ∃ t2, (kO (aC A sh at1) = 1 ∨ kO (aC A sh at1) = 3 → t2 = nI (nO (aC A sh at1) (aC A sh (at1 + 1)))) ∧ f54 M (nI sh) (nI at1) bi (encM p) = (if aC A sh at1 = 40 ∨ aC A sh at1 = 91 then f53 (mp M T p (kO (aC A sh at1)) t2) (nI sh) (nI at1) bi (nI (tN T)) else some (mp M T p (kO (aC A sh at1)) t2)) := by
  have hN := ho.1 sh hs
  have hc := ho.2.1 sh hs at1 (by omega)
  have hc0 := ho.2.2.1 sh hs at1 ha
  have hn2 := h.1
  have hpm : ∀ v, PM (wA M 322 (tN T) v) A := fun v => pm_eq hm ⟨eq_A (by omega), rfl, rfl⟩
  have hj : ∀ t2 : Int32, f54_J31 (wA M 322 (tN T) (nI (kO (aC A sh at1)))) (nI sh) (nI at1) bi (encM p) (nI (aC A sh at1)) (nI (tN T)) t2 = (if aC A sh at1 = 40 ∨ aC A sh at1 = 91 then f53 (mp M T p (kO (aC A sh at1)) t2) (nI sh) (nI at1) bi (nI (tN T)) else some (mp M T p (kO (aC A sh at1)) t2)) := by
    intro t2
    have hJ67 : ∀ M2 : rn_T, rI M2 318 10 = nI (tN T) → f54_J67 M2 (nI sh) (nI at1) bi (nI (aC A sh at1)) = if aC A sh at1 = 40 ∨ aC A sh at1 = 91 then f53 (wI M2 318 10 (nI (tN T + 1))) (nI sh) (nI at1) bi (nI (tN T)) else some (wI M2 318 10 (nI (tN T + 1))) := by
      intro M2 h2
      unfold f54_J67 f54_J79
      by_cases c1 : aC A sh at1 = 40
      · simp (disch := omega) only [h2, c1, true_or, Nat.add_sub_cancel, Option.bind_fun_some, nI_lit, nI_add, pk_sub, pk_mul, ma_neg, nI_clamp, ma_ltT, ma_ltF, ma_leT, ma_leF, ma_eqT, ma_eqF, nI_ltI, nI_leI, nI_eq, ma_obT, ma_obF, ma_enF, ma_neF, ma_nlT, ma_lnF, ma_nLT, ma_Ln, ↓reduceIte, Option.bind_some, Option.bind_none, true_and, and_true, false_and, and_false, ne_eq, not_true_eq_false, not_false_eq_true, Bool.false_eq_true, reduceCtorEq, Nat.reduceAdd, Nat.reduceMul, Nat.reduceSub, ra_I, ra_In, ra_A, ra_An, ra_IA, ra_IL, ra_IR, ra_IP, ra_AI, ra_AL, ra_AR, ra_AP, ra_L, ra_Ln, ra_LI, ra_LA, ra_LR, ra_LP, ra_R, ra_Rn, ra_RI, ra_RA, ra_RL, ra_RP, ra_P, ra_Pn, ra_PI, ra_PA, ra_PL, ra_PR]
      · by_cases c2 : aC A sh at1 = 91
        · simp (disch := omega) only [h2, c2, or_true, Nat.add_sub_cancel, Option.bind_fun_some, nI_lit, nI_add, pk_sub, pk_mul, ma_neg, nI_clamp, ma_ltT, ma_ltF, ma_leT, ma_leF, ma_eqT, ma_eqF, nI_ltI, nI_leI, nI_eq, ma_obT, ma_obF, ma_enF, ma_neF, ma_nlT, ma_lnF, ma_nLT, ma_Ln, ↓reduceIte, Option.bind_some, Option.bind_none, true_and, and_true, false_and, and_false, ne_eq, not_true_eq_false, not_false_eq_true, Bool.false_eq_true, reduceCtorEq, Nat.reduceAdd, Nat.reduceMul, Nat.reduceSub, ra_I, ra_In, ra_A, ra_An, ra_IA, ra_IL, ra_IR, ra_IP, ra_AI, ra_AL, ra_AR, ra_AP, ra_L, ra_Ln, ra_LI, ra_LA, ra_LR, ra_LP, ra_R, ra_Rn, ra_RI, ra_RA, ra_RL, ra_RP, ra_P, ra_Pn, ra_PI, ra_PA, ra_PL, ra_PR]
        · simp (disch := omega) only [h2, c1, c2, or_self, nI_lit, nI_add, pk_sub, pk_mul, ma_neg, nI_clamp, ma_ltT, ma_ltF, ma_leT, ma_leF, ma_eqT, ma_eqF, nI_ltI, nI_leI, nI_eq, ma_obT, ma_obF, ma_enF, ma_neF, ma_nlT, ma_lnF, ma_nLT, ma_Ln, ↓reduceIte, Option.bind_some, Option.bind_none, true_and, and_true, false_and, and_false, ne_eq, not_true_eq_false, not_false_eq_true, Bool.false_eq_true, reduceCtorEq, Nat.reduceAdd, Nat.reduceMul, Nat.reduceSub, ra_I, ra_In, ra_A, ra_An, ra_IA, ra_IL, ra_IR, ra_IP, ra_AI, ra_AL, ra_AR, ra_AP, ra_L, ra_Ln, ra_LI, ra_LA, ra_LR, ra_LP, ra_R, ra_Rn, ra_RI, ra_RA, ra_RL, ra_RP, ra_P, ra_Pn, ra_PI, ra_PA, ra_PL, ra_PR]
    rcases hp with ⟨rfl, b⟩ | ⟨q, rfl, b1, b2, b3⟩
    · unfold f54_J31 f54_J56 mp encM
      simp (disch := omega) only [hn2, nI_lit, nI_add, pk_sub, pk_mul, ma_neg, nI_clamp, ma_ltT, ma_ltF, ma_leT, ma_leF, ma_eqT, ma_eqF, nI_ltI, nI_leI, nI_eq, ma_obT, ma_obF, ma_enF, ma_neF, ma_nlT, ma_lnF, ma_nLT, ma_Ln, ↓reduceIte, Option.bind_some, Option.bind_none, true_and, and_true, false_and, and_false, ne_eq, not_true_eq_false, not_false_eq_true, Bool.false_eq_true, reduceCtorEq, Nat.reduceAdd, Nat.reduceMul, Nat.reduceSub, ra_I, ra_In, ra_A, ra_An, ra_IA, ra_IL, ra_IR, ra_IP, ra_AI, ra_AL, ra_AR, ra_AP, ra_L, ra_Ln, ra_LI, ra_LA, ra_LR, ra_LP, ra_R, ra_Rn, ra_RI, ra_RA, ra_RL, ra_RP, ra_P, ra_Pn, ra_PI, ra_PA, ra_PL, ra_PR]
      rw [hJ67 _ (by simp (disch := omega) only [ra_I, ra_In, ra_A, ra_An, ra_IA, ra_IL, ra_IR, ra_IP, ra_AI, ra_AL, ra_AR, ra_AP, ra_L, ra_Ln, ra_LI, ra_LA, ra_LR, ra_LP, ra_R, ra_Rn, ra_RI, ra_RA, ra_RL, ra_RP, ra_P, ra_Pn, ra_PI, ra_PA, ra_PL, ra_PR]; exact hn2)]
    · have hq5 := (h.2 q b1).2.2.2.2
      unfold f54_J31 f54_J56 mp encM
      simp (disch := omega) only [hn2, hq5, nI_lit, nI_add, pk_sub, pk_mul, ma_neg, nI_clamp, ma_ltT, ma_ltF, ma_leT, ma_leF, ma_eqT, ma_eqF, nI_ltI, nI_leI, nI_eq, ma_obT, ma_obF, ma_enF, ma_neF, ma_nlT, ma_lnF, ma_nLT, ma_Ln, ↓reduceIte, Option.bind_some, Option.bind_none, true_and, and_true, false_and, and_false, ne_eq, not_true_eq_false, not_false_eq_true, Bool.false_eq_true, reduceCtorEq, Nat.reduceAdd, Nat.reduceMul, Nat.reduceSub, ra_I, ra_In, ra_A, ra_An, ra_IA, ra_IL, ra_IR, ra_IP, ra_AI, ra_AL, ra_AR, ra_AP, ra_L, ra_Ln, ra_LI, ra_LA, ra_LR, ra_LP, ra_R, ra_Rn, ra_RI, ra_RA, ra_RL, ra_RP, ra_P, ra_Pn, ra_PI, ra_PA, ra_PL, ra_PR]
      rw [hJ67 _ (by simp (disch := omega) only [ra_I, ra_In, ra_A, ra_An, ra_IA, ra_IL, ra_IR, ra_IP, ra_AI, ra_AL, ra_AR, ra_AP, ra_L, ra_Ln, ra_LI, ra_LA, ra_LR, ra_LP, ra_R, ra_Rn, ra_RI, ra_RA, ra_RL, ra_RP, ra_P, ra_Pn, ra_PI, ra_PA, ra_PL, ra_PR]; exact hn2)]
  by_cases c1 : aC A sh at1 = 101
  · obtain ⟨e1, e2⟩ := he c1
    refine ⟨nI (aC A sh (at1 + 1)) - (48 : Int32), fun _ => ?_, ?_⟩
    · unfold nO
      rw [if_pos c1, nI_lit, pk_sub (show 48 ≤ aC A sh (at1 + 1) by omega)]
    · rw [← hj]
      unfold f54
      rw [ma_f33 hm hs (show at1 < 40 by omega), Option.bind_some, hn2, ma_f52 hc]
      simp (disch := omega) only [ma_f33 (hpm _) hs (show at1 + 1 < 40 by omega), hn2, nI_lit, nI_add, pk_sub, pk_mul, ma_neg, nI_clamp, ma_ltT, ma_ltF, ma_leT, ma_leF, ma_eqT, ma_eqF, nI_ltI, nI_leI, nI_eq, ma_obT, ma_obF, ma_enF, ma_neF, ma_nlT, ma_lnF, ma_nLT, ma_Ln, ↓reduceIte, Option.bind_some, Option.bind_none, true_and, and_true, false_and, and_false, ne_eq, not_true_eq_false, not_false_eq_true, Bool.false_eq_true, reduceCtorEq, Nat.reduceAdd, Nat.reduceMul, Nat.reduceSub]
      try (rw [ra_IA, hn2])
  · refine ⟨nI (aC A sh at1) - (48 : Int32), fun hk => ?_, ?_⟩
    · unfold nO
      rw [if_neg c1]
      have h48 : 48 ≤ aC A sh at1 := by
        rcases hsg with h | h | h | h | h | h | h | h | h
        · rw [h] at hk; exact absurd hk (by decide)
        all_goals omega
      rw [nI_lit, pk_sub h48]
    · rw [← hj]
      unfold f54
      rw [ma_f33 hm hs (show at1 < 40 by omega), Option.bind_some, hn2, ma_f52 hc]
      simp (disch := omega) only [hn2, nI_lit, nI_add, pk_sub, pk_mul, ma_neg, nI_clamp, ma_ltT, ma_ltF, ma_leT, ma_leF, ma_eqT, ma_eqF, nI_ltI, nI_leI, nI_eq, ma_obT, ma_obF, ma_enF, ma_neF, ma_nlT, ma_lnF, ma_nLT, ma_Ln, ↓reduceIte, Option.bind_some, Option.bind_none, true_and, and_true, false_and, and_false, ne_eq, not_true_eq_false, not_false_eq_true, Bool.false_eq_true, reduceCtorEq, Nat.reduceAdd, Nat.reduceMul, Nat.reduceSub]
      try (rw [ra_IA, hn2])
