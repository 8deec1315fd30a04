/-! 69: each side adds a part -/
theorem is_eq {S S2 : rn_T} {t : rn_IT} (h : IS S t) (h0 : ∀ j, j ≠ 0 → j ≠ 15 → rI S2 66 j = rI S 66 j) : IS S2 t := by
  unfold IS
  rw [h0 3 (by omega) (by omega), h0 4 (by omega) (by omega), h0 5 (by omega) (by omega)]; exact h
theorem LF_66 {S S2 : rn_T} {b k o j : Nat} (hb : 66 < b) (h : LF b S S2 k o) : rI S2 66 j = rI S 66 j := h.1 66 j (by omega)
theorem cl_add {A : rn_AT} {E : Nat → Nat} {X : Nat → rn_IT} {n g e : Nat} {T : rn_TR} {F : List rn_FT} {S : rn_T} {t : rn_IT} {p : Option Nat} (ho : OKA A) (hS : CB S A X n g T F) (hi : IS S t) (t1 : t.1 < 8) (t3 : TM (aC A t.1) (aO A) t.1 E t.2.1 e) (t4 : e ≤ aN A t.1) (hw : TW T) (hp : PP T p) (hn : tN T < 100) (hF : F.length < 100) (hc : ¬ (aC A t.1 t.2.1 = 120 ∨ isL (aC A t.1 t.2.1))) (F2 : List rn_FT) (hF2 : (¬ (aC A t.1 t.2.1 = 40 ∨ aC A t.1 t.2.1 = 91) ∧ F2 = F) ∨ ((aC A t.1 t.2.1 = 40 ∨ aC A t.1 t.2.1 = 91) ∧ ∃ l q, l.headD q = t.2.1 + 1 ∧ F2 = (tN T, t.1, l, q, t.2.2) :: F)) : ∃ S2, gq S (p.map fun q => 76 + 2 * q) = some (true, S2) ∧ EqT (fun q => q < 66 ∨ 276 ≤ q) S S2 ∧ CB S2 A X n g (addP T (kO (aC A t.1 t.2.1)) (nO (aC A t.1 t.2.1) (aC A t.1 (t.2.1 + 1))) p) F2 := by
  obtain ⟨s1, s2, s3, s4, s5, s6⟩ := hS
  have hlt := TM_lt t3
  have hN := ho.1 t.1 t1
  have hc1 := ho.2.1 t.1 t1 t.2.1 (by omega)
  have hE := rs_E (S := S) hn hp
  have hps : PS (rs S T p) A := ps_eq s1 (eq_m hE (fun q hq => by omega))
  have h66 : ∀ j, j ≠ 0 → rI (rs S T p) 66 j = rI S 66 j := fun j hj => rs_I (by omega) (by omega) (fun a ha => by omega)
  have hi1 : IS (rs S T p) t := is_eq hi (fun j h0 _ => h66 j h0)
  have hk := ma_kd3 hn
  have hsg := ma_f115 hps ho t1 (show t.2.1 < 2 ^ 31 by omega)
  have hsg2 := ma_f115 hps ho t1 (show t.2.1 + 1 < 2 ^ 31 by omega)
  rw [if_pos (show t.2.1 < aN A t.1 by omega)] at hsg
  have hfd : FD (rs S T p) F := fd_eq s5 (fun k hk => by rw [rs_72, rs_A]; exact ⟨rfl, rfl, rfl, rfl⟩)
  have hx1 : XS (rs S T p) X n := xs_eq s2 (h66 10 (by omega)) rs_A
  have hg : gq S (p.map fun q => 76 + 2 * q) = if (nI (aC A t.1 t.2.1)) = (40 : Int32) then f159_J38 (rs S T p) (76 + 2 * tN T) (nI (aC A t.1 t.2.1)) else if (nI (aC A t.1 t.2.1)) = (91 : Int32) then f159_J38 (rs S T p) (76 + 2 * tN T) (nI (aC A t.1 t.2.1)) else Option.bind (f161 (rs S T p) (76 + 2 * tN T) (nI (aC A t.1 t.2.1)) (nI (if t.2.1 + 1 < aN A t.1 then aC A t.1 (t.2.1 + 1) else 0))) fun p18 => some (p18.1, p18.2) := by
    unfold gq
    rw [s4.1, if_pos (by simp (disch := omega) only [nI_lit, nI_add, pk_sub, pk_mul, ma_neg, nI_clamp, ma_ltT, ma_ltF, ma_leT, ma_leF, ma_eqT, ma_eqF, nI_ltI, nI_leI, nI_eq, ma_obT, ma_obF, ma_enF, ma_neF, ma_nlT, ma_lnF, ma_nLT, ma_Ln, ↓reduceIte, Option.bind_some, Option.bind_none, true_and, and_true, false_and, and_false, ne_eq, not_true_eq_false, not_false_eq_true, Bool.false_eq_true, reduceCtorEq, Nat.reduceAdd, Nat.reduceMul, Nat.reduceSub]), if_neg (by rw [ma_obF (by omega) (by omega)]; exact not_false), nI_clamp (by omega), show nI (tN T) + (1 : Int32) = nI (tN T + 1) by rw [nI_lit]; exact nI_add _ _, cl_reset s4 hp hn, Option.bind_some, if_pos (show rn_kd 1 = 1 from rfl), hi1.1, hi1.2.1, hsg, Option.bind_some, show nI t.2.1 + (1 : Int32) = nI (t.2.1 + 1) by rw [nI_lit]; exact nI_add _ _, hsg2]
    rfl
  rw [hg]
  have hcb : ∀ (S2 : rn_T) (k o : Nat), LF (76 + 2 * tN T) (rs S T p) S2 k o → EqT (fun q => q < 66 ∨ 276 ≤ q) S S2 ∧ CB S2 A X n g (addP T k o p) F := by
    intro S2 k o hL
    have hE2 := eq_t hE (LF_E (by omega) hL)
    refine ⟨hE2, ps_eq s1 (eq_m hE2 (fun q hq => by omega)), xs_eq hx1 (LF_66 (by omega) hL) hL.2.1, (LF_66 (by omega) hL).trans ((h66 6 (by omega)).trans s3), sb_add s4 hw hp hn hL, fd_eq hfd (fun k _ => by rw [hL.2.1, hL.2.2.2.2.1]; exact ⟨rfl, rfl, rfl, rfl⟩), (LF_66 (by omega) hL).trans ((h66 15 (by omega)).trans s6)⟩
  have hgrp : ∀ k, k = 5 ∨ k = 6 → kO (aC A t.1 t.2.1) = k → ∀ l q, l.headD q = t.2.1 + 1 → F2 = (tN T, t.1, l, q, t.2.2) :: F → ∃ S2, f159_J45 (rs S T p) (76 + 2 * tN T) (76 + 2 * tN T) (nI k) = some (true, S2) ∧ EqT (fun q => q < 66 ∨ 276 ≤ q) S S2 ∧ CB S2 A X n g (addP T (kO (aC A t.1 t.2.1)) (nO (aC A t.1 t.2.1) (aC A t.1 (t.2.1 + 1))) p) F2 := by
    intro k hk5 hkO l q hl e2
    obtain ⟨S1, g1, g2⟩ := cl_group (S := rs S T p) hk hk5 (nO (aC A t.1 t.2.1) (aC A t.1 (t.2.1 + 1)))
    obtain ⟨c0, c1, c2, c3, c4, c5, c6⟩ := hcb S1 _ _ g2
    have hEJ : EqT (fun q => q < 66 ∨ 276 ≤ q) S1 (J45f S1 (76 + 2 * tN T) t.1 t.2.1 t.2.2 F.length) := by
      unfold J45f
      exact eq_t (eq_t (eq_t (eq_t eq_P (eq_A (by omega))) (eq_A (by omega))) (eq_A (by omega))) (eq_I (by omega))
    refine ⟨J45f S1 (76 + 2 * tN T) t.1 t.2.1 t.2.2 F.length, cl_J45 g1 c6 hF (is_eq hi1 (fun j _ _ => LF_66 (by omega) g2)) (by omega), eq_t c0 hEJ, ps_eq c1 (eq_m hEJ (fun q hq => by omega)), ?_, ?_, ?_, ?_, ?_⟩
    · unfold XS J45f
      simp (disch := omega) only [ra_I, ra_In, ra_A, ra_An, ra_IA, ra_IL, ra_IR, ra_IP, ra_AI, ra_AL, ra_AR, ra_AP, ra_L, ra_Ln, ra_LI, ra_LA, ra_LR, ra_LP, ra_R, ra_Rn, ra_RI, ra_RA, ra_RL, ra_RP, ra_P, ra_Pn, ra_PI, ra_PA, ra_PL, ra_PR]
      exact c2
    · unfold J45f; simp (disch := omega) only [ra_I, ra_In, ra_A, ra_An, ra_IA, ra_IL, ra_IR, ra_IP, ra_AI, ra_AL, ra_AR, ra_AP, ra_L, ra_Ln, ra_LI, ra_LA, ra_LR, ra_LP, ra_R, ra_Rn, ra_RI, ra_RA, ra_RL, ra_RP, ra_P, ra_Pn, ra_PI, ra_PA, ra_PL, ra_PR]; exact c3
    · rw [hkO]
      refine sb_eq c4 (fun q j hq => ?_) rfl (fun q hq => ?_)
      · unfold J45f; simp (disch := omega) only [ra_I, ra_In, ra_A, ra_An, ra_IA, ra_IL, ra_IR, ra_IP, ra_AI, ra_AL, ra_AR, ra_AP, ra_L, ra_Ln, ra_LI, ra_LA, ra_LR, ra_LP, ra_R, ra_Rn, ra_RI, ra_RA, ra_RL, ra_RP, ra_P, ra_Pn, ra_PI, ra_PA, ra_PL, ra_PR]
      · unfold J45f; funext z; simp (disch := omega) only [ra_I, ra_In, ra_A, ra_An, ra_IA, ra_IL, ra_IR, ra_IP, ra_AI, ra_AL, ra_AR, ra_AP, ra_L, ra_Ln, ra_LI, ra_LA, ra_LR, ra_LP, ra_R, ra_Rn, ra_RI, ra_RA, ra_RL, ra_RP, ra_P, ra_Pn, ra_PI, ra_PA, ra_PL, ra_PR]
    · rw [e2]
      refine ⟨⟨?_, ?_, ?_, ?_⟩, fd_eq c5 (fun z hz => ?_)⟩
      · unfold J45f; simp (disch := omega) only [ra_I, ra_In, ra_A, ra_An, ra_IA, ra_IL, ra_IR, ra_IP, ra_AI, ra_AL, ra_AR, ra_AP, ra_L, ra_Ln, ra_LI, ra_LA, ra_LR, ra_LP, ra_R, ra_Rn, ra_RI, ra_RA, ra_RL, ra_RP, ra_P, ra_Pn, ra_PI, ra_PA, ra_PL, ra_PR]
      · unfold J45f; simp (disch := omega) only [ra_I, ra_In, ra_A, ra_An, ra_IA, ra_IL, ra_IR, ra_IP, ra_AI, ra_AL, ra_AR, ra_AP, ra_L, ra_Ln, ra_LI, ra_LA, ra_LR, ra_LP, ra_R, ra_Rn, ra_RI, ra_RA, ra_RL, ra_RP, ra_P, ra_Pn, ra_PI, ra_PA, ra_PL, ra_PR]
      · show rA _ 74 F.length = nI (l.headD q)
        rw [hl]
        unfold J45f; simp (disch := omega) only [ra_I, ra_In, ra_A, ra_An, ra_IA, ra_IL, ra_IR, ra_IP, ra_AI, ra_AL, ra_AR, ra_AP, ra_L, ra_Ln, ra_LI, ra_LA, ra_LR, ra_LP, ra_R, ra_Rn, ra_RI, ra_RA, ra_RL, ra_RP, ra_P, ra_Pn, ra_PI, ra_PA, ra_PL, ra_PR]
      · unfold J45f; simp (disch := omega) only [ra_I, ra_In, ra_A, ra_An, ra_IA, ra_IL, ra_IR, ra_IP, ra_AI, ra_AL, ra_AR, ra_AP, ra_L, ra_Ln, ra_LI, ra_LA, ra_LR, ra_LP, ra_R, ra_Rn, ra_RI, ra_RA, ra_RL, ra_RP, ra_P, ra_Pn, ra_PI, ra_PA, ra_PL, ra_PR]
      · unfold J45f; refine ⟨?_, ?_, ?_, ?_⟩ <;> simp (disch := omega) only [ra_I, ra_In, ra_A, ra_An, ra_IA, ra_IL, ra_IR, ra_IP, ra_AI, ra_AL, ra_AR, ra_AP, ra_L, ra_Ln, ra_LI, ra_LA, ra_LR, ra_LP, ra_R, ra_Rn, ra_RI, ra_RA, ra_RL, ra_RP, ra_P, ra_Pn, ra_PI, ra_PA, ra_PL, ra_PR]
    · rw [e2]
      unfold J45f; simp (disch := omega) only [ra_I, ra_In, ra_A, ra_An, ra_IA, ra_IL, ra_IR, ra_IP, ra_AI, ra_AL, ra_AR, ra_AP, ra_L, ra_Ln, ra_LI, ra_LA, ra_LR, ra_LP, ra_R, ra_Rn, ra_RI, ra_RA, ra_RL, ra_RP, ra_P, ra_Pn, ra_PI, ra_PA, ra_PL, ra_PR]; rfl
  rcases hF2 with ⟨h1, rfl⟩ | ⟨h1, l, q, h2, h3⟩
  · have h4 : aC A t.1 t.2.1 ≠ 40 := fun hh => h1 (.inl hh)
    have h5 : aC A t.1 t.2.1 ≠ 91 := fun hh => h1 (.inr hh)
    rw [if_neg (by have hne := h4; simp (disch := omega) only [nI_lit, nI_add, pk_sub, pk_mul, ma_neg, nI_clamp, ma_ltT, ma_ltF, ma_leT, ma_leF, ma_eqT, ma_eqF, nI_ltI, nI_leI, nI_eq, ma_obT, ma_obF, ma_enF, ma_neF, ma_nlT, ma_lnF, ma_nLT, ma_Ln, ↓reduceIte, Option.bind_some, Option.bind_none, true_and, and_true, false_and, and_false, ne_eq, not_true_eq_false, not_false_eq_true, Bool.false_eq_true, reduceCtorEq, Nat.reduceAdd, Nat.reduceMul, Nat.reduceSub]), if_neg (by have hne := h5; simp (disch := omega) only [nI_lit, nI_add, pk_sub, pk_mul, ma_neg, nI_clamp, ma_ltT, ma_ltF, ma_leT, ma_leF, ma_eqT, ma_eqF, nI_ltI, nI_leI, nI_eq, ma_obT, ma_obF, ma_enF, ma_neF, ma_nlT, ma_lnF, ma_nLT, ma_Ln, ↓reduceIte, Option.bind_some, Option.bind_none, true_and, and_true, false_and, and_false, ne_eq, not_true_eq_false, not_false_eq_true, Bool.false_eq_true, reduceCtorEq, Nat.reduceAdd, Nat.reduceMul, Nat.reduceSub])]
    have hn0 : nO (aC A t.1 t.2.1) (if t.2.1 + 1 < aN A t.1 then aC A t.1 (t.2.1 + 1) else 0) = nO (aC A t.1 t.2.1) (aC A t.1 (t.2.1 + 1)) := by
      unfold nO
      by_cases c101 : aC A t.1 t.2.1 = 101
      · rw [if_pos c101, if_pos c101]
        rcases TM_n t3 hc with h | ⟨h, h2, h3, h4⟩ | ⟨l, q, h, _⟩
        · omega
        · rw [if_pos (by omega)]
        · omega
      · rw [if_neg c101, if_neg c101]
    obtain ⟨S2, g1, g2⟩ := cl_leaf (S := rs S T p) (c := aC A t.1 t.2.1) (d := if t.2.1 + 1 < aN A t.1 then aC A t.1 (t.2.1 + 1) else 0) hk (by
      rcases TM_n t3 hc with h | ⟨h, h2, h3, h4⟩ | ⟨l, q, h, _⟩
      · omega
      · refine .inr (.inr (.inr (.inr (.inr (.inr ⟨h, ?_⟩)))))
        rw [if_pos (by omega)]; exact ⟨h2, h3⟩
      · omega)
    rw [hn0] at g2
    obtain ⟨c0, c⟩ := hcb S2 _ _ g2
    exact ⟨S2, by rw [g1]; rfl, c0, c⟩
  · unfold f159_J38
    rcases h1 with h1 | h1
    · obtain ⟨S2, g1, g2, g3⟩ := hgrp 5 (.inl rfl) (by rw [h1]; rfl) l q h2 h3
      refine ⟨S2, ?_, g2, g3⟩
      rw [h1, if_pos (show nI 40 = (40 : Int32) from rfl), if_pos (show nI 40 = (40 : Int32) from rfl)]
      exact g1
    · obtain ⟨S2, g1, g2, g3⟩ := hgrp 6 (.inr rfl) (by rw [h1]; rfl) l q h2 h3
      refine ⟨S2, ?_, g2, g3⟩
      rw [h1, if_neg (show ¬ nI 91 = (40 : Int32) by decide), if_pos (show nI 91 = (91 : Int32) from rfl), if_neg (show ¬ nI 91 = (40 : Int32) by decide)]
      exact g1
theorem mb_eq {M M2 : rn_T} {T : rn_TR} (h : MB M T) (h0 : rI M2 318 10 = rI M 318 10) (h1 : ∀ q, 322 ≤ q → q ≤ 326 → rA M2 q = rA M q) : MB M2 T := by
  unfold MB mB
  rw [h0, h1 322 (by omega) (by omega), h1 323 (by omega) (by omega), h1 324 (by omega) (by omega), h1 325 (by omega) (by omega), h1 326 (by omega) (by omega)]
  exact h
theorem rf_add {A : rn_AT} {E : Nat → Nat} {X : Nat → rn_IT} {n g e : Nat} {T : rn_TR} {M : rn_T} {t : rn_IT} {p : Option Nat} {L : List (rn_IT × Option Nat)} (ho : OKA A) (hM : RQ M A X n g ((t, p) :: L)) (hT : MB M T) (hL : L.length ≤ 620) (hg : g ≤ 500) (t1 : t.1 < 8) (t3 : TM (aC A t.1) (aO A) t.1 E t.2.1 e) (t4 : e ≤ aN A t.1) (hw : TW T) (hp : PP T p) (hn : tN T < 101) (hc : ¬ (aC A t.1 t.2.1 = 120 ∨ isL (aC A t.1 t.2.1))) (L2 : List (rn_IT × Option Nat)) (hL2 : (¬ (aC A t.1 t.2.1 = 40 ∨ aC A t.1 t.2.1 = 91) ∧ L2 = L) ∨ ((aC A t.1 t.2.1 = 40 ∨ aC A t.1 t.2.1 = 91) ∧ ∃ l q, q < aN A t.1 ∧ (aC A t.1 q = 41 ∨ aC A t.1 q = 93) ∧ LQ (TM (aC A t.1) (aO A) t.1 E) l q ∧ 1 ≤ l.length ∧ l.length ≤ 6 ∧ l.headD q = t.2.1 + 1 ∧ L2 = l.map (fun a => ((t.1, a, t.2.2), some (tN T))) ++ L)) : ∃ M2, f55 M = some M2 ∧ eqM M M2 ∧ RQ M2 A X n g L2 ∧ MB M2 (addP T (kO (aC A t.1 t.2.1)) (nO (aC A t.1 t.2.1) (aC A t.1 (t.2.1 + 1))) p) := by
  have hlt := TM_lt t3
  have hN := ho.1 t.1 t1
  have hc1 := ho.2.1 t.1 t1 t.2.1 (by omega)
  rw [(rf_open hM ho t1 (by omega) (by omega)).2 hc]
  obtain ⟨h1, h2, h3, h4a, h5⟩ := hM
  have h4 := h4a.2
  have hE0 : eX M (wI (wI M 318 15 (nI L.length)) 318 20 (nI g)) := eX_t (eX_I (.inl rfl)) (eX_I (.inr (.inr rfl)))
  have hm : PM (wI (wI M 318 15 (nI L.length)) 318 20 (nI g)) A := pm_eq h1 (eX_M hE0)
  have hb : MB (wI (wI M 318 15 (nI L.length)) 318 20 (nI g)) T := mb_eq hT (by simp (disch := omega) only [ra_I, ra_In, ra_A, ra_An, ra_IA, ra_IL, ra_IR, ra_IP, ra_AI, ra_AL, ra_AR, ra_AP, ra_L, ra_Ln, ra_LI, ra_LA, ra_LR, ra_LP, ra_R, ra_Rn, ra_RI, ra_RA, ra_RL, ra_RP, ra_P, ra_Pn, ra_PI, ra_PA, ra_PL, ra_PR]) (fun _ _ _ => rfl)
  have hsig := TM_n t3 hc
  obtain ⟨t2, k1, k2⟩ := rf_part (bi := encM t.2.2) (p := p) hm ho t1 hb hp hn (show t.2.1 < aN A t.1 by omega) (fun hh => by
    rcases hsig with h | ⟨h, h2, h3, h4⟩ | ⟨l, q, h, _⟩
    · omega
    · exact ⟨by omega, h2⟩
    · omega) (by
    rcases hsig with h | ⟨h, h2, h3, h4⟩ | ⟨l, q, h, _⟩ <;> omega)
  have hJ : f55_J47 (wI M 318 15 (nI L.length)) (nI t.1) (nI t.2.1) (encM t.2.2) (encM p) (nI (aC A t.1 t.2.1)) (nI g) (0 : Int32) = f54 (wI (wI M 318 15 (nI L.length)) 318 20 (nI g)) (nI t.1) (nI t.2.1) (encM t.2.2) (encM p) := by
    unfold f55_J47
    have e0 : nI g + (0 : Int32) = nI g := by rw [nI_lit, nI_add]; rfl
    have e37 : f37 (wI (wI M 318 15 (nI L.length)) 318 20 (nI g)) (nI (aC A t.1 t.2.1)) = false := by
      rw [ma_f37 hc1, decide_eq_false_iff_not]
      exact fun hh => hc (.inr hh)
    rw [e0, e37, if_neg (by have hne := (show ¬ aC A t.1 t.2.1 = 120 from fun hh => hc (.inl hh)); simp (disch := omega) only [nI_lit, nI_add, pk_sub, pk_mul, ma_neg, nI_clamp, ma_ltT, ma_ltF, ma_leT, ma_leF, ma_eqT, ma_eqF, nI_ltI, nI_leI, nI_eq, ma_obT, ma_obF, ma_enF, ma_neF, ma_nlT, ma_lnF, ma_nLT, ma_Ln, ↓reduceIte, Option.bind_some, Option.bind_none, true_and, and_true, false_and, and_false, ne_eq, not_true_eq_false, not_false_eq_true, Bool.false_eq_true, reduceCtorEq, Nat.reduceAdd, Nat.reduceMul, Nat.reduceSub]), if_neg (by decide)]
    cases f54 (wI (wI M 318 15 (nI L.length)) 318 20 (nI g)) (nI t.1) (nI t.2.1) (encM t.2.2) (encM p) <;> rfl
  rw [hJ, k2]
  have hE1 : eP (wI (wI M 318 15 (nI L.length)) 318 20 (nI g)) (mp (wI (wI M 318 15 (nI L.length)) 318 20 (nI g)) T p (kO (aC A t.1 t.2.1)) t2) := eP_mp
  have hm2 := pm_eq hm (eP_M hE1)
  have hb2 := mb_add hb hp hw k1
  have hxm : XM (mp (wI (wI M 318 15 (nI L.length)) 318 20 (nI g)) T p (kO (aC A t.1 t.2.1)) t2) X n := xm_eq h2 (by rw [hE1.2 19 (by omega)]; simp (disch := omega) only [ra_I, ra_In, ra_A, ra_An, ra_IA, ra_IL, ra_IR, ra_IP, ra_AI, ra_AL, ra_AR, ra_AP, ra_L, ra_Ln, ra_LI, ra_LA, ra_LR, ra_LP, ra_R, ra_Rn, ra_RI, ra_RA, ra_RL, ra_RP, ra_P, ra_Pn, ra_PI, ra_PA, ra_PL, ra_PR]) (fun q h1 h2 => (hE1.1 q (by omega)).2.1)
  have h20 : rI (mp (wI (wI M 318 15 (nI L.length)) 318 20 (nI g)) T p (kO (aC A t.1 t.2.1)) t2) 318 20 = nI g := by rw [hE1.2 20 (by omega)]; simp (disch := omega) only [ra_I, ra_In, ra_A, ra_An, ra_IA, ra_IL, ra_IR, ra_IP, ra_AI, ra_AL, ra_AR, ra_AP, ra_L, ra_Ln, ra_LI, ra_LA, ra_LR, ra_LP, ra_R, ra_Rn, ra_RI, ra_RA, ra_RL, ra_RP, ra_P, ra_Pn, ra_PI, ra_PA, ra_PL, ra_PR]
  have h15 : rI (mp (wI (wI M 318 15 (nI L.length)) 318 20 (nI g)) T p (kO (aC A t.1 t.2.1)) t2) 318 15 = nI L.length := by rw [hE1.2 15 (by omega)]; simp (disch := omega) only [ra_I, ra_In, ra_A, ra_An, ra_IA, ra_IL, ra_IR, ra_IP, ra_AI, ra_AL, ra_AR, ra_AP, ra_L, ra_Ln, ra_LI, ra_LA, ra_LR, ra_LP, ra_R, ra_Rn, ra_RI, ra_RA, ra_RL, ra_RP, ra_P, ra_Pn, ra_PI, ra_PA, ra_PL, ra_PR]
  have htd : TD (mp (wI (wI M 318 15 (nI L.length)) 318 20 (nI g)) T p (kO (aC A t.1 t.2.1)) t2) L := td_eq h4 (fun k hk => by rw [(hE1.1 327 (by omega)).2.1, (hE1.1 328 (by omega)).2.1, (hE1.1 329 (by omega)).2.1, (hE1.1 330 (by omega)).2.1]; exact ⟨rfl, rfl, rfl, rfl⟩)
  have heq : eqM M (mp (wI (wI M 318 15 (nI L.length)) 318 20 (nI g)) T p (kO (aC A t.1 t.2.1)) t2) := ⟨eq_t (eX_M hE0).1 (eP_M hE1).1, (eP_M hE1).2.1.trans (eX_M hE0).2.1, (eP_M hE1).2.2.trans (eX_M hE0).2.2⟩
  rcases hL2 with ⟨g1, rfl⟩ | ⟨g1, l, q, g2, g3, g4, g5, g6, g7, rfl⟩
  · rw [if_neg g1]
    exact ⟨_, rfl, heq, ⟨hm2, hxm, h20, htd, h15⟩, hb2⟩
  · rw [if_pos g1]
    obtain ⟨M2, e1, e2, e3, e4⟩ := rf_within (bi := t.2.2) (nd := tN T) hm2 ho t1 g2 g3 g4 g7 g5 g6 htd h15 (by omega)
    refine ⟨M2, e1, ⟨eq_t heq.1 (eT_M e2).1, (eT_M e2).2.1.trans heq.2.1, (eT_M e2).2.2.trans heq.2.2⟩, ⟨pm_eq hm2 (eT_M e2), xm_eq hxm (e2.2 19 (by omega)) (fun q h1 h2 => (e2.1 q (by omega)).2.1), (e2.2 20 (by omega)).trans h20, e4, ?_⟩, mb_eq hb2 (e2.2 10 (by omega)) (fun q h1 h2 => (e2.1 q (by omega)).2.1)⟩
    rw [e3, List.length_append, List.length_map, Nat.add_comm]
