/-! 71: the tree, all of it -/
theorem TM_E {c : Nat → Nat} {o : Nat → Bool} {s p e : Nat} {E : Nat → Nat} (h : TM c o s E p e) : E p = e := by
  obtain ⟨d, h⟩ := h
  cases d with
  | zero => exact h.elim
  | succ d => exact h.1
/-- the ends that the scans left -/
def ES (S : rn_T) (N : Nat → Prop) (EE : Nat → Nat → Nat) : Prop := ∀ j, j < 8 → N j → ∀ i, i < 40 → rA S (26 + 5 * j + 1) i = nI (EE j i)
theorem es_eq {S S2 : rn_T} {N : Nat → Prop} {EE : Nat → Nat → Nat} (h : ES S N EE) (he : EqT (fun q => q < 66 ∨ 276 ≤ q) S S2) : ES S2 N EE := by
  intro j hj hn i hi
  rw [(he (26 + 5 * j + 1) (by omega)).2.1]
  exact h j hj hn i hi
theorem ma_f111 {S : rn_T} {N : Nat → Prop} {EE : Nat → Nat → Nat} {j i : Nat} (h : ES S N EE) (hj : j < 8) (hn : N j) (hi : i < 40) : f111 S (nI j) (nI i) = some (nI (EE j i)) := by
  unfold f111 f135
  rw [ma_f22 hj]
  simp (disch := omega) only [ma_kd4 hj, h j hj hn i hi, nI_lit, nI_add, pk_sub, pk_mul, ma_neg, nI_clamp, ma_ltT, ma_ltF, ma_leT, ma_leF, ma_eqT, ma_eqF, nI_ltI, nI_leI, nI_eq, ma_obT, ma_obF, ma_enF, ma_neF, ma_nlT, ma_lnF, ma_nLT, ma_Ln, ↓reduceIte, Option.bind_some, Option.bind_none, true_and, and_true, false_and, and_false, ne_eq, not_true_eq_false, not_false_eq_true, Bool.false_eq_true, reduceCtorEq, Nat.reduceAdd, Nat.reduceMul, Nat.reduceSub]
def kT : rn_T → Option (Bool × rn_T) := fun S21 => if (rI S21 66 15) = 0 then some (true, S21) else some (false, S21)
/-- what stands behind it -/
def FT (T : rn_TR) : Prop := TW T ∧ 1 ≤ tN T ∧ tN T ≤ 100 ∧ ∀ i, i < tN T → 5 ≤ tK T i → 1 ≤ tC T i
theorem ma_tloop {A : rn_AT} {N : Nat → Prop} {EE : Nat → Nat → Nat} (ho : OKA A) (hw : WX A N EE) : ∀ (m : Nat) (S M : rn_T) (X : Nat → rn_IT) (n g : Nat) (T : rn_TR) (F : List rn_FT) (v fu : Nat), 3 * (101 - tN T) + F.length ≤ m → m < fu → CB S A X n g T F → RQ M A X n g (fl F) → MB M T → GX A N EE X n → n ≤ g + 1 → g ≤ 500 → TW T → GFs A N EE n T F → GD T F → 1 ≤ tN T → tN T ≤ 100 → v + F.length + 1 ≤ 2 * tN T → ES S N EE → ∃ (S2 : rn_T) (bb : Bool), f156_L34 1 fu S (nI v) kT = some (bb, S2) ∧ (EqT (fun q => q < 66 ∨ 276 ≤ q) S S2 ∧ rI S2 76 15 = nI 0) ∧ ∃ (j : Nat) (M2 : rn_T), j ≤ (101 - tN T) + (505 - g) ∧ (∀ fuR, f56_L26 (fuR + j) M f56_J40 = some (bb, M2)) ∧ eqM M M2 ∧ (bb = true → ∃ T2, SB S2 T2 ∧ MB M2 T2 ∧ FT T2) := by
  intro m
  induction m with
  | zero =>
    intro S M X n g T F v fu h1 h2 h3 h4 h5 h6 h7 h8 h9 h10 h11 h12 h13
    omega
  | succ m ih =>
    intro S M X n g T F v fu h1 h2 hS hM hT hx hn hg hW hF hd hN1 hN2 hv hE
    obtain ⟨G, rfl⟩ : ∃ G, fu = G + 1 := ⟨fu - 1, by omega⟩
    obtain ⟨s1, s2, s3, s4, s5, s6⟩ := hS
    cases F with
    | nil =>
      have s6 : rI S 66 15 = nI 0 := s6
      refine ⟨S, true, ?_, ⟨eq_r, s4.2.2⟩, 1, M, by omega, fun fuR => ?_, ⟨eq_r, rfl, rfl⟩, fun _ => ⟨T, s4, hT, hW, hN1, hN2, fun i hi hk => ?_⟩⟩
      · rw [f156_L34]
        unfold kT
        simp (disch := omega) only [s6, nI_lit, nI_add, pk_sub, pk_mul, ma_neg, nI_clamp, ma_ltT, ma_ltF, ma_leT, ma_leF, ma_eqT, ma_eqF, nI_ltI, nI_leI, nI_eq, ma_obT, ma_obF, ma_enF, ma_neF, ma_nlT, ma_lnF, ma_nLT, ma_Ln, ↓reduceIte, Option.bind_some, Option.bind_none, true_and, and_true, false_and, and_false, ne_eq, not_true_eq_false, not_false_eq_true, Bool.false_eq_true, reduceCtorEq, Nat.reduceAdd, Nat.reduceMul, Nat.reduceSub]
      · have h15 : rI M 318 15 = nI 0 := hM.2.2.2.2
        rw [rf_stop h15 (by omega) hT.1 (by omega) hM.2.2.1 (by omega) (.inl rfl), rf_end h15 (by omega) hT.1 (by omega) hM.2.2.1 (by omega)]
        have : decide (0 = 0 ∧ tN T ≤ 100 ∧ g ≤ 500) = true := by rw [decide_eq_true_iff]; omega
        rw [this]
      · rcases hd i hi hk with h | ⟨f, hf, _⟩
        · exact h
        · exact absurd hf (by simp)
    | cons f F =>
      obtain ⟨nd, sh, l, q, bi⟩ := f
      have hl : ((nd, sh, l, q, bi) :: F).length = F.length + 1 := rfl
      rw [hl] at s6 h1 hv
      obtain ⟨⟨d1, d2, d3, d4⟩, d5⟩ := s5
      obtain ⟨g1, g2, g3, g4, g5, g6, g7, g8, g9, g10, g11⟩ := hF.1
      have d1 : rP S 72 F.length = some (76 + 2 * nd) := d1
      have d2 : rA S 73 F.length = nI sh := d2
      have d3 : rA S 74 F.length = nI (l.headD q) := d3
      have d4 : rA S 75 F.length = encC bi := d4
      have g1 : sh < 8 := g1
      have g2 : N sh := g2
      have g3 : q < aN A sh := g3
      have g4 : aC A sh q = 41 ∨ aC A sh q = 93 := g4
      have hlen := GFs_len hF (GFs_all hF)
      rw [hl] at hlen
      have hNa := ho.1 sh g1
      have hhd : l.headD q ≤ q := ls_le (fun _ _ => TM_lt) g5
      have hsg := ma_f115 s1 ho g1 (show l.headD q < 2 ^ 31 by omega)
      rw [if_pos (show l.headD q < aN A sh by omega)] at hsg
      have e1 : rI S 66 15 - (1 : Int32) = nI F.length := by
        rw [s6]; simp (disch := omega) only [nI_lit, nI_add, pk_sub, pk_mul, ma_neg, nI_clamp, ma_ltT, ma_ltF, ma_leT, ma_leF, ma_eqT, ma_eqF, nI_ltI, nI_leI, nI_eq, ma_obT, ma_obF, ma_enF, ma_neF, ma_nlT, ma_lnF, ma_nLT, ma_Ln, ↓reduceIte, Option.bind_some, Option.bind_none, true_and, and_true, false_and, and_false, ne_eq, not_true_eq_false, not_false_eq_true, Bool.false_eq_true, reduceCtorEq, Nat.reduceAdd, Nat.reduceMul, Nat.reduceSub]
      have hgo : f156_L34 1 (G + 1) S (nI v) kT = if nI (aC A sh (l.headD q)) = (41 : Int32) then f156_L34 1 G (wI S 66 15 (nI F.length)) (nI v + (1 : Int32)) kT else if nI (aC A sh (l.headD q)) = (93 : Int32) then f156_L34 1 G (wI S 66 15 (nI F.length)) (nI v + (1 : Int32)) kT else Option.bind (f157 S (nI sh) (nI (l.headD q)) (encC bi)) fun p13 => Option.bind (f111 p13 (rI p13 66 3) (rI p13 66 4)) fun p14 => rn_om (rP (wA p13 74 F.length p14) 72 F.length) (Option.bind (f159 (wA p13 74 F.length p14) 1 none) fun p17 => if p17.1 = true then f156_L34 1 G p17.2 (nI v + (1 : Int32)) kT else some (false, p17.2)) fun r15 => Option.bind (f159 (wA p13 74 F.length p14) 1 (some r15)) fun p19 => if p19.1 = true then f156_L34 1 G p19.2 (nI v + (1 : Int32)) kT else some (false, p19.2) := by
        rw [f156_L34, e1]
        rw [if_neg (by simp (disch := omega) only [nI_lit, nI_add, pk_sub, pk_mul, ma_neg, nI_clamp, ma_ltT, ma_ltF, ma_leT, ma_leF, ma_eqT, ma_eqF, nI_ltI, nI_leI, nI_eq, ma_obT, ma_obF, ma_enF, ma_neF, ma_nlT, ma_lnF, ma_nLT, ma_Ln, ↓reduceIte, Option.bind_some, Option.bind_none, true_and, and_true, false_and, and_false, ne_eq, not_true_eq_false, not_false_eq_true, Bool.false_eq_true, reduceCtorEq, Nat.reduceAdd, Nat.reduceMul, Nat.reduceSub]), if_neg (by rw [s6]; simp (disch := omega) only [nI_lit, nI_add, pk_sub, pk_mul, ma_neg, nI_clamp, ma_ltT, ma_ltF, ma_leT, ma_leF, ma_eqT, ma_eqF, nI_ltI, nI_leI, nI_eq, ma_obT, ma_obF, ma_enF, ma_neF, ma_nlT, ma_lnF, ma_nLT, ma_Ln, ↓reduceIte, Option.bind_some, Option.bind_none, true_and, and_true, false_and, and_false, ne_eq, not_true_eq_false, not_false_eq_true, Bool.false_eq_true, reduceCtorEq, Nat.reduceAdd, Nat.reduceMul, Nat.reduceSub]), if_neg (by rw [ma_obF (by omega) (by omega)]; exact not_false), if_pos (show rn_kd 1 = 1 from rfl)]
        rw [nI_clamp (show F.length < 2 ^ 31 by omega), d2, d3, d4, hsg, Option.bind_some]
      have ev : nI v + (1 : Int32) = nI (v + 1) := by rw [nI_lit]; exact nI_add _ _
      rw [hgo, ev]
      cases l with
      | nil =>
        have hcS : CB (wI S 66 15 (nI F.length)) A X n g T F := ⟨ps_eq s1 (eq_I (by omega)), xs_eq s2 (by rw [ra_In (by omega)]) rfl, by rw [ra_In (by omega)]; exact s3, sb_eq s4 (fun q j hq => by rw [ra_In (by omega)]) rfl (fun _ _ => rfl), fd_eq d5 (fun k hk => ⟨rfl, rfl, rfl, rfl⟩), by rw [ra_I]⟩
        have hMF : RQ M A X n g (fl F) := hM
        have hdF : GD T F := by
          intro i hi hk
          rcases hd i hi hk with h | ⟨f, hf, h⟩
          · exact .inl h
          · rcases List.mem_cons.mp hf with rfl | hf
            · have h : nd = i := h
              subst h
              have g10 : 1 ≤ tC T nd + 0 := g10
              exact .inl g10
            · exact .inr ⟨f, hf, h⟩
        obtain ⟨S2, bb, i1, i2, i3⟩ := ih (wI S 66 15 (nI F.length)) M X n g T F (v + 1) G (by omega) (by omega) hcS hMF hT hx hn hg hW hF.2.2 hdF hN1 hN2 (by omega) (es_eq hE (eq_I (by omega)))
        refine ⟨S2, bb, ?_, ⟨eq_t (eq_I (by omega)) i2.1, i2.2⟩, i3⟩
        have hh : ([] : List Nat).headD q = q := rfl
        rw [hh]
        rcases g4 with g4 | g4
        · rw [g4, if_pos (show nI 41 = (41 : Int32) from rfl)]; exact i1
        · rw [g4, if_neg (show ¬ nI 93 = (41 : Int32) by decide), if_pos (show nI 93 = (93 : Int32) from rfl)]; exact i1
      | cons a l =>
        have hh : (a :: l).headD q = a := rfl
        rw [hh] at hsg d3 hhd ⊢
        obtain ⟨t1, t2⟩ := g5
        have t1 : TM (aC A sh) (aO A) sh (EE sh) a (l.headD q) := t1
        have t2 : LQ (TM (aC A sh) (aO A) sh (EE sh)) l q := t2
        have hhd2 : l.headD q ≤ q := ls_le (fun _ _ => TM_lt) t2
        obtain ⟨f1, f2⟩ := TM_first t1
        have hca := ho.2.1 sh g1 a (by omega)
        rw [if_neg (by simp (disch := omega) only [nI_lit, nI_add, pk_sub, pk_mul, ma_neg, nI_clamp, ma_ltT, ma_ltF, ma_leT, ma_leF, ma_eqT, ma_eqF, nI_ltI, nI_leI, nI_eq, ma_obT, ma_obF, ma_enF, ma_neF, ma_nlT, ma_lnF, ma_nLT, ma_Ln, ↓reduceIte, Option.bind_some, Option.bind_none, true_and, and_true, false_and, and_false, ne_eq, not_true_eq_false, not_false_eq_true, Bool.false_eq_true, reduceCtorEq, Nat.reduceAdd, Nat.reduceMul, Nat.reduceSub]), if_neg (by simp (disch := omega) only [nI_lit, nI_add, pk_sub, pk_mul, ma_neg, nI_clamp, ma_ltT, ma_ltF, ma_leT, ma_leF, ma_eqT, ma_eqF, nI_ltI, nI_leI, nI_eq, ma_obT, ma_obF, ma_enF, ma_neF, ma_nlT, ma_lnF, ma_nLT, ma_Ln, ↓reduceIte, Option.bind_some, Option.bind_none, true_and, and_true, false_and, and_false, ne_eq, not_true_eq_false, not_false_eq_true, Bool.false_eq_true, reduceCtorEq, Nat.reduceAdd, Nat.reduceMul, Nat.reduceSub])]
        have hE1 : EqT (fun q => q < 66 ∨ 276 ≤ q) S (wI (wI (wI S 66 3 (nI sh)) 66 4 (nI a)) 66 5 (encC bi)) := eq_t (eq_t (eq_I (by omega)) (eq_I (by omega))) (eq_I (by omega))
        have hE2 : EqT (fun q => q < 66 ∨ 276 ≤ q) S (wA (wI (wI (wI S 66 3 (nI sh)) 66 4 (nI a)) 66 5 (encC bi)) 74 F.length (nI (l.headD q))) := eq_t hE1 (eq_A (by omega))
        have h111 := ma_f111 (es_eq hE hE1) g1 g2 (show a < 40 by omega)
        rw [TM_E t1] at h111
        rw [show f157 S (nI sh) (nI a) (encC bi) = some (wI (wI (wI S 66 3 (nI sh)) 66 4 (nI a)) 66 5 (encC bi)) from rfl, Option.bind_some, show rI (wI (wI (wI S 66 3 (nI sh)) 66 4 (nI a)) 66 5 (encC bi)) 66 3 = nI sh by simp (disch := omega) only [ra_I, ra_In, ra_A, ra_An, ra_IA, ra_IL, ra_IR, ra_IP, ra_AI, ra_AL, ra_AR, ra_AP, ra_L, ra_Ln, ra_LI, ra_LA, ra_LR, ra_LP, ra_R, ra_Rn, ra_RI, ra_RA, ra_RL, ra_RP, ra_P, ra_Pn, ra_PI, ra_PA, ra_PL, ra_PR], show rI (wI (wI (wI S 66 3 (nI sh)) 66 4 (nI a)) 66 5 (encC bi)) 66 4 = nI a by simp (disch := omega) only [ra_I, ra_In, ra_A, ra_An, ra_IA, ra_IL, ra_IR, ra_IP, ra_AI, ra_AL, ra_AR, ra_AP, ra_L, ra_Ln, ra_LI, ra_LA, ra_LR, ra_LP, ra_R, ra_Rn, ra_RI, ra_RA, ra_RL, ra_RP, ra_P, ra_Pn, ra_PI, ra_PA, ra_PL, ra_PR], h111, Option.bind_some]
        rw [rn_om_s (show rP (wA (wI (wI (wI S 66 3 (nI sh)) 66 4 (nI a)) 66 5 (encC bi)) 74 F.length (nI (l.headD q))) 72 F.length = some (76 + 2 * nd) from d1)]
        have hcS : CB (wA (wI (wI (wI S 66 3 (nI sh)) 66 4 (nI a)) 66 5 (encC bi)) 74 F.length (nI (l.headD q))) A X n g T ((nd, sh, l, q, bi) :: F) := by
          refine ⟨ps_eq s1 (eq_m hE2 (fun q hq => by omega)), ?_, by simp (disch := omega) only [ra_I, ra_In, ra_A, ra_An, ra_IA, ra_IL, ra_IR, ra_IP, ra_AI, ra_AL, ra_AR, ra_AP, ra_L, ra_Ln, ra_LI, ra_LA, ra_LR, ra_LP, ra_R, ra_Rn, ra_RI, ra_RA, ra_RL, ra_RP, ra_P, ra_Pn, ra_PI, ra_PA, ra_PL, ra_PR]; exact s3, sb_eq s4 (fun q j hq => by simp (disch := omega) only [ra_I, ra_In, ra_A, ra_An, ra_IA, ra_IL, ra_IR, ra_IP, ra_AI, ra_AL, ra_AR, ra_AP, ra_L, ra_Ln, ra_LI, ra_LA, ra_LR, ra_LP, ra_R, ra_Rn, ra_RI, ra_RA, ra_RL, ra_RP, ra_P, ra_Pn, ra_PI, ra_PA, ra_PL, ra_PR]) rfl (fun _ _ => rfl), ⟨⟨d1, by simp (disch := omega) only [ra_I, ra_In, ra_A, ra_An, ra_IA, ra_IL, ra_IR, ra_IP, ra_AI, ra_AL, ra_AR, ra_AP, ra_L, ra_Ln, ra_LI, ra_LA, ra_LR, ra_LP, ra_R, ra_Rn, ra_RI, ra_RA, ra_RL, ra_RP, ra_P, ra_Pn, ra_PI, ra_PA, ra_PL, ra_PR]; exact d2, by rw [ra_A], by simp (disch := omega) only [ra_I, ra_In, ra_A, ra_An, ra_IA, ra_IL, ra_IR, ra_IP, ra_AI, ra_AL, ra_AR, ra_AP, ra_L, ra_Ln, ra_LI, ra_LA, ra_LR, ra_LP, ra_R, ra_Rn, ra_RI, ra_RA, ra_RL, ra_RP, ra_P, ra_Pn, ra_PI, ra_PA, ra_PL, ra_PR]; exact d4⟩, fd_eq d5 (fun k hk => ⟨rfl, by simp (disch := omega) only [ra_I, ra_In, ra_A, ra_An, ra_IA, ra_IL, ra_IR, ra_IP, ra_AI, ra_AL, ra_AR, ra_AP, ra_L, ra_Ln, ra_LI, ra_LA, ra_LR, ra_LP, ra_R, ra_Rn, ra_RI, ra_RA, ra_RL, ra_RP, ra_P, ra_Pn, ra_PI, ra_PA, ra_PL, ra_PR], by simp (disch := omega) only [ra_I, ra_In, ra_A, ra_An, ra_IA, ra_IL, ra_IR, ra_IP, ra_AI, ra_AL, ra_AR, ra_AP, ra_L, ra_Ln, ra_LI, ra_LA, ra_LR, ra_LP, ra_R, ra_Rn, ra_RI, ra_RA, ra_RL, ra_RP, ra_P, ra_Pn, ra_PI, ra_PA, ra_PL, ra_PR], by simp (disch := omega) only [ra_I, ra_In, ra_A, ra_An, ra_IA, ra_IL, ra_IR, ra_IP, ra_AI, ra_AL, ra_AR, ra_AP, ra_L, ra_Ln, ra_LI, ra_LA, ra_LR, ra_LP, ra_R, ra_Rn, ra_RI, ra_RA, ra_RL, ra_RP, ra_P, ra_Pn, ra_PI, ra_PA, ra_PL, ra_PR]⟩)⟩, by simp (disch := omega) only [ra_I, ra_In, ra_A, ra_An, ra_IA, ra_IL, ra_IR, ra_IP, ra_AI, ra_AL, ra_AR, ra_AP, ra_L, ra_Ln, ra_LI, ra_LA, ra_LR, ra_LP, ra_R, ra_Rn, ra_RI, ra_RA, ra_RL, ra_RP, ra_P, ra_Pn, ra_PI, ra_PA, ra_PL, ra_PR]; exact s6⟩
          refine ⟨by simp (disch := omega) only [ra_I, ra_In, ra_A, ra_An, ra_IA, ra_IL, ra_IR, ra_IP, ra_AI, ra_AL, ra_AR, ra_AP, ra_L, ra_Ln, ra_LI, ra_LA, ra_LR, ra_LP, ra_R, ra_Rn, ra_RI, ra_RA, ra_RL, ra_RP, ra_P, ra_Pn, ra_PI, ra_PA, ra_PL, ra_PR]; exact s2.1, fun i hi => ?_⟩
          simp (disch := omega) only [ra_I, ra_In, ra_A, ra_An, ra_IA, ra_IL, ra_IR, ra_IP, ra_AI, ra_AL, ra_AR, ra_AP, ra_L, ra_Ln, ra_LI, ra_LA, ra_LR, ra_LP, ra_R, ra_Rn, ra_RI, ra_RA, ra_RL, ra_RP, ra_P, ra_Pn, ra_PI, ra_PA, ra_PL, ra_PR]
          exact s2.2 i hi
        have hiS : IS (wA (wI (wI (wI S 66 3 (nI sh)) 66 4 (nI a)) 66 5 (encC bi)) 74 F.length (nI (l.headD q))) (sh, a, bi) := ⟨by simp (disch := omega) only [ra_I, ra_In, ra_A, ra_An, ra_IA, ra_IL, ra_IR, ra_IP, ra_AI, ra_AL, ra_AR, ra_AP, ra_L, ra_Ln, ra_LI, ra_LA, ra_LR, ra_LP, ra_R, ra_Rn, ra_RI, ra_RA, ra_RL, ra_RP, ra_P, ra_Pn, ra_PI, ra_PA, ra_PL, ra_PR], by simp (disch := omega) only [ra_I, ra_In, ra_A, ra_An, ra_IA, ra_IL, ra_IR, ra_IP, ra_AI, ra_AL, ra_AR, ra_AP, ra_L, ra_Ln, ra_LI, ra_LA, ra_LR, ra_LP, ra_R, ra_Rn, ra_RI, ra_RA, ra_RL, ra_RP, ra_P, ra_Pn, ra_PI, ra_PA, ra_PL, ra_PR], by simp (disch := omega) only [ra_I, ra_In, ra_A, ra_An, ra_IA, ra_IL, ra_IR, ra_IP, ra_AI, ra_AL, ra_AR, ra_AP, ra_L, ra_Ln, ra_LI, ra_LA, ra_LR, ra_LP, ra_R, ra_Rn, ra_RI, ra_RA, ra_RL, ra_RP, ra_P, ra_Pn, ra_PI, ra_PA, ra_PL, ra_PR]⟩
        obtain ⟨S1, b1, k1, k2, k3, k4⟩ := ma_grow (t := (sh, a, bi)) (p := some nd) (F0 := (nd, sh, a :: l, q, bi) :: F) (F := (nd, sh, l, q, bi) :: F) ho hw hcS hiS hM hT hx ⟨g1, g2, ⟨l.headD q, t1, show l.headD q ≤ aN A sh by omega⟩, g6, g7⟩ hn hg hW hF hd (.inr ⟨nd, sh, a, l, q, bi, F, rfl, rfl, rfl⟩) hN2
        have k1 : f159 (wA (wI (wI (wI S 66 3 (nI sh)) 66 4 (nI a)) 66 5 (encC bi)) 74 F.length (nI (l.headD q))) 1 (some (76 + 2 * nd)) = some (b1, S1) := k1
        rw [k1, Option.bind_some]
        cases b1 with
        | false =>
          obtain ⟨j, M2, j1, j2, j3⟩ := k3 rfl
          exact ⟨S1, false, rfl, ⟨eq_t hE2 k2.1, k2.2⟩, j, M2, by omega, j1, j2, fun hh => by cases hh⟩
        | true =>
          obtain ⟨M2, T2, F2, X2, n2, gg, j1, j2, j3, j4, j5, j6, j7, j8, j9, j10, j11, j12, j13, j14, j15⟩ := k4 rfl
          have j14 : F2.length ≤ F.length + 1 + 1 := j14
          obtain ⟨S2, bb, i1, i2, j, M3, i3, i4, i5, i6⟩ := ih S1 M2 X2 n2 gg T2 F2 (v + 1) G (by omega) (by omega) j3 j4 j5 j6 j7 j8 j9 j10 j11 (by omega) (by omega) (by omega) (es_eq hE (eq_t hE2 k2.1))
          refine ⟨S2, bb, ?_, ⟨eq_t (eq_t hE2 k2.1) i2.1, i2.2⟩, j + ((gg - g) + 1), M3, by omega, fun fuR => ?_, eqM_t j2 i5, i6⟩
          · rw [if_pos rfl]; exact i1
          · rw [show fuR + (j + ((gg - g) + 1)) = (fuR + j) + ((gg - g) + 1) by omega, j1]
            exact i4 fuR
def T00 : rn_TR := (0, fun _ => 0, fun _ => 0, fun _ => 0, fun _ => 0, fun _ => 0, fun _ _ => 0)
theorem ma_tree {S M : rn_T} {A : rn_AT} {s : Nat} {u : Int32} {kk : Option Nat} (h : PS S A) (hm : PM M A) (ho : OKA A) (hs : s < 8) (hk : aU A s u kk) (hwl : WL S A s kk) (hbase : rI S 76 15 = nI 0) : ∃ (S2 M2 : rn_T) (bb : Bool), f156 S 1 (nI s) u = some (bb, S2) ∧ f56 M (nI s) u = some (bb, M2) ∧ (eqS S S2 ∧ rI S2 76 15 = nI 0) ∧ eqM M M2 ∧ (bb = true → ∃ T, SB S2 T ∧ MB M2 T ∧ FT T) := by
  obtain ⟨N, hNs, hNk, hN⟩ := hwl
  obtain ⟨EE, hEE⟩ : ∃ EE : Nat → Nat → Nat, ∀ j, j < 8 → N j → (∀ i, i < 40 → rA S (26 + 5 * j + 1) i = nI (EE j i)) ∧ WT A j (EE j) := by
    refine Classical.axiomOfChoice (r := fun j (E : Nat → Nat) => j < 8 → N j → (∀ i, i < 40 → rA S (26 + 5 * j + 1) i = nI (E i)) ∧ WT A j E) (fun j => ?_)
    by_cases hj : j < 8
    · by_cases hn : N j
      · obtain ⟨E, e⟩ := (hN j hj hn).1
        exact ⟨E, fun _ _ => e⟩
      · exact ⟨fun _ => 0, fun _ hh => absurd hh hn⟩
    · exact ⟨fun _ => 0, fun hh => absurd hh hj⟩
  have hES : ES S N EE := fun j hj hn => (hEE j hj hn).1
  have hw : WX A N EE := fun j hj hn => ⟨(hEE j hj hn).2, (hN j hj hn).2⟩
  have hTW : TW T00 := ⟨fun i hi => absurd hi (Nat.not_lt_zero i), fun i _ hi => absurd hi (Nat.not_lt_zero i), fun k j hkk => absurd hkk (Nat.not_lt_zero k)⟩
  have hSE : EqT (fun q => q < 66 ∨ 276 ≤ q) S (wI (wI (wI (wI S 66 0 (0 : Int32)) 66 6 (0 : Int32)) 66 10 (0 : Int32)) 66 15 (0 : Int32)) := eq_t (eq_t (eq_t (eq_I (by omega)) (eq_I (by omega))) (eq_I (by omega))) (eq_I (by omega))
  have hME : eqM M (wI (wI (wI (wI M 318 10 (0 : Int32)) 318 15 (0 : Int32)) 318 19 (0 : Int32)) 318 20 (0 : Int32)) := ⟨eq_t (eq_t (eq_t (eq_I (by omega)) (eq_I (by omega))) (eq_I (by omega))) (eq_I (by omega)), by simp (disch := omega) only [ra_I, ra_In, ra_A, ra_An, ra_IA, ra_IL, ra_IR, ra_IP, ra_AI, ra_AL, ra_AR, ra_AP, ra_L, ra_Ln, ra_LI, ra_LA, ra_LR, ra_LP, ra_R, ra_Rn, ra_RI, ra_RA, ra_RL, ra_RP, ra_P, ra_Pn, ra_PI, ra_PA, ra_PL, ra_PR], by simp (disch := omega) only [ra_I, ra_In, ra_A, ra_An, ra_IA, ra_IL, ra_IR, ra_IP, ra_AI, ra_AL, ra_AR, ra_AP, ra_L, ra_Ln, ra_LI, ra_LA, ra_LR, ra_LP, ra_R, ra_Rn, ra_RI, ra_RA, ra_RL, ra_RP, ra_P, ra_Pn, ra_PI, ra_PA, ra_PL, ra_PR]⟩
  -- what follows when the first one is known
  have key : ∀ (S1 M1 : rn_T) (X : Nat → rn_IT) (n : Nat) (b : Option Nat), n ≤ 1 → CB S1 A X n 0 T00 [] → EqT (fun q => q < 66 ∨ 276 ≤ q) S S1 → eqM M M1 → PM M1 A → XM M1 X n → rI M1 318 20 = nI 0 → rI M1 318 15 = nI 0 → MB M1 T00 → GX A N EE X n → GI A N EE n (s, 0, b) → ∃ (S2 M2 : rn_T) (bb : Bool), f156_J24 S1 1 (nI s) (0 : Int32) (encC b) = some (bb, S2) ∧ f56_J24 M1 (nI s) (0 : Int32) (encM b) = some (bb, M2) ∧ (eqS S S2 ∧ rI S2 76 15 = nI 0) ∧ eqM M M2 ∧ (bb = true → ∃ T, SB S2 T ∧ MB M2 T ∧ FT T) := by
    intro S1 M1 X n b hn hS hSS hMM hm1 hxm h20 h15 hT hx ht
    obtain ⟨s1, s2, s3, s4, s5, s6⟩ := hS
    have hE1 : EqT (fun q => q < 66 ∨ 276 ≤ q) S1 (wI (wI (wI S1 66 3 (nI s)) 66 4 (nI 0)) 66 5 (encC b)) := eq_t (eq_t (eq_I (by omega)) (eq_I (by omega))) (eq_I (by omega))
    have hcS : CB (wI (wI (wI S1 66 3 (nI s)) 66 4 (nI 0)) 66 5 (encC b)) A X n 0 T00 [] := by
      refine ⟨ps_eq s1 (eq_m hE1 (fun q hq => by omega)), xs_eq s2 (by simp (disch := omega) only [ra_I, ra_In, ra_A, ra_An, ra_IA, ra_IL, ra_IR, ra_IP, ra_AI, ra_AL, ra_AR, ra_AP, ra_L, ra_Ln, ra_LI, ra_LA, ra_LR, ra_LP, ra_R, ra_Rn, ra_RI, ra_RA, ra_RL, ra_RP, ra_P, ra_Pn, ra_PI, ra_PA, ra_PL, ra_PR]) rfl, by simp (disch := omega) only [ra_I, ra_In, ra_A, ra_An, ra_IA, ra_IL, ra_IR, ra_IP, ra_AI, ra_AL, ra_AR, ra_AP, ra_L, ra_Ln, ra_LI, ra_LA, ra_LR, ra_LP, ra_R, ra_Rn, ra_RI, ra_RA, ra_RL, ra_RP, ra_P, ra_Pn, ra_PI, ra_PA, ra_PL, ra_PR]; exact s3, sb_eq s4 (fun q j hq => by simp (disch := omega) only [ra_I, ra_In, ra_A, ra_An, ra_IA, ra_IL, ra_IR, ra_IP, ra_AI, ra_AL, ra_AR, ra_AP, ra_L, ra_Ln, ra_LI, ra_LA, ra_LR, ra_LP, ra_R, ra_Rn, ra_RI, ra_RA, ra_RL, ra_RP, ra_P, ra_Pn, ra_PI, ra_PA, ra_PL, ra_PR]) rfl (fun _ _ => rfl), trivial, by simp (disch := omega) only [ra_I, ra_In, ra_A, ra_An, ra_IA, ra_IL, ra_IR, ra_IP, ra_AI, ra_AL, ra_AR, ra_AP, ra_L, ra_Ln, ra_LI, ra_LA, ra_LR, ra_LP, ra_R, ra_Rn, ra_RI, ra_RA, ra_RL, ra_RP, ra_P, ra_Pn, ra_PI, ra_PA, ra_PL, ra_PR]; exact s6⟩
    have hiS : IS (wI (wI (wI S1 66 3 (nI s)) 66 4 (nI 0)) 66 5 (encC b)) (s, 0, b) := ⟨by simp (disch := omega) only [ra_I, ra_In, ra_A, ra_An, ra_IA, ra_IL, ra_IR, ra_IP, ra_AI, ra_AL, ra_AR, ra_AP, ra_L, ra_Ln, ra_LI, ra_LA, ra_LR, ra_LP, ra_R, ra_Rn, ra_RI, ra_RA, ra_RL, ra_RP, ra_P, ra_Pn, ra_PI, ra_PA, ra_PL, ra_PR], by simp (disch := omega) only [ra_I, ra_In, ra_A, ra_An, ra_IA, ra_IL, ra_IR, ra_IP, ra_AI, ra_AL, ra_AR, ra_AP, ra_L, ra_Ln, ra_LI, ra_LA, ra_LR, ra_LP, ra_R, ra_Rn, ra_RI, ra_RA, ra_RL, ra_RP, ra_P, ra_Pn, ra_PI, ra_PA, ra_PL, ra_PR], by simp (disch := omega) only [ra_I, ra_In, ra_A, ra_An, ra_IA, ra_IL, ra_IR, ra_IP, ra_AI, ra_AL, ra_AR, ra_AP, ra_L, ra_Ln, ra_LI, ra_LA, ra_LR, ra_LP, ra_R, ra_Rn, ra_RI, ra_RA, ra_RL, ra_RP, ra_P, ra_Pn, ra_PI, ra_PA, ra_PL, ra_PR]⟩
    have htd : TD M1 [] := trivial
    have hpu := td_pu (t := (s, 0, b)) (p := none) htd
    have hRQ : RQ (pu4 M1 0 (nI s) (nI 0) (encM b) (encM none)) A X n 0 [((s, 0, b), none)] := ⟨pm_eq hm1 (eT_M eT_pu), xm_eq hxm (by rw [eT_pu.2 19 (by omega)]) (fun q h1 h2 => (eT_pu.1 q (by omega)).2.1), by rw [eT_pu.2 20 (by omega)]; exact h20, hpu, by unfold pu4; rw [ra_I]; rfl⟩
    have hMB : MB (pu4 M1 0 (nI s) (nI 0) (encM b) (encM none)) T00 := mb_eq hT (eT_pu.2 10 (by omega)) (fun q h1 h2 => (eT_pu.1 q (by omega)).2.1)
    obtain ⟨S2, b1, k1, k2, k3, k4⟩ := ma_grow (F0 := []) (F := []) (p := none) ho hw hcS hiS hRQ hMB hx ht (by omega) (by omega) hTW trivial (fun i hi => absurd hi (Nat.not_lt_zero i)) (.inl ⟨rfl, rfl, rfl, rfl⟩) (by show 0 ≤ 100; omega)
    have k1 : f159 (wI (wI (wI S1 66 3 (nI s)) 66 4 (nI 0)) 66 5 (encC b)) 1 none = some (b1, S2) := k1
    have hf50 : f50 M1 (nI s) (nI 0) (encM b) (encM none) = some (pu4 M1 0 (nI s) (nI 0) (encM b) (encM none)) := rf_todo h15 (by omega)
    have hf56 : ∀ z, f56_L26 rn_FU (pu4 M1 0 (nI s) (nI 0) (encM b) (encM none)) f56_J40 = z → f56_J24 M1 (nI s) (0 : Int32) (encM b) = z := by
      intro z hz
      have : f56_J24 M1 (nI s) (0 : Int32) (encM b) = Option.bind (f50 M1 (nI s) (nI 0) (encM b) (encM none)) fun p3 => f56_L26 rn_FU p3 f56_J40 := rfl
      rw [this, hf50, Option.bind_some]; exact hz
    have hf156 : f156_J24 S1 1 (nI s) (0 : Int32) (encC b) = if b1 = true then f156_L34 1 rn_FU S2 (nI 0) kT else some (false, S2) := by
      have : f156_J24 S1 1 (nI s) (0 : Int32) (encC b) = Option.bind (f159 (wI (wI (wI S1 66 3 (nI s)) 66 4 (nI 0)) 66 5 (encC b)) 1 none) fun p4 => if p4.1 = true then f156_L34 1 rn_FU p4.2 (nI 0) kT else some (false, p4.2) := rfl
      rw [this, k1, Option.bind_some]
    have hES2 := eq_t (eq_t hSS hE1) k2.1
    have hSeq : ∀ S3, EqT (fun q => q < 66 ∨ 276 ≤ q) S2 S3 → eqS S S3 := fun S3 he => eq_m (eq_t hES2 he) (fun q hq => by omega)
    rw [hf156]
    cases b1 with
    | false =>
      obtain ⟨j, M2, j1, j2, j3⟩ := k3 rfl
      have := j1 (rn_FU - j)
      rw [show rn_FU - j + j = rn_FU by unfold rn_FU; omega] at this
      exact ⟨S2, M2, false, rfl, hf56 _ this, ⟨hSeq S2 eq_r, k2.2⟩, eqM_t hMM (eqM_t (eT_M eT_pu) j2), fun hh => by cases hh⟩
    | true =>
      obtain ⟨M2, T2, F2, X2, n2, gg, j1, j2, j3, j4, j5, j6, j7, j8, j9, j10, j11, j12, j13, j14, j15⟩ := k4 rfl
      have j12 : tN T2 = 0 + 1 := j12
      have j14 : F2.length ≤ 0 + 1 := j14
      obtain ⟨S3, bb, i1, i2, j, M3, i3, i4, i5, i6⟩ := ma_tloop ho hw 400 S2 M2 X2 n2 gg T2 F2 0 rn_FU (by omega) (by unfold rn_FU; omega) j3 j4 j5 j6 j7 j8 j9 j10 j11 (by omega) (by omega) (by omega) (es_eq hES hES2)
      refine ⟨S3, M3, bb, by rw [if_pos rfl]; exact i1, hf56 _ ?_, ⟨hSeq S3 i2.1, i2.2⟩, eqM_t hMM (eqM_t (eT_M eT_pu) (eqM_t j2 i5)), i6⟩
      have h1 := i4 (rn_FU - (j + ((gg - 0) + 1)))
      rw [← j1] at h1
      rw [show rn_FU - (j + ((gg - 0) + 1)) + j + ((gg - 0) + 1) = rn_FU by unfold rn_FU; omega] at h1
      exact h1
  have hgs : ∀ (b : Option Nat) (n : Nat), (∀ i, b = some i → i < n) → (aO A s = true → b ≠ none) → GI A N EE n (s, 0, b) := fun b n h1 h2 => ⟨hs, hNs, ⟨aN A s, (hw s hs hNs).1.1, Nat.le_refl _⟩, h1, h2⟩
  rcases hk with ⟨rfl, rfl, hop⟩ | ⟨t, rfl, ht, rfl, hop, hop2⟩
  · have := key (wI (wI (wI (wI S 66 0 (0 : Int32)) 66 6 (0 : Int32)) 66 10 (0 : Int32)) 66 15 (0 : Int32)) (wI (wI (wI (wI M 318 10 (0 : Int32)) 318 15 (0 : Int32)) 318 19 (0 : Int32)) 318 20 (0 : Int32)) (fun _ => (0, 0, none)) 0 none (by omega) ⟨ps_eq h (eq_m hSE (fun q hq => by omega)), ⟨by simp (disch := omega) only [ra_I, ra_In, ra_A, ra_An, ra_IA, ra_IL, ra_IR, ra_IP, ra_AI, ra_AL, ra_AR, ra_AP, ra_L, ra_Ln, ra_LI, ra_LA, ra_LR, ra_LP, ra_R, ra_Rn, ra_RI, ra_RA, ra_RL, ra_RP, ra_P, ra_Pn, ra_PI, ra_PA, ra_PL, ra_PR]; rfl, fun i hi => absurd hi (Nat.not_lt_zero i)⟩, by simp (disch := omega) only [ra_I, ra_In, ra_A, ra_An, ra_IA, ra_IL, ra_IR, ra_IP, ra_AI, ra_AL, ra_AR, ra_AP, ra_L, ra_Ln, ra_LI, ra_LA, ra_LR, ra_LP, ra_R, ra_Rn, ra_RI, ra_RA, ra_RL, ra_RP, ra_P, ra_Pn, ra_PI, ra_PA, ra_PL, ra_PR]; rfl, ⟨by simp (disch := omega) only [ra_I, ra_In, ra_A, ra_An, ra_IA, ra_IL, ra_IR, ra_IP, ra_AI, ra_AL, ra_AR, ra_AP, ra_L, ra_Ln, ra_LI, ra_LA, ra_LR, ra_LP, ra_R, ra_Rn, ra_RI, ra_RA, ra_RL, ra_RP, ra_P, ra_Pn, ra_PI, ra_PA, ra_PL, ra_PR]; rfl, fun i hi => absurd hi (Nat.not_lt_zero i), by simp (disch := omega) only [ra_I, ra_In, ra_A, ra_An, ra_IA, ra_IL, ra_IR, ra_IP, ra_AI, ra_AL, ra_AR, ra_AP, ra_L, ra_Ln, ra_LI, ra_LA, ra_LR, ra_LP, ra_R, ra_Rn, ra_RI, ra_RA, ra_RL, ra_RP, ra_P, ra_Pn, ra_PI, ra_PA, ra_PL, ra_PR]; exact hbase⟩, trivial, by simp (disch := omega) only [ra_I, ra_In, ra_A, ra_An, ra_IA, ra_IL, ra_IR, ra_IP, ra_AI, ra_AL, ra_AR, ra_AP, ra_L, ra_Ln, ra_LI, ra_LA, ra_LR, ra_LP, ra_R, ra_Rn, ra_RI, ra_RA, ra_RL, ra_RP, ra_P, ra_Pn, ra_PI, ra_PA, ra_PL, ra_PR]; rfl⟩ hSE hME (pm_eq hm hME) ⟨by simp (disch := omega) only [ra_I, ra_In, ra_A, ra_An, ra_IA, ra_IL, ra_IR, ra_IP, ra_AI, ra_AL, ra_AR, ra_AP, ra_L, ra_Ln, ra_LI, ra_LA, ra_LR, ra_LP, ra_R, ra_Rn, ra_RI, ra_RA, ra_RL, ra_RP, ra_P, ra_Pn, ra_PI, ra_PA, ra_PL, ra_PR]; rfl, fun i hi => absurd hi (Nat.not_lt_zero i)⟩ (by simp (disch := omega) only [ra_I, ra_In, ra_A, ra_An, ra_IA, ra_IL, ra_IR, ra_IP, ra_AI, ra_AL, ra_AR, ra_AP, ra_L, ra_Ln, ra_LI, ra_LA, ra_LR, ra_LP, ra_R, ra_Rn, ra_RI, ra_RA, ra_RL, ra_RP, ra_P, ra_Pn, ra_PI, ra_PA, ra_PL, ra_PR]; rfl) (by simp (disch := omega) only [ra_I, ra_In, ra_A, ra_An, ra_IA, ra_IL, ra_IR, ra_IP, ra_AI, ra_AL, ra_AR, ra_AP, ra_L, ra_Ln, ra_LI, ra_LA, ra_LR, ra_LP, ra_R, ra_Rn, ra_RI, ra_RA, ra_RL, ra_RP, ra_P, ra_Pn, ra_PI, ra_PA, ra_PL, ra_PR]; rfl) ⟨by simp (disch := omega) only [ra_I, ra_In, ra_A, ra_An, ra_IA, ra_IL, ra_IR, ra_IP, ra_AI, ra_AL, ra_AR, ra_AP, ra_L, ra_Ln, ra_LI, ra_LA, ra_LR, ra_LP, ra_R, ra_Rn, ra_RI, ra_RA, ra_RL, ra_RP, ra_P, ra_Pn, ra_PI, ra_PA, ra_PL, ra_PR]; rfl, fun i hi => absurd hi (Nat.not_lt_zero i)⟩ (fun i hi => absurd hi (Nat.not_lt_zero i)) (hgs none 0 (fun i hi => by cases hi) (fun hh => by rw [hop] at hh; cases hh))
    exact this
  · have hS1 : rI (wI (wI (wI (wI S 66 0 (0 : Int32)) 66 6 (0 : Int32)) 66 10 (0 : Int32)) 66 15 (0 : Int32)) 66 10 = nI 0 := by simp (disch := omega) only [ra_I, ra_In, ra_A, ra_An, ra_IA, ra_IL, ra_IR, ra_IP, ra_AI, ra_AL, ra_AR, ra_AP, ra_L, ra_Ln, ra_LI, ra_LA, ra_LR, ra_LP, ra_R, ra_Rn, ra_RI, ra_RA, ra_RL, ra_RP, ra_P, ra_Pn, ra_PI, ra_PA, ra_PL, ra_PR]; rfl
    have hM1 : rI (wI (wI (wI (wI M 318 10 (0 : Int32)) 318 15 (0 : Int32)) 318 19 (0 : Int32)) 318 20 (0 : Int32)) 318 19 = nI 0 := by simp (disch := omega) only [ra_I, ra_In, ra_A, ra_An, ra_IA, ra_IL, ra_IR, ra_IP, ra_AI, ra_AL, ra_AR, ra_AP, ra_L, ra_Ln, ra_LI, ra_LA, ra_LR, ra_LP, ra_R, ra_Rn, ra_RI, ra_RA, ra_RL, ra_RP, ra_P, ra_Pn, ra_PI, ra_PA, ra_PL, ra_PR]; rfl
    have hSE2 : EqT (fun q => q < 66 ∨ 276 ≤ q) S (ad3 (wI (wI (wI (wI S 66 0 (0 : Int32)) 66 6 (0 : Int32)) 66 10 (0 : Int32)) 66 15 (0 : Int32)) 69 66 10 0 (nI t) (nI 0) (encC none)) := by
      refine eq_t hSE ?_
      unfold ad3
      exact eq_t (eq_t (eq_t (eq_A (by omega)) (eq_A (by omega))) (eq_A (by omega))) (eq_I (by omega))
    have hME2 : eqM M (ad3 (wI (wI (wI (wI M 318 10 (0 : Int32)) 318 15 (0 : Int32)) 318 19 (0 : Int32)) 318 20 (0 : Int32)) 331 318 19 0 (nI t) (nI 0) (encM none)) := by
      refine eqM_t hME ?_
      unfold ad3
      exact eX_M (eX_t (eX_t (eX_t (eX_A (by omega)) (eX_A (by omega))) (eX_A (by omega))) (eX_I (by omega)))
    have hx0 : XS (wI (wI (wI (wI S 66 0 (0 : Int32)) 66 6 (0 : Int32)) 66 10 (0 : Int32)) 66 15 (0 : Int32)) (fun _ => (0, 0, none)) 0 := ⟨hS1, fun i hi => absurd hi (Nat.not_lt_zero i)⟩
    have hxm0 : XM (wI (wI (wI (wI M 318 10 (0 : Int32)) 318 15 (0 : Int32)) 318 19 (0 : Int32)) 318 20 (0 : Int32)) (fun _ => (0, 0, none)) 0 := ⟨hM1, fun i hi => absurd hi (Nat.not_lt_zero i)⟩
    have hNt := hNk t rfl
    have hgt : GI A N EE 0 (t, 0, none) := ⟨ht, hNt, ⟨aN A t, (hw t ht hNt).1.1, Nat.le_refl _⟩, (fun i hi => by cases hi), fun hh => by have hh : aO A t = true := hh; rw [hop2] at hh; cases hh⟩
    have := key (ad3 (wI (wI (wI (wI S 66 0 (0 : Int32)) 66 6 (0 : Int32)) 66 10 (0 : Int32)) 66 15 (0 : Int32)) 69 66 10 0 (nI t) (nI 0) (encC none)) (ad3 (wI (wI (wI (wI M 318 10 (0 : Int32)) 318 15 (0 : Int32)) 318 19 (0 : Int32)) 318 20 (0 : Int32)) 331 318 19 0 (nI t) (nI 0) (encM none)) (fun i => if i = 0 then (t, 0, none) else (0, 0, none)) 1 (some 0) (by omega) ⟨ps_eq h (eq_m hSE2 (fun q hq => by omega)), xs_add (t := (t, 0, none)) hx0, by unfold ad3; simp (disch := omega) only [ra_I, ra_In, ra_A, ra_An, ra_IA, ra_IL, ra_IR, ra_IP, ra_AI, ra_AL, ra_AR, ra_AP, ra_L, ra_Ln, ra_LI, ra_LA, ra_LR, ra_LP, ra_R, ra_Rn, ra_RI, ra_RA, ra_RL, ra_RP, ra_P, ra_Pn, ra_PI, ra_PA, ra_PL, ra_PR]; rfl, ⟨by unfold ad3; simp (disch := omega) only [ra_I, ra_In, ra_A, ra_An, ra_IA, ra_IL, ra_IR, ra_IP, ra_AI, ra_AL, ra_AR, ra_AP, ra_L, ra_Ln, ra_LI, ra_LA, ra_LR, ra_LP, ra_R, ra_Rn, ra_RI, ra_RA, ra_RL, ra_RP, ra_P, ra_Pn, ra_PI, ra_PA, ra_PL, ra_PR]; rfl, fun i hi => absurd hi (Nat.not_lt_zero i), by unfold ad3; simp (disch := omega) only [ra_I, ra_In, ra_A, ra_An, ra_IA, ra_IL, ra_IR, ra_IP, ra_AI, ra_AL, ra_AR, ra_AP, ra_L, ra_Ln, ra_LI, ra_LA, ra_LR, ra_LP, ra_R, ra_Rn, ra_RI, ra_RA, ra_RL, ra_RP, ra_P, ra_Pn, ra_PI, ra_PA, ra_PL, ra_PR]; exact hbase⟩, trivial, by unfold ad3; simp (disch := omega) only [ra_I, ra_In, ra_A, ra_An, ra_IA, ra_IL, ra_IR, ra_IP, ra_AI, ra_AL, ra_AR, ra_AP, ra_L, ra_Ln, ra_LI, ra_LA, ra_LR, ra_LP, ra_R, ra_Rn, ra_RI, ra_RA, ra_RL, ra_RP, ra_P, ra_Pn, ra_PI, ra_PA, ra_PL, ra_PR]; rfl⟩ hSE2 hME2 (pm_eq hm hME2) (xm_add (t := (t, 0, none)) hxm0) (by unfold ad3; simp (disch := omega) only [ra_I, ra_In, ra_A, ra_An, ra_IA, ra_IL, ra_IR, ra_IP, ra_AI, ra_AL, ra_AR, ra_AP, ra_L, ra_Ln, ra_LI, ra_LA, ra_LR, ra_LP, ra_R, ra_Rn, ra_RI, ra_RA, ra_RL, ra_RP, ra_P, ra_Pn, ra_PI, ra_PA, ra_PL, ra_PR]; rfl) (by unfold ad3; simp (disch := omega) only [ra_I, ra_In, ra_A, ra_An, ra_IA, ra_IL, ra_IR, ra_IP, ra_AI, ra_AL, ra_AR, ra_AP, ra_L, ra_Ln, ra_LI, ra_LA, ra_LR, ra_LP, ra_R, ra_Rn, ra_RI, ra_RA, ra_RL, ra_RP, ra_P, ra_Pn, ra_PI, ra_PA, ra_PL, ra_PR]; rfl) ⟨by unfold ad3; simp (disch := omega) only [ra_I, ra_In, ra_A, ra_An, ra_IA, ra_IL, ra_IR, ra_IP, ra_AI, ra_AL, ra_AR, ra_AP, ra_L, ra_Ln, ra_LI, ra_LA, ra_LR, ra_LP, ra_R, ra_Rn, ra_RI, ra_RA, ra_RL, ra_RP, ra_P, ra_Pn, ra_PI, ra_PA, ra_PL, ra_PR]; rfl, fun i hi => absurd hi (Nat.not_lt_zero i)⟩ (GX_add (X := fun _ => (0, 0, none)) (fun i hi => absurd hi (Nat.not_lt_zero i)) hgt) (hgs (some 0) 1 (fun i hi => by cases hi; omega) (fun _ hh => by cases hh))
    obtain ⟨S2, M2, bb, g1, g2, g3⟩ := this
    refine ⟨S2, M2, bb, ?_, ?_, g3⟩
    · have hc := cl_keep (a := nI t) (b := nI 0) (c := encC none) hS1 (by omega)
      unfold f156
      rw [if_pos (by simp (disch := omega) only [nI_lit, nI_add, pk_sub, pk_mul, ma_neg, nI_clamp, ma_ltT, ma_ltF, ma_leT, ma_leF, ma_eqT, ma_eqF, nI_ltI, nI_leI, nI_eq, ma_obT, ma_obF, ma_enF, ma_neF, ma_nlT, ma_lnF, ma_nLT, ma_Ln, ↓reduceIte, Option.bind_some, Option.bind_none, true_and, and_true, false_and, and_false, ne_eq, not_true_eq_false, not_false_eq_true, Bool.false_eq_true, reduceCtorEq, Nat.reduceAdd, Nat.reduceMul, Nat.reduceSub])]
      have : f158 (wI (wI (wI (wI S 66 0 (0 : Int32)) 66 6 (0 : Int32)) 66 10 (0 : Int32)) 66 15 (0 : Int32)) (nI t) (0 : Int32) (-1 : Int32) = some (nI 0, ad3 (wI (wI (wI (wI S 66 0 (0 : Int32)) 66 6 (0 : Int32)) 66 10 (0 : Int32)) 66 15 (0 : Int32)) 69 66 10 0 (nI t) (nI 0) (encC none)) := hc
      rw [this, Option.bind_some]
      exact g1
    · have hc := rf_x (a := nI t) (b := nI 0) (c := encM none) hM1 (by omega)
      unfold f56
      rw [if_pos (by simp (disch := omega) only [nI_lit, nI_add, pk_sub, pk_mul, ma_neg, nI_clamp, ma_ltT, ma_ltF, ma_leT, ma_leF, ma_eqT, ma_eqF, nI_ltI, nI_leI, nI_eq, ma_obT, ma_obF, ma_enF, ma_neF, ma_nlT, ma_lnF, ma_nLT, ma_Ln, ↓reduceIte, Option.bind_some, Option.bind_none, true_and, and_true, false_and, and_false, ne_eq, not_true_eq_false, not_false_eq_true, Bool.false_eq_true, reduceCtorEq, Nat.reduceAdd, Nat.reduceMul, Nat.reduceSub])]
      have : f51 (wI (wI (wI (wI M 318 10 (0 : Int32)) 318 15 (0 : Int32)) 318 19 (0 : Int32)) 318 20 (0 : Int32)) (nI t) (0 : Int32) (-6 : Int32) = some (nI 0, ad3 (wI (wI (wI (wI M 318 10 (0 : Int32)) 318 15 (0 : Int32)) 318 19 (0 : Int32)) 318 20 (0 : Int32)) 331 318 19 0 (nI t) (nI 0) (encM none)) := hc
      rw [this, Option.bind_some]
      exact g2
