/-! 53: fault -/
theorem ma_scan {S M : rn_T} {A : rn_AT} {s : Nat} (h : PS S A) (hm : PM M A) (ho : OKA A) (hs : s < 8) : ∃ S2 M2 r, f134 S (26 + 5 * s) 1 (nI s) = some S2 ∧ f43 M (nI s) = some (r, M2) ∧ EqT (scO (26 + 5 * s)) S S2 ∧ eqD M M2 ∧ FR A s (26 + 5 * s) S2 r := by
  have hn := ho.1 s hs
  have hSC0 : ∃ E, SC (wI S (26 + 5 * s) 5 (nI 0)) (26 + 5 * s) [] E := by
    refine ⟨fun i => (rA S (26 + 5 * s + 1) i).toBitVec.toNat, ra_I, trivial, fun i hi => ?_⟩
    simp (disch := omega) only [ra_I, ra_In, ra_A, ra_An, ra_IA, ra_IL, ra_IR, ra_IP, ra_AI, ra_AL, ra_AR, ra_AP, ra_L, ra_Ln, ra_LI, ra_LA, ra_LR, ra_LP, ra_R, ra_Rn, ra_RI, ra_RA, ra_RL, ra_RP, ra_P, ra_Pn, ra_PI, ra_PA, ra_PL, ra_PR]
    unfold nI
    apply Int32.toBitVec_inj.mp
    simp [Int32.toBitVec_ofNat']
  obtain ⟨E, hSC⟩ := hSC0
  have hS0 : PS (wI S (26 + 5 * s) 5 (nI 0)) A := ps_eq h (eq_I (by omega))
  have hDS0 : DS (wI M 318 4 (nI 0)) [] := ⟨ra_I, trivial⟩
  obtain ⟨M1, e1, e2, e3⟩ := ma_f38 hDS0 (x := 0) (by show 0 < 60; omega) (by omega)
  have hM1 : PM M1 A := pm_D hm (eqD_t eqD_I e2)
  obtain ⟨S2, M2, r, z1, z2, z3, z4, z5⟩ := scan_loop ho hs (ma_kd4 hs) (by omega) (aN A s) 0 [] E [0] _ M1 rn_FU rn_FU (by omega) (by unfold rn_FU; omega) (by unfold rn_FU; omega) hS0 hM1 hSC e3 (.inl ⟨rfl, rfl, rfl⟩) (fun i hi => by omega)
  refine ⟨S2, M2, r, ?_, ?_, eq_t (eq_I (by unfold scO; omega)) z3, eqD_t eqD_I (eqD_t e2 z4), z5⟩
  · rw [← z1]
    unfold f134
    simp (disch := omega) only [ma_kd4 hs, show rn_kd 1 = 1 from rfl, nI_lit, nI_add, pk_sub, pk_mul, ma_neg, nI_clamp, ma_ltT, ma_ltF, ma_leT, ma_leF, ma_eqT, ma_eqF, nI_ltI, nI_leI, nI_eq, ma_obT, ma_obF, ma_enF, ma_neF, ma_nlT, ma_lnF, ma_nLT, ma_Ln, ↓reduceIte, Option.bind_some, Option.bind_none, true_and, and_true, false_and, and_false, ne_eq, not_true_eq_false, not_false_eq_true, Bool.false_eq_true, reduceCtorEq, Nat.reduceAdd, Nat.reduceMul, Nat.reduceSub]
    rfl
  · rw [← z2]
    show (f38 (wI M 318 4 (nI 0)) (nI 0)).bind (fun p1 => f43_L8 (nI s) rn_FU p1 (nI 0) (kM s)) = _
    rw [e1]
    rfl
theorem eqS_sc {S S2 : rn_T} {s : Nat} (hs : s < 8) (h : EqT (scO (26 + 5 * s)) S S2) : eqS S S2 := eq_m h (fun q hq => by unfold scO; omega)
theorem go_fault {S M : rn_T} (h : Inv S M) (a : Int32) : Go S M (f3 S a) (f44 M a) := by
  rcases ma_shape a with ha | ⟨s, hs, rfl⟩
  · refine go_same (r := -1) h ?_ ?_
    · unfold f3; rw [ma_f22n ha]; rfl
    · unfold f44; rw [ma_f30n ha]; rfl
  · obtain ⟨A, h1, h2, h3, h4⟩ := id h
    obtain ⟨S2, M2, r, z1, z2, z3, z4, z5⟩ := ma_scan h1 h2 h3 hs
    refine ⟨r, S2, M2, ?_, ?_, inv_eq h (eqS_sc hs z3) (by rw [(z3 76 (by unfold scO; omega)).1]; exact h4.2.1) (eqD_M z4)⟩
    · unfold f3
      rw [ma_f22 hs]
      simp (disch := omega) only [z1, z5.1, nI_lit, nI_add, pk_sub, pk_mul, ma_neg, nI_clamp, ma_ltT, ma_ltF, ma_leT, ma_leF, ma_eqT, ma_eqF, nI_ltI, nI_leI, nI_eq, ma_obT, ma_obF, ma_enF, ma_neF, ma_nlT, ma_lnF, ma_nLT, ma_Ln, ↓reduceIte, Option.bind_some, Option.bind_none, true_and, and_true, false_and, and_false, ne_eq, not_true_eq_false, not_false_eq_true, Bool.false_eq_true, reduceCtorEq, Nat.reduceAdd, Nat.reduceMul, Nat.reduceSub]
    · unfold f44
      rw [ma_f30 hs, z2]
      rfl
