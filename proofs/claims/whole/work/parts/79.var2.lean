/-! 79: hidden or tagged, all of a variant -/
theorem ma_varB {S M : rn_T} {T : rn_TR} {Y : rn_LY} {k a hb : Nat} (hw : TW T) (hk : k < tN T) (hN : tN T ≤ 100) (h : KR S M T Y k) (hc : 2 ≤ tC T k) (hh : hb < tC T k) (hft : ∀ j, j < tC T k → ft Y (tE T k hb) (tE T k j) ∧ rI S (76 + 2 * tE T k j) 7 = nI (ro Y (tE T k hb) (tE T k j))) (hgm : tC T k ≤ Y (tE T k hb) 11 + 1) (hmk : ∀ j, j < tC T k → rI S (76 + 2 * tE T k j) 14 = -nI 6) (ha : isA a) (ha2 : ∀ j, j < tC T k → Y (tE T k j) 6 ≤ a) (hS : rI S (76 + 2 * k) 6 = nI a) (hM : rA M 335 k = nI a) (hM2 : rA M 342 k = nI hb) : ∃ S3 M3 Y3, f125 S (76 + 2 * k) (nI hb) = some S3 ∧ f68_J41 M (nI k) (nI (tE T k hb)) (nI k) (1 : Int32) = some M3 ∧ LD S M S3 M3 T Y Y3 k ∧ LV S3 M3 T Y3 k := by
  have hC := (hw.1 k hk).2.2.2.2
  have hk3 := ma_kd3 (show k < 100 by omega)
  obtain ⟨g1, g2, g3, g4⟩ := hw.2.2 k hb hk hh
  have hk4 := ma_kd3 (show tE T k hb < 100 by omega)
  obtain ⟨⟨cA, cm, c5, c8, c9, cg, cF⟩, c2⟩ := h.2.2 hb hh
  have s5 := (c2 5 (by unfold fK; omega)).1
  have s8 := (c2 8 (by unfold fK; omega)).1
  have s9 := (c2 9 (by unfold fK; omega)).1
  have s10 := (c2 10 (by unfold fK; omega)).1
  have s11 := (c2 11 (by unfold fK; omega)).1
  have e1 := (h.1.2.1 k hk).1
  obtain ⟨u1, u2, u3⟩ := up_ge (n := Y (tE T k hb) 5) ha
  have hM0 := kr_eq hw hk h eK_r (eKM_k (T := T) (k := k) (q := 341) (M := M) (v := nI 1) (by omega)) (fun _ _ _ _ => rfl)
  obtain ⟨M1, r1, r2, r3⟩ := rf_hide hw hk hN hM0 hh (fun j hj => (hft j hj).1) ha (by rw [ra_An (by omega)]; exact hM) hgm
  have heS0 : eK T k S (wI (wI (wI S (76 + 2 * k) 12 (nI 1)) (76 + 2 * k) 13 (nI hb)) (76 + 2 * k) 5 (nI (up (Y (tE T k hb) 5) a))) := eK_t (eK_t (eK_k (by omega)) (eK_k (by omega))) (eK_k (by omega))
  have hS0 := kr_eq (Y2 := Y) hw hk h heS0 eKM_r (fun _ _ _ _ => rfl)
  obtain ⟨S4, i1, i2, i3, i4⟩ := cl_hideL (hb := hb) (F := Y (tE T k hb) 10) (x := 76 + 2 * tE T k hb) hw hk hN (by omega) (by omega) (tC T k) 0 rn_FU _ (by omega) (by unfold rn_FU; omega) hS0.1
  have hk0 : ∀ f, rI S4 (76 + 2 * k) f = _ := fun f => eC_k (f := f) hw hk i1
  have hnh : ∀ f, f ≠ 7 → f ≠ 14 → rI S4 (76 + 2 * tE T k hb) f = rI S (76 + 2 * tE T k hb) f := by
    intro f h7 h14
    rw [i1.1 _ _ (fun j hj hx => by omega), ra_In (by omega), ra_In (by omega), ra_In (by omega)]
  have hmF : mkh (Y (tE T k hb) 10) hb (tC T k) = Y (tE T k hb) 10 + (tC T k - 1) := by
    unfold mkh
    rw [if_pos hh]; omega
  have hm0 : mkh (Y (tE T k hb) 10) hb 0 = Y (tE T k hb) 10 := by
    unfold mkh
    rw [if_neg (by omega)]; rfl
  rw [hmF, hm0] at i2
  have hwid : Y (tE T k hb) 8 + Y (tE T k hb) 9 ≤ Y (tE T k hb) 5 := by omega
  refine ⟨gp S4 (76 + 2 * k) (Y (tE T k hb) 8) (Y (tE T k hb) 9) (Y (tE T k hb) 10 + (tC T k - 1)) (Y (tE T k hb) 11 - (tC T k - 1)), gpM (wA M1 334 k (nI (up (Y (tE T k hb) 5) a))) k (Y (tE T k hb) 8) (Y (tE T k hb) 9) (Y (tE T k hb) 10 + (tC T k - 1)) (Y (tE T k hb) 11 - (tC T k - 1)), yV (yO Y T k (fun e => ro Y (tE T k hb) e)) k a (up (Y (tE T k hb) 5) a) (Y (tE T k hb) 8) (Y (tE T k hb) 9) (Y (tE T k hb) 10 + (tC T k - 1)) (Y (tE T k hb) 11 - (tC T k - 1)) 1 hb, ?_, ?_, ld_mk hw hk h (eK_t (eK_t heS0 (eC_K i1)) (eG_K eG_g)) (eKM_t (eKM_t (eKM_t (eKM_k (by omega)) (eCM_K r2)) (eKM_k (by omega))) (eGM_K eGM_g)) ?_ ?_ ?_ ?_, ?_⟩
  · unfold f125
    rw [if_pos hk3, if_neg (ob_F (by omega) (by omega)), nI_clamp (by omega), rn_om_s (sk_child h.1 hw hk hh), if_pos hk4]
    rw [show rI (wI (wI S (76 + 2 * k) 12 (1 : Int32)) (76 + 2 * k) 13 (nI hb)) (76 + 2 * tE T k hb) 5 = nI (Y (tE T k hb) 5) by rw [ra_In (by omega), ra_In (by omega)]; exact s5, show rI (wI (wI S (76 + 2 * k) 12 (1 : Int32)) (76 + 2 * k) 13 (nI hb)) (76 + 2 * k) 6 = nI a by rw [ra_In (by omega), ra_In (by omega)]; exact hS, ma_f26 (by omega) ha, show rI (wI (wI (wI S (76 + 2 * k) 12 (1 : Int32)) (76 + 2 * k) 13 (nI hb)) (76 + 2 * k) 5 (nI (up (Y (tE T k hb) 5) a))) (76 + 2 * tE T k hb) 10 = nI (Y (tE T k hb) 10) by rw [ra_In (by omega), ra_In (by omega), ra_In (by omega)]; exact s10]
    refine (i2 _).trans ?_
    rw [hnh 8 (by omega) (by omega), hnh 9 (by omega) (by omega), hnh 11 (by omega) (by omega), hk0, ra_In (by omega), ra_In (by omega), ra_In (by omega), s8, s9, s11, e1, show nI (tC T k) - (1 : Int32) = nI (tC T k - 1) from pk_sub (show 1 ≤ tC T k by omega), pk_sub (show tC T k - 1 ≤ Y (tE T k hb) 11 by omega), cl_gap hk3]
    rfl
  · unfold f68_J41
    rw [if_neg (ob_F (by omega) (by omega)), if_neg (ob_F (by omega) (by omega)), nI_clamp (by omega), ra_A, if_neg (by decide)]
    show Option.bind (f66 (wA M 341 k (nI 1)) (nI k) (nI (tE T k hb))) _ = _
    rw [r1]; rfl
  · unfold gp
    refine ⟨?_, ?_, ?_, ?_, ?_, ?_⟩
    · simp (disch := omega) only [hk0, ra_I, ra_In, ra_A, ra_An, ra_IA, ra_IL, ra_IR, ra_IP, ra_AI, ra_AL, ra_AR, ra_AP, ra_L, ra_Ln, ra_LI, ra_LA, ra_LR, ra_LP, ra_R, ra_Rn, ra_RI, ra_RA, ra_RL, ra_RP, ra_P, ra_Pn, ra_PI, ra_PA, ra_PL, ra_PR]
    · simp (disch := omega) only [hk0, ra_I, ra_In, ra_A, ra_An, ra_IA, ra_IL, ra_IR, ra_IP, ra_AI, ra_AL, ra_AR, ra_AP, ra_L, ra_Ln, ra_LI, ra_LA, ra_LR, ra_LP, ra_R, ra_Rn, ra_RI, ra_RA, ra_RL, ra_RP, ra_P, ra_Pn, ra_PI, ra_PA, ra_PL, ra_PR]
      exact hS
    · simp (disch := omega) only [ra_I, ra_In, ra_A, ra_An, ra_IA, ra_IL, ra_IR, ra_IP, ra_AI, ra_AL, ra_AR, ra_AP, ra_L, ra_Ln, ra_LI, ra_LA, ra_LR, ra_LP, ra_R, ra_Rn, ra_RI, ra_RA, ra_RL, ra_RP, ra_P, ra_Pn, ra_PI, ra_PA, ra_PL, ra_PR]
    · simp (disch := omega) only [ra_I, ra_In, ra_A, ra_An, ra_IA, ra_IL, ra_IR, ra_IP, ra_AI, ra_AL, ra_AR, ra_AP, ra_L, ra_Ln, ra_LI, ra_LA, ra_LR, ra_LP, ra_R, ra_Rn, ra_RI, ra_RA, ra_RL, ra_RP, ra_P, ra_Pn, ra_PI, ra_PA, ra_PL, ra_PR]
    · simp (disch := omega) only [ra_I, ra_In, ra_A, ra_An, ra_IA, ra_IL, ra_IR, ra_IP, ra_AI, ra_AL, ra_AR, ra_AP, ra_L, ra_Ln, ra_LI, ra_LA, ra_LR, ra_LP, ra_R, ra_Rn, ra_RI, ra_RA, ra_RL, ra_RP, ra_P, ra_Pn, ra_PI, ra_PA, ra_PL, ra_PR]
    · simp (disch := omega) only [ra_I, ra_In, ra_A, ra_An, ra_IA, ra_IL, ra_IR, ra_IP, ra_AI, ra_AL, ra_AR, ra_AP, ra_L, ra_Ln, ra_LI, ra_LA, ra_LR, ra_LP, ra_R, ra_Rn, ra_RI, ra_RA, ra_RL, ra_RP, ra_P, ra_Pn, ra_PI, ra_PA, ra_PL, ra_PR]
  · unfold gpM
    refine ⟨by simp (disch := omega) only [ra_I, ra_In, ra_A, ra_An, ra_IA, ra_IL, ra_IR, ra_IP, ra_AI, ra_AL, ra_AR, ra_AP, ra_L, ra_Ln, ra_LI, ra_LA, ra_LR, ra_LP, ra_R, ra_Rn, ra_RI, ra_RA, ra_RL, ra_RP, ra_P, ra_Pn, ra_PI, ra_PA, ra_PL, ra_PR], ?_, by simp (disch := omega) only [ra_I, ra_In, ra_A, ra_An, ra_IA, ra_IL, ra_IR, ra_IP, ra_AI, ra_AL, ra_AR, ra_AP, ra_L, ra_Ln, ra_LI, ra_LA, ra_LR, ra_LP, ra_R, ra_Rn, ra_RI, ra_RA, ra_RL, ra_RP, ra_P, ra_Pn, ra_PI, ra_PA, ra_PL, ra_PR], by simp (disch := omega) only [ra_I, ra_In, ra_A, ra_An, ra_IA, ra_IL, ra_IR, ra_IP, ra_AI, ra_AL, ra_AR, ra_AP, ra_L, ra_Ln, ra_LI, ra_LA, ra_LR, ra_LP, ra_R, ra_Rn, ra_RI, ra_RA, ra_RL, ra_RP, ra_P, ra_Pn, ra_PI, ra_PA, ra_PL, ra_PR], by simp (disch := omega) only [ra_I, ra_In, ra_A, ra_An, ra_IA, ra_IL, ra_IR, ra_IP, ra_AI, ra_AL, ra_AR, ra_AP, ra_L, ra_Ln, ra_LI, ra_LA, ra_LR, ra_LP, ra_R, ra_Rn, ra_RI, ra_RA, ra_RL, ra_RP, ra_P, ra_Pn, ra_PI, ra_PA, ra_PL, ra_PR], by simp (disch := omega) only [ra_I, ra_In, ra_A, ra_An, ra_IA, ra_IL, ra_IR, ra_IP, ra_AI, ra_AL, ra_AR, ra_AP, ra_L, ra_Ln, ra_LI, ra_LA, ra_LR, ra_LP, ra_R, ra_Rn, ra_RI, ra_RA, ra_RL, ra_RP, ra_P, ra_Pn, ra_PI, ra_PA, ra_PL, ra_PR]⟩
    simp (disch := omega) only [ra_I, ra_In, ra_A, ra_An, ra_IA, ra_IL, ra_IR, ra_IP, ra_AI, ra_AL, ra_AR, ra_AP, ra_L, ra_Ln, ra_LI, ra_LA, ra_LR, ra_LP, ra_R, ra_Rn, ra_RI, ra_RA, ra_RL, ra_RP, ra_P, ra_Pn, ra_PI, ra_PA, ra_PL, ra_PR]
    rw [r2.1 335 k (fun j hj => by omega), ra_An (by omega)]; exact hM
  · intro j hj
    obtain ⟨q1, q2, q3, q4⟩ := hw.2.2 k j hk hj
    obtain ⟨⟨dA, dm, d5, d8, d9, dg, dF⟩, d2⟩ := h.2.2 j hj
    obtain ⟨v1, v2, v3⟩ := up_ge (n := Y (tE T k hb) 8 + Y (tE T k hb) 9) dA
    obtain ⟨f1, f2⟩ := hft j hj
    refine ⟨?_, ?_, ?_, ?_, ha2 j hj⟩
    · rw [eG_g.1 _ _ (by omega), i4 j hj, ra_In (by omega), ra_In (by omega), ra_In (by omega)]
      exact f2
    · rw [eGM_g.1 _ _ (by omega), ra_An (by omega)]
      exact r3 j hj
    · show ro Y (tE T k hb) (tE T k j) % _ = 0
      unfold ro
      by_cases x1 : tE T k j = tE T k hb
      · rw [if_pos x1]; exact Nat.zero_mod _
      · rw [if_neg x1]
        by_cases x2 : Y (tE T k j) 5 ≤ Y (tE T k hb) 8
        · rw [if_pos x2]; exact Nat.zero_mod _
        · rw [if_neg x2]; exact v3
    · show ro Y (tE T k hb) (tE T k j) + _ ≤ _
      unfold ro
      unfold ft at f1
      by_cases x1 : tE T k j = tE T k hb
      · rw [if_pos x1, x1]; omega
      · rw [if_neg x1]
        by_cases x2 : Y (tE T k j) 5 ≤ Y (tE T k hb) 8
        · rw [if_pos x2]; omega
        · rw [if_neg x2]; omega
  · exact ⟨ha, u3, by omega, .inl c8, c9, .inr (by omega), by omega⟩
  · unfold LV
    have hne : tE T k hb ≠ k := by omega
    rw [yV_12, yV_13, yV_5, yV_n hne, yV_n hne, yO_n hw (.inl (by omega)), yO_c hw hk hh]
    refine ⟨?_, ?_, ?_, fun _ => ?_, hh, by omega, ⟨fun hx => by omega, fun hx => by omega⟩, fun _ => ⟨hgm, ?_⟩, fun hx => by omega, fun j hj => ?_⟩
    · unfold gp; simp (disch := omega) only [hk0, ra_I, ra_In, ra_A, ra_An, ra_IA, ra_IL, ra_IR, ra_IP, ra_AI, ra_AL, ra_AR, ra_AP, ra_L, ra_Ln, ra_LI, ra_LA, ra_LR, ra_LP, ra_R, ra_Rn, ra_RI, ra_RA, ra_RL, ra_RP, ra_P, ra_Pn, ra_PI, ra_PA, ra_PL, ra_PR]
    · unfold gpM; simp (disch := omega) only [ra_I, ra_In, ra_A, ra_An, ra_IA, ra_IL, ra_IR, ra_IP, ra_AI, ra_AL, ra_AR, ra_AP, ra_L, ra_Ln, ra_LI, ra_LA, ra_LR, ra_LP, ra_R, ra_Rn, ra_RI, ra_RA, ra_RL, ra_RP, ra_P, ra_Pn, ra_PI, ra_PA, ra_PL, ra_PR]
      rw [r2.1 341 k (fun j hj => by omega), ra_A]
    · unfold gpM; simp (disch := omega) only [ra_I, ra_In, ra_A, ra_An, ra_IA, ra_IL, ra_IR, ra_IP, ra_AI, ra_AL, ra_AR, ra_AP, ra_L, ra_Ln, ra_LI, ra_LA, ra_LR, ra_LP, ra_R, ra_Rn, ra_RI, ra_RA, ra_RL, ra_RP, ra_P, ra_Pn, ra_PI, ra_PA, ra_PL, ra_PR]
      rw [r2.1 342 k (fun j hj => by omega), ra_An (by omega)]; exact hM2
    · unfold gp; simp (disch := omega) only [hk0, ra_I, ra_In, ra_A, ra_An, ra_IA, ra_IL, ra_IR, ra_IP, ra_AI, ra_AL, ra_AR, ra_AP, ra_L, ra_Ln, ra_LI, ra_LA, ra_LR, ra_LP, ra_R, ra_Rn, ra_RI, ra_RA, ra_RL, ra_RP, ra_P, ra_Pn, ra_PI, ra_PA, ra_PL, ra_PR]
    · show ro Y (tE T k hb) (tE T k hb) = 0
      unfold ro
      rw [if_pos rfl]
    · unfold mkI
      obtain ⟨q1, q2, q3, q4⟩ := hw.2.2 k j hk hj
      rw [yV_12, yV_13, if_neg (by omega), if_neg (by omega), yV_n hne, yO_n hw (.inl (by omega)), eG_g.1 _ _ (by omega), i3 j hj]
      by_cases c : j = hb
      · rw [if_pos c, if_neg (by omega), ra_In (by omega), ra_In (by omega), ra_In (by omega)]
        exact hmk j hj
      · rw [if_neg c, if_pos ⟨by omega, c⟩]
theorem ma_varC {S M : rn_T} {T : rn_TR} {Y : rn_LY} {k a hb : Nat} {x : Int32} (hw : TW T) (hk : k < tN T) (hN : tN T ≤ 100) (h : KR S M T Y k) (hc : 2 ≤ tC T k) (hh : hb < tC T k) (ha : isA a) (ha2 : ∀ j, j < tC T k → Y (tE T k j) 6 ≤ a) (hS : rI S (76 + 2 * k) 6 = nI a) (hM : rA M 335 k = nI a) (hM2 : rA M 342 k = nI hb) : ∃ S3 M3 Y3, f126 S (76 + 2 * k) = some S3 ∧ f68_J41 M (nI k) x (nI k) (2 : Int32) = some M3 ∧ LD S M S3 M3 T Y Y3 k ∧ LV S3 M3 T Y3 k := by
  have hC := (hw.1 k hk).2.2.2.2
  have hk3 := ma_kd3 (show k < 100 by omega)
  have e1 := (h.1.2.1 k hk).1
  have e2 := (h.2.1.2 k hk).2.2.2.2
  have hKR := kr_eq (Y2 := Y) hw hk h (eK_k (T := T) (k := k) (f := 12) (S := S) (v := nI 2) (by omega)) (eKM_k (T := T) (k := k) (q := 341) (M := M) (v := nI 2) (by omega)) (fun _ _ _ _ => rfl)
  obtain ⟨S4, M4, e3, i1, i2, i3, i4, i5, i6, i7⟩ := ma_tagL hw hk hN (tC T k) 0 1 rn_FU rn_FU _ _ (by omega) (by unfold rn_FU; omega) (by unfold rn_FU; omega) hKR (by omega)
  obtain ⟨u1, u2, u3⟩ := up_ge (n := e3) ha
  have hk0 : ∀ f, rI S4 (76 + 2 * k) f = _ := fun f => eC_k (f := f) hw hk i1
  have hkM : ∀ q, q ≠ 336 → rA M4 q k = rA (wA M 341 k (nI 2)) q k := fun q hq => i2.1 q k (fun j hj hx => hq hx.2)
  have m326 : rA M4 326 k = nI (tC T k) := by rw [hkM 326 (by omega), ra_An (by omega)]; exact e2
  refine ⟨gp (wI S4 (76 + 2 * k) 5 (nI (up e3 a))) (76 + 2 * k) 0 1 (tC T k) (256 - tC T k), gpM (wA M4 334 k (nI (up e3 a))) k 0 1 (tC T k) (256 - tC T k), yV (yO Y T k (fun e => up 1 (Y e 6))) k a (up e3 a) 0 1 (tC T k) (256 - tC T k) 2 hb, ?_, ?_, ld_mk hw hk h (eK_t (eK_t (eK_t (eK_k (by omega)) (eC_K i1)) (eK_k (by omega))) (eG_K eG_g)) (eKM_t (eKM_t (eKM_t (eKM_k (by omega)) (eCM_K i2)) (eKM_k (by omega))) (eGM_K eGM_g)) ?_ ?_ ?_ ?_, ?_⟩
  · unfold f126
    rw [if_pos hk3]
    refine (i3 _).trans ?_
    rw [hk0 6, ra_In (by omega), hS, ma_f26 (by omega) ha, ra_In (by omega), hk0 1, ra_In (by omega), e1, show (256 : Int32) - nI (tC T k) = nI (256 - tC T k) from pk_sub (show tC T k ≤ 256 by omega), show (0 : Int32) = nI 0 from rfl, show (1 : Int32) = nI 1 from rfl, cl_gap hk3]
    rfl
  · unfold f68_J41
    rw [if_neg (ob_F (by omega) (by omega)), if_neg (ob_F (by omega) (by omega)), nI_clamp (by omega), ra_A, if_pos rfl]
    show Option.bind (f67 (wA M 341 k (nI 2)) (nI k)) _ = _
    have h67 : f67 (wA M 341 k (nI 2)) (nI k) = some (gpM (wA M4 334 k (nI (up e3 a))) k 0 1 (tC T k) (256 - tC T k)) := by
      unfold f67
      refine (i4 _).trans ?_
      rw [if_neg (ob_F (by omega) (by omega)), nI_clamp (by omega), hkM 335 (by omega), ra_An (by omega), hM, ma_f32 (by omega) ha, Option.bind_some, ra_An (by omega), m326, show (256 : Int32) - nI (tC T k) = nI (256 - tC T k) from pk_sub (show tC T k ≤ 256 by omega), show (0 : Int32) = nI 0 from rfl, show (1 : Int32) = nI 1 from rfl, rf_gap (by omega)]
      rfl
    rw [h67]; rfl
  · unfold gp
    refine ⟨?_, ?_, ?_, ?_, ?_, ?_⟩
    · simp (disch := omega) only [ra_I, ra_In, ra_A, ra_An, ra_IA, ra_IL, ra_IR, ra_IP, ra_AI, ra_AL, ra_AR, ra_AP, ra_L, ra_Ln, ra_LI, ra_LA, ra_LR, ra_LP, ra_R, ra_Rn, ra_RI, ra_RA, ra_RL, ra_RP, ra_P, ra_Pn, ra_PI, ra_PA, ra_PL, ra_PR]
    · simp (disch := omega) only [hk0, ra_I, ra_In, ra_A, ra_An, ra_IA, ra_IL, ra_IR, ra_IP, ra_AI, ra_AL, ra_AR, ra_AP, ra_L, ra_Ln, ra_LI, ra_LA, ra_LR, ra_LP, ra_R, ra_Rn, ra_RI, ra_RA, ra_RL, ra_RP, ra_P, ra_Pn, ra_PI, ra_PA, ra_PL, ra_PR]
      exact hS
    · simp (disch := omega) only [ra_I, ra_In, ra_A, ra_An, ra_IA, ra_IL, ra_IR, ra_IP, ra_AI, ra_AL, ra_AR, ra_AP, ra_L, ra_Ln, ra_LI, ra_LA, ra_LR, ra_LP, ra_R, ra_Rn, ra_RI, ra_RA, ra_RL, ra_RP, ra_P, ra_Pn, ra_PI, ra_PA, ra_PL, ra_PR]
    · simp (disch := omega) only [ra_I, ra_In, ra_A, ra_An, ra_IA, ra_IL, ra_IR, ra_IP, ra_AI, ra_AL, ra_AR, ra_AP, ra_L, ra_Ln, ra_LI, ra_LA, ra_LR, ra_LP, ra_R, ra_Rn, ra_RI, ra_RA, ra_RL, ra_RP, ra_P, ra_Pn, ra_PI, ra_PA, ra_PL, ra_PR]
    · simp (disch := omega) only [ra_I, ra_In, ra_A, ra_An, ra_IA, ra_IL, ra_IR, ra_IP, ra_AI, ra_AL, ra_AR, ra_AP, ra_L, ra_Ln, ra_LI, ra_LA, ra_LR, ra_LP, ra_R, ra_Rn, ra_RI, ra_RA, ra_RL, ra_RP, ra_P, ra_Pn, ra_PI, ra_PA, ra_PL, ra_PR]
    · simp (disch := omega) only [ra_I, ra_In, ra_A, ra_An, ra_IA, ra_IL, ra_IR, ra_IP, ra_AI, ra_AL, ra_AR, ra_AP, ra_L, ra_Ln, ra_LI, ra_LA, ra_LR, ra_LP, ra_R, ra_Rn, ra_RI, ra_RA, ra_RL, ra_RP, ra_P, ra_Pn, ra_PI, ra_PA, ra_PL, ra_PR]
  · unfold gpM
    refine ⟨by simp (disch := omega) only [ra_I, ra_In, ra_A, ra_An, ra_IA, ra_IL, ra_IR, ra_IP, ra_AI, ra_AL, ra_AR, ra_AP, ra_L, ra_Ln, ra_LI, ra_LA, ra_LR, ra_LP, ra_R, ra_Rn, ra_RI, ra_RA, ra_RL, ra_RP, ra_P, ra_Pn, ra_PI, ra_PA, ra_PL, ra_PR], ?_, by simp (disch := omega) only [ra_I, ra_In, ra_A, ra_An, ra_IA, ra_IL, ra_IR, ra_IP, ra_AI, ra_AL, ra_AR, ra_AP, ra_L, ra_Ln, ra_LI, ra_LA, ra_LR, ra_LP, ra_R, ra_Rn, ra_RI, ra_RA, ra_RL, ra_RP, ra_P, ra_Pn, ra_PI, ra_PA, ra_PL, ra_PR], by simp (disch := omega) only [ra_I, ra_In, ra_A, ra_An, ra_IA, ra_IL, ra_IR, ra_IP, ra_AI, ra_AL, ra_AR, ra_AP, ra_L, ra_Ln, ra_LI, ra_LA, ra_LR, ra_LP, ra_R, ra_Rn, ra_RI, ra_RA, ra_RL, ra_RP, ra_P, ra_Pn, ra_PI, ra_PA, ra_PL, ra_PR], by simp (disch := omega) only [ra_I, ra_In, ra_A, ra_An, ra_IA, ra_IL, ra_IR, ra_IP, ra_AI, ra_AL, ra_AR, ra_AP, ra_L, ra_Ln, ra_LI, ra_LA, ra_LR, ra_LP, ra_R, ra_Rn, ra_RI, ra_RA, ra_RL, ra_RP, ra_P, ra_Pn, ra_PI, ra_PA, ra_PL, ra_PR], by simp (disch := omega) only [ra_I, ra_In, ra_A, ra_An, ra_IA, ra_IL, ra_IR, ra_IP, ra_AI, ra_AL, ra_AR, ra_AP, ra_L, ra_Ln, ra_LI, ra_LA, ra_LR, ra_LP, ra_R, ra_Rn, ra_RI, ra_RA, ra_RL, ra_RP, ra_P, ra_Pn, ra_PI, ra_PA, ra_PL, ra_PR]⟩
    simp (disch := omega) only [ra_I, ra_In, ra_A, ra_An, ra_IA, ra_IL, ra_IR, ra_IP, ra_AI, ra_AL, ra_AR, ra_AP, ra_L, ra_Ln, ra_LI, ra_LA, ra_LR, ra_LP, ra_R, ra_Rn, ra_RI, ra_RA, ra_RL, ra_RP, ra_P, ra_Pn, ra_PI, ra_PA, ra_PL, ra_PR]
    rw [hkM 335 (by omega), ra_An (by omega)]; exact hM
  · intro j hj
    obtain ⟨q1, q2, q3, q4⟩ := hw.2.2 k j hk hj
    obtain ⟨⟨dA, dm, d5, d8, d9, dg, dF⟩, d2⟩ := h.2.2 j hj
    obtain ⟨v1, v2, v3⟩ := up_ge (n := 1) dA
    obtain ⟨p1, p2, p3, p4⟩ := i5 j hj
    rw [if_pos (Nat.zero_le _)] at p1 p2 p3
    refine ⟨?_, ?_, v3, Nat.le_trans (p4 (Nat.zero_le _)) u1, ha2 j hj⟩
    · rw [eG_g.1 _ _ (by omega), ra_In (by omega)]; exact p1
    · rw [eGM_g.1 _ _ (by omega), ra_An (by omega)]; exact p3
  · exact ⟨ha, u3, by omega, .inl (by omega), by omega, .inr (by omega), by omega⟩
  · unfold LV
    rw [yV_12, yV_13, yV_5]
    refine ⟨?_, ?_, ?_, fun hx => by omega, hh, by omega, ⟨fun hx => by omega, fun hx => by omega⟩, fun hx => by omega, fun _ => by omega, fun j hj => ?_⟩
    · unfold gp; simp (disch := omega) only [hk0, ra_I, ra_In, ra_A, ra_An, ra_IA, ra_IL, ra_IR, ra_IP, ra_AI, ra_AL, ra_AR, ra_AP, ra_L, ra_Ln, ra_LI, ra_LA, ra_LR, ra_LP, ra_R, ra_Rn, ra_RI, ra_RA, ra_RL, ra_RP, ra_P, ra_Pn, ra_PI, ra_PA, ra_PL, ra_PR]
    · unfold gpM; simp (disch := omega) only [ra_I, ra_In, ra_A, ra_An, ra_IA, ra_IL, ra_IR, ra_IP, ra_AI, ra_AL, ra_AR, ra_AP, ra_L, ra_Ln, ra_LI, ra_LA, ra_LR, ra_LP, ra_R, ra_Rn, ra_RI, ra_RA, ra_RL, ra_RP, ra_P, ra_Pn, ra_PI, ra_PA, ra_PL, ra_PR]
      rw [hkM 341 (by omega), ra_A]
    · unfold gpM; simp (disch := omega) only [ra_I, ra_In, ra_A, ra_An, ra_IA, ra_IL, ra_IR, ra_IP, ra_AI, ra_AL, ra_AR, ra_AP, ra_L, ra_Ln, ra_LI, ra_LA, ra_LR, ra_LP, ra_R, ra_Rn, ra_RI, ra_RA, ra_RL, ra_RP, ra_P, ra_Pn, ra_PI, ra_PA, ra_PL, ra_PR]
      rw [hkM 342 (by omega), ra_An (by omega)]; exact hM2
    · unfold mkI
      obtain ⟨q1, q2, q3, q4⟩ := hw.2.2 k j hk hj
      rw [yV_12, if_neg (by omega), if_pos rfl, eG_g.1 _ _ (by omega), ra_In (by omega)]
      have := (i5 j hj).2.1
      rw [if_pos (Nat.zero_le _)] at this
      exact this
theorem ma_var {S M : rn_T} {T : rn_TR} {Y : rn_LY} {k : Nat} (hw : TW T) (hk : k < tN T) (hN : tN T ≤ 100) (h : KR S M T Y k) (hc : 1 ≤ tC T k) (hmk : ∀ j, j < tC T k → rI S (76 + 2 * tE T k j) 14 = -nI 6) : ∃ S3 M3 Y3, f119 S (76 + 2 * k) = some S3 ∧ f68 M (nI k) = some M3 ∧ LD S M S3 M3 T Y Y3 k ∧ LV S3 M3 T Y3 k := by
  have hC := (hw.1 k hk).2.2.2.2
  have hk3 := ma_kd3 (show k < 100 by omega)
  have e1 := (h.1.2.1 k hk).1
  have e2 := (h.2.1.2 k hk).2.2.2.2
  obtain ⟨a, q1, q2, q3, q4, q5⟩ := ma_gal hw hk hN h
  have heS1 : eK T k S (wI S (76 + 2 * k) 6 (nI a)) := eK_k (by omega)
  have heM1 : eKM T k M (wA M 335 k (nI a)) := eKM_k (by omega)
  have hK1 := kr_eq (Y2 := Y) hw hk h heS1 heM1 (fun _ _ _ _ => rfl)
  have hmk1 : ∀ j, j < tC T k → rI (wI S (76 + 2 * k) 6 (nI a)) (76 + 2 * tE T k j) 14 = -nI 6 := fun j hj => by rw [ra_In (by omega)]; exact hmk j hj
  -- the host
  obtain ⟨hb, hb1, hb2, hb3⟩ := ma_hostL hw hk hN hK1 (tC T k - 1) 1 0 rn_FU rn_FU (by omega) (by unfold rn_FU; omega) (by unfold rn_FU; omega) (by omega)
  have h63 : f63 (wA M 335 k (nI a)) (nI k) = some (nI hb) := by
    unfold f63
    exact hb3 _
  obtain ⟨g1, g2, g3, g4⟩ := hw.2.2 k hb hk hb1
  have heM2 : eKM T k M (wA (wA M 335 k (nI a)) 342 k (nI hb)) := eKM_t heM1 (eKM_k (by omega))
  have hK2 := kr_eq (Y2 := Y) hw hk h heS1 heM2 (fun _ _ _ _ => rfl)
  have h57 : f57 (wA (wA M 335 k (nI a)) 342 k (nI hb)) (nI k) (nI hb) = some (nI (tE T k hb)) := ma_child hK2.2.1 hw hk hb1 hN
  have hM326 : rA (wA (wA M 335 k (nI a)) 342 k (nI hb)) 326 k = nI (tC T k) := by rw [ra_An (by omega), ra_An (by omega)]; exact e2
  have h68 : f68 M (nI k) = if tC T k = 1 then f68_J41 (wA (wA M 335 k (nI a)) 342 k (nI hb)) (nI k) (nI (tE T k hb)) (nI k) (0 : Int32) else Option.bind (f65 (wA (wA M 335 k (nI a)) 342 k (nI hb)) (nI k) (nI (tE T k hb))) fun p11 => if p11 = true then f68_J41 (wA (wA M 335 k (nI a)) 342 k (nI hb)) (nI k) (nI (tE T k hb)) (nI k) (1 : Int32) else f68_J41 (wA (wA M 335 k (nI a)) 342 k (nI hb)) (nI k) (nI (tE T k hb)) (nI k) (2 : Int32) := by
    unfold f68
    rw [q2, Option.bind_some, if_neg (ob_F (by omega) (by omega)), nI_clamp (by omega), h63, Option.bind_some, ra_A, h57, Option.bind_some, hM326]
    by_cases c : tC T k = 1
    · rw [if_pos (by rw [c]; rfl), if_pos c]
    · rw [if_neg (show ¬ nI (tC T k) = 1 by simp (disch := omega) only [nI_lit, nI_add, pk_sub, pk_mul, ma_neg, nI_clamp, ma_ltT, ma_ltF, ma_leT, ma_leF, ma_eqT, ma_eqF, nI_ltI, nI_leI, nI_eq, ma_obT, ma_obF, ma_enF, ma_neF, ma_nlT, ma_lnF, ma_nLT, ma_Ln, ↓reduceIte, Option.bind_some, Option.bind_none, true_and, and_true, false_and, and_false, ne_eq, not_true_eq_false, not_false_eq_true, Bool.false_eq_true, reduceCtorEq, Nat.reduceAdd, Nat.reduceMul, Nat.reduceSub]), if_neg c]
  have hS6 : rI (wI S (76 + 2 * k) 6 (nI a)) (76 + 2 * k) 6 = nI a := ra_I
  have hM5 : rA (wA (wA M 335 k (nI a)) 342 k (nI hb)) 335 k = nI a := by rw [ra_An (by omega), ra_A]
  have hM2 : rA (wA (wA M 335 k (nI a)) 342 k (nI hb)) 342 k = nI hb := ra_A
  by_cases c : tC T k = 1
  · have hb0 : hb = 0 := by omega
    subst hb0
    have ha0 : a = Y (tE T k 0) 6 := by
      have := q4 0 (by omega)
      rcases q5 with e | ⟨j, hj, e⟩
      · have hA := (h.2.2 0 (by omega)).1.1
        rcases hA with z | z | z <;> omega
      · rw [show j = 0 by omega] at e; exact e
    obtain ⟨S3, M3, Y3, k1, k2, k3, k4⟩ := ma_varA hw hk hN hK2 c hmk1 q3 ha0 hS6 hM5 hM2
    refine ⟨S3, M3, Y3, ?_, ?_, ld_pre heS1 heM2 (fun _ _ _ _ => rfl) k3, k4⟩
    · unfold f119
      rw [q1, Option.bind_some, if_pos hk3, ra_In (by omega), e1, if_pos (by rw [c]; rfl)]
      rw [show Int32.toNatClampNeg (0 : Int32) = 0 from rfl, rn_om_s (sk_child hK1.1 hw hk (by omega)), k1]
      rfl
    · rw [h68, if_pos c]; exact k2
  · rw [if_neg c] at h68
    obtain ⟨⟨cA, cm, c5, c8, c9, cg, cF⟩, c2⟩ := hK2.2.2 hb hb1
    obtain ⟨s11, m11⟩ := c2 11 (by unfold fK; omega)
    have m11 : rA (wA (wA M 335 k (nI a)) 342 k (nI hb)) 340 (tE T k hb) = nI (Y (tE T k hb) 11) := m11
    have hk4 := ma_kd3 (show tE T k hb < 100 by omega)
    have hcS : f119 S (76 + 2 * k) = Option.bind (f124 (wI S (76 + 2 * k) 6 (nI a)) (76 + 2 * k) (nI hb)) fun p18 => if p18.1 = true then Option.bind (f125 p18.2 (76 + 2 * k) (nI hb)) fun p21 => some (p21) else Option.bind (f126 p18.2 (76 + 2 * k)) fun p20 => some (p20) := by
      unfold f119
      rw [q1, Option.bind_some, if_pos hk3, ra_In (by omega), e1, if_neg (show ¬ nI (tC T k) = 1 by simp (disch := omega) only [nI_lit, nI_add, pk_sub, pk_mul, ma_neg, nI_clamp, ma_ltT, ma_ltF, ma_leT, ma_leF, ma_eqT, ma_eqF, nI_ltI, nI_leI, nI_eq, ma_obT, ma_obF, ma_enF, ma_neF, ma_nlT, ma_lnF, ma_nLT, ma_Ln, ↓reduceIte, Option.bind_some, Option.bind_none, true_and, and_true, false_and, and_false, ne_eq, not_true_eq_false, not_false_eq_true, Bool.false_eq_true, reduceCtorEq, Nat.reduceAdd, Nat.reduceMul, Nat.reduceSub])]
      exact hb2 _
    -- room or none
    have hroom : ∃ (S2 : rn_T) (bb : Bool), f124 (wI S (76 + 2 * k) 6 (nI a)) (76 + 2 * k) (nI hb) = some (bb, S2) ∧ f65 (wA (wA M 335 k (nI a)) 342 k (nI hb)) (nI k) (nI (tE T k hb)) = some bb ∧ eC T k (wI S (76 + 2 * k) 6 (nI a)) S2 ∧ (∀ j, j < tC T k → rI S2 (76 + 2 * tE T k j) 14 = -nI 6) ∧ (bb = true → tC T k ≤ Y (tE T k hb) 11 + 1 ∧ ∀ j, j < tC T k → ft Y (tE T k hb) (tE T k j) ∧ rI S2 (76 + 2 * tE T k j) 7 = nI (ro Y (tE T k hb) (tE T k j))) := by
      have hfin : ∀ bb : Bool, (if nI bb.toNat = 0 ∨ nI bb.toNat = 1 then some (decide (nI bb.toNat = 1)) else none) = some bb := by
        intro bb; cases bb <;> rfl
      by_cases cm2 : tC T k - 1 ≤ Y (tE T k hb) 11
      · obtain ⟨S2, bb, i1, i2, i3, i4, i5, i6⟩ := ma_hidL hw hk hN hb1 (tC T k) 0 rn_FU rn_FU (wI S (76 + 2 * k) 6 (nI a)) (by omega) (by unfold rn_FU; omega) (by unfold rn_FU; omega) hK2
        refine ⟨S2, bb, ?_, ?_, i1, fun j hj => by rw [i2 j hj]; exact hmk1 j hj, fun hx => ⟨by omega, fun j hj => (i3 hx).2 j (Nat.zero_le _) hj⟩⟩
        · unfold f124
          rw [if_pos hk3, if_neg (ob_F (by omega) (by omega)), nI_clamp (by omega), rn_om_s (sk_child hK1.1 hw hk hb1), if_pos hk4, s11, if_neg (show ¬ nI (Y (tE T k hb) 11) = 0 by simp (disch := omega) only [nI_lit, nI_add, pk_sub, pk_mul, ma_neg, nI_clamp, ma_ltT, ma_ltF, ma_leT, ma_leF, ma_eqT, ma_eqF, nI_ltI, nI_leI, nI_eq, ma_obT, ma_obF, ma_enF, ma_neF, ma_nlT, ma_lnF, ma_nLT, ma_Ln, ↓reduceIte, Option.bind_some, Option.bind_none, true_and, and_true, false_and, and_false, ne_eq, not_true_eq_false, not_false_eq_true, Bool.false_eq_true, reduceCtorEq, Nat.reduceAdd, Nat.reduceMul, Nat.reduceSub]), ra_In (by omega), e1, show nI (tC T k) - (1 : Int32) = nI (tC T k - 1) from pk_sub (show 1 ≤ tC T k by omega), if_pos (le_T cm2 (by omega))]
          cases bb with
          | false => exact i5 rfl _
          | true => exact (i3 rfl).1 _
        · unfold f65 f65_J14
          rw [if_neg (ob_F (by omega) (by omega)), if_neg (ob_F (by omega) (by omega)), nI_clamp (show tE T k hb < 2 ^ 31 by omega), nI_clamp (show k < 2 ^ 31 by omega), m11, hM326, show nI (tC T k) - (1 : Int32) = nI (tC T k - 1) from pk_sub (show 1 ≤ tC T k by omega), if_neg (nI_nlt (by omega) (by omega))]
          exact (i6 _).trans (hfin bb)
      · refine ⟨wI S (76 + 2 * k) 6 (nI a), false, ?_, ?_, eC_r, hmk1, fun hx => by cases hx⟩
        · unfold f124
          rw [if_pos hk3, if_neg (ob_F (by omega) (by omega)), nI_clamp (by omega), rn_om_s (sk_child hK1.1 hw hk hb1), if_pos hk4, s11, ra_In (by omega), e1, show nI (tC T k) - (1 : Int32) = nI (tC T k - 1) from pk_sub (show 1 ≤ tC T k by omega), if_neg (le_F (by omega) (by omega)), ite_self]
        · unfold f65 f65_J14
          rw [if_neg (ob_F (by omega) (by omega)), if_neg (ob_F (by omega) (by omega)), nI_clamp (show tE T k hb < 2 ^ 31 by omega), nI_clamp (show k < 2 ^ 31 by omega), m11, hM326, show nI (tC T k) - (1 : Int32) = nI (tC T k - 1) from pk_sub (show 1 ≤ tC T k by omega), if_pos (nI_lt (by omega) (by omega))]
          exact (ma_hid0 hw hk hN hK2.2.1 (tC T k) 0 rn_FU (by omega) (by unfold rn_FU; omega) _).trans (hfin false)
    obtain ⟨S2, bb, r1, r2, r3, r4, r5⟩ := hroom
    have hK3 := kr_eq (Y2 := Y) hw hk hK2 (eC_K r3) eKM_r (fun _ _ _ _ => rfl)
    have hS6b : rI S2 (76 + 2 * k) 6 = nI a := by rw [eC_k hw hk r3]; exact hS6
    rw [r1, Option.bind_some] at hcS
    rw [r2, Option.bind_some] at h68
    cases bb with
    | true =>
      obtain ⟨w1, w2⟩ := r5 rfl
      obtain ⟨S3, M3, Y3, k1, k2, k3, k4⟩ := ma_varB hw hk hN hK3 (by omega) hb1 w2 w1 r4 q3 q4 hS6b hM5 hM2
      refine ⟨S3, M3, Y3, ?_, ?_, ld_pre (eK_t heS1 (eC_K r3)) heM2 (fun _ _ _ _ => rfl) k3, k4⟩
      · rw [hcS, if_pos rfl]
        show Option.bind (f125 S2 (76 + 2 * k) (nI hb)) _ = _
        rw [k1]; rfl
      · rw [h68, if_pos rfl]; exact k2
    | false =>
      obtain ⟨S3, M3, Y3, k1, k2, k3, k4⟩ := ma_varC (x := nI (tE T k hb)) hw hk hN hK3 (by omega) hb1 q3 q4 hS6b hM5 hM2
      refine ⟨S3, M3, Y3, ?_, ?_, ld_pre (eK_t heS1 (eC_K r3)) heM2 (fun _ _ _ _ => rfl) k3, k4⟩
      · rw [hcS, if_neg Bool.false_ne_true]
        show Option.bind (f126 S2 (76 + 2 * k)) _ = _
        rw [k1]; rfl
      · rw [h68, if_neg Bool.false_ne_true]; exact k2
