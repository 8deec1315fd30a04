/-! 78: a variant is laid -/
def yO (Y : rn_LY) (T : rn_TR) (k : Nat) (o : Nat → Nat) : rn_LY := fun i f => if f = 7 ∧ 0 < i ∧ i < tN T ∧ tP T i = k then o i else Y i f
theorem yO_c {Y : rn_LY} {T : rn_TR} {k j : Nat} {o : Nat → Nat} (hw : TW T) (hk : k < tN T) (hj : j < tC T k) : yO Y T k o (tE T k j) 7 = o (tE T k j) := by
  obtain ⟨g1, g2, g3, g4⟩ := hw.2.2 k j hk hj
  unfold yO
  rw [if_pos ⟨rfl, by omega, g2, g3⟩]
theorem yO_n {Y : rn_LY} {T : rn_TR} {k i f : Nat} {o : Nat → Nat} (hw : TW T) (h : f ≠ 7 ∨ ∀ j, j < tC T k → i ≠ tE T k j) : yO Y T k o i f = Y i f := by
  unfold yO
  by_cases c : f = 7 ∧ 0 < i ∧ i < tN T ∧ tP T i = k
  · obtain ⟨c1, c2, c3, c4⟩ := c
    obtain ⟨g1, g2, g3⟩ := hw.2.1 i c2 c3
    rw [c4] at g2 g3
    rcases h with h | h
    · exact absurd c1 h
    · exact absurd g3.symm (h _ g2)
  · rw [if_neg c]
def yV (Y : rn_LY) (k a s g w f m d h : Nat) : rn_LY := yG (yU (yU (yU (yU Y k 6 a) k 5 s) k 12 d) k 13 h) k g w f m
theorem yV_n {Y : rn_LY} {k a s g w f m d h i z : Nat} (hi : i ≠ k) : yV Y k a s g w f m d h i z = Y i z := by
  unfold yV
  rw [yG_n (.inl hi), yU_n (.inl hi), yU_n (.inl hi), yU_n (.inl hi), yU_n (.inl hi)]
theorem yV_6 {Y : rn_LY} {k a s g w f m d h : Nat} : yV Y k a s g w f m d h k 6 = a := by
  unfold yV
  rw [yG_n (.inr (by unfold fG; omega)), yU_n (by omega), yU_n (by omega), yU_n (by omega), yU_s]
theorem yV_5 {Y : rn_LY} {k a s g w f m d h : Nat} : yV Y k a s g w f m d h k 5 = s := by
  unfold yV
  rw [yG_n (.inr (by unfold fG; omega)), yU_n (by omega), yU_n (by omega), yU_s]
theorem yV_12 {Y : rn_LY} {k a s g w f m d h : Nat} : yV Y k a s g w f m d h k 12 = d := by
  unfold yV
  rw [yG_n (.inr (by unfold fG; omega)), yU_n (by omega), yU_s]
theorem yV_13 {Y : rn_LY} {k a s g w f m d h : Nat} : yV Y k a s g w f m d h k 13 = h := by
  unfold yV
  rw [yG_n (.inr (by unfold fG; omega)), yU_s]
theorem yV_8 {Y : rn_LY} {k a s g w f m d h : Nat} : yV Y k a s g w f m d h k 8 = g := yG_8
theorem yV_9 {Y : rn_LY} {k a s g w f m d h : Nat} : yV Y k a s g w f m d h k 9 = w := yG_9
theorem yV_10 {Y : rn_LY} {k a s g w f m d h : Nat} : yV Y k a s g w f m d h k 10 = f := yG_10
theorem yV_11 {Y : rn_LY} {k a s g w f m d h : Nat} : yV Y k a s g w f m d h k 11 = m := yG_11
theorem ld_mk {S M S3 M3 : rn_T} {T : rn_TR} {Y : rn_LY} {k a s g w f m d h : Nat} {o : Nat → Nat} (hw : TW T) (hk : k < tN T) (hr : KR S M T Y k) (heS : eK T k S S3) (heM : eKM T k M M3) (hS : rI S3 (76 + 2 * k) 5 = nI s ∧ rI S3 (76 + 2 * k) 6 = nI a ∧ rI S3 (76 + 2 * k) 8 = nI g ∧ rI S3 (76 + 2 * k) 9 = nI w ∧ rI S3 (76 + 2 * k) 10 = nI f ∧ rI S3 (76 + 2 * k) 11 = nI m) (hM : rA M3 334 k = nI s ∧ rA M3 335 k = nI a ∧ rA M3 337 k = nI g ∧ rA M3 338 k = nI w ∧ rA M3 339 k = nI f ∧ rA M3 340 k = nI m) (ho : ∀ j, j < tC T k → rI S3 (76 + 2 * tE T k j) 7 = nI (o (tE T k j)) ∧ rA M3 336 (tE T k j) = nI (o (tE T k j)) ∧ o (tE T k j) % Y (tE T k j) 6 = 0 ∧ o (tE T k j) + Y (tE T k j) 5 ≤ s ∧ Y (tE T k j) 6 ≤ a) (hn : isA a ∧ s % a = 0 ∧ s ≤ 1900 ∧ (g ≤ 64 ∨ g + w ≤ s) ∧ w ≤ 4 ∧ (m = 0 ∨ g + w ≤ s) ∧ f + m ≤ 256) : LD S M S3 M3 T Y (yV (yO Y T k o) k a s g w f m d h) k := by
  have hc : ∀ j, j < tC T k → tE T k j ≠ k := fun j hj => by have := hw.2.2 k j hk hj; omega
  have hy7 : ∀ j z, j < tC T k → z ≠ 7 → yV (yO Y T k o) k a s g w f m d h (tE T k j) z = Y (tE T k j) z := fun j z hj hz => by rw [yV_n (hc j hj), yO_n hw (.inl hz)]
  refine ⟨heS, heM, fun i z hi hz => by rw [yV_n hi, yO_n hw hz], kr_eq hw hk hr heS heM (fun i z hi hz => by rw [yV_n hi, yO_n hw (.inl hz)]), fun j hj _ => ?_, fun z hz => ?_, ?_, fun j hj => ?_⟩
  · obtain ⟨o1, o2, o3, o4, o5⟩ := ho j hj
    rw [hy7 j 6 hj (by omega), hy7 j 5 hj (by omega), yV_5, yV_n (hc j hj), yO_c hw hk hj]
    exact ⟨o1, o2, o3, o4⟩
  · obtain ⟨s1, s2, s3, s4, s5, s6⟩ := hS
    obtain ⟨m1, m2, m3, m4, m5, m6⟩ := hM
    rcases hz with rfl | rfl | rfl | rfl | rfl | rfl
    · rw [yV_5]; exact ⟨s1, m1⟩
    · rw [yV_6]; exact ⟨s2, m2⟩
    · rw [yV_8]; exact ⟨s3, m3⟩
    · rw [yV_9]; exact ⟨s4, m4⟩
    · rw [yV_10]; exact ⟨s5, m5⟩
    · rw [yV_11]; exact ⟨s6, m6⟩
  · unfold NK
    rw [yV_5, yV_6, yV_8, yV_9, yV_10, yV_11]
    exact hn
  · rw [hy7 j 6 hj (by omega), yV_6]
    exact (ho j hj).2.2.2.2
/-- the mark of the j-th one in a variant -/
def mkI (Y : rn_LY) (T : rn_TR) (k j : Nat) : Int32 := if Y k 12 = 0 then -nI 6 else if Y k 12 = 2 then nI j else if j = Y k 13 then -nI 6 else nI (mkh (Y (tE T k (Y k 13)) 10) (Y k 13) j)
/-- manner, host and marks -/
def LV (S M : rn_T) (T : rn_TR) (Y : rn_LY) (k : Nat) : Prop := rI S (76 + 2 * k) 12 = nI (Y k 12) ∧ rA M 341 k = nI (Y k 12) ∧ rA M 342 k = nI (Y k 13) ∧ (Y k 12 = 1 → rI S (76 + 2 * k) 13 = nI (Y k 13)) ∧ Y k 13 < tC T k ∧ Y k 12 ≤ 2 ∧ (Y k 12 = 0 ↔ tC T k = 1) ∧ (Y k 12 = 1 → tC T k ≤ Y (tE T k (Y k 13)) 11 + 1 ∧ Y (tE T k (Y k 13)) 7 = 0) ∧ (Y k 12 = 2 → 1 ≤ Y k 5) ∧ ∀ j, j < tC T k → rI S (76 + 2 * tE T k j) 14 = mkI Y T k j
theorem rf_hide {S M : rn_T} {T : rn_TR} {Y : rn_LY} {k hb a : Nat} (hw : TW T) (hk : k < tN T) (hN : tN T ≤ 100) (h : KR S M T Y k) (hh : hb < tC T k) (hft : ∀ j, j < tC T k → ft Y (tE T k hb) (tE T k j)) (ha : isA a) (h3 : rA M 335 k = nI a) (hm : tC T k ≤ Y (tE T k hb) 11 + 1) : ∃ M1, f66 M (nI k) (nI (tE T k hb)) = some (gpM (wA M1 334 k (nI (up (Y (tE T k hb) 5) a))) k (Y (tE T k hb) 8) (Y (tE T k hb) 9) (Y (tE T k hb) 10 + (tC T k - 1)) (Y (tE T k hb) 11 - (tC T k - 1))) ∧ eCM T k M M1 ∧ ∀ j, j < tC T k → rA M1 336 (tE T k j) = nI (ro Y (tE T k hb) (tE T k j)) := by
  have hC := (hw.1 k hk).2.2.2.2
  obtain ⟨M1, i1, i2, i3⟩ := rf_hideL hw hk hN hh hft (tC T k) 0 rn_FU M (by omega) (by unfold rn_FU; omega) h
  refine ⟨M1, ?_, i1, fun j hj => by rw [i3 j hj, if_pos (Nat.zero_le _)]⟩
  have h1 := kr_eq hw hk h eK_r (eCM_K i1) (fun _ _ _ _ => rfl)
  obtain ⟨g1, g2, g3, g4⟩ := hw.2.2 k hb hk hh
  obtain ⟨⟨cA, cm, c5, c8, c9, cg, cF⟩, c2⟩ := h1.2.2 hb hh
  have m5 : rA M1 334 (tE T k hb) = nI (Y (tE T k hb) 5) := (c2 5 (by unfold fK; omega)).2
  have m8 : rA M1 337 (tE T k hb) = nI (Y (tE T k hb) 8) := (c2 8 (by unfold fK; omega)).2
  have m9 : rA M1 338 (tE T k hb) = nI (Y (tE T k hb) 9) := (c2 9 (by unfold fK; omega)).2
  have m10 : rA M1 339 (tE T k hb) = nI (Y (tE T k hb) 10) := (c2 10 (by unfold fK; omega)).2
  have m11 : rA M1 340 (tE T k hb) = nI (Y (tE T k hb) 11) := (c2 11 (by unfold fK; omega)).2
  have e2 : rA M1 326 k = nI (tC T k) := (h1.2.1.2 k hk).2.2.2.2
  have e3 : rA M1 335 k = nI a := by rw [i1.1 335 k (fun j hj => by omega)]; exact h3
  unfold f66
  refine (i2 _).trans ?_
  rw [if_neg (ob_F (by omega) (by omega)), if_neg (ob_F (by omega) (by omega)), nI_clamp (show k < 2 ^ 31 by omega), nI_clamp (show tE T k hb < 2 ^ 31 by omega), m5, e3, ma_f32 (by omega) ha, Option.bind_some, ra_An (by omega), ra_An (by omega), ra_An (by omega), ra_An (by omega), m8, m9, m10, m11, e2, show nI (tC T k) - (1 : Int32) = nI (tC T k - 1) from pk_sub (show 1 ≤ tC T k by omega), nI_add, pk_sub (show tC T k - 1 ≤ Y (tE T k hb) 11 by omega), rf_gap (by omega)]
  rfl
theorem ma_varA {S M : rn_T} {T : rn_TR} {Y : rn_LY} {k a : Nat} (hw : TW T) (hk : k < tN T) (hN : tN T ≤ 100) (h : KR S M T Y k) (hc : tC T k = 1) (hmk : ∀ j, j < tC T k → rI S (76 + 2 * tE T k j) 14 = -nI 6) (ha : isA a) (ha2 : a = Y (tE T k 0) 6) (hS : rI S (76 + 2 * k) 6 = nI a) (hM : rA M 335 k = nI a) (hM2 : rA M 342 k = nI 0) : ∃ S3 M3 Y3, f123 S (76 + 2 * k) (76 + 2 * tE T k 0) = some S3 ∧ f68_J41 M (nI k) (nI (tE T k 0)) (nI k) (0 : Int32) = some M3 ∧ LD S M S3 M3 T Y Y3 k ∧ LV S3 M3 T Y3 k := by
  have hk3 := ma_kd3 (show k < 100 by omega)
  obtain ⟨g1, g2, g3, g4⟩ := hw.2.2 k 0 hk (by omega)
  have hk4 := ma_kd3 (show tE T k 0 < 100 by omega)
  obtain ⟨⟨cA, cm, c5, c8, c9, cg, cF⟩, c2⟩ := h.2.2 0 (by omega)
  have s5 := (c2 5 (by unfold fK; omega)).1
  have s8 := (c2 8 (by unfold fK; omega)).1
  have s9 := (c2 9 (by unfold fK; omega)).1
  have s10 := (c2 10 (by unfold fK; omega)).1
  have s11 := (c2 11 (by unfold fK; omega)).1
  have hj0 : ∀ j, j < tC T k → j = 0 := fun j hj => by omega
  have hM0 := kr_eq hw hk h eK_r (eKM_k (T := T) (k := k) (q := 341) (M := M) (v := nI 0) (by omega)) (fun _ _ _ _ => rfl)
  obtain ⟨M1, r1, r2, r3⟩ := rf_hide hw hk hN hM0 (show 0 < tC T k by omega) (fun j hj => by rw [hj0 j hj]; exact .inl rfl) ha (by rw [ra_An (by omega)]; exact hM) (by omega)
  have hup : up (Y (tE T k 0) 5) a = Y (tE T k 0) 5 := up_id ha (by rw [ha2]; exact cm)
  rw [hup, hc, show 1 - 1 = 0 from rfl, Nat.add_zero, Nat.sub_zero] at r1
  refine ⟨gp (wI (wI (wI S (76 + 2 * k) 12 (nI 0)) (76 + 2 * tE T k 0) 7 (nI 0)) (76 + 2 * k) 5 (nI (Y (tE T k 0) 5))) (76 + 2 * k) (Y (tE T k 0) 8) (Y (tE T k 0) 9) (Y (tE T k 0) 10) (Y (tE T k 0) 11), gpM (wA M1 334 k (nI (Y (tE T k 0) 5))) k (Y (tE T k 0) 8) (Y (tE T k 0) 9) (Y (tE T k 0) 10) (Y (tE T k 0) 11), yV (yO Y T k (fun _ => 0)) k a (Y (tE T k 0) 5) (Y (tE T k 0) 8) (Y (tE T k 0) 9) (Y (tE T k 0) 10) (Y (tE T k 0) 11) 0 0, ?_, ?_, ld_mk hw hk h ?_ ?_ ?_ ?_ ?_ ?_, ?_⟩
  · unfold f123
    rw [if_pos hk3, if_pos hk4]
    simp (disch := omega) only [s5, s8, s9, s10, s11, ra_I, ra_In, ra_A, ra_An, ra_IA, ra_IL, ra_IR, ra_IP, ra_AI, ra_AL, ra_AR, ra_AP, ra_L, ra_Ln, ra_LI, ra_LA, ra_LR, ra_LP, ra_R, ra_Rn, ra_RI, ra_RA, ra_RL, ra_RP, ra_P, ra_Pn, ra_PI, ra_PA, ra_PL, ra_PR]
    rw [cl_gap hk3]; rfl
  · unfold f68_J41
    rw [if_neg (ob_F (by omega) (by omega)), if_neg (ob_F (by omega) (by omega)), nI_clamp (by omega), ra_A, if_neg (by decide)]
    show Option.bind (f66 (wA M 341 k (nI 0)) (nI k) (nI (tE T k 0))) _ = _
    rw [r1]; rfl
  · exact eK_t (eK_t (eK_t (eK_k (by omega)) (eK_c (by omega) (.inl rfl))) (eK_k (by omega))) (eG_K eG_g)
  · exact eKM_t (eKM_t (eKM_t (eKM_k (by omega)) (eCM_K r2)) (eKM_k (by omega))) (eGM_K eGM_g)
  · unfold gp
    refine ⟨?_, ?_, ?_, ?_, ?_, ?_⟩ <;> (simp (disch := omega) only [ra_I, ra_In, ra_A, ra_An, ra_IA, ra_IL, ra_IR, ra_IP, ra_AI, ra_AL, ra_AR, ra_AP, ra_L, ra_Ln, ra_LI, ra_LA, ra_LR, ra_LP, ra_R, ra_Rn, ra_RI, ra_RA, ra_RL, ra_RP, ra_P, ra_Pn, ra_PI, ra_PA, ra_PL, ra_PR]; try exact hS)
  · unfold gpM
    refine ⟨by simp (disch := omega) only [ra_I, ra_In, ra_A, ra_An, ra_IA, ra_IL, ra_IR, ra_IP, ra_AI, ra_AL, ra_AR, ra_AP, ra_L, ra_Ln, ra_LI, ra_LA, ra_LR, ra_LP, ra_R, ra_Rn, ra_RI, ra_RA, ra_RL, ra_RP, ra_P, ra_Pn, ra_PI, ra_PA, ra_PL, ra_PR], ?_, by simp (disch := omega) only [ra_I, ra_In, ra_A, ra_An, ra_IA, ra_IL, ra_IR, ra_IP, ra_AI, ra_AL, ra_AR, ra_AP, ra_L, ra_Ln, ra_LI, ra_LA, ra_LR, ra_LP, ra_R, ra_Rn, ra_RI, ra_RA, ra_RL, ra_RP, ra_P, ra_Pn, ra_PI, ra_PA, ra_PL, ra_PR], by simp (disch := omega) only [ra_I, ra_In, ra_A, ra_An, ra_IA, ra_IL, ra_IR, ra_IP, ra_AI, ra_AL, ra_AR, ra_AP, ra_L, ra_Ln, ra_LI, ra_LA, ra_LR, ra_LP, ra_R, ra_Rn, ra_RI, ra_RA, ra_RL, ra_RP, ra_P, ra_Pn, ra_PI, ra_PA, ra_PL, ra_PR], by simp (disch := omega) only [ra_I, ra_In, ra_A, ra_An, ra_IA, ra_IL, ra_IR, ra_IP, ra_AI, ra_AL, ra_AR, ra_AP, ra_L, ra_Ln, ra_LI, ra_LA, ra_LR, ra_LP, ra_R, ra_Rn, ra_RI, ra_RA, ra_RL, ra_RP, ra_P, ra_Pn, ra_PI, ra_PA, ra_PL, ra_PR], by simp (disch := omega) only [ra_I, ra_In, ra_A, ra_An, ra_IA, ra_IL, ra_IR, ra_IP, ra_AI, ra_AL, ra_AR, ra_AP, ra_L, ra_Ln, ra_LI, ra_LA, ra_LR, ra_LP, ra_R, ra_Rn, ra_RI, ra_RA, ra_RL, ra_RP, ra_P, ra_Pn, ra_PI, ra_PA, ra_PL, ra_PR]⟩
    simp (disch := omega) only [ra_I, ra_In, ra_A, ra_An, ra_IA, ra_IL, ra_IR, ra_IP, ra_AI, ra_AL, ra_AR, ra_AP, ra_L, ra_Ln, ra_LI, ra_LA, ra_LR, ra_LP, ra_R, ra_Rn, ra_RI, ra_RA, ra_RL, ra_RP, ra_P, ra_Pn, ra_PI, ra_PA, ra_PL, ra_PR]
    rw [r2.1 335 k (fun j hj => by omega), ra_An (by omega)]; exact hM
  · intro j hj
    rw [hj0 j hj]
    refine ⟨?_, ?_, Nat.zero_mod _, by omega, by omega⟩
    · unfold gp; simp (disch := omega) only [ra_I, ra_In, ra_A, ra_An, ra_IA, ra_IL, ra_IR, ra_IP, ra_AI, ra_AL, ra_AR, ra_AP, ra_L, ra_Ln, ra_LI, ra_LA, ra_LR, ra_LP, ra_R, ra_Rn, ra_RI, ra_RA, ra_RL, ra_RP, ra_P, ra_Pn, ra_PI, ra_PA, ra_PL, ra_PR]
    · have := r3 0 (by omega)
      unfold ro at this
      rw [if_pos rfl] at this
      unfold gpM; simp (disch := omega) only [ra_I, ra_In, ra_A, ra_An, ra_IA, ra_IL, ra_IR, ra_IP, ra_AI, ra_AL, ra_AR, ra_AP, ra_L, ra_Ln, ra_LI, ra_LA, ra_LR, ra_LP, ra_R, ra_Rn, ra_RI, ra_RA, ra_RL, ra_RP, ra_P, ra_Pn, ra_PI, ra_PA, ra_PL, ra_PR]; exact this
  · exact ⟨ha, by rw [ha2]; exact cm, by omega, .inl c8, c9, cg, cF⟩
  · unfold LV
    rw [yV_12, yV_13, yV_5]
    refine ⟨?_, ?_, ?_, fun hh => by omega, by omega, by omega, ⟨fun _ => hc, fun _ => rfl⟩, fun hh => by omega, fun hh => by omega, fun j hj => ?_⟩
    · unfold gp; simp (disch := omega) only [ra_I, ra_In, ra_A, ra_An, ra_IA, ra_IL, ra_IR, ra_IP, ra_AI, ra_AL, ra_AR, ra_AP, ra_L, ra_Ln, ra_LI, ra_LA, ra_LR, ra_LP, ra_R, ra_Rn, ra_RI, ra_RA, ra_RL, ra_RP, ra_P, ra_Pn, ra_PI, ra_PA, ra_PL, ra_PR]
    · unfold gpM; simp (disch := omega) only [ra_I, ra_In, ra_A, ra_An, ra_IA, ra_IL, ra_IR, ra_IP, ra_AI, ra_AL, ra_AR, ra_AP, ra_L, ra_Ln, ra_LI, ra_LA, ra_LR, ra_LP, ra_R, ra_Rn, ra_RI, ra_RA, ra_RL, ra_RP, ra_P, ra_Pn, ra_PI, ra_PA, ra_PL, ra_PR]
      rw [r2.1 341 k (fun j hj => by omega), ra_A]
    · unfold gpM; simp (disch := omega) only [ra_I, ra_In, ra_A, ra_An, ra_IA, ra_IL, ra_IR, ra_IP, ra_AI, ra_AL, ra_AR, ra_AP, ra_L, ra_Ln, ra_LI, ra_LA, ra_LR, ra_LP, ra_R, ra_Rn, ra_RI, ra_RA, ra_RL, ra_RP, ra_P, ra_Pn, ra_PI, ra_PA, ra_PL, ra_PR]
      rw [r2.1 342 k (fun j hj => by omega), ra_An (by omega)]; exact hM2
    · unfold mkI
      rw [yV_12, if_pos rfl]
      have := hw.2.2 k j hk hj
      unfold gp; simp (disch := omega) only [ra_I, ra_In, ra_A, ra_An, ra_IA, ra_IL, ra_IR, ra_IP, ra_AI, ra_AL, ra_AR, ra_AP, ra_L, ra_Ln, ra_LI, ra_LA, ra_LR, ra_LP, ra_R, ra_Rn, ra_RI, ra_RA, ra_RL, ra_RP, ra_P, ra_Pn, ra_PI, ra_PA, ra_PL, ra_PR]
      exact hmk j hj
