/-! 75: a record is laid -/
def NK (Y : rn_LY) (k : Nat) : Prop := isA (Y k 6) ∧ Y k 5 % Y k 6 = 0 ∧ Y k 5 ≤ 1900 ∧ (Y k 8 ≤ 64 ∨ Y k 8 + Y k 9 ≤ Y k 5) ∧ Y k 9 ≤ 4 ∧ (Y k 11 = 0 ∨ Y k 8 + Y k 9 ≤ Y k 5) ∧ Y k 10 + Y k 11 ≤ 256
def LD (S M S2 M2 : rn_T) (T : rn_TR) (Y Y2 : rn_LY) (k : Nat) : Prop := eK T k S S2 ∧ eKM T k M M2 ∧ (∀ i f, i ≠ k → (f ≠ 7 ∨ ∀ j, j < tC T k → i ≠ tE T k j) → Y2 i f = Y i f) ∧ KR S2 M2 T Y2 k ∧ ST S2 M2 T Y2 k (fun _ => True) (Y2 k 5) ∧ (∀ f, fK f → rI S2 (76 + 2 * k) f = nI (Y2 k f) ∧ rA M2 (329 + f) k = nI (Y2 k f)) ∧ NK Y2 k ∧ (∀ j, j < tC T k → Y2 (tE T k j) 6 ≤ Y2 k 6)
theorem st_mono {S M : rn_T} {T : rn_TR} {Y : rn_LY} {k e e2 : Nat} {P : Nat → Prop} (h : ST S M T Y k P e) (he : e ≤ e2) : ST S M T Y k P e2 := fun j hj hP => by
  obtain ⟨h1, h2, h3, h4⟩ := h j hj hP
  exact ⟨h1, h2, h3, by omega⟩
theorem ma_recfin {S M : rn_T} {T : rn_TR} {Y : rn_LY} {k e a2 : Nat} (hw : TW T) (hk : k < tN T) (hN : tN T ≤ 100) (h : KR S M T Y k) (hs : ST S M T Y k (fun _ => True) e) (he : e ≤ 1800) (ha : isA a2) (hM : f60 M (nI k) = some (nI a2)) (hS : rI S (76 + 2 * k) 6 = nI a2) (hmx : ∀ j, j < tC T k → Y (tE T k j) 6 ≤ a2) : ∃ S3 M3 Y3, f118_J28 S (76 + 2 * k) (nI e) = some S3 ∧ f62_J22 M (nI k) (nI e) = some M3 ∧ LD S M S3 M3 T Y Y3 k ∧ (∀ i f, i ≠ k → Y3 i f = Y i f) := by
  have hC := (hw.1 k hk).2.2.2.2
  have hk3 := ma_kd3 (show k < 100 by omega)
  obtain ⟨u1, u2, u3⟩ := up_ge (n := e) ha
  have hyn : ∀ x f, x ≠ k → yG (yU (yU Y k 6 a2) k 5 (up e a2)) k 0 0 0 0 x f = Y x f := fun x f hx => by
    rw [yG_n (.inl hx), yU_n (.inl hx), yU_n (.inl hx)]
  have heS : eK T k S (gp (wI S (76 + 2 * k) 5 (nI (up e a2))) (76 + 2 * k) 0 0 0 0) := eK_t (eK_k (by omega)) (eG_K eG_g)
  have heM : eKM T k M (gpM (wA (wA M 335 k (nI a2)) 334 k (nI (up e a2))) k 0 0 0 0) := eKM_t (eKM_t (eKM_k (by omega)) (eKM_k (by omega))) (eGM_K eGM_g)
  have hk2 := kr_eq (Y2 := yG (yU (yU Y k 6 a2) k 5 (up e a2)) k 0 0 0 0) hw hk h heS heM (fun x f hx _ => hyn x f hx)
  have hst := st_eq (S2 := gp (wI S (76 + 2 * k) 5 (nI (up e a2))) (76 + 2 * k) 0 0 0 0) (M2 := gpM (wA (wA M 335 k (nI a2)) 334 k (nI (up e a2))) k 0 0 0 0) (Y2 := yG (yU (yU Y k 6 a2) k 5 (up e a2)) k 0 0 0 0) hw hk hs (fun j hj => by
    have := hw.2.2 k j hk hj
    rw [eG_g.1 _ _ (by omega), ra_In (by omega)]) (fun j hj => by
    have := hw.2.2 k j hk hj
    rw [eGM_g.1 _ _ (by omega), ra_An (by omega), ra_An (by omega)]) hyn
  obtain ⟨S3, M3, Y3, i1, i2, i3, i4, i5, i6, i7⟩ := ma_gapL hw hk hN (show e ≤ 1900 by omega) (tC T k) 0 rn_FU rn_FU _ _ _ (by omega) (by unfold rn_FU; omega) (by unfold rn_FU; omega) hk2 hst gq_g (by
    unfold GV
    rw [yG_8, yG_9, yG_10, yG_11]
    exact ⟨fun _ => rfl, by omega, .inl rfl, by omega⟩)
  have hY5 : Y3 k 5 = up e a2 := by
    rw [i5 k 5 (.inr (by unfold fG; omega)), yG_n (.inr (by unfold fG; omega)), yU_s]
  have hY6 : Y3 k 6 = a2 := by
    rw [i5 k 6 (.inr (by unfold fG; omega)), yG_n (.inr (by unfold fG; omega)), yU_n (by omega), yU_s]
  have hY : ∀ i f, i ≠ k → Y3 i f = Y i f := fun i f hi => by rw [i5 i f (.inl hi), hyn i f hi]
  refine ⟨S3, M3, Y3, ?_, ?_, ⟨eK_t heS (eG_K i3), eKM_t heM (eGM_K i4), fun i f hi _ => hY i f hi, kr_eq hw hk hk2 (eG_K i3) (eGM_K i4) (fun i f hi _ => i5 i f (.inl hi)), ?_, fun f hf => ?_, ?_, fun j hj => ?_⟩, hY⟩
  · unfold f118_J28
    rw [hS, ma_f26 (by omega) ha]
    have := cl_gap (S := wI S (76 + 2 * k) 5 (nI (up e a2))) (a1 := 0) (a2 := 0) (a3 := 0) (a4 := 0) hk3
    rw [show (0 : Int32) = nI 0 from rfl, this, Option.bind_some]
    exact i1 _
  · unfold f62_J22
    rw [hM, Option.bind_some, if_neg (ob_F (by omega) (by omega)), nI_clamp (by omega), ra_A, ma_f32 (by omega) ha, Option.bind_some]
    have := rf_gap (M := wA (wA M 335 k (nI a2)) 334 k (nI (up e a2))) (a := 0) (b := 0) (c := 0) (d := 0) (show k < 101 by omega)
    rw [show (0 : Int32) = nI 0 from rfl, this, Option.bind_some]
    exact i2 _
  · rw [hY5]
    refine st_mono (st_eq hw hk hst (fun j hj => ?_) (fun j hj => ?_) (fun i f hi => i5 i f (.inl hi))) u1
    · have := hw.2.2 k j hk hj
      exact i3.1 _ _ (by omega)
    · exact i4.1 _ _ (by omega)
  · by_cases hg : fG f
    · exact i6 f hg
    · have : f = 5 ∨ f = 6 := by
        unfold fK at hf; unfold fG at hg; omega
      rcases this with rfl | rfl
      · rw [hY5, i3.1 _ _ (by omega), i4.1 _ _ (by omega), eG_g.1 _ _ (by omega), eGM_g.1 _ _ (by omega), ra_I]
        exact ⟨rfl, by simp (disch := omega) only [ra_I, ra_In, ra_A, ra_An, ra_IA, ra_IL, ra_IR, ra_IP, ra_AI, ra_AL, ra_AR, ra_AP, ra_L, ra_Ln, ra_LI, ra_LA, ra_LR, ra_LP, ra_R, ra_Rn, ra_RI, ra_RA, ra_RL, ra_RP, ra_P, ra_Pn, ra_PI, ra_PA, ra_PL, ra_PR]⟩
      · rw [hY6, i3.1 _ _ (by omega), i4.1 _ _ (by omega), eG_g.1 _ _ (by omega), eGM_g.1 _ _ (by omega), ra_In (by omega)]
        exact ⟨hS, by simp (disch := omega) only [ra_I, ra_In, ra_A, ra_An, ra_IA, ra_IL, ra_IR, ra_IP, ra_AI, ra_AL, ra_AR, ra_AP, ra_L, ra_Ln, ra_LI, ra_LA, ra_LR, ra_LP, ra_R, ra_Rn, ra_RI, ra_RA, ra_RL, ra_RP, ra_P, ra_Pn, ra_PI, ra_PA, ra_PL, ra_PR]⟩
  · unfold NK
    rw [hY5, hY6]
    obtain ⟨v1, v2, v3, v4⟩ := i7
    refine ⟨ha, u3, by omega, ?_, v2, ?_, v4⟩
    · rcases v3 with v3 | v3
      · rw [v1 v3]; exact .inl (by omega)
      · exact .inr (by omega)
    · rcases v3 with v3 | v3
      · exact .inl v3
      · exact .inr (by omega)
  · have := hw.2.2 k j hk hj
    rw [hY _ _ (by omega), hY6]
    exact hmx j hj
theorem ld_pre {S M S1 M1 S2 M2 : rn_T} {T : rn_TR} {Y Y1 Y2 : rn_LY} {k : Nat} (h1 : eK T k S S1) (h2 : eKM T k M M1) (h3 : ∀ i f, i ≠ k → (f ≠ 7 ∨ ∀ j, j < tC T k → i ≠ tE T k j) → Y1 i f = Y i f) (h : LD S1 M1 S2 M2 T Y1 Y2 k) : LD S M S2 M2 T Y Y2 k := ⟨eK_t h1 h.1, eKM_t h2 h.2.1, fun i f hi hf => (h.2.2.1 i f hi hf).trans (h3 i f hi hf), h.2.2.2⟩
theorem ma_rec {S M : rn_T} {T : rn_TR} {Y : rn_LY} {k w : Nat} (hw : TW T) (hk : k < tN T) (hN : tN T ≤ 100) (h : KR S M T Y k) (hwM : rI M 318 2 = nI w) (hw2 : w < 2) : ∃ S3 M3 Y3, f118 S (76 + 2 * k) (nI w) = some S3 ∧ f62 M (nI k) = some M3 ∧ LD S M S3 M3 T Y Y3 k := by
  have hC := (hw.1 k hk).2.2.2.2
  have hk3 := ma_kd3 (show k < 100 by omega)
  have h0 : ∀ (S M : rn_T) (Y : rn_LY), ST S M T Y k (fun _ => False) 0 := fun _ _ _ _ _ hP => hP.elim
  -- the align is the same before and behind
  have hal : ∀ (M1 : rn_T), eKM T k M M1 → ∃ a2, f120 S (76 + 2 * k) = some (nI a2) ∧ f60 M1 (nI k) = some (nI a2) ∧ isA a2 ∧ (∀ j, j < tC T k → Y (tE T k j) 6 ≤ a2) := by
    intro M1 hm
    obtain ⟨a2, g1, g2, g3, g4, _⟩ := ma_gal hw hk hN (kr_eq hw hk h eK_r hm (fun _ _ _ _ => rfl))
    exact ⟨a2, g1, g2, g3, g4⟩
  obtain ⟨a2, q1, q2, q3, q4⟩ := hal M eKM_r
  have hal2 : ∀ M1, eKM T k M M1 → f60 M1 (nI k) = some (nI a2) := by
    intro M1 hm
    obtain ⟨a3, g1, g2, g3, g4⟩ := hal M1 hm
    rw [q1] at g1
    rw [g2]
    exact g1.symm
  have hkr := kr_eq (Y2 := Y) (M2 := M) hw hk h (eK_k (T := T) (k := k) (f := 6) (v := nI a2) (by omega)) eKM_r (fun _ _ _ _ => rfl)
  have heS1 : eK T k S (wI S (76 + 2 * k) 6 (nI a2)) := eK_k (by omega)
  by_cases c : w = 0
  · subst c
    obtain ⟨S2, M2, Y2, e, l1, l2, l3, l4, l5, l6, l7, l8, l9, l10, l11⟩ := ma_line (w := 0) (e := 0) hw hk hN (by omega) hkr (h0 _ _ _) (by omega)
    obtain ⟨S3, M3, Y3, r1, r2, r3, r4⟩ := ma_recfin hw hk hN l6 (fun j hj _ => l7 j hj (.inr (.inl rfl))) (by omega) q3 (hal2 M2 l4) (by rw [l10, ra_I]) (fun j hj => by rw [l5 _ 6 (.inl (by omega))]; exact q4 j hj)
    refine ⟨S3, M3, Y3, ?_, ?_, ld_pre (eK_t heS1 l3) l4 (fun i f _ hf => l5 i f hf) r3⟩
    · unfold f118
      rw [q1, Option.bind_some, if_pos hk3, if_pos (show nI 0 = 0 from rfl)]
      have l1 : f121 (wI S (76 + 2 * k) 6 (nI a2)) (76 + 2 * k) (0 : Int32) (0 : Int32) = some (nI e, S2) := l1
      rw [l1, Option.bind_some]
      exact r1
    · unfold f62
      rw [hwM, if_pos (show nI 0 = 0 from rfl)]
      have l2 : f61 M (nI k) (0 : Int32) (0 : Int32) = some (nI e, M2) := l2
      rw [l2, Option.bind_some]
      exact r2
  · have c1 : w = 1 := by omega
    subst c1
    obtain ⟨S2, M2, Y2, e, l1, l2, l3, l4, l5, l6, l7, l8, l9, l10, l11⟩ := ma_line (w := 4) (e := 0) hw hk hN (by omega) hkr (h0 _ _ _) (by omega)
    obtain ⟨S4, M4, Y4, e4, k1, k2, k3, k4, k5, k6, k7, k8, k9, k10, k11⟩ := ma_line (w := 2) (e := e) hw hk hN (by omega) l6 l7 (by omega)
    obtain ⟨S5, M5, Y5, e5, j1, j2, j3, j4, j5, j6, j7, j8, j9, j10, j11⟩ := ma_line (w := 1) (e := e4) hw hk hN (by omega) k6 k7 (by omega)
    have hall : ST S5 M5 T Y5 k (fun _ => True) e5 := by
      intro j hj _
      refine j7 j hj ?_
      have hA := (h.2.2 j hj).1.1
      rcases hA with e | e | e
      · exact .inr (.inr (by rw [k5 _ 6 (.inl (by omega)), l5 _ 6 (.inl (by omega))]; exact e))
      · exact .inl (.inr (.inr (by rw [l5 _ 6 (.inl (by omega))]; exact e)))
      · exact .inl (.inl (.inr (.inr e)))
    have hem := eKM_t (eKM_t l4 k4) j4
    obtain ⟨S3, M3, Y3, r1, r2, r3, r4⟩ := ma_recfin hw hk hN j6 hall (by omega) q3 (hal2 M5 hem) (by rw [j10, k10, l10, ra_I]) (fun j hj => by rw [j5 _ 6 (.inl (by omega)), k5 _ 6 (.inl (by omega)), l5 _ 6 (.inl (by omega))]; exact q4 j hj)
    refine ⟨S3, M3, Y3, ?_, ?_, ld_pre (eK_t (eK_t (eK_t heS1 l3) k3) j3) hem (fun i f _ hf => by rw [j5 i f hf, k5 i f hf, l5 i f hf]) r3⟩
    · unfold f118
      rw [q1, Option.bind_some, if_pos hk3, if_neg (show ¬ nI 1 = 0 by decide)]
      have l1 : f121 (wI S (76 + 2 * k) 6 (nI a2)) (76 + 2 * k) (0 : Int32) (4 : Int32) = some (nI e, S2) := l1
      have k1 : f121 S2 (76 + 2 * k) (nI e) (2 : Int32) = some (nI e4, S4) := k1
      have j1 : f121 S4 (76 + 2 * k) (nI e4) (1 : Int32) = some (nI e5, S5) := j1
      rw [show rn_FU = 4996 + 1 + 1 + 1 + 1 from rfl]
      rw [f118_L16, if_neg (show ¬ (4 : Int32) ≤ 0 by decide), l1, Option.bind_some, show (4 : Int32) >>> ((1 : Int32) &&& 31) = (2 : Int32) by decide]
      rw [f118_L16, if_neg (show ¬ (2 : Int32) ≤ 0 by decide)]
      show Option.bind (f121 S2 (76 + 2 * k) (nI e) (2 : Int32)) _ = _
      rw [k1, Option.bind_some, show (2 : Int32) >>> ((1 : Int32) &&& 31) = (1 : Int32) by decide]
      rw [f118_L16, if_neg (show ¬ (1 : Int32) ≤ 0 by decide)]
      show Option.bind (f121 S4 (76 + 2 * k) (nI e4) (1 : Int32)) _ = _
      rw [j1, Option.bind_some, show (1 : Int32) >>> ((1 : Int32) &&& 31) = (0 : Int32) by decide]
      rw [f118_L16, if_pos (show (0 : Int32) ≤ 0 by decide)]
      exact r1
    · unfold f62
      rw [hwM, if_neg (show ¬ nI 1 = 0 by decide)]
      have l2 : f61 M (nI k) (4 : Int32) (0 : Int32) = some (nI e, M2) := l2
      have k2 : f61 M2 (nI k) (2 : Int32) (nI e) = some (nI e4, M4) := k2
      have j2 : f61 M4 (nI k) (1 : Int32) (nI e4) = some (nI e5, M5) := j2
      rw [l2, Option.bind_some]
      show Option.bind (f61 M2 (nI k) (2 : Int32) (nI e)) _ = _
      rw [k2, Option.bind_some]
      show Option.bind (f61 M4 (nI k) (1 : Int32) (nI e4)) _ = _
      rw [j2, Option.bind_some]
      exact r2
