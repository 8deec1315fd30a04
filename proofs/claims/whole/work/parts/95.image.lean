/-! 95: images -/
theorem kd5b {b s : Nat} (hb : b = 1 ∨ b = 278 ∨ b = 298) (hs : s < 8) : rn_kd (b + 4 + 2 * s) = 5 ∧ rn_kd b = 1 := by
  rcases hb with rfl | rfl | rfl
  · exact ⟨(by decide +kernel : ∀ s, s < 8 → rn_kd (1 + 4 + 2 * s) = 5) s hs, by decide⟩
  · exact ⟨(by decide +kernel : ∀ s, s < 8 → rn_kd (278 + 4 + 2 * s) = 5) s hs, by decide +kernel⟩
  · exact ⟨(by decide +kernel : ∀ s, s < 8 → rn_kd (298 + 4 + 2 * s) = 5) s hs, by decide +kernel⟩
theorem cl_textsL {A : rn_AT} {b0 b1 : Nat} (h0 : b0 = 1 ∨ b0 = 278 ∨ b0 = 298) (h1 : b1 = 1 ∨ b1 = 278 ∨ b1 = 298) (hne : b0 ≠ b1) (f : rn_T → Option rn_T) : ∀ d v fu (S : rn_T), v + d = 8 → d < fu → PH S b1 A → (∀ s, s < v → rI S (b0 + 4 + 2 * s) 1 = nI (aN A s) ∧ ∀ i, i < 40 → rA S (b0 + 5 + 2 * s) i = nI (aC A s i)) → ∃ S2, f113_L2 b0 b1 fu S (nI v) f = f S2 ∧ EqT (fun q => ¬ (b0 ≤ q ∧ q < b0 + 20)) S S2 ∧ ∀ s, s < 8 → rI S2 (b0 + 4 + 2 * s) 1 = nI (aN A s) ∧ ∀ i, i < 40 → rA S2 (b0 + 5 + 2 * s) i = nI (aC A s i) := by
  intro d
  induction d with
  | zero =>
    intro v fu S hv hfu hp h
    obtain ⟨G, rfl⟩ : ∃ G, fu = G + 1 := ⟨fu - 1, by omega⟩
    have : v = 8 := by omega
    subst this
    refine ⟨S, ?_, eq_r, h⟩
    rw [f113_L2, if_pos (by decide)]
  | succ d ih =>
    intro v fu S hv hfu hp h
    obtain ⟨G, rfl⟩ : ∃ G, fu = G + 1 := ⟨fu - 1, by omega⟩
    have hv8 : v < 8 := by omega
    obtain ⟨k0, k0'⟩ := kd5b h0 hv8
    obtain ⟨k1, k1'⟩ := kd5b h1 hv8
    obtain ⟨p1, p2, -⟩ := id hp
    have hE : EqT (fun q => ¬ (b0 ≤ q ∧ q < b0 + 20)) S (wI (wAc S (b0 + 4 + 2 * v + 1) (va_cpy (rA S (b1 + 4 + 2 * v + 1)) (rA S (b0 + 4 + 2 * v + 1)) 0 0 40)) (b0 + 4 + 2 * v) 1 (nI (aN A v))) := eq_t (eq_c (by omega)) (eq_I (by omega))
    have hI : rI (wAc S (b0 + 4 + 2 * v + 1) (va_cpy (rA S (b1 + 4 + 2 * v + 1)) (rA S (b0 + 4 + 2 * v + 1)) 0 0 40)) (b1 + 4 + 2 * v) 1 = nI (aN A v) := p1 v hv8
    obtain ⟨S2, i1, i2, i3⟩ := ih (v + 1) G _ (by omega) (by omega) (ph_eq hp (eq_m hE (fun q hq => by omega))) (fun s hs => by
      by_cases e : s = v
      · subst e
        refine ⟨ra_I, fun i hi => ?_⟩
        show rA (wAc S (b0 + 4 + 2 * s + 1) _) (b0 + 5 + 2 * s) i = _
        rw [show b0 + 4 + 2 * s + 1 = b0 + 5 + 2 * s by omega, ra_c, pk_cpy_in (Nat.zero_le i) (by omega), show b1 + 4 + 2 * s + 1 = b1 + 5 + 2 * s by omega, Nat.zero_add, Nat.sub_zero]
        exact p2 s hv8 i hi
      · obtain ⟨g1, g2⟩ := h s (by omega)
        refine ⟨?_, fun i hi => ?_⟩
        · rw [ra_In (by omega)]; exact g1
        · show rA (wAc S (b0 + 4 + 2 * v + 1) _) (b0 + 5 + 2 * s) i = _
          rw [ra_cf (by omega)]; exact g2 i hi)
    refine ⟨S2, ?_, eq_t hE i2, i3⟩
    rw [f113_L2, if_neg (show ¬ (8 : Int32) ≤ nI v from nI_ge (show v < 8 from hv8) (show 8 < 2 ^ 31 by omega)), if_pos k0', if_neg (ob_F hv8 (by omega)), if_pos k1', nI_clamp (by omega)]
    have h143 : f143 S (b0 + 4 + 2 * v) (b1 + 4 + 2 * v) = some (wI (wAc S (b0 + 4 + 2 * v + 1) (va_cpy (rA S (b1 + 4 + 2 * v + 1)) (rA S (b0 + 4 + 2 * v + 1)) 0 0 40)) (b0 + 4 + 2 * v) 1 (nI (aN A v))) := by
      unfold f143
      rw [if_pos k1, if_pos k0, hI]
    rw [h143, Option.bind_some, nI_p1]
    exact i1
theorem cl_holding {S : rn_T} {A : rn_AT} {b0 b1 : Nat} (h0 : b0 = 1 ∨ b0 = 278 ∨ b0 = 298) (h1 : b1 = 1 ∨ b1 = 278 ∨ b1 = 298) (hne : b0 ≠ b1) (hp : PH S b1 A) : ∃ S2, f113 S b0 b1 = some S2 ∧ EqT (fun q => ¬ (b0 ≤ q ∧ q < b0 + 20)) S S2 ∧ PH S2 b0 A := by
  have k0 := (kd5b h0 (show 0 < 8 by omega)).2
  have k1 := (kd5b h1 (show 0 < 8 by omega)).2
  obtain ⟨S6, i1, i2, i3⟩ := cl_textsL h0 h1 hne (fun S6 => if rn_kd b1 = 1 then if rn_kd b0 = 1 then some (wI (wI (wAc (wLc S6 (b0 + 2) (va_cpy (rL S6 (b1 + 2)) (rL S6 (b0 + 2)) 0 0 60)) (b0 + 3) (va_cpy (rA (wLc S6 (b0 + 2) (va_cpy (rL S6 (b1 + 2)) (rL S6 (b0 + 2)) 0 0 60)) (b1 + 3)) (rA (wLc S6 (b0 + 2) (va_cpy (rL S6 (b1 + 2)) (rL S6 (b0 + 2)) 0 0 60)) (b0 + 3)) 0 0 96)) b0 3 (rI (wAc (wLc S6 (b0 + 2) (va_cpy (rL S6 (b1 + 2)) (rL S6 (b0 + 2)) 0 0 60)) (b0 + 3) (va_cpy (rA (wLc S6 (b0 + 2) (va_cpy (rL S6 (b1 + 2)) (rL S6 (b0 + 2)) 0 0 60)) (b1 + 3)) (rA (wLc S6 (b0 + 2) (va_cpy (rL S6 (b1 + 2)) (rL S6 (b0 + 2)) 0 0 60)) (b0 + 3)) 0 0 96)) b1 3)) b0 4 (rI (wI (wAc (wLc S6 (b0 + 2) (va_cpy (rL S6 (b1 + 2)) (rL S6 (b0 + 2)) 0 0 60)) (b0 + 3) (va_cpy (rA (wLc S6 (b0 + 2) (va_cpy (rL S6 (b1 + 2)) (rL S6 (b0 + 2)) 0 0 60)) (b1 + 3)) (rA (wLc S6 (b0 + 2) (va_cpy (rL S6 (b1 + 2)) (rL S6 (b0 + 2)) 0 0 60)) (b0 + 3)) 0 0 96)) b0 3 (rI (wAc (wLc S6 (b0 + 2) (va_cpy (rL S6 (b1 + 2)) (rL S6 (b0 + 2)) 0 0 60)) (b0 + 3) (va_cpy (rA (wLc S6 (b0 + 2) (va_cpy (rL S6 (b1 + 2)) (rL S6 (b0 + 2)) 0 0 60)) (b1 + 3)) (rA (wLc S6 (b0 + 2) (va_cpy (rL S6 (b1 + 2)) (rL S6 (b0 + 2)) 0 0 60)) (b0 + 3)) 0 0 96)) b1 3)) b1 4)) else none else none) 8 0 rn_FU S (by omega) (by unfold rn_FU; omega) hp (fun s hs => by omega)
  obtain ⟨p1, p2, p3, p4, p5, p6⟩ := ph_eq hp (eq_m i2 (fun q hq => by omega))
  rw [if_pos k1, if_pos k0] at i1
  refine ⟨_, i1, ?_, ?_⟩
  · exact eq_t i2 (eq_t (eq_t (eq_t (eq_l (by omega)) (eq_c (by omega))) (eq_I (by omega))) (eq_I (by omega)))
  · refine ⟨fun s hs => ?_, fun s hs i hi => ?_, fun i hi => ?_, ?_, fun i hi => ?_, ?_⟩
    · rw [ra_In (by omega), ra_In (by omega)]
      exact (i3 s hs).1
    · show rA (wAc _ (b0 + 3) _) _ _ = _
      rw [ra_cf (by omega)]
      exact (i3 s hs).2 i hi
    · show rL (wLc S6 (b0 + 2) _) (b0 + 2) i = _
      rw [ra_l, pk_cpy_in (Nat.zero_le i) (by omega), Nat.zero_add, Nat.sub_zero]
      exact p3 i hi
    · rw [ra_In (by omega), ra_I]
      exact p4
    · show rA (wAc _ (b0 + 3) _) _ _ = _
      rw [ra_c, pk_cpy_in (Nat.zero_le i) (by omega), Nat.zero_add, Nat.sub_zero]
      exact p5 i hi
    · rw [ra_I, ra_In (by omega)]
      exact p6
/-- one number passes: kept, or brought back -/
theorem rf_one {M : rn_T} {a z : Nat} {x : Int32} (hz : z < 2) (h42 : rI M 318 42 = nI z) (h41 : rI M 318 41 = nI a) (ha : a < 852) : f103 M x = some ((if z = 1 then x else rA M 350 a), wI (wA M 350 a (if z = 1 then x else rA M 350 a)) 318 41 (nI (a + 1))) := by
  have e : ∀ v, rI (wA M 350 a v) 318 41 = nI a := fun _ => h41
  have hJ : ∀ v, f103_J10 M v = some (v, wI (wA M 350 a v) 318 41 (nI (a + 1))) := by
    intro v
    unfold f103_J10
    rw [h41, if_neg (ob_F ha (by omega)), nI_clamp (by omega), e, nI_p1]
  unfold f103
  rw [h42]
  by_cases c : z = 1
  · rw [if_neg (show ¬ nI z = 0 by rw [c]; decide), if_pos c, hJ]
  · rw [if_pos (show nI z = 0 by rw [show z = 0 by omega]; rfl), if_neg c, h41, if_neg (ob_F ha (by omega)), nI_clamp (by omega), hJ]
theorem rf_rowL {b1 len a z : Nat} (hb : (b1 = 319 ∧ len = 320) ∨ (b1 = 320 ∧ len = 8) ∨ (b1 = 346 ∧ len = 96)) (ha : a + len ≤ 852) (hz : z < 2) : ∀ d v fu (M : rn_T), v + d = len → d < fu → rI M 318 42 = nI z → rI M 318 41 = nI (a + v) → ∃ M2, (∀ g, f104_L2 b1 (nI len) fu M (nI v) g = g M2) ∧ rI M2 318 41 = nI (a + len) ∧ (∀ q k, ¬ (q = 318 ∧ k = 41) → rI M2 q k = rI M q k) ∧ rL M2 = rL M ∧ (∀ q, q ≠ b1 → q ≠ 350 → rA M2 q = rA M q) ∧ (∀ j, v ≤ j → j < len → rA M2 b1 j = (if z = 1 then rA M b1 j else rA M 350 (a + j)) ∧ rA M2 350 (a + j) = (if z = 1 then rA M b1 j else rA M 350 (a + j))) ∧ (∀ j, ¬ (v ≤ j ∧ j < len) → rA M2 b1 j = rA M b1 j) ∧ (∀ j, ¬ (a + v ≤ j ∧ j < a + len) → rA M2 350 j = rA M 350 j) := by
  have hb350 : b1 ≠ 350 := by omega
  have hkd : rn_kd b1 = 10 ∧ 318 ≤ b1 := by
    rcases hb with ⟨rfl, -⟩ | ⟨rfl, -⟩ | ⟨rfl, -⟩
    · exact ⟨by decide +kernel, by omega⟩
    · exact ⟨by decide +kernel, by omega⟩
    · exact ⟨by decide +kernel, by omega⟩
  have hln : rn_ln_ b1 = len := by
    rcases hb with ⟨rfl, rfl⟩ | ⟨rfl, rfl⟩ | ⟨rfl, rfl⟩ <;> decide +kernel
  intro d
  induction d with
  | zero =>
    intro v fu M hv hfu h42 h41
    obtain ⟨G, rfl⟩ : ∃ G, fu = G + 1 := ⟨fu - 1, by omega⟩
    have hvl : v = len := by omega
    subst hvl
    refine ⟨M, fun g => ?_, h41, fun _ _ _ => rfl, rfl, fun _ _ _ => rfl, fun j h1 h2 => by omega, fun _ _ => rfl, fun _ _ => rfl⟩
    rw [f104_L2, if_pos (le_T (Nat.le_refl _) (by omega))]
  | succ d ih =>
    intro v fu M hv hfu h42 h41
    obtain ⟨G, rfl⟩ : ∃ G, fu = G + 1 := ⟨fu - 1, by omega⟩
    have h103 := rf_one (x := rA M b1 v) hz h42 h41 (by omega)
    obtain ⟨M2, i1, i2, i3, i4, i5, i6, i7, i8⟩ := ih (v + 1) G (wA (wI (wA M 350 (a + v) (if z = 1 then rA M b1 v else rA M 350 (a + v))) 318 41 (nI (a + v + 1))) b1 v (if z = 1 then rA M b1 v else rA M 350 (a + v))) (by omega) (by omega) (by simp (disch := omega) only [ra_I, ra_In, ra_A, ra_An, ra_IA, ra_IL, ra_IR, ra_IP, ra_AI, ra_AL, ra_AR, ra_AP, ra_L, ra_Ln, ra_LI, ra_LA, ra_LR, ra_LP, ra_R, ra_Rn, ra_RI, ra_RA, ra_RL, ra_RP, ra_P, ra_Pn, ra_PI, ra_PA, ra_PL, ra_PR]; exact h42) (by simp (disch := omega) only [ra_I, ra_In, ra_A, ra_An, ra_IA, ra_IL, ra_IR, ra_IP, ra_AI, ra_AL, ra_AR, ra_AP, ra_L, ra_Ln, ra_LI, ra_LA, ra_LR, ra_LP, ra_R, ra_Rn, ra_RI, ra_RA, ra_RL, ra_RP, ra_P, ra_Pn, ra_PI, ra_PA, ra_PL, ra_PR]; rw [Nat.add_assoc])
    have hA : ∀ q k, q ≠ b1 ∨ k ≠ v → q ≠ 350 ∨ k ≠ a + v → rA (wA (wI (wA M 350 (a + v) (if z = 1 then rA M b1 v else rA M 350 (a + v))) 318 41 (nI (a + v + 1))) b1 v (if z = 1 then rA M b1 v else rA M 350 (a + v))) q k = rA M q k := fun q k h1 h2 => by
      rw [ra_An h1]
      show rA (wA M 350 (a + v) _) q k = _
      rw [ra_An h2]
    refine ⟨M2, fun g => ?_, i2, fun q k hq => ?_, i4, fun q h1 h2 => ?_, fun j h1 h2 => ?_, fun j hj => ?_, fun j hj => ?_⟩
    · rw [f104_L2, if_neg (le_F (by omega) (by omega)), if_pos hkd, hln, if_neg (ob_F (by omega) (by omega)), nI_clamp (by omega), h103, Option.bind_some, nI_p1]
      exact i1 g
    · rw [i3 q k hq]
      simp (disch := omega) only [ra_I, ra_In, ra_A, ra_An, ra_IA, ra_IL, ra_IR, ra_IP, ra_AI, ra_AL, ra_AR, ra_AP, ra_L, ra_Ln, ra_LI, ra_LA, ra_LR, ra_LP, ra_R, ra_Rn, ra_RI, ra_RA, ra_RL, ra_RP, ra_P, ra_Pn, ra_PI, ra_PA, ra_PL, ra_PR]
    · rw [i5 q h1 h2]
      funext k
      exact hA q k (.inl h1) (.inl h2)
    · by_cases e : j = v
      · subst e
        rw [i7 j (by omega), i8 (a + j) (by omega), ra_A, ra_An (by omega)]
        refine ⟨rfl, ?_⟩
        show rA (wA M 350 (a + j) _) 350 (a + j) = _
        rw [ra_A]
      · obtain ⟨e1, e2⟩ := i6 j (by omega) h2
        rw [hA b1 j (.inr e) (.inl hb350), hA 350 (a + j) (.inl (fun hx => hb350 hx.symm)) (.inr (by omega))] at e1 e2
        exact ⟨e1, e2⟩
    · rw [i7 j (by omega)]
      exact hA b1 j (.inr (by omega)) (.inl hb350)
    · rw [i8 j (by omega)]
      exact hA 350 j (.inl (fun hx => hb350 hx.symm)) (.inr (by omega))
theorem rf_listL {k z : Nat} (hk : k < 2) (hz : z < 2) : ∀ d v fu (M : rn_T), v + d = 60 → d < fu → rI M 318 42 = nI z → ∃ M2, (∀ g, f105_L34 (nI k) fu M (nI v) g = g M2) ∧ rI M2 = rI M ∧ rA M2 = rA M ∧ (∀ q, q ≠ 345 → q ≠ 351 → rL M2 q = rL M q) ∧ (∀ j, v ≤ j → j < 60 → rL M2 345 j = (if z = 1 then rL M 345 j else rL M 351 (60 * k + j)) ∧ rL M2 351 (60 * k + j) = (if z = 1 then rL M 345 j else rL M 351 (60 * k + j))) ∧ (∀ j, ¬ (v ≤ j ∧ j < 60) → rL M2 345 j = rL M 345 j) ∧ (∀ j, ¬ (60 * k + v ≤ j ∧ j < 60 * k + 60) → rL M2 351 j = rL M 351 j) := by
  intro d
  induction d with
  | zero =>
    intro v fu M hv hfu h42
    obtain ⟨G, rfl⟩ : ∃ G, fu = G + 1 := ⟨fu - 1, by omega⟩
    have hvl : v = 60 := by omega
    subst hvl
    refine ⟨M, fun g => ?_, rfl, rfl, fun _ _ _ => rfl, fun j h1 h2 => by omega, fun _ _ => rfl, fun _ _ => rfl⟩
    rw [f105_L34, if_pos (by decide)]
  | succ d ih =>
    intro v fu M hv hfu h42
    obtain ⟨G, rfl⟩ : ∃ G, fu = G + 1 := ⟨fu - 1, by omega⟩
    have hv60 : v < 60 := by omega
    obtain ⟨M2, i1, i2, i3, i4, i5, i6, i7⟩ := ih (v + 1) G (wL (wL M 345 v (if z = 1 then rL M 345 v else rL M 351 (60 * k + v))) 351 (60 * k + v) (if z = 1 then rL M 345 v else rL M 351 (60 * k + v))) (by omega) (by omega) h42
    have hL : ∀ q j, q ≠ 345 ∨ j ≠ v → q ≠ 351 ∨ j ≠ 60 * k + v → rL (wL (wL M 345 v (if z = 1 then rL M 345 v else rL M 351 (60 * k + v))) 351 (60 * k + v) (if z = 1 then rL M 345 v else rL M 351 (60 * k + v))) q j = rL M q j := fun q j h1 h2 => by
      rw [ra_Ln h2, ra_Ln h1]
    refine ⟨M2, fun g => ?_, i2, i3, fun q h1 h2 => ?_, fun j h1 h2 => ?_, fun j hj => ?_, fun j hj => ?_⟩
    · have hix : ((60 : Int32) * nI k) + nI v = nI (60 * k + v) := by
        rw [show (60 : Int32) = nI 60 from rfl, pk_mul, nI_add]
      have hJ : ∀ t2, t2 = (if z = 1 then rL M 345 v else rL M 351 (60 * k + v)) → f105_J56_34 M (nI k) (nI v) (nI v) t2 (fun M v2 => f105_L34 (nI k) G M v2 g) g = g M2 := by
        intro t2 ht
        unfold f105_J56_34
        rw [if_neg (ob_F hv60 (by omega)), if_neg (ob_F hv60 (by omega)), nI_clamp (by omega), ra_L, hix, if_neg (ob_F (by omega) (by omega)), nI_clamp (by omega), ht, nI_p1]
        exact i1 g
      rw [f105_L34, if_neg (show ¬ (60 : Int32) ≤ nI v from nI_ge (show v < 60 from hv60) (show 60 < 2 ^ 31 by omega)), h42, hix, if_neg (ob_F (by omega) (by omega)), if_neg (ob_F hv60 (by omega)), nI_clamp (show 60 * k + v < 2 ^ 31 by omega), nI_clamp (show v < 2 ^ 31 by omega)]
      by_cases c : z = 1
      · rw [if_neg (show ¬ nI z = 0 by rw [c]; decide)]
        exact hJ _ (by rw [if_pos c])
      · rw [if_pos (show nI z = 0 by rw [show z = 0 by omega]; rfl)]
        exact hJ _ (by rw [if_neg c])
    · rw [i4 q h1 h2]
      funext j
      exact hL q j (.inl h1) (.inl h2)
    · by_cases e : j = v
      · subst e
        rw [i6 j (by omega), i7 (60 * k + j) (by omega), ra_L, ra_Ln (by omega), ra_L]
        exact ⟨rfl, rfl⟩
      · obtain ⟨e1, e2⟩ := i5 j (by omega) h2
        rw [hL 345 j (.inr e) (.inl (by omega)), hL 351 (60 * k + j) (.inl (by omega)) (.inr (by omega))] at e1 e2
        exact ⟨e1, e2⟩
    · rw [i6 j (by omega)]
      exact hL 345 j (.inr (by omega)) (.inl (by omega))
    · rw [i7 j (by omega)]
      exact hL 351 j (.inl (by omega)) (.inr (by omega))
/-- all of it passes -/
theorem rf_pass {M : rn_T} {k z : Nat} (hk : k < 2) (hz : z < 2) (h42 : rI M 318 42 = nI z) : ∃ M2, f105 M (nI k) = some M2 ∧ rI M2 318 2 = (if z = 1 then rI M 318 2 else rA M 350 (426 * k)) ∧ rI M2 318 33 = (if z = 1 then rI M 318 33 else rA M 350 (426 * k + 1)) ∧ (∀ j, j < 320 → rA M2 319 j = (if z = 1 then rA M 319 j else rA M 350 (426 * k + 2 + j))) ∧ (∀ j, j < 8 → rA M2 320 j = (if z = 1 then rA M 320 j else rA M 350 (426 * k + 322 + j))) ∧ (∀ j, j < 96 → rA M2 346 j = (if z = 1 then rA M 346 j else rA M 350 (426 * k + 330 + j))) ∧ (∀ j, j < 60 → rL M2 345 j = (if z = 1 then rL M 345 j else rL M 351 (60 * k + j))) ∧ rA M2 350 (426 * k) = rI M2 318 2 ∧ rA M2 350 (426 * k + 1) = rI M2 318 33 ∧ (∀ j, j < 320 → rA M2 350 (426 * k + 2 + j) = rA M2 319 j) ∧ (∀ j, j < 8 → rA M2 350 (426 * k + 322 + j) = rA M2 320 j) ∧ (∀ j, j < 96 → rA M2 350 (426 * k + 330 + j) = rA M2 346 j) ∧ (∀ j, j < 60 → rL M2 351 (60 * k + j) = rL M2 345 j) ∧ (∀ j, ¬ (426 * k ≤ j ∧ j < 426 * k + 426) → rA M2 350 j = rA M 350 j) ∧ (∀ j, ¬ (60 * k ≤ j ∧ j < 60 * k + 60) → rL M2 351 j = rL M 351 j) ∧ (∀ q, q ≠ 319 → q ≠ 320 → q ≠ 346 → q ≠ 350 → rA M2 q = rA M q) ∧ (∀ q, q ≠ 318 → rI M2 q = rI M q) ∧ (∀ q, q ≠ 345 → q ≠ 351 → rL M2 q = rL M q) := by
  have e426 : (426 : Int32) * nI k = nI (426 * k) := by rw [show (426 : Int32) = nI 426 from rfl, pk_mul]
  -- the way
  have p1 := rf_one (M := wI M 318 41 (nI (426 * k))) (a := 426 * k) (x := rI M 318 2) hz (by rw [ra_In (by omega)]; exact h42) ra_I (by omega)
  -- how many numbers
  have p2 := rf_one (M := wI (wI (wA (wI M 318 41 (nI (426 * k))) 350 (426 * k) (if z = 1 then rI M 318 2 else rA M 350 (426 * k))) 318 41 (nI (426 * k + 1))) 318 2 (if z = 1 then rI M 318 2 else rA M 350 (426 * k))) (a := 426 * k + 1) (z := z) (x := rI M 318 33) hz (by simp (disch := omega) only [ra_I, ra_In, ra_A, ra_An, ra_IA, ra_IL, ra_IR, ra_IP, ra_AI, ra_AL, ra_AR, ra_AP, ra_L, ra_Ln, ra_LI, ra_LA, ra_LR, ra_LP, ra_R, ra_Rn, ra_RI, ra_RA, ra_RL, ra_RP, ra_P, ra_Pn, ra_PI, ra_PA, ra_PL, ra_PR]; exact h42) (by simp (disch := omega) only [ra_I, ra_In, ra_A, ra_An, ra_IA, ra_IL, ra_IR, ra_IP, ra_AI, ra_AL, ra_AR, ra_AP, ra_L, ra_Ln, ra_LI, ra_LA, ra_LR, ra_LP, ra_R, ra_Rn, ra_RI, ra_RA, ra_RL, ra_RP, ra_P, ra_Pn, ra_PI, ra_PA, ra_PL, ra_PR]) (by omega)
  obtain ⟨M3, a1, a2, a3, a4, a5, a6, a7, a8⟩ := rf_rowL (b1 := 319) (len := 320) (a := 426 * k + 2) (z := z) (.inl ⟨rfl, rfl⟩) (by omega) hz 320 0 rn_FU (wI (wI (wA (wI (wI (wA (wI M 318 41 (nI (426 * k))) 350 (426 * k) (if z = 1 then rI M 318 2 else rA M 350 (426 * k))) 318 41 (nI (426 * k + 1))) 318 2 (if z = 1 then rI M 318 2 else rA M 350 (426 * k))) 350 (426 * k + 1) (if z = 1 then rI M 318 33 else rA M 350 (426 * k + 1))) 318 41 (nI (426 * k + 1 + 1))) 318 33 (if z = 1 then rI M 318 33 else rA M 350 (426 * k + 1))) (by omega) (by unfold rn_FU; omega) (by simp (disch := omega) only [ra_I, ra_In, ra_A, ra_An, ra_IA, ra_IL, ra_IR, ra_IP, ra_AI, ra_AL, ra_AR, ra_AP, ra_L, ra_Ln, ra_LI, ra_LA, ra_LR, ra_LP, ra_R, ra_Rn, ra_RI, ra_RA, ra_RL, ra_RP, ra_P, ra_Pn, ra_PI, ra_PA, ra_PL, ra_PR]; exact h42) (by simp (disch := omega) only [ra_I, ra_In, ra_A, ra_An, ra_IA, ra_IL, ra_IR, ra_IP, ra_AI, ra_AL, ra_AR, ra_AP, ra_L, ra_Ln, ra_LI, ra_LA, ra_LR, ra_LP, ra_R, ra_Rn, ra_RI, ra_RA, ra_RL, ra_RP, ra_P, ra_Pn, ra_PI, ra_PA, ra_PL, ra_PR])
  obtain ⟨M4, b1, b2, b3, b4, b5, b6, b7, b8⟩ := rf_rowL (b1 := 320) (len := 8) (a := 426 * k + 322) (z := z) (.inr (.inl ⟨rfl, rfl⟩)) (by omega) hz 8 0 rn_FU M3 (by omega) (by unfold rn_FU; omega) (by rw [a3 _ _ (by omega)]; simp (disch := omega) only [ra_I, ra_In, ra_A, ra_An, ra_IA, ra_IL, ra_IR, ra_IP, ra_AI, ra_AL, ra_AR, ra_AP, ra_L, ra_Ln, ra_LI, ra_LA, ra_LR, ra_LP, ra_R, ra_Rn, ra_RI, ra_RA, ra_RL, ra_RP, ra_P, ra_Pn, ra_PI, ra_PA, ra_PL, ra_PR]; exact h42) (by rw [a2])
  obtain ⟨M5, c1, c2, c3, c4, c5, c6, c7, c8⟩ := rf_rowL (b1 := 346) (len := 96) (a := 426 * k + 330) (z := z) (.inr (.inr ⟨rfl, rfl⟩)) (by omega) hz 96 0 rn_FU M4 (by omega) (by unfold rn_FU; omega) (by rw [b3 _ _ (by omega), a3 _ _ (by omega)]; simp (disch := omega) only [ra_I, ra_In, ra_A, ra_An, ra_IA, ra_IL, ra_IR, ra_IP, ra_AI, ra_AL, ra_AR, ra_AP, ra_L, ra_Ln, ra_LI, ra_LA, ra_LR, ra_LP, ra_R, ra_Rn, ra_RI, ra_RA, ra_RL, ra_RP, ra_P, ra_Pn, ra_PI, ra_PA, ra_PL, ra_PR]; exact h42) (by rw [b2])
  obtain ⟨M6, d1, d2, d3, d4, d5, d6, d7⟩ := rf_listL (k := k) (z := z) hk hz 60 0 rn_FU M5 (by omega) (by unfold rn_FU; omega) (by rw [c3 _ _ (by omega), b3 _ _ (by omega), a3 _ _ (by omega)]; simp (disch := omega) only [ra_I, ra_In, ra_A, ra_An, ra_IA, ra_IL, ra_IR, ra_IP, ra_AI, ra_AL, ra_AR, ra_AP, ra_L, ra_Ln, ra_LI, ra_LA, ra_LR, ra_LP, ra_R, ra_Rn, ra_RI, ra_RA, ra_RL, ra_RP, ra_P, ra_Pn, ra_PI, ra_PA, ra_PL, ra_PR]; exact h42)
  have hrun : f105 M (nI k) = some M6 := by
    unfold f105
    rw [e426, show rI (wI M 318 41 (nI (426 * k))) 318 2 = rI M 318 2 by simp (disch := omega) only [ra_I, ra_In, ra_A, ra_An, ra_IA, ra_IL, ra_IR, ra_IP, ra_AI, ra_AL, ra_AR, ra_AP, ra_L, ra_Ln, ra_LI, ra_LA, ra_LR, ra_LP, ra_R, ra_Rn, ra_RI, ra_RA, ra_RL, ra_RP, ra_P, ra_Pn, ra_PI, ra_PA, ra_PL, ra_PR], p1, Option.bind_some]
    show Option.bind (f103 (wI (wI (wA (wI M 318 41 (nI (426 * k))) 350 (426 * k) (if z = 1 then rI M 318 2 else rA M 350 (426 * k))) 318 41 (nI (426 * k + 1))) 318 2 (if z = 1 then rI M 318 2 else rA M 350 (426 * k))) (rI (wI (wI (wA (wI M 318 41 (nI (426 * k))) 350 (426 * k) (if z = 1 then rI M 318 2 else rA M 350 (426 * k))) 318 41 (nI (426 * k + 1))) 318 2 (if z = 1 then rI M 318 2 else rA M 350 (426 * k))) 318 33)) _ = _
    rw [show rI (wI (wI (wA (wI M 318 41 (nI (426 * k))) 350 (426 * k) (if z = 1 then rI M 318 2 else rA M 350 (426 * k))) 318 41 (nI (426 * k + 1))) 318 2 (if z = 1 then rI M 318 2 else rA M 350 (426 * k))) 318 33 = rI M 318 33 by simp (disch := omega) only [ra_I, ra_In, ra_A, ra_An, ra_IA, ra_IL, ra_IR, ra_IP, ra_AI, ra_AL, ra_AR, ra_AP, ra_L, ra_Ln, ra_LI, ra_LA, ra_LR, ra_LP, ra_R, ra_Rn, ra_RI, ra_RA, ra_RL, ra_RP, ra_P, ra_Pn, ra_PI, ra_PA, ra_PL, ra_PR], p2, Option.bind_some]
    have e350 : rA (wI (wI (wA (wI M 318 41 (nI (426 * k))) 350 (426 * k) (if z = 1 then rI M 318 2 else rA M 350 (426 * k))) 318 41 (nI (426 * k + 1))) 318 2 (if z = 1 then rI M 318 2 else rA M 350 (426 * k))) 350 (426 * k + 1) = rA M 350 (426 * k + 1) := by simp (disch := omega) only [ra_I, ra_In, ra_A, ra_An, ra_IA, ra_IL, ra_IR, ra_IP, ra_AI, ra_AL, ra_AR, ra_AP, ra_L, ra_Ln, ra_LI, ra_LA, ra_LR, ra_LP, ra_R, ra_Rn, ra_RI, ra_RA, ra_RL, ra_RP, ra_P, ra_Pn, ra_PI, ra_PA, ra_PL, ra_PR]
    rw [e350]
    have q1 : f104 (wI (wI (wA (wI (wI (wA (wI M 318 41 (nI (426 * k))) 350 (426 * k) (if z = 1 then rI M 318 2 else rA M 350 (426 * k))) 318 41 (nI (426 * k + 1))) 318 2 (if z = 1 then rI M 318 2 else rA M 350 (426 * k))) 350 (426 * k + 1) (if z = 1 then rI M 318 33 else rA M 350 (426 * k + 1))) 318 41 (nI (426 * k + 1 + 1))) 318 33 (if z = 1 then rI M 318 33 else rA M 350 (426 * k + 1))) 319 (320 : Int32) = some M3 := a1 _
    have q2 : f104 M3 320 (8 : Int32) = some M4 := b1 _
    have q3 : f104 M4 346 (96 : Int32) = some M5 := c1 _
    rw [q1, Option.bind_some, q2, Option.bind_some, q3, Option.bind_some]
    exact d1 _
  have h350 : ∀ j, (j < 426 * k + 2 ∨ 426 * k + 426 ≤ j) → rA M6 350 j = rA (wA (wA M 350 (426 * k) (if z = 1 then rI M 318 2 else rA M 350 (426 * k))) 350 (426 * k + 1) (if z = 1 then rI M 318 33 else rA M 350 (426 * k + 1))) 350 j := fun j hj => by
    rw [d3, c8 j (by omega), b8 j (by omega), a8 j (by omega)]
    rfl
  have hI6 : ∀ j, j ≠ 41 → rI M6 318 j = rI (wI (wI M 318 2 (if z = 1 then rI M 318 2 else rA M 350 (426 * k))) 318 33 (if z = 1 then rI M 318 33 else rA M 350 (426 * k + 1))) 318 j := fun j hj => by
    rw [d2, c3 _ _ (by omega), b3 _ _ (by omega), a3 _ _ (by omega)]
    by_cases x1 : j = 33
    · subst x1; rw [ra_I, ra_I]
    · rw [ra_In (by omega), ra_In (by omega)]
      by_cases x2 : j = 2
      · subst x2; simp (disch := omega) only [ra_I, ra_In, ra_A, ra_An, ra_IA, ra_IL, ra_IR, ra_IP, ra_AI, ra_AL, ra_AR, ra_AP, ra_L, ra_Ln, ra_LI, ra_LA, ra_LR, ra_LP, ra_R, ra_Rn, ra_RI, ra_RA, ra_RL, ra_RP, ra_P, ra_Pn, ra_PI, ra_PA, ra_PL, ra_PR]
      · simp (disch := omega) only [ra_I, ra_In, ra_A, ra_An, ra_IA, ra_IL, ra_IR, ra_IP, ra_AI, ra_AL, ra_AR, ra_AP, ra_L, ra_Ln, ra_LI, ra_LA, ra_LR, ra_LP, ra_R, ra_Rn, ra_RI, ra_RA, ra_RL, ra_RP, ra_P, ra_Pn, ra_PI, ra_PA, ra_PL, ra_PR]
  -- rows before
  have hr319 : ∀ j, rA (wI (wI (wA (wI (wI (wA (wI M 318 41 (nI (426 * k))) 350 (426 * k) (if z = 1 then rI M 318 2 else rA M 350 (426 * k))) 318 41 (nI (426 * k + 1))) 318 2 (if z = 1 then rI M 318 2 else rA M 350 (426 * k))) 350 (426 * k + 1) (if z = 1 then rI M 318 33 else rA M 350 (426 * k + 1))) 318 41 (nI (426 * k + 1 + 1))) 318 33 (if z = 1 then rI M 318 33 else rA M 350 (426 * k + 1))) 350 (426 * k + 2 + j) = rA M 350 (426 * k + 2 + j) := fun j => by simp (disch := omega) only [ra_I, ra_In, ra_A, ra_An, ra_IA, ra_IL, ra_IR, ra_IP, ra_AI, ra_AL, ra_AR, ra_AP, ra_L, ra_Ln, ra_LI, ra_LA, ra_LR, ra_LP, ra_R, ra_Rn, ra_RI, ra_RA, ra_RL, ra_RP, ra_P, ra_Pn, ra_PI, ra_PA, ra_PL, ra_PR]
  have hq : ∀ q, q ≠ 350 → rA (wI (wI (wA (wI (wI (wA (wI M 318 41 (nI (426 * k))) 350 (426 * k) (if z = 1 then rI M 318 2 else rA M 350 (426 * k))) 318 41 (nI (426 * k + 1))) 318 2 (if z = 1 then rI M 318 2 else rA M 350 (426 * k))) 350 (426 * k + 1) (if z = 1 then rI M 318 33 else rA M 350 (426 * k + 1))) 318 41 (nI (426 * k + 1 + 1))) 318 33 (if z = 1 then rI M 318 33 else rA M 350 (426 * k + 1))) q = rA M q := fun q hq => by
    show rA (wA (wA M 350 _ _) 350 _ _) q = _
    rw [ra_Af hq, ra_Af hq]
  have v319 : ∀ j, j < 320 → rA M6 319 j = (if z = 1 then rA M 319 j else rA M 350 (426 * k + 2 + j)) ∧ rA M6 350 (426 * k + 2 + j) = (if z = 1 then rA M 319 j else rA M 350 (426 * k + 2 + j)) := fun j hj => by
    obtain ⟨e1, e2⟩ := a6 j (Nat.zero_le j) hj
    rw [hr319, hq 319 (by omega)] at e1 e2
    rw [d3, c5 319 (by omega) (by omega), b5 319 (by omega) (by omega), e1, c8 _ (by omega), b8 _ (by omega), e2]
    exact ⟨rfl, rfl⟩
  have v320 : ∀ j, j < 8 → rA M6 320 j = (if z = 1 then rA M 320 j else rA M 350 (426 * k + 322 + j)) ∧ rA M6 350 (426 * k + 322 + j) = (if z = 1 then rA M 320 j else rA M 350 (426 * k + 322 + j)) := fun j hj => by
    obtain ⟨e1, e2⟩ := b6 j (Nat.zero_le j) hj
    rw [a5 320 (by omega) (by omega), hq 320 (by omega), a8 _ (by omega), show 426 * k + 322 + j = 426 * k + 2 + (320 + j) by omega, hr319] at e1 e2
    rw [d3, c5 320 (by omega) (by omega), e1, c8 _ (by omega), show 426 * k + 322 + j = 426 * k + 2 + (320 + j) by omega, e2]
    exact ⟨rfl, rfl⟩
  have v346 : ∀ j, j < 96 → rA M6 346 j = (if z = 1 then rA M 346 j else rA M 350 (426 * k + 330 + j)) ∧ rA M6 350 (426 * k + 330 + j) = (if z = 1 then rA M 346 j else rA M 350 (426 * k + 330 + j)) := fun j hj => by
    obtain ⟨e1, e2⟩ := c6 j (Nat.zero_le j) hj
    rw [b5 346 (by omega) (by omega), a5 346 (by omega) (by omega), hq 346 (by omega), b8 _ (by omega), a8 _ (by omega), show 426 * k + 330 + j = 426 * k + 2 + (328 + j) by omega, hr319] at e1 e2
    rw [d3, e1, show 426 * k + 330 + j = 426 * k + 2 + (328 + j) by omega, e2]
    exact ⟨rfl, rfl⟩
  have hL5 : rL M5 = rL M := by rw [c4, b4, a4]; rfl
  have v345 : ∀ j, j < 60 → rL M6 345 j = (if z = 1 then rL M 345 j else rL M 351 (60 * k + j)) ∧ rL M6 351 (60 * k + j) = (if z = 1 then rL M 345 j else rL M 351 (60 * k + j)) := fun j hj => by
    obtain ⟨e1, e2⟩ := d5 j (Nat.zero_le j) hj
    rw [hL5] at e1 e2
    exact ⟨e1, e2⟩
  have h2 : rI M6 318 2 = (if z = 1 then rI M 318 2 else rA M 350 (426 * k)) := by rw [hI6 2 (by omega)]; simp (disch := omega) only [ra_I, ra_In, ra_A, ra_An, ra_IA, ra_IL, ra_IR, ra_IP, ra_AI, ra_AL, ra_AR, ra_AP, ra_L, ra_Ln, ra_LI, ra_LA, ra_LR, ra_LP, ra_R, ra_Rn, ra_RI, ra_RA, ra_RL, ra_RP, ra_P, ra_Pn, ra_PI, ra_PA, ra_PL, ra_PR]
  have h33 : rI M6 318 33 = (if z = 1 then rI M 318 33 else rA M 350 (426 * k + 1)) := by rw [hI6 33 (by omega)]; simp (disch := omega) only [ra_I, ra_In, ra_A, ra_An, ra_IA, ra_IL, ra_IR, ra_IP, ra_AI, ra_AL, ra_AR, ra_AP, ra_L, ra_Ln, ra_LI, ra_LA, ra_LR, ra_LP, ra_R, ra_Rn, ra_RI, ra_RA, ra_RL, ra_RP, ra_P, ra_Pn, ra_PI, ra_PA, ra_PL, ra_PR]
  refine ⟨M6, hrun, h2, h33, fun j hj => (v319 j hj).1, fun j hj => (v320 j hj).1, fun j hj => (v346 j hj).1, fun j hj => (v345 j hj).1, ?_, ?_, fun j hj => by rw [(v319 j hj).1, (v319 j hj).2], fun j hj => by rw [(v320 j hj).1, (v320 j hj).2], fun j hj => by rw [(v346 j hj).1, (v346 j hj).2], fun j hj => by rw [(v345 j hj).1, (v345 j hj).2], fun j hj => ?_, fun j hj => ?_, fun q k1 k2 k3 k4 => ?_, fun q hq1 => ?_, fun q k1 k2 => ?_⟩
  · rw [h350 _ (by omega), h2]; simp (disch := omega) only [ra_I, ra_In, ra_A, ra_An, ra_IA, ra_IL, ra_IR, ra_IP, ra_AI, ra_AL, ra_AR, ra_AP, ra_L, ra_Ln, ra_LI, ra_LA, ra_LR, ra_LP, ra_R, ra_Rn, ra_RI, ra_RA, ra_RL, ra_RP, ra_P, ra_Pn, ra_PI, ra_PA, ra_PL, ra_PR]
  · rw [h350 _ (by omega), h33]; simp (disch := omega) only [ra_I, ra_In, ra_A, ra_An, ra_IA, ra_IL, ra_IR, ra_IP, ra_AI, ra_AL, ra_AR, ra_AP, ra_L, ra_Ln, ra_LI, ra_LA, ra_LR, ra_LP, ra_R, ra_Rn, ra_RI, ra_RA, ra_RL, ra_RP, ra_P, ra_Pn, ra_PI, ra_PA, ra_PL, ra_PR]
  · rw [h350 _ (by omega)]; simp (disch := omega) only [ra_I, ra_In, ra_A, ra_An, ra_IA, ra_IL, ra_IR, ra_IP, ra_AI, ra_AL, ra_AR, ra_AP, ra_L, ra_Ln, ra_LI, ra_LA, ra_LR, ra_LP, ra_R, ra_Rn, ra_RI, ra_RA, ra_RL, ra_RP, ra_P, ra_Pn, ra_PI, ra_PA, ra_PL, ra_PR]
  · rw [d7 j (by omega), hL5]
  · rw [d3, c5 q k3 k4, b5 q k2 k4, a5 q k1 k4, hq q k4]
  · funext j
    rw [d2, c3 _ _ (by omega), b3 _ _ (by omega), a3 _ _ (by omega)]
    simp (disch := omega) only [ra_I, ra_In, ra_A, ra_An, ra_IA, ra_IL, ra_IR, ra_IP, ra_AI, ra_AL, ra_AR, ra_AP, ra_L, ra_Ln, ra_LI, ra_LA, ra_LR, ra_LP, ra_R, ra_Rn, ra_RI, ra_RA, ra_RL, ra_RP, ra_P, ra_Pn, ra_PI, ra_PA, ra_PL, ra_PR]
  · rw [d4 q k1 k2, hL5]
