/-! 96: image, restore, told -/
theorem pk_other {M M2 : rn_T} {k k2 : Nat} {B : rn_AT} (hk : k < 2) (hk2 : k2 < 2) (hne : k2 ≠ k) (h : PK M k2 B) (h1 : ∀ j, ¬ (426 * k ≤ j ∧ j < 426 * k + 426) → rA M2 350 j = rA M 350 j) (h2 : ∀ j, ¬ (60 * k ≤ j ∧ j < 60 * k + 60) → rL M2 351 j = rL M 351 j) : PK M2 k2 B := by
  obtain ⟨g1, g2, g3, g4, g5, g6⟩ := h
  refine ⟨fun s hs => ?_, fun s hs i hi => ?_, fun i hi => ?_, ?_, fun i hi => ?_, ?_⟩
  · rw [h1 _ (by omega)]; exact g1 s hs
  · rw [h1 _ (by omega)]; exact g2 s hs i hi
  · rw [h2 _ (by omega)]; exact g3 i hi
  · rw [h1 _ (by omega)]; exact g4
  · rw [h1 _ (by omega)]; exact g5 i hi
  · rw [h1 _ (by omega)]; exact g6
theorem go_image {S M : rn_T} (h : Inv S M) (a : Int32) : Go S M (f19 S a) (f106 M a) := by
  rcases ma_what a 1 (by omega) with ⟨h1, h2⟩ | ⟨k, hk, rfl, h1⟩
  · have h1 : f29 a.toInt64 (0 : Int64) (1 : Int64) = false := h1
    refine go_same (r := -2) h ?_ ?_
    · unfold f19
      by_cases c : a < 0
      · rw [if_pos c]
      · rw [if_neg c, if_neg]
        intro hx
        refine (h2.resolve_left c) ?_
        rw [Int32.lt_iff_toInt_lt] at hx
        rw [Int32.le_iff_toInt_le]
        have e2 : (2 : Int32).toInt = 2 := rfl
        have e1 : (nI 1).toInt = 1 := rfl
        omega
    · unfold f106
      rw [h1]; rfl
  · have h1 : f29 (nI k).toInt64 (0 : Int64) (1 : Int64) = true := h1
    have hk2 : k < 2 := by omega
    obtain ⟨A, p1, p2, ho, ⟨⟨B, fl, hB⟩, hb, h343⟩⟩ := h
    have hbk : 278 + 20 * k = 1 ∨ 278 + 20 * k = 278 ∨ 278 + 20 * k = 298 := by omega
    obtain ⟨S1, a1, a2, a3⟩ := cl_holding (b0 := 278 + 20 * k) (b1 := 1) hbk (.inl rfl) (by omega) (ps_ph.mp p1)
    obtain ⟨M1, c1, c2, c3, c4, c5, c6, c7, c8, c9, c10, c11, c12, c13, c14, c15, c16, c17, c18⟩ := rf_pass (M := wI M 318 42 (nI 1)) (k := k) (z := 1) hk2 (by omega) ra_I
    simp only [if_true] at c2 c3 c4 c5 c6 c7
    obtain ⟨m1, m2, m3, m4, m5, m6⟩ := p2
    have e2 : rI M1 318 2 = nI (aW A) := by rw [c2, ra_In (by omega)]; exact m6
    have e33 : rI M1 318 33 = nI (aK A) := by rw [c3, ra_In (by omega)]; exact m4
    have e319 : ∀ s, s < 8 → ∀ i, i < 40 → rA M1 319 (40 * s + i) = nI (aC A s i) := fun s hs i hi => by rw [c4 _ (by omega)]; exact m2 s hs i hi
    have e320 : ∀ s, s < 8 → rA M1 320 s = nI (aN A s) := fun s hs => by rw [c5 s hs]; exact m1 s hs
    have e346 : ∀ i, i < 96 → rA M1 346 i = nI (aM A i) := fun i hi => by rw [c6 i hi]; exact m5 i hi
    have e345 : ∀ i, i < 60 → rL M1 345 i = lN (aL A i) := fun i hi => by rw [c7 i hi]; exact m3 i hi
    refine ⟨1, wA S1 22 k (1 : Int32), wA M1 352 k (1 : Int32), ?_, ?_, A, ?_, ?_, ho, ⟨⟨fun k2 => if k2 = k then A else B k2, fun k2 => if k2 = k then 1 else fl k2, fun k2 hk3 => ?_⟩, ?_, ?_⟩⟩
    · unfold f19
      rw [if_neg (nI_pos (by omega)), if_pos (show nI k < (2 : Int32) from nI_lt (show k < 2 from hk2) (show 2 < 2 ^ 31 by omega)), if_neg (ob_F hk2 (by omega)), nI_clamp (by omega), a1]
      rfl
    · unfold f106
      rw [h1, if_pos rfl]
      show Option.bind (f105 (wI M 318 42 (nI 1)) (nI k)) _ = _
      rw [c1, Option.bind_some, if_neg (ob_F hk2 (by omega)), nI_clamp (by omega)]
    · refine ps_ph.mpr (ph_eq (ps_ph.mp p1) (eq_t (eq_m a2 (fun q hq => by omega)) (eq_A (by omega))))
    · exact ⟨fun s hs => by rw [ra_An (by omega)]; exact e320 s hs, fun s hs i hi => by rw [ra_An (by omega)]; exact e319 s hs i hi, e345, e33, fun i hi => by rw [ra_An (by omega)]; exact e346 i hi, e2⟩
    · obtain ⟨g1, g2, g3, g4⟩ := hB k2 hk3
      by_cases e : k2 = k
      · subst e
        simp only [if_true]
        refine ⟨by omega, ra_A, ra_A, fun _ => ⟨ph_eq a3 (eq_A (by omega)), ?_, ho⟩⟩
        refine ⟨fun s hs => ?_, fun s hs i hi => ?_, fun i hi => ?_, ?_, fun i hi => ?_, ?_⟩
        · rw [ra_An (by omega), c11 s hs]; exact e320 s hs
        · rw [ra_An (by omega), c10 _ (by omega)]; exact e319 s hs i hi
        · show rL M1 351 _ = _
          rw [c13 i hi]; exact e345 i hi
        · rw [ra_An (by omega), c9]; exact e33
        · rw [ra_An (by omega), c12 i hi]; exact e346 i hi
        · rw [ra_An (by omega), c8]; exact e2
      · simp only [if_neg e]
        rw [ra_An (by omega), ra_An (by omega)]
        refine ⟨g1, ?_, ?_, fun hf => ?_⟩
        · rw [(a2 22 (by omega)).2.1]; exact g2
        · rw [c16 352 (by omega) (by omega) (by omega) (by omega)]; exact g3
        · obtain ⟨w1, w2, w3⟩ := g4 hf
          refine ⟨ph_eq w1 (eq_t (eq_m a2 (fun q hq => by omega)) (eq_A (by omega))), ?_, w3⟩
          have hw : PK M1 k2 (B k2) := pk_other hk2 hk3 e w2 c14 c15
          obtain ⟨y1, y2, y3, y4, y5, y6⟩ := hw
          exact ⟨fun s hs => by rw [ra_An (by omega)]; exact y1 s hs, fun s hs i hi => by rw [ra_An (by omega)]; exact y2 s hs i hi, y3, by rw [ra_An (by omega)]; exact y4, fun i hi => by rw [ra_An (by omega)]; exact y5 i hi, by rw [ra_An (by omega)]; exact y6⟩
    · show rI S1 76 15 = _
      rw [(a2 76 (by omega)).1]; exact hb
    · rw [ra_An (by omega), c16 343 (by omega) (by omega) (by omega) (by omega)]; exact h343
theorem go_restore {S M : rn_T} (h : Inv S M) (a : Int32) : Go S M (f20 S a) (f107 M a) := by
  rcases ma_what a 1 (by omega) with ⟨h1, h2⟩ | ⟨k, hk, rfl, h1⟩
  · have h1 : f29 a.toInt64 (0 : Int64) (1 : Int64) = false := h1
    refine go_same (r := -2) h ?_ ?_
    · unfold f20
      by_cases c : a < 0
      · rw [if_pos c]
      · rw [if_neg c, if_neg]
        intro hx
        refine (h2.resolve_left c) ?_
        rw [Int32.lt_iff_toInt_lt] at hx
        rw [Int32.le_iff_toInt_le]
        have e2 : (2 : Int32).toInt = 2 := rfl
        have e1 : (nI 1).toInt = 1 := rfl
        omega
    · unfold f107
      rw [h1]; rfl
  · have h1 : f29 (nI k).toInt64 (0 : Int64) (1 : Int64) = true := h1
    have hk2 : k < 2 := by omega
    obtain ⟨A, p1, p2, ho, ⟨⟨B, fl, hB⟩, hb, h343⟩⟩ := id h
    obtain ⟨g1, g2, g3, g4⟩ := hB k hk2
    have hS : f20 S (nI k) = if fl k = 0 then some ((-3 : Int32), S) else Option.bind (f113 S 1 (278 + 20 * k)) fun p5 => some ((1 : Int32), p5) := by
      unfold f20
      rw [if_neg (nI_pos (by omega)), if_pos (show nI k < (2 : Int32) from nI_lt (show k < 2 from hk2) (show 2 < 2 ^ 31 by omega)), if_neg (ob_F hk2 (by omega)), nI_clamp (by omega), g2]
      by_cases c : fl k = 0
      · rw [if_pos (show nI (fl k) = 0 by rw [c]; rfl), if_pos c]
      · rw [if_neg (show ¬ nI (fl k) = 0 from nI_ne0 (by omega) (by omega)), if_neg c]
    have hM : f107 M (nI k) = if fl k = 0 then some ((-3 : Int32), M) else Option.bind (f105 (wI M 318 42 (nI 0)) (nI k)) fun p5 => some ((1 : Int32), p5) := by
      unfold f107
      rw [h1, if_pos rfl, if_neg (ob_F hk2 (by omega)), nI_clamp (by omega), g3]
      by_cases c : fl k = 0
      · rw [if_pos (show nI (fl k) = 0 by rw [c]; rfl), if_pos c]
      · rw [if_neg (show ¬ nI (fl k) = 0 from nI_ne0 (by omega) (by omega)), if_neg c]
        rfl
    rw [hS, hM]
    by_cases c : fl k = 0
    · rw [if_pos c, if_pos c]
      exact ⟨-3, S, M, rfl, rfl, h⟩
    · rw [if_neg c, if_neg c]
      obtain ⟨w1, w2, w3⟩ := g4 (by omega)
      have hbk : 278 + 20 * k = 1 ∨ 278 + 20 * k = 278 ∨ 278 + 20 * k = 298 := by omega
      obtain ⟨S1, a1, a2, a3⟩ := cl_holding (b0 := 1) (b1 := 278 + 20 * k) (.inl rfl) hbk (by omega) w1
      obtain ⟨M1, c1, c2, c3, c4, c5, c6, c7, c8, c9, c10, c11, c12, c13, c14, c15, c16, c17, c18⟩ := rf_pass (M := wI M 318 42 (nI 0)) (k := k) (z := 0) hk2 (by omega) ra_I
      have z01 : ¬ (0 : Nat) = 1 := by omega
      simp only [if_neg z01] at c2 c3 c4 c5 c6 c7
      obtain ⟨m1, m2, m3, m4, m5, m6⟩ := id w2
      have e2 : rI M1 318 2 = nI (aW (B k)) := by rw [c2]; exact m6
      have e33 : rI M1 318 33 = nI (aK (B k)) := by rw [c3]; exact m4
      have e319 : ∀ s, s < 8 → ∀ i, i < 40 → rA M1 319 (40 * s + i) = nI (aC (B k) s i) := fun s hs i hi => by rw [c4 _ (by omega)]; exact m2 s hs i hi
      have e320 : ∀ s, s < 8 → rA M1 320 s = nI (aN (B k) s) := fun s hs => by rw [c5 s hs]; exact m1 s hs
      have e346 : ∀ i, i < 96 → rA M1 346 i = nI (aM (B k) i) := fun i hi => by rw [c6 i hi]; exact m5 i hi
      have e345 : ∀ i, i < 60 → rL M1 345 i = lN (aL (B k) i) := fun i hi => by rw [c7 i hi]; exact m3 i hi
      refine ⟨1, S1, M1, by rw [a1]; rfl, by rw [c1]; rfl, B k, ps_ph.mpr a3, ⟨e320, e319, e345, e33, e346, e2⟩, w3, ⟨⟨B, fl, fun k2 hk3 => ?_⟩, ?_, ?_⟩⟩
      · obtain ⟨y1, y2, y3, y4⟩ := hB k2 hk3
        refine ⟨y1, ?_, ?_, fun hf => ?_⟩
        · rw [(a2 22 (by omega)).2.1]; exact y2
        · rw [c16 352 (by omega) (by omega) (by omega) (by omega)]; exact y3
        · obtain ⟨v1, v2, v3⟩ := y4 hf
          refine ⟨ph_eq v1 (eq_m a2 (fun q hq => by omega)), ?_, v3⟩
          by_cases e : k2 = k
          · subst e
            refine ⟨fun s hs => ?_, fun s hs i hi => ?_, fun i hi => ?_, ?_, fun i hi => ?_, ?_⟩
            · rw [c11 s hs]; exact e320 s hs
            · rw [c10 _ (by omega)]; exact e319 s hs i hi
            · rw [c13 i hi]; exact e345 i hi
            · rw [c9]; exact e33
            · rw [c12 i hi]; exact e346 i hi
            · rw [c8]; exact e2
          · exact pk_other hk2 hk3 e v2 c14 c15
      · rw [(a2 76 (by omega)).1]; exact hb
      · rw [c16 343 (by omega) (by omega) (by omega) (by omega)]; exact h343
theorem go_told {S M : rn_T} (h : Inv S M) (a : Int32) : ∃ r, f21 S a = some r ∧ f108 M a = some r := by
  obtain ⟨A, p1, p2, ho, -⟩ := h
  have e100 : (100 : Int64).toInt = 100 := rfl
  have e899 : (899 : Int64).toInt = 899 := rfl
  have e10 : (10 : Int64).toInt = 10 := rfl
  have e17 : (17 : Int64).toInt = 17 := rfl
  have e20 : (20 : Int64).toInt = 20 := rfl
  have e27 : (27 : Int64).toInt = 27 := rfl
  by_cases cn : a < 0
  · have ht : a.toInt < 0 := by
      rw [Int32.lt_iff_toInt_lt] at cn
      exact cn
    have d1 : f29 a.toInt64 (100 : Int64) (899 : Int64) = false := by rw [ma_in32, decide_eq_false_iff_not, e100, e899]; omega
    have d2 : f29 a.toInt64 (10 : Int64) (17 : Int64) = false := by rw [ma_in32, decide_eq_false_iff_not, e10, e17]; omega
    have d3 : f29 a.toInt64 (20 : Int64) (27 : Int64) = false := by rw [ma_in32, decide_eq_false_iff_not, e20, e27]; omega
    have n0 : ¬ a = 0 := fun hx => by rw [hx] at cn; exact absurd cn (by decide)
    have n1 : ¬ a = 1 := fun hx => by rw [hx] at cn; exact absurd cn (by decide)
    have l : ∀ k : Nat, k < 2 ^ 31 → a < nI k := fun k hk => by rw [Int32.lt_iff_toInt_lt, nI_toInt hk]; omega
    refine ⟨-2, ?_, ?_⟩
    · unfold f21 f21_J28 f21_J45
      rw [if_neg n0, if_neg n1, if_pos (show a < (10 : Int32) from l 10 (by omega)), if_pos (show a < (20 : Int32) from l 20 (by omega)), if_pos (show a < (100 : Int32) from l 100 (by omega))]
    · unfold f108
      rw [d1, d2, d3, if_neg n0, if_neg n1]; rfl
  · obtain ⟨n, hn, rfl⟩ := nI_of cn
    have d : ∀ lo hi : Int64, f29 (nI n).toInt64 lo hi = decide (lo.toInt ≤ (n : Int) ∧ (n : Int) ≤ hi.toInt) := fun lo hi => by rw [ma_in32, nI_toInt hn]
    have hlt : ∀ k : Nat, k < 2 ^ 31 → (nI n < nI k ↔ n < k) := fun k hk => nI_ltI hn hk
    have hle : ∀ k : Nat, k < 2 ^ 31 → (nI k ≤ nI n ↔ k ≤ n) := fun k hk => nI_leI hk hn
    have heq : ∀ k : Nat, k < 2 ^ 31 → (nI n = nI k ↔ n = k) := fun k hk => nI_eq hn hk
    unfold f108
    rw [d, d, d, e100, e899, e10, e17, e20, e27]
    unfold f21
    by_cases c0 : n = 0
    · subst c0
      refine ⟨nI (aW A), ?_, ?_⟩
      · rw [if_pos (show nI 0 = 0 from rfl)]; exact congrArg some p1.2.2.2.2.2
      · rw [if_neg (by decide), if_neg (by decide), if_neg (by decide), if_pos (show nI 0 = 0 from rfl)]; exact congrArg some p2.2.2.2.2.2
    · rw [if_neg (show ¬ nI n = 0 from fun hx => c0 ((heq 0 (by omega)).mp hx))]
      by_cases c1 : n = 1
      · subst c1
        refine ⟨nI (aK A), ?_, ?_⟩
        · rw [if_pos (show nI 1 = 1 from rfl)]; exact congrArg some p1.2.2.2.1
        · rw [if_neg (by decide), if_neg (by decide), if_neg (by decide), if_neg (show ¬ nI 1 = 0 by decide), if_pos (show nI 1 = 1 from rfl)]; exact congrArg some p2.2.2.2.1
      · rw [if_neg (show ¬ nI n = 1 from fun hx => c1 ((heq 1 (by omega)).mp hx)), if_neg (show ¬ nI n = 0 from fun hx => c0 ((heq 0 (by omega)).mp hx)), if_neg (show ¬ nI n = 1 from fun hx => c1 ((heq 1 (by omega)).mp hx))]
        by_cases r1 : 10 ≤ n ∧ n ≤ 17
        · have h8 : n - 10 < 8 := by omega
          have es : nI n - (10 : Int32) = nI (n - 10) := pk_sub (show 10 ≤ n from r1.1)
          refine ⟨nI (aN A (n - 10)), ?_, ?_⟩
          · rw [if_neg (show ¬ nI n < (10 : Int32) from fun hx => by have := (hlt 10 (by omega)).mp hx; omega), if_neg (show ¬ (18 : Int32) ≤ nI n from fun hx => by have := (hle 18 (by omega)).mp hx; omega), es, if_neg (ob_F h8 (by omega)), nI_clamp (by omega)]
            exact congrArg some (p1.1 _ h8)
          · rw [if_neg (by rw [decide_eq_true_iff]; omega), if_pos (by rw [decide_eq_true_iff]; omega), es, if_neg (ob_F h8 (by omega)), nI_clamp (by omega)]
            exact congrArg some (p2.1 _ h8)
        · have hJ28 : (if nI n < (10 : Int32) then f21_J28 S (nI n) else if (18 : Int32) ≤ nI n then f21_J28 S (nI n) else if rn_ob (nI n - (10 : Int32)) 8 then none else some (rI S (5 + 2 * (Int32.toNatClampNeg (nI n - (10 : Int32)))) 1)) = f21_J28 S (nI n) := by
            by_cases c : n < 10
            · rw [if_pos (show nI n < (10 : Int32) from (hlt 10 (by omega)).mpr c)]
            · rw [if_neg (show ¬ nI n < (10 : Int32) from fun hx => c ((hlt 10 (by omega)).mp hx)), if_pos (show (18 : Int32) ≤ nI n from (hle 18 (by omega)).mpr (by omega))]
          rw [hJ28]
          by_cases r2 : 20 ≤ n ∧ n ≤ 27
          · have h8 : n - 20 < 8 := by omega
            have es : nI n - (20 : Int32) = nI (n - 20) := pk_sub (show 20 ≤ n from r2.1)
            refine ⟨if aO A (n - 20) = true then 1 else 0, ?_, ?_⟩
            · unfold f21_J28
              rw [if_neg (show ¬ nI n < (20 : Int32) from fun hx => by have := (hlt 20 (by omega)).mp hx; omega), if_neg (show ¬ (28 : Int32) ≤ nI n from fun hx => by have := (hle 28 (by omega)).mp hx; omega), es, ma_f114 p1 ho h8, Option.bind_some]
              cases aO A (n - 20) <;> rfl
            · rw [if_neg (by rw [decide_eq_true_iff]; omega), if_neg (by rw [decide_eq_true_iff]; omega), if_pos (by rw [decide_eq_true_iff]; omega), es, ma_f36 p2 ho h8, Option.bind_some]
              cases aO A (n - 20) <;> rfl
          · have hJ45 : f21_J28 S (nI n) = f21_J45 S (nI n) := by
              unfold f21_J28
              by_cases c : n < 20
              · rw [if_pos (show nI n < (20 : Int32) from (hlt 20 (by omega)).mpr c)]
              · rw [if_neg (show ¬ nI n < (20 : Int32) from fun hx => c ((hlt 20 (by omega)).mp hx)), if_pos (show (28 : Int32) ≤ nI n from (hle 28 (by omega)).mpr (by omega))]
            rw [hJ45]
            unfold f21_J45
            by_cases r3 : 100 ≤ n ∧ n ≤ 899
            · have eq1 : nI n / (100 : Int32) - (1 : Int32) = nI (n / 100 - 1) := by
                rw [show (100 : Int32) = nI 100 from rfl, pk_div hn (by omega) (by omega), show (1 : Int32) = nI 1 from rfl, pk_sub (by omega)]
              have eq2 : nI n - nI n / (100 : Int32) * (100 : Int32) = nI (n % 100) := pk_rem hn (show 0 < 100 by omega) (show 100 < 2 ^ 31 by omega)
              have h8 : n / 100 - 1 < 8 := by omega
              have hN := ho.1 _ h8
              rw [if_neg (show ¬ nI n < (100 : Int32) from fun hx => by have := (hlt 100 (by omega)).mp hx; omega), if_pos (show nI n < (900 : Int32) from (hlt 900 (by omega)).mpr (by omega)), eq1, eq2, ma_f115 p1 ho h8 (by omega), Option.bind_some, if_pos (show decide ((100 : Int) ≤ n ∧ (n : Int) ≤ 899) = true by rw [decide_eq_true_iff]; omega), if_neg (ob_F h8 (by omega)), nI_clamp (by omega), p2.1 _ h8]
              by_cases cr : n % 100 < aN A (n / 100 - 1)
              · have hc1 := ho.2.1 _ h8 (n % 100) (by omega)
                have hc2 := ho.2.2.1 _ h8 (n % 100) cr
                rw [if_pos cr, if_neg (show ¬ nI (aC A (n / 100 - 1) (n % 100)) = 0 from nI_ne0 (by omega) (by omega)), if_neg (le_F (by omega) (by omega)), ma_f33 p2 h8 (by omega)]
                exact ⟨_, rfl, rfl⟩
              · rw [if_neg cr, if_pos (show nI 0 = 0 from rfl), if_pos (le_T (by omega) (by omega))]
                exact ⟨_, rfl, rfl⟩
            · refine ⟨-2, ?_, ?_⟩
              · by_cases c : n < 100
                · rw [if_pos (show nI n < (100 : Int32) from (hlt 100 (by omega)).mpr c)]
                · rw [if_neg (show ¬ nI n < (100 : Int32) from fun hx => c ((hlt 100 (by omega)).mp hx)), if_neg (show ¬ nI n < (900 : Int32) from fun hx => by have := (hlt 900 (by omega)).mp hx; omega)]
              · rw [if_neg (by rw [decide_eq_true_iff]; omega), if_neg (by rw [decide_eq_true_iff]; omega), if_neg (by rw [decide_eq_true_iff]; omega)]
