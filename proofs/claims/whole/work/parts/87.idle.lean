/-! 87: idle -/
theorem rf_place {M M0 S0 : rn_T} {T : rn_TR} {Y : rn_LY} (hf : FT T) (hl : LT S0 M0 T Y) (he : ∀ q, q ≠ 344 → rA M q = rA M0 q) {k : rn_T → Int32 → Option Int32} : ∀ (e fu acc : Nat), e < fu → e < tN T → f81_L4 fu M (nI acc) (nI e) k = k M (nI (acc + bB T Y e)) := by
  obtain ⟨hw, hN1, hN, hc⟩ := hf
  intro e
  induction e using Nat.strongRecOn with
  | _ e ih =>
    intro fu acc hf he2
    obtain ⟨G, rfl⟩ : ∃ G, fu = G + 1 := ⟨fu - 1, by omega⟩
    by_cases c : e = 0
    · subst c
      rw [f81_L4, if_pos (by decide), bB_0]; rfl
    · have hp := (hw.2.1 e (by omega) he2).1
      have h7 := hl.1.2.1.2.2.1 e (by omega) he2 (Nat.zero_le _)
      have hP := (hl.1.2.1.1.2 e he2).2.2.1
      rw [if_neg c] at hP
      rw [f81_L4, if_neg (show ¬ nI e ≤ 0 by simp (disch := omega) only [nI_lit, nI_add, pk_sub, pk_mul, ma_neg, nI_clamp, ma_ltT, ma_ltF, ma_leT, ma_leF, ma_eqT, ma_eqF, nI_ltI, nI_leI, nI_eq, ma_obT, ma_obF, ma_enF, ma_neF, ma_nlT, ma_lnF, ma_nLT, ma_Ln, ↓reduceIte, Option.bind_some, Option.bind_none, true_and, and_true, false_and, and_false, ne_eq, not_true_eq_false, not_false_eq_true, Bool.false_eq_true, reduceCtorEq, Nat.reduceAdd, Nat.reduceMul, Nat.reduceSub]), if_neg (ob_F (by omega) (by omega)), nI_clamp (by omega), he 336 (by omega), he 324 (by omega), h7, hP, nI_add, ih (tP T e) hp G _ (by omega) (by omega), bB_s hw (by omega) he2]
      congr 2
      omega
theorem cl_clear {f : rn_T → Option (Int32 × rn_T)} : ∀ d i fu (S : rn_T), i + d = 64 → d < fu → (∀ e, e < i → rA S 68 e = nI 0) → ∃ S2, f163_L2 fu S (nI i) f = f S2 ∧ (∀ e, e < 64 → rA S2 68 e = nI 0) ∧ rI S2 = rI S ∧ rR S2 = rR S ∧ rP S2 = rP S ∧ rL S2 = rL S ∧ ∀ q, q ≠ 68 → rA S2 q = rA S q := by
  intro d
  induction d with
  | zero =>
    intro i fu S hi hf h
    obtain ⟨G, rfl⟩ : ∃ G, fu = G + 1 := ⟨fu - 1, by omega⟩
    have : i = 64 := by omega
    subst this
    refine ⟨S, ?_, h, rfl, rfl, rfl, rfl, fun _ _ => rfl⟩
    rw [f163_L2, if_pos (by decide)]
  | succ d ih =>
    intro i fu S hi hf h
    obtain ⟨G, rfl⟩ : ∃ G, fu = G + 1 := ⟨fu - 1, by omega⟩
    obtain ⟨S2, i1, i2, i3, i4, i5, i6, i7⟩ := ih (i + 1) G (wA S 68 i (nI 0)) (by omega) (by omega) (fun e he => by
      by_cases c : e = i
      · subst c; exact ra_A
      · rw [ra_An (by omega)]; exact h e (by omega))
    refine ⟨S2, ?_, i2, i3, i4, i5, i6, fun q hq => by rw [i7 q hq, ra_Af hq]⟩
    rw [f163_L2, if_neg (show ¬ (64 : Int32) ≤ nI i by simp (disch := omega) only [nI_lit, nI_add, pk_sub, pk_mul, ma_neg, nI_clamp, ma_ltT, ma_ltF, ma_leT, ma_leF, ma_eqT, ma_eqF, nI_ltI, nI_leI, nI_eq, ma_obT, ma_obF, ma_enF, ma_neF, ma_nlT, ma_lnF, ma_nLT, ma_Ln, ↓reduceIte, Option.bind_some, Option.bind_none, true_and, and_true, false_and, and_false, ne_eq, not_true_eq_false, not_false_eq_true, Bool.false_eq_true, reduceCtorEq, Nat.reduceAdd, Nat.reduceMul, Nat.reduceSub]), if_neg (ob_F (by omega) (by omega)), nI_clamp (by omega), nI_p1]
    exact i1
theorem rf_clear {f : rn_T → Option (Int32 × rn_T)} : ∀ d i fu (M : rn_T), i + d = 64 → d < fu → (∀ e, e < i → rA M 344 e = nI 0) → ∃ M2, f83_L19 fu M (nI i) f = f M2 ∧ (∀ e, e < 64 → rA M2 344 e = nI 0) ∧ rI M2 = rI M ∧ rL M2 = rL M ∧ ∀ q, q ≠ 344 → rA M2 q = rA M q := by
  intro d
  induction d with
  | zero =>
    intro i fu S hi hf h
    obtain ⟨G, rfl⟩ : ∃ G, fu = G + 1 := ⟨fu - 1, by omega⟩
    have : i = 64 := by omega
    subst this
    refine ⟨S, ?_, h, rfl, rfl, fun _ _ => rfl⟩
    rw [f83_L19, if_pos (by decide)]
  | succ d ih =>
    intro i fu S hi hf h
    obtain ⟨G, rfl⟩ : ∃ G, fu = G + 1 := ⟨fu - 1, by omega⟩
    obtain ⟨S2, i1, i2, i3, i6, i7⟩ := ih (i + 1) G (wA S 344 i (nI 0)) (by omega) (by omega) (fun e he => by
      by_cases c : e = i
      · subst c; exact ra_A
      · rw [ra_An (by omega)]; exact h e (by omega))
    refine ⟨S2, ?_, i2, i3, i6, fun q hq => by rw [i7 q hq, ra_Af hq]⟩
    rw [f83_L19, if_neg (show ¬ (64 : Int32) ≤ nI i by simp (disch := omega) only [nI_lit, nI_add, pk_sub, pk_mul, ma_neg, nI_clamp, ma_ltT, ma_ltF, ma_leT, ma_leF, ma_eqT, ma_eqF, nI_ltI, nI_leI, nI_eq, ma_obT, ma_obF, ma_enF, ma_neF, ma_nlT, ma_lnF, ma_nLT, ma_Ln, ↓reduceIte, Option.bind_some, Option.bind_none, true_and, and_true, false_and, and_false, ne_eq, not_true_eq_false, not_false_eq_true, Bool.false_eq_true, reduceCtorEq, Nat.reduceAdd, Nat.reduceMul, Nat.reduceSub]), if_neg (ob_F (by omega) (by omega)), nI_clamp (by omega), nI_p1]
    exact i1
def eU (S S2 : rn_T) : Prop := rI S2 = rI S ∧ rR S2 = rR S ∧ rP S2 = rP S ∧ rL S2 = rL S ∧ ∀ q, q ≠ 68 → rA S2 q = rA S q
def eUM (M M2 : rn_T) : Prop := rI M2 = rI M ∧ rL M2 = rL M ∧ ∀ q, q ≠ 344 → rA M2 q = rA M q
theorem cl_use {b w : Nat} {S0 : rn_T} (hb : b + w ≤ 64) {f : rn_T → Option rn_T} : ∀ d i fu (S : rn_T), i + d = w → d < fu → ∃ S2, f164_L2 (nI b) (nI w) fu S (nI (b + i)) f = f S2 ∧ eU S S2 ∧ ∀ e, rA S2 68 e = if b + i ≤ e ∧ e < b + w then nI 1 else rA S 68 e := by
  intro d
  induction d with
  | zero =>
    intro i fu S hi hf
    obtain ⟨G, rfl⟩ : ∃ G, fu = G + 1 := ⟨fu - 1, by omega⟩
    refine ⟨S, ?_, ⟨rfl, rfl, rfl, rfl, fun _ _ => rfl⟩, fun e => by rw [if_neg (by omega)]⟩
    rw [f164_L2, nI_add, if_pos (le_T (by omega) (by omega))]
  | succ d ih =>
    intro i fu S hi hf
    obtain ⟨G, rfl⟩ : ∃ G, fu = G + 1 := ⟨fu - 1, by omega⟩
    obtain ⟨S2, i1, ⟨i2, i3, i4, i5, i6⟩, i7⟩ := ih (i + 1) G (wA S 68 (b + i) (nI 1)) (by omega) (by omega)
    refine ⟨S2, ?_, ⟨i2, i3, i4, i5, fun q hq => by rw [i6 q hq, ra_Af hq]⟩, fun e => ?_⟩
    · rw [f164_L2, nI_add, if_neg (le_F (by omega) (by omega)), if_neg (nI_pos (by omega)), if_neg (show ¬ (64 : Int32) ≤ nI (b + i) by simp (disch := omega) only [nI_lit, nI_add, pk_sub, pk_mul, ma_neg, nI_clamp, ma_ltT, ma_ltF, ma_leT, ma_leF, ma_eqT, ma_eqF, nI_ltI, nI_leI, nI_eq, ma_obT, ma_obF, ma_enF, ma_neF, ma_nlT, ma_lnF, ma_nLT, ma_Ln, ↓reduceIte, Option.bind_some, Option.bind_none, true_and, and_true, false_and, and_false, ne_eq, not_true_eq_false, not_false_eq_true, Bool.false_eq_true, reduceCtorEq, Nat.reduceAdd, Nat.reduceMul, Nat.reduceSub]), if_neg (ob_F (by omega) (by omega)), nI_clamp (by omega), nI_p1]
      exact i1
    · rw [i7 e]
      by_cases c : e = b + i
      · subst c
        rw [if_neg (by omega), if_pos (by omega), ra_A]
      · rw [ra_An (by omega)]
        by_cases c2 : b + (i + 1) ≤ e ∧ e < b + w
        · rw [if_pos c2, if_pos (by omega)]
        · rw [if_neg c2, if_neg (by omega)]
theorem rf_cover {M0 S0 : rn_T} {T : rn_TR} {Y : rn_LY} {k w : Nat} (hf : FT T) (hl : LT S0 M0 T Y) (hk : k < tN T) (hb : bB T Y k + w ≤ 64) {f : rn_T → Option rn_T} : ∀ d i fu (M : rn_T), i + d = w → d < fu → eUM M0 M → ∃ M2, f82_L29 (nI k) (nI w) fu M (nI i) f = f M2 ∧ eUM M0 M2 ∧ ∀ e, rA M2 344 e = if bB T Y k + i ≤ e ∧ e < bB T Y k + w then nI 1 else rA M 344 e := by
  have hN := hf.2.2.1
  intro d
  induction d with
  | zero =>
    intro i fu M hi hf2 hu
    obtain ⟨G, rfl⟩ : ∃ G, fu = G + 1 := ⟨fu - 1, by omega⟩
    refine ⟨M, ?_, hu, fun e => by rw [if_neg (by omega)]⟩
    rw [f82_L29, if_pos (le_T (by omega) (by omega))]
  | succ d ih =>
    intro i fu M hi hf2 hu
    obtain ⟨G, rfl⟩ : ∃ G, fu = G + 1 := ⟨fu - 1, by omega⟩
    have h81 : f81 M (nI k) = some (nI (bB T Y k)) := by
      unfold f81
      have := rf_place (k := fun M3 w3_2 => some w3_2) hf hl hu.2.2 k rn_FU 0 (by unfold rn_FU; omega) hk
      rw [Nat.zero_add] at this
      exact this
    obtain ⟨M2, i1, i2, i7⟩ := ih (i + 1) G (wA M 344 (bB T Y k + i) (nI 1)) (by omega) (by omega) ⟨hu.1, hu.2.1, fun q hq => by rw [ra_Af hq]; exact hu.2.2 q hq⟩
    refine ⟨M2, ?_, i2, fun e => ?_⟩
    · rw [f82_L29, if_neg (le_F (by omega) (by omega)), h81, Option.bind_some, nI_add, if_neg (ob_F (by omega) (by omega)), nI_clamp (by omega), nI_p1]
      exact i1
    · rw [i7 e]
      by_cases c : e = bB T Y k + i
      · subst c
        rw [if_neg (by omega), if_pos (by omega), ra_A]
      · rw [ra_An (by omega)]
        by_cases c2 : bB T Y k + (i + 1) ≤ e ∧ e < bB T Y k + w
        · rw [if_pos c2, if_pos (by omega)]
        · rw [if_neg c2, if_neg (by omega)]
/-- the bytes that k fills itself -/
def wd (T : rn_TR) (Y : rn_LY) (k : Nat) : Nat := if tK T k < 5 then Y k 5 else if tK T k = 6 ∧ Y k 12 = 2 then 1 else 0
theorem ma_idL {S0 M0 : rn_T} {T : rn_TR} {Y : rn_LY} {f : rn_T → Option (Int32 × rn_T)} {g : rn_T → Option (Int32 × rn_T)} (hf : FT T) (hl : LT S0 M0 T Y) : ∀ d i fu fu2 (S M : rn_T), i + d = tN T → d < fu → d < fu2 → eU S0 S → eUM M0 M → (∀ e, rA S 68 e = rA M 344 e ∨ 64 ≤ e) → ∃ S2 M2, f163_L14 fu S (nI i) f = f S2 ∧ f83_L31 fu2 M (nI i) g = g M2 ∧ eU S0 S2 ∧ eUM M0 M2 ∧ (∀ e, rA S2 68 e = rA M2 344 e ∨ 64 ≤ e) := by
  have hf0 := hf
  obtain ⟨hw, hN1, hN, hc⟩ := hf
  have hr5 := (hl.1.2.2.2.1 0 (by omega) (.inl (Nat.zero_le _))).2.2.1
  intro d
  induction d with
  | zero =>
    intro i fu fu2 S M hi hf hf2 hu hm h
    obtain ⟨G, rfl⟩ : ∃ G, fu = G + 1 := ⟨fu - 1, by omega⟩
    obtain ⟨G2, rfl⟩ : ∃ G, fu2 = G + 1 := ⟨fu2 - 1, by omega⟩
    have e1 : rI S 66 0 = nI (tN T) := by rw [hu.1]; exact hl.1.1.1.1
    have e2 : rI M 318 10 = nI (tN T) := by rw [hm.1]; exact hl.1.2.1.1.1
    refine ⟨S, M, ?_, ?_, hu, hm, h⟩
    · rw [f163_L14, e1, if_pos (le_T (by omega) (by omega))]
    · rw [f83_L31, e2, if_pos (le_T (by omega) (by omega))]
  | succ d ih =>
    intro i fu fu2 S M hi hf hf2 hu hm h
    obtain ⟨G, rfl⟩ : ∃ G, fu = G + 1 := ⟨fu - 1, by omega⟩
    obtain ⟨G2, rfl⟩ : ∃ G, fu2 = G + 1 := ⟨fu2 - 1, by omega⟩
    have hin : i < tN T := by omega
    have e1 : rI S 66 0 = nI (tN T) := by rw [hu.1]; exact hl.1.1.1.1
    have e2 : rI M 318 10 = nI (tN T) := by rw [hm.1]; exact hl.1.2.1.1.1
    have hK6 := (hw.1 i hin).1
    have s4 : rI S (76 + 2 * i) 4 = nI (tK T i) := by rw [hu.1]; exact (hl.1.1.1.2.1 i hin).2.1
    have s5 : rI S (76 + 2 * i) 5 = nI (Y i 5) := by rw [hu.1]; exact hl.1.1.2.1 i hin (.inl (Nat.zero_le _)) 5 (.inl rfl)
    have s15 : rI S (76 + 2 * i) 15 = nI (bB T Y i) := by rw [hu.1]; exact hl.2 i hin
    have m4 : rA M 322 i = nI (tK T i) := by rw [hm.2.2 322 (by omega)]; exact (hl.1.2.1.1.2 i hin).1
    have m5 : rA M 334 i = nI (Y i 5) := by rw [hm.2.2 334 (by omega)]; exact hl.1.2.1.2.1 i hin (Nat.zero_le _) 5 (.inl rfl)
    have hle := bB_le hw hl.1.2.2.2 (i + 1) i (by omega) hin
    have hk3 := ma_kd3 (show i < 100 by omega)
    have hv : tK T i = 6 → LV S0 M0 T Y i := hl.1.2.2.1 i hin (Nat.zero_le _)
    have hwd : bB T Y i + wd T Y i ≤ 64 := by
      unfold wd
      split
      · omega
      · split
        · rename_i hh
          have := (hv hh.1).2.2.2.2.2.2.2.2.1 hh.2
          omega
        · omega
    -- the class's use, when it fills some
    obtain ⟨S1, u1, u2, u3⟩ := cl_use (S0 := S) (f := fun S5 => some S5) hwd (wd T Y i) 0 rn_FU S (by omega) (by unfold rn_FU; omega)
    have h164 : f164 S (nI (bB T Y i)) (nI (wd T Y i)) = some S1 := u1
    have hu1 : eU S0 S1 := ⟨u2.1.trans hu.1, u2.2.1.trans hu.2.1, u2.2.2.1.trans hu.2.2.1, u2.2.2.2.1.trans hu.2.2.2.1, fun q hq => (u2.2.2.2.2 q hq).trans (hu.2.2.2.2 q hq)⟩
    obtain ⟨M1, v1, v2, v3⟩ := rf_cover (f := fun M8 => some M8) hf0 hl hin hwd (wd T Y i) 0 rn_FU M (by omega) (by unfold rn_FU; omega) hm
    have h82 : f82 M (nI i) = some M1 := by
      unfold f82 f82_J25 f82_J26
      rw [if_neg (ob_F (by omega) (by omega)), nI_clamp (by omega), m4, m5]
      unfold wd at v1
      by_cases c5 : tK T i < 5
      · rw [if_pos c5] at v1
        rw [if_neg (show ¬ (5 : Int32) ≤ nI (tK T i) by simp (disch := omega) only [nI_lit, nI_add, pk_sub, pk_mul, ma_neg, nI_clamp, ma_ltT, ma_ltF, ma_leT, ma_leF, ma_eqT, ma_eqF, nI_ltI, nI_leI, nI_eq, ma_obT, ma_obF, ma_enF, ma_neF, ma_nlT, ma_lnF, ma_nLT, ma_Ln, ↓reduceIte, Option.bind_some, Option.bind_none, true_and, and_true, false_and, and_false, ne_eq, not_true_eq_false, not_false_eq_true, Bool.false_eq_true, reduceCtorEq, Nat.reduceAdd, Nat.reduceMul, Nat.reduceSub])]
        exact v1
      · rw [if_neg c5] at v1
        rw [if_pos (show (5 : Int32) ≤ nI (tK T i) from nI_le (show 5 ≤ tK T i by omega) (by omega))]
        by_cases c6 : tK T i = 6
        · have m12 : rA M 341 i = nI (Y i 12) := by rw [hm.2.2 341 (by omega)]; exact (hv c6).2.1
          have h12 := (hv c6).2.2.2.2.2.1
          rw [if_pos (show nI (tK T i) = (6 : Int32) by rw [c6]; rfl), m12]
          by_cases c2 : Y i 12 = 2
          · rw [if_pos ⟨c6, c2⟩] at v1
            rw [if_pos (show nI (Y i 12) = (2 : Int32) by rw [c2]; rfl)]
            exact v1
          · rw [if_neg (fun hh => c2 hh.2)] at v1
            rw [if_neg (show ¬ nI (Y i 12) = (2 : Int32) by simp (disch := omega) only [nI_lit, nI_add, pk_sub, pk_mul, ma_neg, nI_clamp, ma_ltT, ma_ltF, ma_leT, ma_leF, ma_eqT, ma_eqF, nI_ltI, nI_leI, nI_eq, ma_obT, ma_obF, ma_enF, ma_neF, ma_nlT, ma_lnF, ma_nLT, ma_Ln, ↓reduceIte, Option.bind_some, Option.bind_none, true_and, and_true, false_and, and_false, ne_eq, not_true_eq_false, not_false_eq_true, Bool.false_eq_true, reduceCtorEq, Nat.reduceAdd, Nat.reduceMul, Nat.reduceSub])]
            exact v1
        · rw [if_neg (fun hh => c6 hh.1)] at v1
          rw [if_neg (show ¬ nI (tK T i) = (6 : Int32) by simp (disch := omega) only [nI_lit, nI_add, pk_sub, pk_mul, ma_neg, nI_clamp, ma_ltT, ma_ltF, ma_leT, ma_leF, ma_eqT, ma_eqF, nI_ltI, nI_leI, nI_eq, ma_obT, ma_obF, ma_enF, ma_neF, ma_nlT, ma_lnF, ma_nLT, ma_Ln, ↓reduceIte, Option.bind_some, Option.bind_none, true_and, and_true, false_and, and_false, ne_eq, not_true_eq_false, not_false_eq_true, Bool.false_eq_true, reduceCtorEq, Nat.reduceAdd, Nat.reduceMul, Nat.reduceSub])]
          exact v1
    have hcmp : ∀ e, rA S1 68 e = rA M1 344 e ∨ 64 ≤ e := by
      intro e
      rw [u3 e, v3 e]
      by_cases c : bB T Y i + 0 ≤ e ∧ e < bB T Y i + wd T Y i
      · rw [if_pos c, if_pos c]; exact .inl rfl
      · rw [if_neg c, if_neg c]; exact h e
    -- the class's step comes out at a state with the same bytes
    have hS : ∃ S3, eU S0 S3 ∧ (∀ e, rA S3 68 e = rA M1 344 e ∨ 64 ≤ e) ∧ f163_L14 (G + 1) S (nI i) f = f163_L14 G S3 (nI (i + 1)) f := by
      have hJn : ∀ S5, eU S0 S5 → tK T i ≠ 6 → f163_J32_14 S5 (nI i) (76 + 2 * i) (fun S v1 => f163_L14 G S v1 f) f = f163_L14 G S5 (nI (i + 1)) f := by
        intro S5 h5 h6
        unfold f163_J32_14
        have : rI S5 (76 + 2 * i) 4 = nI (tK T i) := by rw [h5.1]; exact (hl.1.1.1.2.1 i hin).2.1
        rw [this, if_neg (show ¬ nI (tK T i) = (6 : Int32) by simp (disch := omega) only [nI_lit, nI_add, pk_sub, pk_mul, ma_neg, nI_clamp, ma_ltT, ma_ltF, ma_leT, ma_leF, ma_eqT, ma_eqF, nI_ltI, nI_leI, nI_eq, ma_obT, ma_obF, ma_enF, ma_neF, ma_nlT, ma_lnF, ma_nLT, ma_Ln, ↓reduceIte, Option.bind_some, Option.bind_none, true_and, and_true, false_and, and_false, ne_eq, not_true_eq_false, not_false_eq_true, Bool.false_eq_true, reduceCtorEq, Nat.reduceAdd, Nat.reduceMul, Nat.reduceSub]), nI_p1]
      have h131 : f131 S (76 + 2 * i) = some (decide (1 ≤ tK T i ∧ tK T i ≤ 4)) := by
        unfold f131
        rw [if_pos hk3, s4]
        exact (by decide : ∀ k, k ≤ 6 → (if nI k = (1 : Int32) then some true else if nI k = (2 : Int32) then some true else if nI k = (3 : Int32) then some true else if nI k = (4 : Int32) then some true else some false) = some (decide (1 ≤ k ∧ k ≤ 4))) _ hK6
      have hgo : f163_L14 (G + 1) S (nI i) f = if decide (1 ≤ tK T i ∧ tK T i ≤ 4) = true then (Option.bind (f164 S (nI (bB T Y i)) (nI (Y i 5))) fun p11 => f163_J32_14 p11 (nI i) (76 + 2 * i) (fun S v1 => f163_L14 G S v1 f) f) else f163_J32_14 S (nI i) (76 + 2 * i) (fun S v1 => f163_L14 G S v1 f) f := by
        rw [f163_L14, e1, if_neg (le_F (by omega) (by omega)), if_neg (ob_F (by omega) (by omega)), nI_clamp (by omega), h131, Option.bind_some, s15, s5]
      by_cases c14 : 1 ≤ tK T i ∧ tK T i ≤ 4
      · have hwd5 : wd T Y i = Y i 5 := by unfold wd; rw [if_pos (by omega)]
        rw [hwd5] at h164
        refine ⟨S1, hu1, hcmp, ?_⟩
        rw [hgo, if_pos (decide_eq_true_iff.mpr c14), h164, Option.bind_some, hJn S1 hu1 (by omega)]
      · rw [if_neg (fun hh => c14 (of_decide_eq_true hh))] at hgo
        rw [hgo]
        by_cases c6 : tK T i = 6
        · have h12 := (hv c6).2.2.2.2.2.1
          have s12 : rI S (76 + 2 * i) 12 = nI (Y i 12) := by rw [hu.1]; exact (hv c6).1
          unfold f163_J32_14
          rw [s4, if_pos (show nI (tK T i) = (6 : Int32) by rw [c6]; rfl), s12, s15, nI_p1]
          by_cases c2 : Y i 12 = 2
          · have hwd1 : wd T Y i = 1 := by unfold wd; rw [if_neg (by omega), if_pos ⟨c6, c2⟩]
            rw [hwd1] at h164
            have h164 : f164 S (nI (bB T Y i)) (1 : Int32) = some S1 := h164
            refine ⟨S1, hu1, hcmp, ?_⟩
            rw [if_pos (show nI (Y i 12) = (2 : Int32) by rw [c2]; rfl), h164, Option.bind_some]
          · have hwd0 : wd T Y i = 0 := by unfold wd; rw [if_neg (by omega), if_neg (fun hh => c2 hh.2)]
            refine ⟨S, hu, fun e => ?_, by rw [if_neg (show ¬ nI (Y i 12) = (2 : Int32) by simp (disch := omega) only [nI_lit, nI_add, pk_sub, pk_mul, ma_neg, nI_clamp, ma_ltT, ma_ltF, ma_leT, ma_leF, ma_eqT, ma_eqF, nI_ltI, nI_leI, nI_eq, ma_obT, ma_obF, ma_enF, ma_neF, ma_nlT, ma_lnF, ma_nLT, ma_Ln, ↓reduceIte, Option.bind_some, Option.bind_none, true_and, and_true, false_and, and_false, ne_eq, not_true_eq_false, not_false_eq_true, Bool.false_eq_true, reduceCtorEq, Nat.reduceAdd, Nat.reduceMul, Nat.reduceSub])]⟩
            rw [v3 e, if_neg (by omega)]; exact h e
        · have hwd0 : wd T Y i = 0 := by
            unfold wd
            by_cases c0 : tK T i < 5
            · have c00 : tK T i = 0 := by omega
              have := (hl.1.2.2.2.2.2 i hin (by omega)).1
              rw [if_pos c0, this, c00]; rfl
            · rw [if_neg c0, if_neg (fun hh => c6 hh.1)]
          refine ⟨S, hu, fun e => ?_, hJn S hu c6⟩
          rw [v3 e, if_neg (by omega)]; exact h e
    obtain ⟨S3, w1, w2, w3⟩ := hS
    obtain ⟨S4, M4, i1, i2, i3, i4, i5⟩ := ih (i + 1) G G2 S3 M1 (by omega) (by omega) (by omega) w1 v2 w2
    refine ⟨S4, M4, ?_, ?_, i3, i4, i5⟩
    · rw [w3]; exact i1
    · rw [f83_L31, e2, if_neg (le_F (by omega) (by omega)), h82, Option.bind_some, nI_p1]
      exact i2
theorem ma_cntL {S M : rn_T} {z : Nat} {f g : rn_T → Int32 → Option (Int32 × rn_T)} (hz : z ≤ 64) (hS : rI S 76 5 = nI z) (hM : rA M 334 0 = nI z) (h : ∀ e, rA S 68 e = rA M 344 e ∨ 64 ≤ e) : ∀ d i c fu fu2, i + d = z → d < fu → d < fu2 → ∃ c2 : Nat, f163_L51 fu S (nI c) (nI i) f = f S (nI c2) ∧ f83_L44 fu2 M (nI c) (nI i) g = g M (nI c2) := by
  intro d
  induction d with
  | zero =>
    intro i c fu fu2 hi hf hf2
    obtain ⟨G, rfl⟩ : ∃ G, fu = G + 1 := ⟨fu - 1, by omega⟩
    obtain ⟨G2, rfl⟩ : ∃ G, fu2 = G + 1 := ⟨fu2 - 1, by omega⟩
    refine ⟨c, ?_, ?_⟩
    · rw [f163_L51, hS, if_pos (le_T (show z ≤ i by omega) (by omega)), ite_self]
    · rw [f83_L44, show Int32.toNatClampNeg (0 : Int32) = 0 from rfl, hM, if_pos (le_T (by omega) (by omega))]
  | succ d ih =>
    intro i c fu fu2 hi hf hf2
    obtain ⟨G, rfl⟩ : ∃ G, fu = G + 1 := ⟨fu - 1, by omega⟩
    obtain ⟨G2, rfl⟩ : ∃ G, fu2 = G + 1 := ⟨fu2 - 1, by omega⟩
    have he := (h i).resolve_right (by omega)
    have hgS : f163_L51 (G + 1) S (nI c) (nI i) f = if rA S 68 i = 0 then f163_L51 G S (nI (c + 1)) (nI (i + 1)) f else f163_L51 G S (nI c) (nI (i + 1)) f := by
      rw [f163_L51, if_neg (show ¬ (64 : Int32) ≤ nI i by simp (disch := omega) only [nI_lit, nI_add, pk_sub, pk_mul, ma_neg, nI_clamp, ma_ltT, ma_ltF, ma_leT, ma_leF, ma_eqT, ma_eqF, nI_ltI, nI_leI, nI_eq, ma_obT, ma_obF, ma_enF, ma_neF, ma_nlT, ma_lnF, ma_nLT, ma_Ln, ↓reduceIte, Option.bind_some, Option.bind_none, true_and, and_true, false_and, and_false, ne_eq, not_true_eq_false, not_false_eq_true, Bool.false_eq_true, reduceCtorEq, Nat.reduceAdd, Nat.reduceMul, Nat.reduceSub]), hS, if_neg (le_F (by omega) (by omega)), if_neg (ob_F (by omega) (by omega)), nI_clamp (by omega), nI_p1, nI_p1]
    have hgM : f83_L44 (G2 + 1) M (nI c) (nI i) g = if rA M 344 i = 0 then f83_L44 G2 M (nI (c + 1)) (nI (i + 1)) g else f83_L44 G2 M (nI c) (nI (i + 1)) g := by
      rw [f83_L44, show Int32.toNatClampNeg (0 : Int32) = 0 from rfl, hM, if_neg (le_F (by omega) (by omega)), if_neg (ob_F (by omega) (by omega)), nI_clamp (by omega), nI_p1, nI_p1, show nI c + (0 : Int32) = nI c by rw [nI_lit, nI_add]; rfl]
    by_cases c0 : rA M 344 i = 0
    · obtain ⟨c2, i1, i2⟩ := ih (i + 1) (c + 1) G G2 (by omega) (by omega) (by omega)
      exact ⟨c2, by rw [hgS, he, if_pos c0]; exact i1, by rw [hgM, if_pos c0]; exact i2⟩
    · obtain ⟨c2, i1, i2⟩ := ih (i + 1) c G G2 (by omega) (by omega) (by omega)
      exact ⟨c2, by rw [hgS, he, if_neg c0]; exact i1, by rw [hgM, if_neg c0]; exact i2⟩
theorem go_idle {S M : rn_T} (h : Inv S M) (x u : Int32) : Go S M (f10 S x u) (f83 M x u) := by
  refine go_tree h x u (f := fun S => Option.bind (f163 S) fun p5 => some (p5.1, p5.2)) (g := fun M => f83_L19 rn_FU M (0 : Int32) (fun M7 => f83_L31 rn_FU M7 (0 : Int32) (fun M10 => f83_L44 rn_FU M10 (0 : Int32) (0 : Int32) (fun M14 w14_4 => some (w14_4, M14))))) ?_
  intro A S2 M2 T Y p1 p2 ho p3 hf hl
  obtain ⟨S3, a1, a2, a3, a4, a5, a6, a7⟩ := cl_clear (f := fun S3 => f163_L14 rn_FU S3 (0 : Int32) (fun S12 => f163_L51 rn_FU S12 (0 : Int32) (0 : Int32) (fun S17 w17_1 => some (w17_1, S17)))) 64 0 rn_FU S2 (by omega) (by unfold rn_FU; omega) (fun e he => by omega)
  obtain ⟨M3, b1, b2, b3, b6, b7⟩ := rf_clear (f := fun M7 => f83_L31 rn_FU M7 (0 : Int32) (fun M10 => f83_L44 rn_FU M10 (0 : Int32) (0 : Int32) (fun M14 w14_4 => some (w14_4, M14)))) 64 0 rn_FU M2 (by omega) (by unfold rn_FU; omega) (fun e he => by omega)
  obtain ⟨S4, M4, c1, c2, c3, c4, c5⟩ := ma_idL (f := fun S12 => f163_L51 rn_FU S12 (0 : Int32) (0 : Int32) (fun S17 w17_1 => some (w17_1, S17))) (g := fun M10 => f83_L44 rn_FU M10 (0 : Int32) (0 : Int32) (fun M14 w14_4 => some (w14_4, M14))) hf hl (tN T) 0 rn_FU rn_FU S3 M3 (by omega) (by have := hf.2.2.1; unfold rn_FU; omega) (by have := hf.2.2.1; unfold rn_FU; omega) ⟨a3, a4, a5, a6, a7⟩ ⟨b3, b6, b7⟩ (fun e => by
    by_cases c : e < 64
    · exact .inl ((a2 e c).trans (b2 e c).symm)
    · exact .inr (by omega))
  have h0 : 0 < tN T := by have := hf.2.1; omega
  have hz := (hl.1.2.2.2.1 0 h0 (.inl (Nat.zero_le _))).2.2.1
  obtain ⟨r, -⟩ := lt_root hf hl
  obtain ⟨n, d1, d2⟩ := ma_cntL (S := S4) (M := M4) (z := Y 0 5) (f := fun S17 w17_1 => some (w17_1, S17)) (g := fun M14 w14_4 => some (w14_4, M14)) hz (by rw [c3.1]; exact (r 5 (.inl rfl)).1) (by rw [c4.2.2 334 (by omega)]; exact (r 5 (.inl rfl)).2) c5 (Y 0 5) 0 0 rn_FU rn_FU (by omega) (by unfold rn_FU; omega) (by unfold rn_FU; omega)
  have hSE : EqT (fun q => q < 66 ∨ 276 ≤ q) S2 S4 := fun q hq => ⟨by rw [c3.1], c3.2.2.2.2 q (by omega), by rw [c3.2.2.2.1]⟩
  have hME : eqM M2 M4 := ⟨fun q hq => ⟨by rw [c4.1], c4.2.2 q (by omega), by rw [c4.2.1]⟩, by rw [c4.1], by rw [c4.1]⟩
  obtain ⟨k1, k2, k3⟩ := keep3 p1 p2 p3 (eq_m hSE (fun q hq => by omega)) (by rw [c3.1]; exact p3.2.1) hME
  refine ⟨nI n, S4, M4, ?_, ?_, A, k1, k2, ho, k3⟩
  · have : f163 S2 = some (nI n, S4) := a1.trans (c1.trans d1)
    show Option.bind (f163 S2) _ = _
    rw [this]; rfl
  · exact b1.trans (c2.trans d2)
