/-! 91: a value is written -/
theorem rf_at {M M0 S0 : rn_T} {T : rn_TR} {Y : rn_LY} (hf : FT T) (hl : LT S0 M0 T Y) (h1 : rA M 336 = rA M0 336) (h2 : rA M 324 = rA M0 324) {k : rn_T → Int32 → Option Int32} : ∀ (e fu acc : Nat), e < fu → e < tN T → f81_L4 fu M (nI acc) (nI e) k = k M (nI (acc + bB T Y e)) := by
  obtain ⟨hw, hN1, hN, hc⟩ := hf
  intro e
  induction e using Nat.strongRecOn with
  | _ e ih =>
    intro fu acc hf he2
    obtain ⟨G, rfl⟩ : ∃ G, fu = G + 1 := ⟨fu - 1, by omega⟩
    by_cases c : e = 0
    · subst c
      rw [f81_L4, if_pos (by decide), bB_0]; rfl
    · have hp := (hw.2.1 e (by omega) he2).1
      have h7 := hl.1.2.1.2.2.1 e (by omega) he2 (Nat.zero_le _)
      have hP := (hl.1.2.1.1.2 e he2).2.2.1
      rw [if_neg c] at hP
      rw [f81_L4, if_neg (show ¬ nI e ≤ 0 by simp (disch := omega) only [nI_lit, nI_add, pk_sub, pk_mul, ma_neg, nI_clamp, ma_ltT, ma_ltF, ma_leT, ma_leF, ma_eqT, ma_eqF, nI_ltI, nI_leI, nI_eq, ma_obT, ma_obF, ma_enF, ma_neF, ma_nlT, ma_lnF, ma_nLT, ma_Ln, ↓reduceIte, Option.bind_some, Option.bind_none, true_and, and_true, false_and, and_false, ne_eq, not_true_eq_false, not_false_eq_true, Bool.false_eq_true, reduceCtorEq, Nat.reduceAdd, Nat.reduceMul, Nat.reduceSub]), if_neg (ob_F (by omega) (by omega)), nI_clamp (by omega), h1, h2, h7, hP, nI_add, ih (tP T e) hp G _ (by omega) (by omega), bB_s hw (by omega) he2]
      congr 2
      omega
theorem rf_81 {M M0 S0 : rn_T} {T : rn_TR} {Y : rn_LY} {i : Nat} (hf : FT T) (hl : LT S0 M0 T Y) (h1 : rA M 336 = rA M0 336) (h2 : rA M 324 = rA M0 324) (hi : i < tN T) : f81 M (nI i) = some (nI (bB T Y i)) := by
  have hN := hf.2.2.1
  unfold f81
  have := rf_at (k := fun M3 w3_2 => some w3_2) hf hl h1 h2 i rn_FU 0 (by unfold rn_FU; omega) hi
  rw [Nat.zero_add] at this
  exact this
theorem rf_77 {M : rn_T} {i l K : Nat} {b u3 : Int32} {rc : rn_T → Int32 → Option rn_T} {k : rn_T → Option rn_T} (hi : i < 101) (hl : l < 2) (h347 : rA M 347 i = nI l) (m4 : rA M 322 i = nI K) (hK : K ≤ 6) (h : l = 0 ∨ K ≠ 6) : f92_J77_19 M b (nI i) u3 rc k = rc M (nI (i + 1)) := by
  unfold f92_J77_19
  rw [if_neg (ob_F hi (by omega)), nI_clamp (by omega), h347, m4, nI_p1]
  by_cases c : l = 0
  · rw [if_pos (show nI l = 0 by rw [c]; rfl)]
  · have : K ≠ 6 := by omega
    rw [if_neg (show ¬ nI l = 0 from nI_ne0 (by omega) (by omega)), if_neg (show ¬ nI K = (6 : Int32) by simp (disch := omega) only [nI_lit, nI_add, pk_sub, pk_mul, ma_neg, nI_clamp, ma_ltT, ma_ltF, ma_leT, ma_leF, ma_eqT, ma_eqF, nI_ltI, nI_leI, nI_eq, ma_obT, ma_obF, ma_enF, ma_neF, ma_nlT, ma_lnF, ma_nLT, ma_Ln, ↓reduceIte, Option.bind_some, Option.bind_none, true_and, and_true, false_and, and_false, ne_eq, not_true_eq_false, not_false_eq_true, Bool.false_eq_true, reduceCtorEq, Nat.reduceAdd, Nat.reduceMul, Nat.reduceSub])]
theorem rf_51 {M : rn_T} {i l K : Nat} {b u3 : Int32} {rc : rn_T → Int32 → Option rn_T} {k : rn_T → Option rn_T} (hi : i < 101) (hl : l < 2) (h347 : rA M 347 i = nI l) (m4 : rA M 322 i = nI K) (hK : K ≤ 6) (h : l = 0 ∨ K ≠ 6) : f92_J51_19 M b (nI i) u3 rc k = rc M (nI (i + 1)) := by
  unfold f92_J51_19
  rw [if_neg (ob_F hi (by omega)), nI_clamp (by omega), h347, m4, rf_77 hi hl h347 m4 hK h]
  by_cases c : l = 0
  · rw [if_pos (show nI l = 0 by rw [c]; rfl)]
  · have : K ≠ 6 := by omega
    rw [if_neg (show ¬ nI l = 0 from nI_ne0 (by omega) (by omega)), if_neg (show ¬ nI K = (6 : Int32) by simp (disch := omega) only [nI_lit, nI_add, pk_sub, pk_mul, ma_neg, nI_clamp, ma_ltT, ma_ltF, ma_leT, ma_leF, ma_eqT, ma_eqF, nI_ltI, nI_leI, nI_eq, ma_obT, ma_obF, ma_enF, ma_neF, ma_nlT, ma_lnF, ma_nLT, ma_Ln, ↓reduceIte, Option.bind_some, Option.bind_none, true_and, and_true, false_and, and_false, ne_eq, not_true_eq_false, not_false_eq_true, Bool.false_eq_true, reduceCtorEq, Nat.reduceAdd, Nat.reduceMul, Nat.reduceSub])]
/-- one that has no number, or is not there: the reference writes nothing -/
theorem rf_none {M M0 S0 : rn_T} {T : rn_TR} {Y : rn_LY} {i p lvi G : Nat} (hf : FT T) (hl : LT S0 M0 T Y) (hM : ∀ q, q ≠ 346 → q ≠ 347 → q ≠ 348 → rA M q = rA M0 q) (hI : rI M = rI M0) (hi : i < tN T) (hlv : lvi < 2) (h347 : rA M 347 i = nI lvi) (hn : ¬ (lvi = 1 ∧ hnb T i = true)) (g : rn_T → Option rn_T) : f92_L19 (nI p) (G + 1) M (nI i) g = f92_L19 (nI p) G M (nI (i + 1)) g := by
  have hN := hf.2.2.1
  have hK6 := (hf.1.1 i hi).1
  have e2 : rI M 318 10 = nI (tN T) := by rw [hI]; exact hl.1.2.1.1.1
  have m4 : rA M 322 i = nI (tK T i) := by rw [hM 322 (by omega) (by omega) (by omega)]; exact (hl.1.2.1.1.2 i hi).1
  have m5 : rA M 334 i = nI (Y i 5) := by rw [hM 334 (by omega) (by omega) (by omega)]; exact hl.1.2.1.2.1 i hi (Nat.zero_le _) 5 (by unfold fK; omega)
  have h81 := rf_81 hf hl (hM 336 (by omega) (by omega) (by omega)) (hM 324 (by omega) (by omega) (by omega)) hi
  rw [f92_L19, e2, if_neg (le_F (by omega) (by omega)), h81, Option.bind_some, if_neg (ob_F (by omega) (by omega)), nI_clamp (by omega), h347]
  have hJ0 : lvi = 0 → f92_J51_19 M (nI p) (nI i) (nI p + nI (bB T Y i)) (fun M v2 => f92_L19 (nI p) G M v2 g) g = f92_L19 (nI p) G M (nI (i + 1)) g := by
    intro h0
    exact rf_51 (by omega) hlv h347 m4 hK6 (.inl h0)
  have hJ1 : lvi = 1 → tK T i ≠ 6 → f92_J51_19 M (nI p) (nI i) (nI p + nI (bB T Y i)) (fun M v2 => f92_L19 (nI p) G M v2 g) g = f92_L19 (nI p) G M (nI (i + 1)) g := by
    intro h0 h6
    exact rf_51 (by omega) hlv h347 m4 hK6 (.inr h6)
  by_cases c : lvi = 0
  · rw [if_pos (by rw [c]; rfl), hJ0 c]
  · have h1 : lvi = 1 := by omega
    rw [if_neg (by rw [h1]; decide), m4]
    have hk : tK T i = 0 ∨ tK T i = 5 := by
      have : ¬ hnb T i = true := fun hh => hn ⟨h1, hh⟩
      unfold hnb at this
      rw [decide_eq_true_iff] at this
      omega
    by_cases c5 : tK T i = 5
    · rw [if_pos (show (5 : Int32) ≤ nI (tK T i) by rw [c5]; decide), hJ1 h1 (by omega)]
    · have c0 : tK T i = 0 := by omega
      have h5 := (hl.1.2.2.2.2.2 i hi (by omega)).1
      rw [c0] at h5
      have h5 : Y i 5 = 0 := h5
      have h91 : f91 M (nI p + nI (bB T Y i)) (rA M 334 i) (rL M 349 i) = some M := by
        unfold f91
        rw [m5, h5, show rn_FU = 4999 + 1 from rfl, f91_L2, if_pos (by decide)]
      rw [if_neg (show ¬ (5 : Int32) ≤ nI (tK T i) by rw [c0]; decide), h91, Option.bind_some, hJ1 h1 (by omega)]
theorem rf_rest {M M0 S0 : rn_T} {T : rn_TR} {Y : rn_LY} {p : Nat} {lv : Nat → Nat} (hf : FT T) (hl : LT S0 M0 T Y) (hM : ∀ q, q ≠ 346 → q ≠ 347 → q ≠ 348 → rA M q = rA M0 q) (hI : rI M = rI M0) (h347 : ∀ j, j < tN T → lv j < 2 ∧ rA M 347 j = nI (lv j)) (g : rn_T → Option rn_T) : ∀ d i fu, i + d = tN T → d < fu → (∀ j, i ≤ j → j < tN T → ¬ (lv j = 1 ∧ hnb T j = true)) → f92_L19 (nI p) fu M (nI i) g = g M := by
  have hN := hf.2.2.1
  intro d
  induction d with
  | zero =>
    intro i fu hi hfu hn
    obtain ⟨G, rfl⟩ : ∃ G, fu = G + 1 := ⟨fu - 1, by omega⟩
    have e2 : rI M 318 10 = nI (tN T) := by rw [hI]; exact hl.1.2.1.1.1
    rw [f92_L19, e2, if_pos (le_T (by omega) (by omega))]
  | succ d ih =>
    intro i fu hi hfu hn
    obtain ⟨G, rfl⟩ : ∃ G, fu = G + 1 := ⟨fu - 1, by omega⟩
    rw [rf_none hf hl hM hI (by omega) (h347 i (by omega)).1 (h347 i (by omega)).2 (hn i (Nat.le_refl i) (by omega)) g]
    exact ih (i + 1) G (by omega) (by omega) (fun j hj hj2 => hn j (by omega) hj2)
theorem ma_stL {S0 M0 S1 M1 : rn_T} {T : rn_TR} {Y : rn_LY} {lv ch vv : Nat → Nat} {p : Nat} (hf : FT T) (hl : LT S0 M0 T Y) (hS1 : eV S0 S1) (hM1 : eVM M0 M1) (hv : VR S1 M1 T lv ch vv (tN T)) (hp : p + Y 0 5 ≤ 96) : ∀ d i fu fu2 (S M : rn_T) (A : rn_AT), i + d = tN T → d < fu → d < fu2 → eY S1 S → eYM M1 M → PS S A → PM M A → OKA A → ∃ (S2 M2 : rn_T) (A2 : rn_AT), (∀ f, f146_L11 1 (nI p) fu S (nI (cn T lv i)) (nI i) f = f S2) ∧ (∀ g, f92_L19 (nI p) fu2 M (nI i) g = g M2) ∧ eY S1 S2 ∧ eYM M1 M2 ∧ PS S2 A2 ∧ PM M2 A2 ∧ OKA A2 := by
  obtain ⟨hw, hN1, hN, hc⟩ := id hf
  have hCn : cn T lv (tN T) ≤ 100 := by have := cn_le (T := T) (lv := lv) (i := tN T); omega
  intro d
  induction d with
  | zero =>
    intro i fu fu2 S M A hi hfu hfu2 hS hM h hm ho
    obtain ⟨G, rfl⟩ : ∃ G, fu = G + 1 := ⟨fu - 1, by omega⟩
    obtain ⟨G2, rfl⟩ : ∃ G, fu2 = G + 1 := ⟨fu2 - 1, by omega⟩
    have e1 : rI S 66 0 = nI (tN T) := by rw [hS.1, hS1.1 _ _ (by omega) (by omega)]; exact hl.1.1.1.1
    have e2 : rI M 318 10 = nI (tN T) := by rw [hM.1, hM1.1]; exact hl.1.2.1.1.1
    refine ⟨S, M, A, fun f => ?_, fun g => ?_, hS, hM, h, hm, ho⟩
    · rw [f146_L11, e1, if_pos (le_T (by omega) (by omega))]
    · rw [f92_L19, e2, if_pos (le_T (by omega) (by omega))]
  | succ d ih =>
    intro i fu fu2 S M A hi hfu hfu2 hS hM h hm ho
    obtain ⟨G, rfl⟩ : ∃ G, fu = G + 1 := ⟨fu - 1, by omega⟩
    obtain ⟨G2, rfl⟩ : ∃ G, fu2 = G + 1 := ⟨fu2 - 1, by omega⟩
    have hin : i < tN T := by omega
    have hK6 := (hw.1 i hin).1
    have hk3 := ma_kd3 (show i < 100 by omega)
    have hSI : ∀ q f, ¬ (76 ≤ q ∧ q < 276 ∧ (f = 16 ∨ f = 17)) → ¬ (q = 276 ∧ f = 1) → rI S q f = rI S0 q f := fun q f k1 k2 => by rw [hS.1]; exact hS1.1 q f k1 k2
    have hMA : ∀ q, q ≠ 346 → q ≠ 347 → q ≠ 348 → rA M q = rA M0 q := fun q k1 k2 k3 => by rw [hM.2.2 q k1]; exact hM1.2.1 q k2 k3
    have hMI : rI M = rI M0 := by rw [hM.1]; exact hM1.1
    have e1 : rI S 66 0 = nI (tN T) := by rw [hSI _ _ (by omega) (by omega)]; exact hl.1.1.1.1
    have e2 : rI M 318 10 = nI (tN T) := by rw [hMI]; exact hl.1.2.1.1.1
    have e276 : rI S 276 1 = nI (cn T lv (tN T)) := by rw [hS.1]; exact hv.1
    have h347 : ∀ j, j < tN T → lv j < 2 ∧ rA M 347 j = nI (lv j) := fun j hj => ⟨(hv.2.2 j hj).1, by rw [hM.2.2 347 (by omega)]; exact (hv.2.2 j hj).2.2.1⟩
    have s17 : rI S (76 + 2 * i) 17 = nI (lv i) := by rw [hS.1]; exact (hv.2.2 i hin).2.1
    have s4 : rI S (76 + 2 * i) 4 = nI (tK T i) := by rw [hSI _ _ (by omega) (by omega)]; exact (hl.1.1.1.2.1 i hin).2.1
    have h155 : f155 S (nI i) = some (76 + 2 * i) := by
      unfold f155
      rw [if_neg (ob_F (by omega) (by omega)), nI_clamp (by omega)]
    have h151 := ma_131 (show i < 100 by omega) hK6 s4
    have hci := cn_mono (T := T) (lv := lv) (show i ≤ tN T by omega)
    by_cases cE : cn T lv (tN T) ≤ cn T lv i
    · -- all numbers are written
      refine ⟨S, M, A, fun f => ?_, fun g => ?_, hS, hM, h, hm, ho⟩
      · rw [f146_L11, e1, if_neg (le_F (by omega) (by omega)), e276, if_pos (le_T cE (by omega))]
      · refine rf_rest hf hl hMA hMI h347 g (d + 1) i (G2 + 1) hi (by omega) (fun j hj hj2 hx => ?_)
        have k1 := cn_mono (T := T) (lv := lv) (show j + 1 ≤ tN T by omega)
        have k2 := cn_mono (T := T) (lv := lv) hj
        rw [cn, if_pos hx] at k1
        omega
    · have hgS : ∀ f, f146_L11 1 (nI p) (G + 1) S (nI (cn T lv i)) (nI i) f = if lv i = 0 then f146_L11 1 (nI p) G S (nI (cn T lv i)) (nI (i + 1)) f else if hnb T i = true then (if tK T i = 6 then Option.bind (f149 S (76 + 2 * i) 1 (nI p + rI S (76 + 2 * i) 15)) fun p13 => f146_L11 1 (nI p) G p13 (nI (cn T lv i + 1)) (nI (i + 1)) f else if rn_ob (nI (cn T lv i)) 100 then none else Option.bind (f116 S 1 (nI p + rI S (76 + 2 * i) 15) (rI S (76 + 2 * i) 5) (rL S 277 (Int32.toNatClampNeg (nI (cn T lv i))))) fun p15 => f146_L11 1 (nI p) G p15 (nI (cn T lv i + 1)) (nI (i + 1)) f) else f146_L11 1 (nI p) G S (nI (cn T lv i)) (nI (i + 1)) f := by
        intro f
        have hlv := (h347 i hin).1
        rw [f146_L11, e1, if_neg (le_F (by omega) (by omega)), e276, if_neg (le_F (by omega) (by omega)), h155, Option.bind_some, if_pos hk3, s17, h151, Option.bind_some, s4, nI_p1, nI_p1]
        by_cases c : lv i = 0
        · rw [if_pos (show nI (lv i) = 0 by rw [c]; rfl), if_pos c]
        · rw [if_neg (show ¬ nI (lv i) = 0 from nI_ne0 (by omega) (by omega)), if_neg c]
          by_cases c6 : tK T i = 6
          · rw [if_pos (show nI (tK T i) = (6 : Int32) by rw [c6]; rfl), if_pos c6]
          · rw [if_neg (show ¬ nI (tK T i) = (6 : Int32) by simp (disch := omega) only [nI_lit, nI_add, pk_sub, pk_mul, ma_neg, nI_clamp, ma_ltT, ma_ltF, ma_leT, ma_leF, ma_eqT, ma_eqF, nI_ltI, nI_leI, nI_eq, ma_obT, ma_obF, ma_enF, ma_neF, ma_nlT, ma_lnF, ma_nLT, ma_Ln, ↓reduceIte, Option.bind_some, Option.bind_none, true_and, and_true, false_and, and_false, ne_eq, not_true_eq_false, not_false_eq_true, Bool.false_eq_true, reduceCtorEq, Nat.reduceAdd, Nat.reduceMul, Nat.reduceSub]), if_neg c6]
      by_cases hn : ¬ (lv i = 1 ∧ hnb T i = true)
      · have hcn : cn T lv (i + 1) = cn T lv i := by rw [cn, if_neg hn]; rfl
        obtain ⟨S2, M2, A2, i1, i2, i3⟩ := ih (i + 1) G G2 S M A (by omega) (by omega) (by omega) hS hM h hm ho
        rw [hcn] at i1
        have hlv := (h347 i hin).1
        refine ⟨S2, M2, A2, fun f => ?_, fun g => ?_, i3⟩
        · rw [hgS]
          by_cases c : lv i = 0
          · rw [if_pos c]; exact i1 f
          · rw [if_neg c, if_neg (fun hh => hn ⟨by omega, hh⟩)]; exact i1 f
        · rw [rf_none hf hl hMA hMI hin (h347 i hin).1 (h347 i hin).2 hn g]; exact i2 g
      · have hnum : lv i = 1 ∧ hnb T i = true := by
          by_cases c1 : lv i = 1
          · by_cases c2 : hnb T i = true
            · exact ⟨c1, c2⟩
            · exact absurd (fun hh => c2 hh.2) hn
          · exact absurd (fun hh => c1 hh.1) hn
        obtain ⟨h1, hh⟩ := hnum
        have hcn : cn T lv (i + 1) = cn T lv i + 1 := by rw [cn, if_pos ⟨h1, hh⟩]
        obtain ⟨-, -, -, hx⟩ := hv.2.2 i hin
        obtain ⟨x1, x2⟩ := hx h1 hh
        have hlt : cn T lv i < cn T lv (tN T) := by omega
        obtain ⟨n1, n2⟩ := hv.2.1 (cn T lv i) hlt
        have s15 : rI S (76 + 2 * i) 15 = nI (bB T Y i) := by rw [hSI _ _ (by omega) (by omega)]; exact hl.2 i hin
        have s5 : rI S (76 + 2 * i) 5 = nI (Y i 5) := by rw [hSI _ _ (by omega) (by omega)]; exact hl.1.1.2.1 i hin (.inl (Nat.zero_le _)) 5 (by unfold fK; omega)
        have m4 : rA M 322 i = nI (tK T i) := by rw [hMA 322 (by omega) (by omega) (by omega)]; exact (hl.1.2.1.1.2 i hin).1
        have m5 : rA M 334 i = nI (Y i 5) := by rw [hMA 334 (by omega) (by omega) (by omega)]; exact hl.1.2.1.2.1 i hin (Nat.zero_le _) 5 (by unfold fK; omega)
        have h81 := rf_81 hf hl (hMA 336 (by omega) (by omega) (by omega)) (hMA 324 (by omega) (by omega) (by omega)) hin
        have hle := bB_le hw hl.1.2.2.2 (i + 1) i (by omega) hin
        have hgM : ∀ g, f92_L19 (nI p) (G2 + 1) M (nI i) g = if tK T i = 6 then f92_J51_19 M (nI p) (nI i) (nI (p + bB T Y i)) (fun M v2 => f92_L19 (nI p) G2 M v2 g) g else Option.bind (f91 M (nI (p + bB T Y i)) (nI (Y i 5)) (rL M 349 i)) fun p23 => f92_J51_19 p23 (nI p) (nI i) (nI (p + bB T Y i)) (fun M v2 => f92_L19 (nI p) G2 M v2 g) g := by
          intro g
          rw [f92_L19, e2, if_neg (le_F (by omega) (by omega)), h81, Option.bind_some, if_neg (ob_F (by omega) (by omega)), nI_clamp (by omega), (h347 i hin).2, if_neg (by rw [h1]; decide), m4, m5, nI_add]
          unfold hnb at hh
          rw [decide_eq_true_iff] at hh
          by_cases c6 : tK T i = 6
          · rw [if_pos (show (5 : Int32) ≤ nI (tK T i) by rw [c6]; decide), if_pos c6]
          · rw [if_neg (show ¬ (5 : Int32) ≤ nI (tK T i) from nI_ge (show tK T i < 5 by omega) (show 5 < 2 ^ 31 by omega)), if_neg c6]
        -- the two sides' step
        have hstep : ∃ (S5 M5 : rn_T) (A5 : rn_AT), (∀ f, f146_L11 1 (nI p) (G + 1) S (nI (cn T lv i)) (nI i) f = f146_L11 1 (nI p) G S5 (nI (cn T lv i + 1)) (nI (i + 1)) f) ∧ (∀ g, f92_L19 (nI p) (G2 + 1) M (nI i) g = f92_L19 (nI p) G2 M5 (nI (i + 1)) g) ∧ eY S S5 ∧ eYM M M5 ∧ PS S5 A5 ∧ PM M5 A5 ∧ OKA A5 := by
          by_cases c6 : tK T i = 6
          · obtain ⟨x3, x4, x5, x6⟩ := x2 c6
            obtain ⟨v1, v2, v3, v4, v5, v6, v7, v8, v9, v10⟩ := hl.1.2.2.1 i hin (Nat.zero_le _) c6
            have hC6 := (hw.1 i hin).2.2.2.2
            have s16 : rI S (76 + 2 * i) 16 = nI (ch i) := by rw [hS.1]; exact x3
            have s12 : rI S (76 + 2 * i) 12 = nI (Y i 12) := by rw [hSI _ _ (by omega) (by omega)]; exact v1
            have s13 : Y i 12 = 1 → rI S (76 + 2 * i) 13 = nI (Y i 13) := fun h12 => by rw [hSI _ _ (by omega) (by omega)]; exact v4 h12
            have m12 : rA M 341 i = nI (Y i 12) := by rw [hMA 341 (by omega) (by omega) (by omega)]; exact v2
            have m13 : rA M 342 i = nI (Y i 13) := by rw [hMA 342 (by omega) (by omega) (by omega)]; exact v3
            have m16 : rA M 348 i = nI (ch i) := by rw [hM.2.2 348 (by omega)]; exact x4
            have hsk : ∀ j, j < tC T i → rP S (76 + 2 * i + 1) j = some (76 + 2 * tE T i j) := fun j hj => by
              rw [hS.2.2.1, hS1.2.2.2.1]; exact sk_child hl.1.1.1 hw hin hj
            obtain ⟨q1, q2, q3, q4⟩ := hw.2.2 i (ch i) hin x5
            have hkc := ma_kd3 (show tE T i (ch i) < 100 by omega)
            have s14 : rI S (76 + 2 * tE T i (ch i)) 14 = mkI Y T i (ch i) := by rw [hSI _ _ (by omega) (by omega)]; exact v10 _ x5
            have hML : ML M T Y 0 := by
              obtain ⟨b1, b2, b3, b4⟩ := hl.1.2.1
              refine ⟨mb_eq b1 (by rw [hMI]) (fun q k1 k2 => hMA q (by omega) (by omega) (by omega)), fun j hj hx f hf => ?_, fun j k0 hj hx => ?_, ?_⟩
              · rw [hMA _ (by unfold fK at hf; omega) (by unfold fK at hf; omega) (by unfold fK at hf; omega)]; exact b2 j hj hx f hf
              · rw [hMA 336 (by omega) (by omega) (by omega)]; exact b3 j k0 hj hx
              · rw [hMA 336 (by omega) (by omega) (by omega)]; exact b4
            have hgS6 : ∀ f, f146_L11 1 (nI p) (G + 1) S (nI (cn T lv i)) (nI i) f = Option.bind (f149 S (76 + 2 * i) 1 (nI (p + bB T Y i))) fun p13 => f146_L11 1 (nI p) G p13 (nI (cn T lv i + 1)) (nI (i + 1)) f := by
              intro f
              rw [hgS, if_neg (by omega), if_pos hh, if_pos c6, s15, nI_add]
            have hJ77n : ∀ M5 g, eYM M M5 → (Y i 12 = 1 → ch i = Y i 13) → f92_J77_19 M5 (nI p) (nI i) (nI (p + bB T Y i)) (fun M v2 => f92_L19 (nI p) G2 M v2 g) g = f92_L19 (nI p) G2 M5 (nI (i + 1)) g := by
              intro M5 g h5 hch
              have a1 : rA M5 347 i = nI (lv i) := by rw [h5.2.2 347 (by omega)]; exact (h347 i hin).2
              have a2 : rA M5 322 i = nI (tK T i) := by rw [h5.2.2 322 (by omega)]; exact m4
              have a3 : rA M5 341 i = nI (Y i 12) := by rw [h5.2.2 341 (by omega)]; exact m12
              have a4 : rA M5 348 i = nI (ch i) := by rw [h5.2.2 348 (by omega)]; exact m16
              have a5 : rA M5 342 i = nI (Y i 13) := by rw [h5.2.2 342 (by omega)]; exact m13
              unfold f92_J77_19
              rw [if_neg (ob_F (by omega) (by omega)), nI_clamp (by omega), a1, if_neg (by rw [h1]; decide), a2, if_pos (by rw [c6]; rfl), a3, a4, a5, nI_p1]
              by_cases c1 : Y i 12 = 1
              · rw [if_pos (by rw [c1]; rfl), if_pos (by rw [hch c1])]
              · rw [if_neg (show ¬ nI (Y i 12) = (1 : Int32) by simp (disch := omega) only [nI_lit, nI_add, pk_sub, pk_mul, ma_neg, nI_clamp, ma_ltT, ma_ltF, ma_leT, ma_leF, ma_eqT, ma_eqF, nI_ltI, nI_leI, nI_eq, ma_obT, ma_obF, ma_enF, ma_neF, ma_nlT, ma_lnF, ma_nLT, ma_Ln, ↓reduceIte, Option.bind_some, Option.bind_none, true_and, and_true, false_and, and_false, ne_eq, not_true_eq_false, not_false_eq_true, Bool.false_eq_true, reduceCtorEq, Nat.reduceAdd, Nat.reduceMul, Nat.reduceSub])]
            have hJ51 : ∀ g, f92_J51_19 M (nI p) (nI i) (nI (p + bB T Y i)) (fun M v2 => f92_L19 (nI p) G2 M v2 g) g = if Y i 12 = 2 then Option.bind (f91 M (nI (p + bB T Y i)) (1 : Int32) (Int32.toInt64 (nI (ch i)))) fun p21 => f92_J77_19 p21 (nI p) (nI i) (nI (p + bB T Y i)) (fun M v2 => f92_L19 (nI p) G2 M v2 g) g else f92_J77_19 M (nI p) (nI i) (nI (p + bB T Y i)) (fun M v2 => f92_L19 (nI p) G2 M v2 g) g := by
              intro g
              unfold f92_J51_19
              rw [if_neg (ob_F (by omega) (by omega)), nI_clamp (by omega), (h347 i hin).2, if_neg (by rw [h1]; decide), m4, if_pos (by rw [c6]; rfl), m12, m16]
              by_cases c2 : Y i 12 = 2
              · rw [if_pos (by rw [c2]; rfl), if_pos c2]
              · rw [if_neg (show ¬ nI (Y i 12) = (2 : Int32) by simp (disch := omega) only [nI_lit, nI_add, pk_sub, pk_mul, ma_neg, nI_clamp, ma_ltT, ma_ltF, ma_leT, ma_leF, ma_eqT, ma_eqF, nI_ltI, nI_leI, nI_eq, ma_obT, ma_obF, ma_enF, ma_neF, ma_nlT, ma_lnF, ma_nLT, ma_Ln, ↓reduceIte, Option.bind_some, Option.bind_none, true_and, and_true, false_and, and_false, ne_eq, not_true_eq_false, not_false_eq_true, Bool.false_eq_true, reduceCtorEq, Nat.reduceAdd, Nat.reduceMul, Nat.reduceSub]), if_neg c2]
            have h149 : f149 S (76 + 2 * i) 1 (nI (p + bB T Y i)) = if (mkI Y T i (ch i)) = (-6 : Int32) then some S else if nI (Y i 12) = (2 : Int32) then Option.bind (f116 S 1 (nI (p + bB T Y i)) (1 : Int32) (Int32.toInt64 (mkI Y T i (ch i)))) fun p9 => some p9 else if rn_ob (rI S (76 + 2 * i) 13) 6 then none else rn_om (rP S (76 + 2 * i + 1) (Int32.toNatClampNeg (rI S (76 + 2 * i) 13))) (none) fun r11 => if rn_kd r11 = 3 then if rn_kd 1 = 1 then Option.bind (f116 S 1 (nI (p + bB T Y i) + (rI S r11 8)) (rI S r11 9) (Int32.toInt64 (mkI Y T i (ch i)))) fun p15 => some p15 else none else none := by
              unfold f149
              rw [if_pos hk3, s16, if_neg (ob_F (by omega) (by omega)), nI_clamp (by omega), rn_om_s (hsk _ x5), if_pos hkc, s14, s12]
              rfl
            by_cases c2 : Y i 12 = 2
            · have hmk : mkI Y T i (ch i) = nI (ch i) := by unfold mkI; rw [if_neg (by omega), if_pos c2]
              have hY1 := v9 c2
              obtain ⟨S5, M5, A5, k1, k2, k3, k4, k5, k6, k7⟩ := ma_put (p := p + bB T Y i) (w := 1) (n := ch i) h hm ho (by omega) (by omega) (by omega)
              refine ⟨S5, M5, A5, fun f => ?_, fun g => ?_, k6, k7, k3, k4, k5⟩
              · have k1 : f116 S 1 (nI (p + bB T Y i)) (1 : Int32) (lN (ch i)) = some S5 := k1
                rw [hgS6, h149, hmk, if_neg (show ¬ nI (ch i) = (-6 : Int32) by simp (disch := omega) only [nI_lit, nI_add, pk_sub, pk_mul, ma_neg, nI_clamp, ma_ltT, ma_ltF, ma_leT, ma_leF, ma_eqT, ma_eqF, nI_ltI, nI_leI, nI_eq, ma_obT, ma_obF, ma_enF, ma_neF, ma_nlT, ma_lnF, ma_nLT, ma_Ln, ↓reduceIte, Option.bind_some, Option.bind_none, true_and, and_true, false_and, and_false, ne_eq, not_true_eq_false, not_false_eq_true, Bool.false_eq_true, reduceCtorEq, Nat.reduceAdd, Nat.reduceMul, Nat.reduceSub]), if_pos (by rw [c2]; rfl), nI_l (by omega), k1]
                rfl
              · have k2 : f91 M (nI (p + bB T Y i)) (1 : Int32) (lN (ch i)) = some M5 := k2
                rw [hgM, if_pos c6, hJ51, if_pos c2, nI_l (by omega), k2, Option.bind_some, hJ77n M5 g k7 (fun hx => by omega)]
            · by_cases cm : Y i 12 = 1 → ch i = Y i 13
              · have hmk : mkI Y T i (ch i) = -nI 6 := by
                  unfold mkI
                  by_cases c0 : Y i 12 = 0
                  · rw [if_pos c0]
                  · rw [if_neg c0, if_neg c2, if_pos (cm (by omega))]
                refine ⟨S, M, A, fun f => ?_, fun g => ?_, eY_r, eYM_r, h, hm, ho⟩
                · rw [hgS6, h149, hmk, if_pos (show -nI 6 = (-6 : Int32) from rfl)]; rfl
                · rw [hgM, if_pos c6, hJ51, if_neg c2, hJ77n M g eYM_r cm]
              · have c1 : Y i 12 = 1 := by
                  by_cases c1 : Y i 12 = 1
                  · exact c1
                  · exact absurd (fun hx => absurd hx c1) cm
                have cne : ch i ≠ Y i 13 := fun hx => cm (fun _ => hx)
                obtain ⟨r1, r2, r3, r4⟩ := hw.2.2 i (Y i 13) hin v5
                obtain ⟨w1, w2⟩ := v8 c1
                have hkh := ma_kd3 (show tE T i (Y i 13) < 100 by omega)
                obtain ⟨cA, cm3, c5, c8, c9, cg, cF⟩ := hl.1.2.2.2.1 _ r2 (.inl (Nat.zero_le _))
                have hno1 : tC T i ≠ 1 := fun hx => by have := v7.mpr hx; omega
                have hgap : Y (tE T i (Y i 13)) 8 + Y (tE T i (Y i 13)) 9 ≤ Y (tE T i (Y i 13)) 5 := by omega
                have hoff := (hl.1.2.2.2.2.1 _ (by omega) r2 (Nat.zero_le _)).2.1
                rw [r3, w2] at hoff
                have hmk : mkI Y T i (ch i) = nI (mkh (Y (tE T i (Y i 13)) 10) (Y i 13) (ch i)) := by
                  unfold mkI
                  rw [if_neg (by omega), if_neg c2, if_neg cne]
                have hml := mkh_le (F := Y (tE T i (Y i 13)) 10) (h := Y i 13) (i := ch i)
                have s8 : rI S (76 + 2 * tE T i (Y i 13)) 8 = nI (Y (tE T i (Y i 13)) 8) := by rw [hSI _ _ (by omega) (by omega)]; exact hl.1.1.2.1 _ r2 (.inl (Nat.zero_le _)) 8 (by unfold fK; omega)
                have s9 : rI S (76 + 2 * tE T i (Y i 13)) 9 = nI (Y (tE T i (Y i 13)) 9) := by rw [hSI _ _ (by omega) (by omega)]; exact hl.1.1.2.1 _ r2 (.inl (Nat.zero_le _)) 9 (by unfold fK; omega)
                have m8 : rA M 337 (tE T i (Y i 13)) = _ := hML.2.1 _ r2 (Nat.zero_le _) 8 (by unfold fK; omega)
                have m9 : rA M 338 (tE T i (Y i 13)) = _ := hML.2.1 _ r2 (Nat.zero_le _) 9 (by unfold fK; omega)
                obtain ⟨S5, M5, A5, k1, k2, k3, k4, k5, k6, k7⟩ := ma_put (p := p + bB T Y i + Y (tE T i (Y i 13)) 8) (w := Y (tE T i (Y i 13)) 9) (n := mkh (Y (tE T i (Y i 13)) 10) (Y i 13) (ch i)) h hm ho (by omega) c9 (by omega)
                refine ⟨S5, M5, A5, fun f => ?_, fun g => ?_, k6, k7, k3, k4, k5⟩
                · rw [hgS6, h149, hmk, if_neg (show ¬ nI (mkh (Y (tE T i (Y i 13)) 10) (Y i 13) (ch i)) = (-6 : Int32) by simp (disch := omega) only [nI_lit, nI_add, pk_sub, pk_mul, ma_neg, nI_clamp, ma_ltT, ma_ltF, ma_leT, ma_leF, ma_eqT, ma_eqF, nI_ltI, nI_leI, nI_eq, ma_obT, ma_obF, ma_enF, ma_neF, ma_nlT, ma_lnF, ma_nLT, ma_Ln, ↓reduceIte, Option.bind_some, Option.bind_none, true_and, and_true, false_and, and_false, ne_eq, not_true_eq_false, not_false_eq_true, Bool.false_eq_true, reduceCtorEq, Nat.reduceAdd, Nat.reduceMul, Nat.reduceSub]), if_neg (show ¬ nI (Y i 12) = (2 : Int32) by rw [c1]; decide), s13 c1, if_neg (ob_F (by omega) (by omega)), nI_clamp (by omega), rn_om_s (hsk _ v5), if_pos hkh, if_pos (show rn_kd 1 = 1 from rfl), s8, s9, nI_add, nI_l (by omega), k1]
                  rfl
                · have h57 : f57 M (nI i) (nI (Y i 13)) = _ := ma_child hML.1 hw hin v5 hN
                  have h77 := rf_pat hw hin hN hML hl.1.2.2.2 v5 m13 x5
                  rw [hgM, if_pos c6, hJ51, if_neg c2]
                  unfold f92_J77_19
                  rw [if_neg (ob_F (by omega) (by omega)), nI_clamp (show i < 2 ^ 31 by omega), (h347 i hin).2, if_neg (by rw [h1]; decide), m4, if_pos (by rw [c6]; rfl), m12, if_pos (by rw [c1]; rfl), m16, m13, if_neg (show ¬ nI (ch i) = nI (Y i 13) by simp (disch := omega) only [nI_lit, nI_add, pk_sub, pk_mul, ma_neg, nI_clamp, ma_ltT, ma_ltF, ma_leT, ma_leF, ma_eqT, ma_eqF, nI_ltI, nI_leI, nI_eq, ma_obT, ma_obF, ma_enF, ma_neF, ma_nlT, ma_lnF, ma_nLT, ma_Ln, ↓reduceIte, Option.bind_some, Option.bind_none, true_and, and_true, false_and, and_false, ne_eq, not_true_eq_false, not_false_eq_true, Bool.false_eq_true, reduceCtorEq, Nat.reduceAdd, Nat.reduceMul, Nat.reduceSub]), h57, Option.bind_some, if_neg (ob_F (by omega) (by omega)), nI_clamp (show tE T i (Y i 13) < 2 ^ 31 by omega), h77, Option.bind_some, m8, m9, nI_add, nI_l (by omega), k2, Option.bind_some, nI_p1]
          · have hk4 : tK T i ≤ 4 := by
              unfold hnb at hh
              rw [decide_eq_true_iff] at hh
              omega
            have h5 := (hl.1.2.2.2.2.2 i hin hk4).1
            have hY4 : Y i 5 ≤ 4 := by
              rw [h5]
              unfold lS
              split
              · rcases (hw.1 i hin).2.2.1 (by assumption) with e | e | e <;> omega
              · split
                · omega
                · split <;> omega
            have qS : rL S 277 (cn T lv i) = lN (vv (cn T lv i)) := by rw [hS.2.2.2.1]; exact n1
            have qM : rL M 349 i = lN (vv (cn T lv i)) := by rw [hM.2.1]; exact x1
            obtain ⟨S5, M5, A5, k1, k2, k3, k4, k5, k6, k7⟩ := ma_put (p := p + bB T Y i) (w := Y i 5) (n := vv (cn T lv i)) h hm ho (by omega) hY4 (by omega)
            refine ⟨S5, M5, A5, fun f => ?_, fun g => ?_, k6, k7, k3, k4, k5⟩
            · rw [hgS, if_neg (by omega), if_pos hh, if_neg c6, if_neg (ob_F (by omega) (by omega)), nI_clamp (by omega), s15, s5, nI_add, qS, k1]
              rfl
            · have a1 : rA M5 347 i = nI (lv i) := by rw [k7.2.2 347 (by omega)]; exact (h347 i hin).2
              have a2 : rA M5 322 i = nI (tK T i) := by rw [k7.2.2 322 (by omega)]; exact m4
              rw [hgM, if_neg c6, qM, k2, Option.bind_some]
              exact rf_51 (by omega) (h347 i hin).1 a1 a2 hK6 (.inr c6)
        obtain ⟨S5, M5, A5, p1, p2, p3, p4, p5, p6, p7⟩ := hstep
        obtain ⟨S2, M2, A2, i1, i2, i3⟩ := ih (i + 1) G G2 S5 M5 A5 (by omega) (by omega) (by omega) (eY_t hS p3) (eYM_t hM p4) p5 p6 p7
        rw [hcn] at i1
        exact ⟨S2, M2, A2, fun f => (p1 f).trans (i1 f), fun g => (p2 g).trans (i2 g), i3⟩
