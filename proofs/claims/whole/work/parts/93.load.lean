/-! 93: a value is read -/
/-- what lies of a variant at a place: a choice, or none -/
theorem ma_chosen {S0 M0 S M : rn_T} {A : rn_AT} {T : rn_TR} {Y : rn_LY} {i p : Nat} (hf : FT T) (hl : LT S0 M0 T Y) (hS : eV S0 S) (hM : eVM M0 M) (h : PS S A) (hm : PM M A) (ho : OKA A) (hi : i < tN T) (h6 : tK T i = 6) (hp : p + Y 0 5 ≤ 96) : ∃ (cv : Int32) (v : Nat), f148 S (76 + 2 * i) 1 (nI (p + bB T Y i)) = some cv ∧ f97 M (nI i) (nI p) = some (lN v) ∧ v ≤ 4294967295 ∧ ((v < tC T i ∧ cv = nI v) ∨ (tC T i ≤ v ∧ v < 256 ∧ cv = -nI 1)) := by
  obtain ⟨hw, hN1, hN, hc⟩ := id hf
  have hC6 := (hw.1 i hi).2.2.2.2
  have hk3 := ma_kd3 (show i < 100 by omega)
  have hc1 := hc i hi (by omega)
  have hle := bB_le hw hl.1.2.2.2 (i + 1) i (by omega) hi
  obtain ⟨v1, v2, v3, v4, v5, v6, v7, v8, v9, v10⟩ := hl.1.2.2.1 i hi (Nat.zero_le _) h6
  have s12 : rI S (76 + 2 * i) 12 = nI (Y i 12) := by rw [hS.1 _ _ (by omega) (by omega)]; exact v1
  have s1 : rI S (76 + 2 * i) 1 = nI (tC T i) := by rw [hS.1 _ _ (by omega) (by omega)]; exact (hl.1.1.1.2.1 i hi).1
  have m4 : rA M 322 i = nI (tK T i) := by rw [hM.2.1 322 (by omega) (by omega)]; exact (hl.1.2.1.1.2 i hi).1
  have m12 : rA M 341 i = nI (Y i 12) := by rw [hM.2.1 341 (by omega) (by omega)]; exact v2
  have m13 : rA M 342 i = nI (Y i 13) := by rw [hM.2.1 342 (by omega) (by omega)]; exact v3
  have m1 : rA M 326 i = nI (tC T i) := by rw [hM.2.1 326 (by omega) (by omega)]; exact (hl.1.2.1.1.2 i hi).2.2.2.2
  have h81 := rf_81 hf hl (hM.2.1 336 (by omega) (by omega)) (hM.2.1 324 (by omega) (by omega)) hi
  have hfM : f97 M (nI i) (nI p) = if Y i 12 = 0 then some (0 : Int64) else if Y i 12 = 2 then (if rn_ob (nI (p + bB T Y i)) 96 then none else some (Int32.toInt64 (rA M 346 (Int32.toNatClampNeg (nI (p + bB T Y i)))))) else f96 M (nI i) (nI (p + bB T Y i)) := by
    unfold f97
    rw [h81, Option.bind_some, if_neg (ob_F (by omega) (by omega)), nI_clamp (show i < 2 ^ 31 by omega), m4, if_pos (by rw [h6]; rfl), m12, nI_add]
    by_cases c0 : Y i 12 = 0
    · rw [if_pos (by rw [c0]; rfl), if_pos c0]
    · rw [if_neg (show ¬ nI (Y i 12) = 0 from nI_ne0 (by omega) (by omega)), if_neg c0]
      by_cases c2 : Y i 12 = 2
      · rw [if_pos (by rw [c2]; rfl), if_pos c2]
      · rw [if_neg (show ¬ nI (Y i 12) = 2 by simp (disch := omega) only [nI_lit, nI_add, pk_sub, pk_mul, ma_neg, nI_clamp, ma_ltT, ma_ltF, ma_leT, ma_leF, ma_eqT, ma_eqF, nI_ltI, nI_leI, nI_eq, ma_obT, ma_obF, ma_enF, ma_neF, ma_nlT, ma_lnF, ma_nLT, ma_Ln, ↓reduceIte, Option.bind_some, Option.bind_none, true_and, and_true, false_and, and_false, ne_eq, not_true_eq_false, not_false_eq_true, Bool.false_eq_true, reduceCtorEq, Nat.reduceAdd, Nat.reduceMul, Nat.reduceSub]), if_neg c2]
        cases f96 M (nI i) (nI (p + bB T Y i)) <;> rfl
  rw [hfM]
  unfold f148
  rw [if_pos hk3, s12]
  by_cases c0 : Y i 12 = 0
  · rw [if_pos (by rw [c0]; rfl), if_pos c0]
    exact ⟨0, 0, rfl, rfl, by omega, .inl ⟨by omega, rfl⟩⟩
  · rw [if_neg (show ¬ nI (Y i 12) = 0 from nI_ne0 (by omega) (by omega)), if_neg c0]
    by_cases c2 : Y i 12 = 2
    · have hY1 := v9 c2
      obtain ⟨n1, n2, n3⟩ := ma_num (a := p + bB T Y i) (w := 1) h hm ho (by omega) (by omega)
      have hnb : nb A (p + bB T Y i) 1 = aM A (p + bB T Y i) := by
        show 0 + aM A (p + bB T Y i + 0) * 2 ^ (8 * 0) = _
        simp
      have hb := ho.2.2.2.2.2.1 (p + bB T Y i) (by omega)
      have hmem : rA M 346 (p + bB T Y i) = nI (aM A (p + bB T Y i)) := hm.2.2.2.2.1 _ (by omega)
      rw [hnb] at n1
      have n1 : f117 S 1 (nI (p + bB T Y i)) (1 : Int32) = some (lN (aM A (p + bB T Y i))) := n1
      rw [if_pos (by rw [c2]; rfl), if_pos c2, if_pos (show rn_kd 1 = 1 from rfl), n1, Option.bind_some, lN_i, s1, if_neg (ob_F (by omega) (by omega)), nI_clamp (by omega), hmem, nI_l (by omega)]
      by_cases cc : tC T i ≤ aM A (p + bB T Y i)
      · rw [if_pos (le_T cc (by omega))]
        exact ⟨-1, _, rfl, rfl, by omega, .inr ⟨cc, hb, rfl⟩⟩
      · rw [if_neg (le_F (by omega) (by omega))]
        exact ⟨_, _, rfl, rfl, by omega, .inl ⟨by omega, rfl⟩⟩
    · have c1 : Y i 12 = 1 := by omega
      rw [if_neg (show ¬ nI (Y i 12) = (2 : Int32) by rw [c1]; decide), if_neg c2]
      obtain ⟨r1, r2, r3, r4⟩ := hw.2.2 i (Y i 13) hi v5
      obtain ⟨w1, w2⟩ := v8 c1
      have hkh := ma_kd3 (show tE T i (Y i 13) < 100 by omega)
      obtain ⟨cA, cm3, c5, c8, c9, cg, cF⟩ := hl.1.2.2.2.1 _ r2 (.inl (Nat.zero_le _))
      have hno1 : tC T i ≠ 1 := fun hx => by have := v7.mpr hx; omega
      have hgap : Y (tE T i (Y i 13)) 8 + Y (tE T i (Y i 13)) 9 ≤ Y (tE T i (Y i 13)) 5 := by omega
      have hoff := (hl.1.2.2.2.2.1 _ (by omega) r2 (Nat.zero_le _)).2.1
      rw [r3, w2] at hoff
      have s13 : rI S (76 + 2 * i) 13 = nI (Y i 13) := by rw [hS.1 _ _ (by omega) (by omega)]; exact v4 c1
      have hsk : ∀ j, j < tC T i → rP S (76 + 2 * i + 1) j = some (76 + 2 * tE T i j) := fun j hj => by
        rw [hS.2.2.2.1]; exact sk_child hl.1.1.1 hw hi hj
      have s8 : rI S (76 + 2 * tE T i (Y i 13)) 8 = nI (Y (tE T i (Y i 13)) 8) := by rw [hS.1 _ _ (by omega) (by omega)]; exact hl.1.1.2.1 _ r2 (.inl (Nat.zero_le _)) 8 (by unfold fK; omega)
      have s9 : rI S (76 + 2 * tE T i (Y i 13)) 9 = nI (Y (tE T i (Y i 13)) 9) := by rw [hS.1 _ _ (by omega) (by omega)]; exact hl.1.1.2.1 _ r2 (.inl (Nat.zero_le _)) 9 (by unfold fK; omega)
      have m8 : rA M 337 (tE T i (Y i 13)) = nI (Y (tE T i (Y i 13)) 8) := by rw [hM.2.1 337 (by omega) (by omega)]; exact hl.1.2.1.2.1 _ r2 (Nat.zero_le _) 8 (by unfold fK; omega)
      have m9 : rA M 338 (tE T i (Y i 13)) = nI (Y (tE T i (Y i 13)) 9) := by rw [hM.2.1 338 (by omega) (by omega)]; exact hl.1.2.1.2.1 _ r2 (Nat.zero_le _) 9 (by unfold fK; omega)
      have m10 : rA M 339 (tE T i (Y i 13)) = nI (Y (tE T i (Y i 13)) 10) := by rw [hM.2.1 339 (by omega) (by omega)]; exact hl.1.2.1.2.1 _ r2 (Nat.zero_le _) 10 (by unfold fK; omega)
      obtain ⟨n1, n2, n3⟩ := ma_num (a := p + bB T Y i + Y (tE T i (Y i 13)) 8) (w := Y (tE T i (Y i 13)) 9) h hm ho (by omega) c9
      have hmb : MB M T := mb_eq hl.1.2.1.1 (by rw [hM.1]) (fun q k1 k2 => hM.2.1 q (by omega) (by omega))
      have h57 : f57 M (nI i) (nI (Y i 13)) = _ := ma_child hmb hw hi v5 hN
      -- the loop over the marks
      have hmk : ∀ j, j < tC T i → j ≠ Y i 13 → rI S (76 + 2 * tE T i j) 14 = nI (mkh (Y (tE T i (Y i 13)) 10) (Y i 13) j) := by
        intro j hj hjh
        obtain ⟨q1, q2, q3, q4⟩ := hw.2.2 i j hi hj
        rw [hS.1 _ _ (by omega) (by omega), v10 j hj]
        unfold mkI
        rw [if_neg c0, if_neg c2, if_neg hjh]
      have hloop : ∀ d j fu, j + d = tC T i → d < fu → (∀ x, x < j → x ≠ Y i 13 → mkh (Y (tE T i (Y i 13)) 10) (Y i 13) x ≠ nb A (p + bB T Y i + Y (tE T i (Y i 13)) 8) (Y (tE T i (Y i 13)) 9)) → ∃ z, z < tC T i ∧ f148_L40 (76 + 2 * i) (lN (nb A (p + bB T Y i + Y (tE T i (Y i 13)) 8) (Y (tE T i (Y i 13)) 9))) fu S (nI j) (fun S20 => some (rI S20 (76 + 2 * i) 13)) = some (nI z) ∧ ((z ≠ Y i 13 ∧ mkh (Y (tE T i (Y i 13)) 10) (Y i 13) z = nb A (p + bB T Y i + Y (tE T i (Y i 13)) 8) (Y (tE T i (Y i 13)) 9)) ∨ (z = Y i 13 ∧ ∀ x, x < tC T i → x ≠ Y i 13 → mkh (Y (tE T i (Y i 13)) 10) (Y i 13) x ≠ nb A (p + bB T Y i + Y (tE T i (Y i 13)) 8) (Y (tE T i (Y i 13)) 9))) := by
        intro d
        induction d with
        | zero =>
          intro j fu hj hfu hx
          obtain ⟨G, rfl⟩ : ∃ G, fu = G + 1 := ⟨fu - 1, by omega⟩
          refine ⟨Y i 13, v5, ?_, .inr ⟨rfl, fun x h1 h2 => hx x (by omega) h2⟩⟩
          rw [f148_L40, s1, if_pos (le_T (by omega) (by omega)), s13]
        | succ d ih =>
          intro j fu hj hfu hx
          obtain ⟨G, rfl⟩ : ∃ G, fu = G + 1 := ⟨fu - 1, by omega⟩
          have hjc : j < tC T i := by omega
          rw [f148_L40, s1, if_neg (le_F (by omega) (by omega)), s13]
          by_cases cj : j = Y i 13
          · rw [if_pos (by rw [cj]), nI_p1]
            exact ih (j + 1) G (by omega) (by omega) (fun x h1 h2 => hx x (by omega) h2)
          · obtain ⟨q1, q2, q3, q4⟩ := hw.2.2 i j hi hjc
            have hkc := ma_kd3 (show tE T i j < 100 by omega)
            have hml := mkh_le (F := Y (tE T i (Y i 13)) 10) (h := Y i 13) (i := j)
            rw [if_neg (show ¬ nI j = nI (Y i 13) by simp (disch := omega) only [nI_lit, nI_add, pk_sub, pk_mul, ma_neg, nI_clamp, ma_ltT, ma_ltF, ma_leT, ma_leF, ma_eqT, ma_eqF, nI_ltI, nI_leI, nI_eq, ma_obT, ma_obF, ma_enF, ma_neF, ma_nlT, ma_lnF, ma_nLT, ma_Ln, ↓reduceIte, Option.bind_some, Option.bind_none, true_and, and_true, false_and, and_false, ne_eq, not_true_eq_false, not_false_eq_true, Bool.false_eq_true, reduceCtorEq, Nat.reduceAdd, Nat.reduceMul, Nat.reduceSub]), if_neg (ob_F (by omega) (by omega)), nI_clamp (by omega), rn_om_s (hsk j hjc), if_pos hkc, hmk j hjc cj, nI_l (by omega), nI_p1]
            by_cases ce : mkh (Y (tE T i (Y i 13)) 10) (Y i 13) j = nb A (p + bB T Y i + Y (tE T i (Y i 13)) 8) (Y (tE T i (Y i 13)) 9)
            · refine ⟨j, hjc, ?_, .inl ⟨cj, ce⟩⟩
              rw [ce]
              have : lg_cmp (lN (nb A (p + bB T Y i + Y (tE T i (Y i 13)) 8) (Y (tE T i (Y i 13)) 9))) (lN (nb A (p + bB T Y i + Y (tE T i (Y i 13)) 8) (Y (tE T i (Y i 13)) 9))) = 0 := by
                unfold lg_cmp
                rw [if_neg (by rw [gt_iff_lt, Int64.lt_iff_toInt_lt]; omega), if_pos rfl]
              rw [if_pos this]
            · have : ¬ lg_cmp (lN (mkh (Y (tE T i (Y i 13)) 10) (Y i 13) j)) (lN (nb A (p + bB T Y i + Y (tE T i (Y i 13)) 8) (Y (tE T i (Y i 13)) 9))) = 0 := by
                intro hz
                have h1 : ¬ lg_cmp (lN (mkh (Y (tE T i (Y i 13)) 10) (Y i 13) j)) (lN (nb A (p + bB T Y i + Y (tE T i (Y i 13)) 8) (Y (tE T i (Y i 13)) 9))) < 0 := by rw [hz]; decide
                have h2 : ¬ 0 < lg_cmp (lN (mkh (Y (tE T i (Y i 13)) 10) (Y i 13) j)) (lN (nb A (p + bB T Y i + Y (tE T i (Y i 13)) 8) (Y (tE T i (Y i 13)) 9))) := by rw [hz]; decide
                rw [cmp_lt (by omega) (by omega)] at h1
                rw [cmp_gt (by omega) (by omega)] at h2
                omega
              rw [if_neg this]
              exact ih (j + 1) G (by omega) (by omega) (fun x h1 h2 => by
                by_cases e : x = j
                · subst e; exact ce
                · exact hx x (by omega) h2)
      obtain ⟨z, z1, z2, z3⟩ := hloop (tC T i) 0 rn_FU (by omega) (by unfold rn_FU; omega) (fun x hx => by omega)
      refine ⟨nI z, z, ?_, ?_, by omega, .inl ⟨z1, rfl⟩⟩
      · rw [s13, if_neg (ob_F (by omega) (by omega)), nI_clamp (by omega), rn_om_s (hsk _ v5), if_pos hkh, if_pos (show rn_kd 1 = 1 from rfl), s8, s9, nI_add, n1, Option.bind_some]
        exact z2
      · unfold f96
        rw [if_neg (ob_F (by omega) (by omega)), nI_clamp (show i < 2 ^ 31 by omega), m13, h57, Option.bind_some, if_neg (ob_F (by omega) (by omega)), nI_clamp (show tE T i (Y i 13) < 2 ^ 31 by omega), m8, m9, m10, m1, nI_add, n2, Option.bind_some, show nI (tC T i) - (2 : Int32) = nI (tC T i - 2) from pk_sub (show 2 ≤ tC T i by omega), nI_l (show Y (tE T i (Y i 13)) 10 < 2 ^ 31 by omega), nI_l (show tC T i - 2 < 2 ^ 31 by omega), nI_l (show Y i 13 < 2 ^ 31 by omega)]
        generalize nb A (p + bB T Y i + Y (tE T i (Y i 13)) 8) (Y (tE T i (Y i 13)) 9) = F at *
        generalize Y (tE T i (Y i 13)) 10 = F0 at *
        have hFF : F0 ≤ 256 := by omega
        by_cases cr : F0 ≤ F ∧ F - F0 ≤ tC T i - 2
        · have e1 : lN F - lN F0 = lN (F - F0) := lN_sub cr.1
          have hin : f29 (lN (F - F0)) (0 : Int64) (lN (tC T i - 2)) = true := by
            rw [ma_in, decide_eq_true_iff, ma_lT (by omega), ma_lT (by omega)]
            have : (0 : Int64).toInt = 0 := rfl
            omega
          rw [e1, if_pos hin]
          -- it is the mark of one
          have hz : (F - F0 < Y i 13 ∧ z = F - F0) ∨ (Y i 13 ≤ F - F0 ∧ z = F - F0 + 1) := by
            by_cases ch : F - F0 < Y i 13
            · refine .inl ⟨ch, ?_⟩
              rcases z3 with ⟨h1, h2⟩ | ⟨h1, h2⟩
              · unfold mkh at h2
                split at h2 <;> omega
              · exact absurd (show mkh F0 (Y i 13) (F - F0) = F by unfold mkh; rw [if_neg (by omega)]; omega) (h2 (F - F0) (by omega) (by omega))
            · refine .inr ⟨by omega, ?_⟩
              rcases z3 with ⟨h1, h2⟩ | ⟨h1, h2⟩
              · unfold mkh at h2
                split at h2 <;> omega
              · exact absurd (show mkh F0 (Y i 13) (F - F0 + 1) = F by unfold mkh; rw [if_pos (by omega)]; omega) (h2 (F - F0 + 1) (by omega) (by omega))
          rcases hz with ⟨h1, h2⟩ | ⟨h1, h2⟩
          · rw [if_neg (fun hx => by have := (cmp_ge (by omega) (by omega)).mp hx; omega), h2]
          · rw [if_pos ((cmp_ge (by omega) (by omega)).mpr h1), show lN (F - F0) + (1 : Int64) = lN (F - F0 + 1) from lN_1 _, h2]
        · have hin : f29 (lN F - lN F0) (0 : Int64) (lN (tC T i - 2)) = false := by
            have hd : (lN F - lN F0).toInt = (F : Int) - F0 := by
              rw [Int64.toInt_sub, ma_lT (by omega), ma_lT (by omega)]
              apply Int.bmod_eq_of_le <;> omega
            rw [ma_in, decide_eq_false_iff_not, hd, ma_lT (by omega)]
            have : (0 : Int64).toInt = 0 := rfl
            omega
          rw [hin, if_neg Bool.false_ne_true]
          rcases z3 with ⟨h1, h2⟩ | ⟨h1, h2⟩
          · exfalso
            unfold mkh at h2
            split at h2 <;> omega
          · rw [h1]
theorem ma_loadL {S0 M0 : rn_T} {A : rn_AT} {T : rn_TR} {Y : rn_LY} {p : Nat} (hf : FT T) (hl : LT S0 M0 T Y) (h0 : PS S0 A) (hm0 : PM M0 A) (ho : OKA A) (hp : p + Y 0 5 ≤ 96) : ∀ d i fu fu2 (S M : rn_T) (lv ch vv : Nat → Nat), i + d = tN T → d < fu → d < fu2 → eV S0 S → eVM M0 M → VR S M T lv ch vv i → ∃ (S2 M2 : rn_T) (bb : Bool) (lv2 ch2 vv2 : Nat → Nat), eV S0 S2 ∧ eVM M0 M2 ∧ (∀ f, f147_L5 1 (nI p) fu S (nI i) f = if bb = true then f S2 else some (false, S2)) ∧ (∀ g, f98_L4 (nI p) fu2 M (nI (cn T lv i)) (nI i) g = if bb = true then g M2 (nI (cn T lv2 (tN T))) else some ((-3 : Int32), M2)) ∧ (bb = true → VR S2 M2 T lv2 ch2 vv2 (tN T)) := by
  obtain ⟨hw, hN1, hN, hc⟩ := id hf
  intro d
  induction d with
  | zero =>
    intro i fu fu2 S M lv ch vv hi hfu hfu2 hS hM h
    obtain ⟨G, rfl⟩ : ∃ G, fu = G + 1 := ⟨fu - 1, by omega⟩
    obtain ⟨G2, rfl⟩ : ∃ G, fu2 = G + 1 := ⟨fu2 - 1, by omega⟩
    have e1 : rI S 66 0 = nI (tN T) := by rw [hS.1 _ _ (by omega) (by omega)]; exact hl.1.1.1.1
    have e2 : rI M 318 10 = nI (tN T) := by rw [hM.1]; exact hl.1.2.1.1.1
    have hin : i = tN T := by omega
    refine ⟨S, M, true, lv, ch, vv, hS, hM, fun f => ?_, fun g => ?_, fun _ => hin ▸ h⟩
    · rw [f147_L5, e1, if_pos (le_T (by omega) (by omega)), if_pos rfl]
    · rw [f98_L4, e2, if_pos (le_T (by omega) (by omega)), if_pos rfl, hin]
  | succ d ih =>
    intro i fu fu2 S M lv ch vv hi hfu hfu2 hS hM h
    obtain ⟨G, rfl⟩ : ∃ G, fu = G + 1 := ⟨fu - 1, by omega⟩
    obtain ⟨G2, rfl⟩ : ∃ G, fu2 = G + 1 := ⟨fu2 - 1, by omega⟩
    have e1 : rI S 66 0 = nI (tN T) := by rw [hS.1 _ _ (by omega) (by omega)]; exact hl.1.1.1.1
    have e2 : rI M 318 10 = nI (tN T) := by rw [hM.1]; exact hl.1.2.1.1.1
    have hin : i < tN T := by omega
    have hk3 := ma_kd3 (show i < 100 by omega)
    have hK6 := (hw.1 i hin).1
    have hci := cn_le (T := T) (lv := lv) (i := i)
    obtain ⟨l, hl2, hlS, hlM⟩ := ma_live hf hl hS hM h hin
    have hS1 : eV S0 (wI S (76 + 2 * i) 17 (nI l)) := eV_I hS (.inl (by omega))
    have hM1 : eVM M0 (wA M 347 i (nI l)) := eVM_A hM (.inl rfl)
    have s4 : rI (wI S (76 + 2 * i) 17 (nI l)) (76 + 2 * i) 4 = nI (tK T i) := by rw [hS1.1 _ _ (by omega) (by omega)]; exact (hl.1.1.1.2.1 i hin).2.1
    have s15 : rI (wI S (76 + 2 * i) 17 (nI l)) (76 + 2 * i) 15 = nI (bB T Y i) := by rw [hS1.1 _ _ (by omega) (by omega)]; exact hl.2 i hin
    have s5 : rI (wI S (76 + 2 * i) 17 (nI l)) (76 + 2 * i) 5 = nI (Y i 5) := by rw [hS1.1 _ _ (by omega) (by omega)]; exact hl.1.1.2.1 i hin (.inl (Nat.zero_le _)) 5 (by unfold fK; omega)
    have m4 : rA (wA M 347 i (nI l)) 322 i = nI (tK T i) := by rw [hM1.2.1 322 (by omega) (by omega)]; exact (hl.1.2.1.1.2 i hin).1
    have m5 : rA (wA M 347 i (nI l)) 334 i = nI (Y i 5) := by rw [hM1.2.1 334 (by omega) (by omega)]; exact hl.1.2.1.2.1 i hin (Nat.zero_le _) 5 (by unfold fK; omega)
    have h151 := ma_131 (show i < 100 by omega) hK6 s4
    have h88 := ma_88 (show i < 100 by omega) hK6 m4
    have hPS1 : PS (wI S (76 + 2 * i) 17 (nI l)) A := ps_eq h0 (eq_m (eV_E hS1) (fun q hq => by omega))
    have hPM1 : PM (wA M 347 i (nI l)) A := pm_eq hm0 (eVM_E hM1)
    have hgS : ∀ f, f147_L5 1 (nI p) (G + 1) S (nI i) f = if l = 0 then f147_L5 1 (nI p) G (wI S (76 + 2 * i) 17 (nI l)) (nI (i + 1)) f else if hnb T i = true then (if tK T i = 6 then Option.bind (f148 (wI S (76 + 2 * i) 17 (nI l)) (76 + 2 * i) 1 (nI (p + bB T Y i))) fun p9 => f147_J44_5 (wI S (76 + 2 * i) 17 (nI l)) 1 (nI p) (nI i) (76 + 2 * i) (Int32.toInt64 p9) (fun S v4 => f147_L5 1 (nI p) G S v4 f) f else Option.bind (f117 (wI S (76 + 2 * i) 17 (nI l)) 1 (nI (p + bB T Y i)) (nI (Y i 5))) fun p14 => f147_J44_5 (wI S (76 + 2 * i) 17 (nI l)) 1 (nI p) (nI i) (76 + 2 * i) p14 (fun S v4 => f147_L5 1 (nI p) G S v4 f) f) else f147_L5 1 (nI p) G (wI S (76 + 2 * i) 17 (nI l)) (nI (i + 1)) f := by
      intro f
      have h155 : f155 S (nI i) = some (76 + 2 * i) := by
        unfold f155
        rw [if_neg (ob_F (by omega) (by omega)), nI_clamp (by omega)]
      rw [f147_L5, e1, if_neg (le_F (by omega) (by omega)), h155, Option.bind_some, hlS, Option.bind_some, if_pos hk3, bi_l hl2, ra_I, nI_p1, h151, s4, s15, s5, nI_add]
      by_cases c : l = 0
      · rw [if_pos (show nI l = 0 by rw [c]; rfl), if_pos c]
      · rw [if_neg (show ¬ nI l = 0 from nI_ne0 (by omega) (by omega)), if_neg c, Option.bind_some, if_pos (show rn_kd 1 = 1 from rfl)]
        by_cases c6 : tK T i = 6
        · rw [if_pos (show nI (tK T i) = (6 : Int32) by rw [c6]; rfl), if_pos c6]
        · rw [if_neg (show ¬ nI (tK T i) = (6 : Int32) by simp (disch := omega) only [nI_lit, nI_add, pk_sub, pk_mul, ma_neg, nI_clamp, ma_ltT, ma_ltF, ma_leT, ma_leF, ma_eqT, ma_eqF, nI_ltI, nI_leI, nI_eq, ma_obT, ma_obF, ma_enF, ma_neF, ma_nlT, ma_lnF, ma_nLT, ma_Ln, ↓reduceIte, Option.bind_some, Option.bind_none, true_and, and_true, false_and, and_false, ne_eq, not_true_eq_false, not_false_eq_true, Bool.false_eq_true, reduceCtorEq, Nat.reduceAdd, Nat.reduceMul, Nat.reduceSub]), if_neg c6]
    have hgM : ∀ g, f98_L4 (nI p) (G2 + 1) M (nI (cn T lv i)) (nI i) g = if l = 0 then f98_L4 (nI p) G2 (wA M 347 i (nI l)) (nI (cn T lv i)) (nI (i + 1)) g else if hnb T i = true then Option.bind (f97 (wA M 347 i (nI l)) (nI i) (nI p)) fun p7 => Option.bind (f89 (wA (wL (wA M 347 i (nI l)) 349 i p7) 348 i (Int64.toInt32 p7)) (nI i) p7) fun p8 => if p8 = true then f98_L4 (nI p) G2 (wA (wL (wA M 347 i (nI l)) 349 i p7) 348 i (Int64.toInt32 p7)) (nI (cn T lv i + 1)) (nI (i + 1)) g else some ((-3 : Int32), wA (wL (wA M 347 i (nI l)) 349 i p7) 348 i (Int64.toInt32 p7)) else f98_L4 (nI p) G2 (wA M 347 i (nI l)) (nI (cn T lv i)) (nI (i + 1)) g := by
      intro g
      rw [f98_L4, e2, if_neg (le_F (by omega) (by omega)), hlM, Option.bind_some, if_neg (ob_F (by omega) (by omega)), nI_clamp (by omega), bi_l hl2, ra_A, nI_p1, nI_p1, h88]
      by_cases c : l = 0
      · rw [if_pos (show nI l = 0 by rw [c]; rfl), if_pos c]
      · rw [if_neg (show ¬ nI l = 0 from nI_ne0 (by omega) (by omega)), if_neg c, Option.bind_some]
        by_cases hh : hnb T i = true
        · rw [if_pos hh, if_pos hh]
          congr 1
          funext p7
          have e9 : rL (wL (wA M 347 i (nI l)) 349 i p7) 349 i = p7 := ra_L
          have e10 : rL (wA (wL (wA M 347 i (nI l)) 349 i p7) 348 i (Int64.toInt32 p7)) 349 i = p7 := ra_L
          rw [e9, e10]
        · rw [if_neg hh, if_neg hh]
    by_cases hskip : ¬ (l = 1 ∧ hnb T i = true)
    · have hcn2 : cn T (fun j => if j = i then l else lv j) (i + 1) = cn T lv i := by
        rw [cn, cn_cg (lv := lv) (fun j hj => if_neg (by omega)), if_pos rfl, if_neg hskip]; rfl
      obtain ⟨S2, M2, bb, lv2, ch2, vv2, i1, i2, i3, i4, i5⟩ := ih (i + 1) G G2 _ _ _ ch vv (by omega) (by omega) (by omega) hS1 hM1 (vr_skip (by omega) h hl2 hskip)
      rw [hcn2] at i4
      refine ⟨S2, M2, bb, lv2, ch2, vv2, i1, i2, fun f => ?_, fun g => ?_, i5⟩
      · rw [hgS]
        by_cases c : l = 0
        · rw [if_pos c]; exact i3 f
        · rw [if_neg c, if_neg (fun hh => hskip ⟨by omega, hh⟩)]; exact i3 f
      · rw [hgM]
        by_cases c : l = 0
        · rw [if_pos c]; exact i4 g
        · rw [if_neg c, if_neg (fun hh => hskip ⟨by omega, hh⟩)]; exact i4 g
    · have hnum : l = 1 ∧ hnb T i = true := by
        by_cases c1 : l = 1
        · by_cases c2 : hnb T i = true
          · exact ⟨c1, c2⟩
          · exact absurd (fun hh => c2 hh.2) hskip
        · exact absurd (fun hh => c1 hh.1) hskip
      obtain ⟨rfl, hn⟩ := hnum
      -- both sides' numbers
      have hnumS : ∃ (x : Int64) (v : Nat), (∀ f, f147_L5 1 (nI p) (G + 1) S (nI i) f = f147_J44_5 (wI S (76 + 2 * i) 17 (nI 1)) 1 (nI p) (nI i) (76 + 2 * i) x (fun S v4 => f147_L5 1 (nI p) G S v4 f) f) ∧ f97 (wA M 347 i (nI 1)) (nI i) (nI p) = some (lN v) ∧ v ≤ 4294967295 ∧ (x = lN v ∨ (x = -1 ∧ tK T i = 6 ∧ tC T i ≤ v ∧ v < 256)) := by
        by_cases c6 : tK T i = 6
        · obtain ⟨cv, v, k1, k2, k3, k4⟩ := ma_chosen hf hl hS1 hM1 hPS1 hPM1 ho hin c6 hp
          refine ⟨Int32.toInt64 cv, v, fun f => ?_, k2, k3, ?_⟩
          · rw [hgS, if_neg (by omega), if_pos hn, if_pos c6, k1, Option.bind_some]
          · rcases k4 with ⟨k5, k6⟩ | ⟨k5, k6, k7⟩
            · refine .inl ?_
              have := (hw.1 i hin).2.2.2.2
              rw [k6, nI_l (by omega)]
            · refine .inr ⟨?_, c6, k5, k6⟩
              rw [k7]; decide
        · have hk4 : tK T i ≤ 4 := by
            unfold hnb at hn
            rw [decide_eq_true_iff] at hn
            omega
          have h5 := (hl.1.2.2.2.2.2 i hin hk4).1
          have hY4 : Y i 5 ≤ 4 := by
            rw [h5]
            unfold lS
            split
            · rcases (hw.1 i hin).2.2.1 (by assumption) with e | e | e <;> omega
            · split
              · omega
              · split <;> omega
          have hle := bB_le hw hl.1.2.2.2 (i + 1) i (by omega) hin
          obtain ⟨n1, n2, n3⟩ := ma_num (a := p + bB T Y i) (w := Y i 5) hPS1 hPM1 ho (by omega) hY4
          have h81 := rf_81 hf hl (hM1.2.1 336 (by omega) (by omega)) (hM1.2.1 324 (by omega) (by omega)) hin
          refine ⟨_, nb A (p + bB T Y i) (Y i 5), fun f => ?_, ?_, n3, .inl rfl⟩
          · rw [hgS, if_neg (by omega), if_pos hn, if_neg c6, n1, Option.bind_some]
          · unfold f97
            rw [h81, Option.bind_some, if_neg (ob_F (by omega) (by omega)), nI_clamp (show i < 2 ^ 31 by omega), m4, if_neg (show ¬ nI (tK T i) = (6 : Int32) by simp (disch := omega) only [nI_lit, nI_add, pk_sub, pk_mul, ma_neg, nI_clamp, ma_ltT, ma_ltF, ma_leT, ma_leF, ma_eqT, ma_eqF, nI_ltI, nI_leI, nI_eq, ma_obT, ma_obF, ma_enF, ma_neF, ma_nlT, ma_lnF, ma_nLT, ma_Ln, ↓reduceIte, Option.bind_some, Option.bind_none, true_and, and_true, false_and, and_false, ne_eq, not_true_eq_false, not_false_eq_true, Bool.false_eq_true, reduceCtorEq, Nat.reduceAdd, Nat.reduceMul, Nat.reduceSub]), m5, nI_add, n2]
            rfl
      obtain ⟨x, v, k1, k2, k3, k4⟩ := hnumS
      have hM2 : eVM M0 (nM M i v) := by
        unfold nM
        exact eVM_A (eVM_L hM1) (.inr rfl)
      have hgM2 : ∀ g, f98_L4 (nI p) (G2 + 1) M (nI (cn T lv i)) (nI i) g = Option.bind (f89 (nM M i v) (nI i) (lN v)) fun p8 => if p8 = true then f98_L4 (nI p) G2 (nM M i v) (nI (cn T lv i + 1)) (nI (i + 1)) g else some ((-3 : Int32), nM M i v) := by
        intro g
        rw [hgM, if_neg (by omega), if_pos hn, k2, Option.bind_some, lN_i]
        rfl
      rcases k4 with k4 | ⟨k4, k5, k6, k7⟩
      · subst k4
        obtain ⟨bb, b1, b2, b3⟩ := ma_adm hf hl hS1 hM2 hin hn k3
        cases bb with
        | false =>
          refine ⟨wI S (76 + 2 * i) 17 (nI 1), nM M i v, false, lv, ch, vv, hS1, hM2, fun f => ?_, fun g => ?_, fun hx => by cases hx⟩
          · rw [k1]
            unfold f147_J44_5
            rw [b1, Option.bind_some, if_neg Bool.false_ne_true, if_neg Bool.false_ne_true]
          · rw [hgM2, b2, Option.bind_some, if_neg Bool.false_ne_true, if_neg Bool.false_ne_true]
        | true =>
          have hvr := vr_num (show i < 100 by omega) h hn k3 (b3 rfl)
          have hcn2 : cn T (fun j => if j = i then 1 else lv j) (i + 1) = cn T lv i + 1 := by
            rw [cn, cn_cg (lv := lv) (fun j hj => if_neg (by omega)), if_pos rfl, if_pos ⟨rfl, hn⟩]
          have hS2 : eV S0 (nS S T i (cn T lv i) v) := by
            unfold nS
            split
            · exact eV_I (eV_I (eV_L hS1) (.inr ⟨rfl, rfl⟩)) (.inl (by omega))
            · exact eV_I (eV_L hS1) (.inr ⟨rfl, rfl⟩)
          obtain ⟨S2, M2, bb, lv2, ch2, vv2, i1, i2, i3, i4, i5⟩ := ih (i + 1) G G2 _ _ _ _ _ (by omega) (by omega) (by omega) hS2 hM2 hvr
          rw [hcn2] at i4
          have h152 := cl_152 (v := v) (show i < 100 by omega) (show cn T lv i < 100 by omega) hK6 h.1 (by rw [hS.1 _ _ (by omega) (by omega)]; exact (hl.1.1.1.2.1 i hin).2.1)
          refine ⟨S2, M2, bb, lv2, ch2, vv2, i1, i2, fun f => ?_, fun g => ?_, i5⟩
          · rw [k1]
            unfold f147_J44_5
            rw [b1, Option.bind_some, if_pos rfl, h152, Option.bind_some, nI_p1]
            exact i3 f
          · rw [hgM2, b2, Option.bind_some, if_pos rfl]
            exact i4 g
      · have m4b : rA (nM M i v) 322 i = nI (tK T i) := by rw [hM2.2.1 322 (by omega) (by omega)]; exact (hl.1.2.1.1.2 i hin).1
        have m6b : rA (nM M i v) 326 i = nI (tC T i) := by rw [hM2.2.1 326 (by omega) (by omega)]; exact (hl.1.2.1.1.2 i hin).2.2.2.2
        have hC6 := (hw.1 i hin).2.2.2.2
        have hf132 : f132 (wI S (76 + 2 * i) 17 (nI 1)) (76 + 2 * i) (-1) = some false := by
          unfold f132
          rw [if_pos hk3, s4, if_pos (by rw [k5]; rfl), if_pos (by decide)]
        have hf89 : f89 (nM M i v) (nI i) (lN v) = some false := by
          unfold f89
          rw [if_neg (ob_F (by omega) (by omega)), nI_clamp (by omega), m4b, m6b, k5, if_neg (show ¬ nI 6 = (1 : Int32) by decide), if_neg (show ¬ nI 6 = (2 : Int32) by decide), if_neg (show ¬ nI 6 = (3 : Int32) by decide), if_neg (show ¬ nI 6 = (4 : Int32) by decide), nI_l (by omega), if_pos ((cmp_ge (by omega) (by omega)).mpr k6)]
        refine ⟨wI S (76 + 2 * i) 17 (nI 1), nM M i v, false, lv, ch, vv, hS1, hM2, fun f => ?_, fun g => ?_, fun hx => by cases hx⟩
        · rw [k1, k4]
          unfold f147_J44_5
          rw [hf132, Option.bind_some, if_neg Bool.false_ne_true, if_neg Bool.false_ne_true]
        · rw [hgM2, hf89, Option.bind_some, if_neg Bool.false_ne_true, if_neg Bool.false_ne_true]
