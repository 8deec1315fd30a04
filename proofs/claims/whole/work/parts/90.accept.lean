/-! 90: whether the list is a value -/
theorem bi_l {l : Nat} (h : l < 2) : rn_bi (decide (l = 1)) = nI l := (by decide : ∀ l, l < 2 → rn_bi (decide (l = 1)) = nI l) l h
theorem rf_dead {M0 S0 : rn_T} {T : rn_TR} {Y : rn_LY} (hf : FT T) (hl : LT S0 M0 T Y) : ∀ d i fu (at1 : Int32) (M : rn_T), i + d = tN T → d < fu → eVM M0 M → ∃ M2, eVM M0 M2 ∧ ∀ g, f90_L6 fu M at1 (nI 0) (nI i) g = g M2 at1 (nI 0) := by
  have hN := hf.2.2.1
  intro d
  induction d with
  | zero =>
    intro i fu at1 M hi hfu hM
    obtain ⟨G, rfl⟩ : ∃ G, fu = G + 1 := ⟨fu - 1, by omega⟩
    have e : rI M 318 10 = nI (tN T) := by rw [hM.1]; exact hl.1.2.1.1.1
    refine ⟨M, hM, fun g => ?_⟩
    rw [f90_L6, e, if_pos (le_T (by omega) (by omega))]
  | succ d ih =>
    intro i fu at1 M hi hfu hM
    obtain ⟨G, rfl⟩ : ∃ G, fu = G + 1 := ⟨fu - 1, by omega⟩
    have e : rI M 318 10 = nI (tN T) := by rw [hM.1]; exact hl.1.2.1.1.1
    obtain ⟨M2, i1, i2⟩ := ih (i + 1) G at1 (wA M 347 i (0 : Int32)) (by omega) (by omega) (eVM_A hM (.inl rfl))
    refine ⟨M2, i1, fun g => ?_⟩
    rw [f90_L6, e, if_neg (le_F (by omega) (by omega)), if_pos (show nI 0 = 0 from rfl)]
    unfold f90_J21_6 f90_J22_6
    rw [if_neg (ob_F (by omega) (by omega)), if_pos (.inl rfl), if_neg (ob_F (by omega) (by omega)), nI_clamp (by omega), ra_A, if_pos rfl, nI_p1]
    exact i2 g
theorem ma_accL {S0 M0 : rn_T} {T : rn_TR} {Y : rn_LY} {L : Nat → Nat} {K : Nat} (hf : FT T) (hl : LT S0 M0 T Y) (hK : K ≤ 60) (hL : ∀ q, q < 60 → rL S0 3 q = lN (L q) ∧ rL M0 345 q = lN (L q) ∧ L q ≤ 4294967295) (hS3 : rI S0 1 3 = nI K) (hM33 : rI M0 318 33 = nI K) : ∀ d i fu fu2 (S M : rn_T) (lv ch vv : Nat → Nat), i + d = tN T → d < fu → d < fu2 → eV S0 S → eVM M0 M → VR S M T lv ch vv i → cn T lv i ≤ K → ∃ (S2 M2 : rn_T) (bb : Bool) (lv2 ch2 vv2 : Nat → Nat) (at2 : Nat), eV S0 S2 ∧ eVM M0 M2 ∧ (∀ f, f145_L5 1 fu S (nI i) f = if bb = true then f S2 else some (false, S2)) ∧ (∀ g, f90_L6 fu2 M (nI (cn T lv i)) (nI 1) (nI i) g = g M2 (nI at2) (nI bb.toNat)) ∧ (bb = true → VR S2 M2 T lv2 ch2 vv2 (tN T) ∧ at2 = cn T lv2 (tN T)) := by
  obtain ⟨hw, hN1, hN, hc⟩ := id hf
  intro d
  induction d with
  | zero =>
    intro i fu fu2 S M lv ch vv hi hfu hfu2 hS hM h hcn
    obtain ⟨G, rfl⟩ : ∃ G, fu = G + 1 := ⟨fu - 1, by omega⟩
    obtain ⟨G2, rfl⟩ : ∃ G, fu2 = G + 1 := ⟨fu2 - 1, by omega⟩
    have e1 : rI S 66 0 = nI (tN T) := by rw [hS.1 _ _ (by omega) (by omega)]; exact hl.1.1.1.1
    have e2 : rI M 318 10 = nI (tN T) := by rw [hM.1]; exact hl.1.2.1.1.1
    have hin : i = tN T := by omega
    refine ⟨S, M, true, lv, ch, vv, cn T lv i, hS, hM, fun f => ?_, fun g => ?_, fun _ => ⟨hin ▸ h, by rw [hin]⟩⟩
    · rw [f145_L5, e1, if_pos (le_T (by omega) (by omega)), if_pos rfl]
    · rw [f90_L6, e2, if_pos (le_T (by omega) (by omega))]
      rfl
  | succ d ih =>
    intro i fu fu2 S M lv ch vv hi hfu hfu2 hS hM h hcn
    obtain ⟨G, rfl⟩ : ∃ G, fu = G + 1 := ⟨fu - 1, by omega⟩
    obtain ⟨G2, rfl⟩ : ∃ G, fu2 = G + 1 := ⟨fu2 - 1, by omega⟩
    have e1 : rI S 66 0 = nI (tN T) := by rw [hS.1 _ _ (by omega) (by omega)]; exact hl.1.1.1.1
    have e2 : rI M 318 10 = nI (tN T) := by rw [hM.1]; exact hl.1.2.1.1.1
    have hin : i < tN T := by omega
    have hk3 := ma_kd3 (show i < 100 by omega)
    have hK6 := (hw.1 i hin).1
    obtain ⟨l, hl2, hlS, hlM⟩ := ma_live hf hl hS hM h hin
    have hS1 : eV S0 (wI S (76 + 2 * i) 17 (nI l)) := eV_I hS (.inl (by omega))
    have hM1 : eVM M0 (wA M 347 i (nI l)) := eVM_A hM (.inl rfl)
    have s4 : rI (wI S (76 + 2 * i) 17 (nI l)) (76 + 2 * i) 4 = nI (tK T i) := by rw [hS1.1 _ _ (by omega) (by omega)]; exact (hl.1.1.1.2.1 i hin).2.1
    have m4 : rA (wA M 347 i (nI l)) 322 i = nI (tK T i) := by rw [hM1.2.1 322 (by omega) (by omega)]; exact (hl.1.2.1.1.2 i hin).1
    have h151 := ma_131 (show i < 100 by omega) hK6 s4
    have h88 := ma_88 (show i < 100 by omega) hK6 m4
    have hcS : rI S 276 1 = nI (cn T lv i) := h.1
    -- the class's step up to the number
    have hgS : ∀ f, f145_L5 1 (G + 1) S (nI i) f = if l = 0 then f145_L5 1 G (wI S (76 + 2 * i) 17 (nI l)) (nI (i + 1)) f else if hnb T i = true then (if nI K ≤ nI (cn T lv i) then some (false, wI S (76 + 2 * i) 17 (nI l)) else if rn_ob (nI (cn T lv i)) 60 then none else Option.bind (f132 (wI S (76 + 2 * i) 17 (nI l)) (76 + 2 * i) (rL S 3 (Int32.toNatClampNeg (nI (cn T lv i))))) fun p11 => if p11 = true then Option.bind (f152 (wI S (76 + 2 * i) 17 (nI l)) (76 + 2 * i) (rL S 3 (Int32.toNatClampNeg (nI (cn T lv i))))) fun p13 => f145_L5 1 G p13 (nI (i + 1)) f else some (false, wI S (76 + 2 * i) 17 (nI l))) else f145_L5 1 G (wI S (76 + 2 * i) 17 (nI l)) (nI (i + 1)) f := by
      intro f
      have h155 : f155 S (nI i) = some (76 + 2 * i) := by
        unfold f155
        rw [if_neg (ob_F (by omega) (by omega)), nI_clamp (by omega)]
      rw [f145_L5, e1, if_neg (le_F (by omega) (by omega)), h155, Option.bind_some, hlS, Option.bind_some, if_pos hk3, bi_l hl2, ra_I, nI_p1, h151]
      have e33 : rI (wI S (76 + 2 * i) 17 (nI l)) 1 3 = nI K := by rw [hS1.1 _ _ (by omega) (by omega)]; exact hS3
      have e276 : rI (wI S (76 + 2 * i) 17 (nI l)) 276 1 = nI (cn T lv i) := by rw [ra_In (by omega)]; exact hcS
      rw [e33, e276]
      by_cases c : l = 0
      · rw [if_pos (show nI l = 0 by rw [c]; rfl), if_pos c]
      · rw [if_neg (show ¬ nI l = 0 from nI_ne0 (by omega) (by omega)), if_neg c, Option.bind_some, if_pos (show rn_kd 1 = 1 from rfl)]
        rfl
    have hgM : ∀ g, f90_L6 (G2 + 1) M (nI (cn T lv i)) (nI 1) (nI i) g = f90_J22_6 M (nI (cn T lv i)) (nI 1) (nI i) (nI i) (nI l) (fun M v1 v2 v3 => f90_L6 G2 M v1 v2 v3 g) g := by
      intro g
      rw [f90_L6, e2, if_neg (le_F (by omega) (by omega)), if_neg (show ¬ nI 1 = 0 by decide), hlM, Option.bind_some]
      have hc2 : l = 0 ∨ l = 1 := by omega
      rcases hc2 with rfl | rfl
      · rw [if_neg (by decide)]; rfl
      · rw [if_pos (by decide)]; rfl
    have hl01 : nI l = 0 ∨ nI l = 1 := by
      have hc2 : l = 0 ∨ l = 1 := by omega
      rcases hc2 with rfl | rfl
      · exact .inl rfl
      · exact .inr rfl
    by_cases hskip : ¬ (l = 1 ∧ hnb T i = true)
    · have hcn2 : cn T (fun j => if j = i then l else lv j) (i + 1) = cn T lv i := by
        rw [cn, cn_cg (lv := lv) (fun j hj => if_neg (by omega)), if_pos rfl, if_neg hskip]; rfl
      obtain ⟨S2, M2, bb, lv2, ch2, vv2, at2, i1, i2, i3, i4, i5⟩ := ih (i + 1) G G2 _ _ _ ch vv (by omega) (by omega) (by omega) hS1 hM1 (vr_skip (by omega) h hl2 hskip) (by rw [hcn2]; exact hcn)
      rw [hcn2] at i4
      refine ⟨S2, M2, bb, lv2, ch2, vv2, at2, i1, i2, fun f => ?_, fun g => ?_, i5⟩
      · rw [hgS]
        by_cases c : l = 0
        · rw [if_pos c]; exact i3 f
        · rw [if_neg c, if_neg (fun hh => hskip ⟨by omega, hh⟩)]; exact i3 f
      · rw [hgM]
        unfold f90_J22_6
        rw [if_neg (ob_F (by omega) (by omega)), if_pos hl01, if_neg (ob_F (by omega) (by omega)), nI_clamp (by omega), ra_A, nI_p1, h88]
        by_cases c : l = 0
        · rw [if_pos (show nI l = 0 by rw [c]; rfl)]; exact i4 g
        · rw [if_neg (show ¬ nI l = 0 from nI_ne0 (by omega) (by omega)), Option.bind_some, if_neg (fun hh => hskip ⟨by omega, hh⟩)]; exact i4 g
    · have hnum : l = 1 ∧ hnb T i = true := by
        by_cases c1 : l = 1
        · by_cases c2 : hnb T i = true
          · exact ⟨c1, c2⟩
          · exact absurd (fun hh => c2 hh.2) hskip
        · exact absurd (fun hh => c1 hh.1) hskip
      obtain ⟨rfl, hn⟩ := hnum
      have hM33b : rI (wA M 347 i (nI 1)) 318 33 = nI K := by rw [hM1.1]; exact hM33
      have hgM2 : ∀ g, f90_L6 (G2 + 1) M (nI (cn T lv i)) (nI 1) (nI i) g = if nI K ≤ nI (cn T lv i) then f90_J46_6 (wA M 347 i (nI 1)) (nI (cn T lv i)) (nI i) (fun M v1 v2 v3 => f90_L6 G2 M v1 v2 v3 g) g else if rn_ob (nI (cn T lv i)) 60 then none else Option.bind (f89 (wA M 347 i (nI 1)) (nI i) (rL M 345 (Int32.toNatClampNeg (nI (cn T lv i))))) fun p15 => if p15 = true then f90_J47_6 (wA M 347 i (nI 1)) (nI (cn T lv i)) (nI i) (1 : Int32) (fun M v1 v2 v3 => f90_L6 G2 M v1 v2 v3 g) g else f90_J46_6 (wA M 347 i (nI 1)) (nI (cn T lv i)) (nI i) (fun M v1 v2 v3 => f90_L6 G2 M v1 v2 v3 g) g := by
        intro g
        rw [hgM]
        unfold f90_J22_6
        rw [if_neg (ob_F (by omega) (by omega)), if_pos hl01, if_neg (ob_F (by omega) (by omega)), nI_clamp (show i < 2 ^ 31 by omega), ra_A, h88, if_neg (show ¬ nI 1 = 0 by decide), Option.bind_some, if_pos hn, hM33b]
        rfl
      -- when it is refused, the reference goes through the rest
      have hrefM : ∃ M2, eVM M0 M2 ∧ ∀ g, f90_J46_6 (wA M 347 i (nI 1)) (nI (cn T lv i)) (nI i) (fun M v1 v2 v3 => f90_L6 G2 M v1 v2 v3 g) g = g M2 (nI (cn T lv i + 1)) (nI 0) := by
        obtain ⟨M2, j1, j2⟩ := rf_dead hf hl d (i + 1) G2 (nI (cn T lv i + 1)) (wA (wL (wA M 347 i (nI 1)) 349 i (0 : Int64)) 348 i (Int64.toInt32 (0 : Int64))) (by omega) (by omega) (eVM_A (eVM_L hM1) (.inr rfl))
        refine ⟨M2, j1, fun g => ?_⟩
        unfold f90_J46_6 f90_J47_6 f90_J59_6
        rw [if_pos rfl, if_neg (ob_F (by omega) (by omega)), if_neg (ob_F (by omega) (by omega)), nI_clamp (by omega), ra_L, nI_p1, nI_p1]
        exact j2 g
      obtain ⟨M3, j1, j2⟩ := hrefM
      by_cases cK : K ≤ cn T lv i
      · refine ⟨wI S (76 + 2 * i) 17 (nI 1), M3, false, lv, ch, vv, cn T lv i + 1, hS1, j1, fun f => ?_, fun g => ?_, fun hx => by cases hx⟩
        · rw [hgS, if_neg (by omega), if_pos hn, if_pos (le_T cK (by have := cn_le (T := T) (lv := lv) (i := i); omega)), if_neg Bool.false_ne_true]
        · rw [hgM2, if_pos (le_T cK (by have := cn_le (T := T) (lv := lv) (i := i); omega)), j2]; rfl
      · have hc60 : cn T lv i < 60 := by omega
        obtain ⟨q1, q2, q3⟩ := hL (cn T lv i) hc60
        have qS : rL S 3 (cn T lv i) = lN (L (cn T lv i)) := by rw [hS.2.2.2.2 3 (by omega)]; exact q1
        have qM : rL M 345 (cn T lv i) = lN (L (cn T lv i)) := by rw [hM.2.2 345 (by omega)]; exact q2
        obtain ⟨bb, b1, b2, b3⟩ := ma_adm hf hl hS1 hM1 hin hn q3
        cases bb with
        | false =>
          refine ⟨wI S (76 + 2 * i) 17 (nI 1), M3, false, lv, ch, vv, cn T lv i + 1, hS1, j1, fun f => ?_, fun g => ?_, fun hx => by cases hx⟩
          · rw [hgS, if_neg (by omega), if_pos hn, if_neg (le_F (by omega) (by omega)), if_neg (ob_F hc60 (by omega)), nI_clamp (by omega), qS, b1, Option.bind_some, if_neg Bool.false_ne_true, if_neg Bool.false_ne_true]
          · rw [hgM2, if_neg (le_F (by omega) (by omega)), if_neg (ob_F hc60 (by omega)), nI_clamp (by omega), qM, b2, Option.bind_some, if_neg Bool.false_ne_true, j2]; rfl
        | true =>
          have hvr := vr_num (show i < 100 by omega) h hn q3 (b3 rfl)
          have hcn2 : cn T (fun j => if j = i then 1 else lv j) (i + 1) = cn T lv i + 1 := by
            rw [cn, cn_cg (lv := lv) (fun j hj => if_neg (by omega)), if_pos rfl, if_pos ⟨rfl, hn⟩]
          have hS2 : eV S0 (nS S T i (cn T lv i) (L (cn T lv i))) := by
            unfold nS
            split
            · exact eV_I (eV_I (eV_L hS1) (.inr ⟨rfl, rfl⟩)) (.inl (by omega))
            · exact eV_I (eV_L hS1) (.inr ⟨rfl, rfl⟩)
          have hM2 : eVM M0 (nM M i (L (cn T lv i))) := by
            unfold nM
            exact eVM_A (eVM_L hM1) (.inr rfl)
          obtain ⟨S2, M2, bb, lv2, ch2, vv2, at2, i1, i2, i3, i4, i5⟩ := ih (i + 1) G G2 _ _ _ _ _ (by omega) (by omega) (by omega) hS2 hM2 hvr (by rw [hcn2]; omega)
          rw [hcn2] at i4
          have h152 := cl_152 (v := L (cn T lv i)) (show i < 100 by omega) (show cn T lv i < 100 by omega) hK6 hcS (by rw [hS.1 _ _ (by omega) (by omega)]; exact (hl.1.1.1.2.1 i hin).2.1)
          refine ⟨S2, M2, bb, lv2, ch2, vv2, at2, i1, i2, fun f => ?_, fun g => ?_, i5⟩
          · rw [hgS, if_neg (by omega), if_pos hn, if_neg (le_F (by omega) (by omega)), if_neg (ob_F hc60 (by omega)), nI_clamp (by omega), qS, b1, Option.bind_some, if_pos rfl, h152, Option.bind_some]
            exact i3 f
          · rw [hgM2, if_neg (le_F (by omega) (by omega)), if_neg (ob_F hc60 (by omega)), nI_clamp (by omega), qM, b2, Option.bind_some, if_pos rfl]
            unfold f90_J47_6 f90_J59_6
            have qM1 : rL (wA M 347 i (nI 1)) 345 (cn T lv i) = lN (L (cn T lv i)) := qM
            rw [if_neg (by decide), if_neg (ob_F hc60 (by omega)), nI_clamp (show cn T lv i < 2 ^ 31 by omega), if_neg (ob_F (by omega) (by omega)), if_neg (ob_F (by omega) (by omega)), nI_clamp (show i < 2 ^ 31 by omega), ra_L, qM1, lN_i, nI_p1, nI_p1]
            exact i4 g
theorem ma_accept {S M : rn_T} {A : rn_AT} {T : rn_TR} {Y : rn_LY} (h : PS S A) (hm : PM M A) (ho : OKA A) (hf : FT T) (hl : LT S M T Y) : ∃ (S2 M2 : rn_T) (bb : Bool), f145 S 1 = some (bb, S2) ∧ f90 M = some (bb, M2) ∧ eV S S2 ∧ eVM M M2 ∧ (bb = true → ∃ lv ch vv, VR S2 M2 T lv ch vv (tN T)) := by
  have hN := hf.2.2.1
  obtain ⟨S2, M2, bb, lv2, ch2, vv2, at2, i1, i2, i3, i4, i5⟩ := ma_accL (L := aL A) (K := aK A) hf hl ho.2.2.2.1 (fun q hq => ⟨h.2.2.1 q hq, hm.2.2.1 q hq, ho.2.2.2.2.1 q hq⟩) h.2.2.2.1 hm.2.2.2.1 (tN T) 0 rn_FU rn_FU (wI S 276 1 (nI 0)) M (fun _ => 0) (fun _ => 0) (fun _ => 0) (by omega) (by unfold rn_FU; omega) (by unfold rn_FU; omega) (eV_I eV_r (.inr ⟨rfl, rfl⟩)) eVM_r ⟨ra_I, fun q hq => absurd hq (Nat.not_lt_zero q), fun j hj => absurd hj (Nat.not_lt_zero j)⟩ (Nat.zero_le _)
  have hKS : rI S2 1 3 = nI (aK A) := by rw [i1.1 _ _ (by omega) (by omega)]; exact h.2.2.2.1
  have hKM : rI M2 318 33 = nI (aK A) := by rw [i2.1]; exact hm.2.2.2.1
  have h60 := ho.2.2.2.1
  have hS : f145 S 1 = if bb = true then (if (rI S2 276 1) = (rI S2 1 3) then some (true, S2) else some (false, S2)) else some (false, S2) := by
    unfold f145
    exact i3 _
  have hM : f90 M = if nI bb.toNat = 0 then some (false, M2) else if nI at2 = (rI M2 318 33) then some (true, M2) else some (false, M2) := by
    unfold f90
    exact i4 _
  cases bb with
  | false => exact ⟨S2, M2, false, by rw [hS, if_neg Bool.false_ne_true], by rw [hM]; rfl, i1, i2, fun hx => by cases hx⟩
  | true =>
    obtain ⟨v1, v2⟩ := i5 rfl
    rw [if_pos rfl, v1.1, hKS] at hS
    rw [if_neg (show ¬ nI true.toNat = 0 by decide), v2, hKM] at hM
    by_cases c : nI (cn T lv2 (tN T)) = nI (aK A)
    · rw [if_pos c] at hS hM
      exact ⟨S2, M2, true, hS, hM, i1, i2, fun _ => ⟨lv2, ch2, vv2, v1⟩⟩
    · rw [if_neg c] at hS hM
      exact ⟨S2, M2, false, hS, hM, i1, i2, fun hx => by cases hx⟩
