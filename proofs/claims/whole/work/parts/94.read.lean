/-! 94: read, which -/
theorem ma_load {S M : rn_T} {A : rn_AT} {T : rn_TR} {Y : rn_LY} {p : Nat} (hf : FT T) (hl : LT S M T Y) (h : PS S A) (hm : PM M A) (ho : OKA A) (hp : p + Y 0 5 ≤ 96) : ∃ (S2 M2 : rn_T) (bb : Bool) (lv ch vv : Nat → Nat), eV S S2 ∧ eVM M M2 ∧ f147 S 1 (nI p) = some (bb, S2) ∧ f98 M (nI p) = some ((if bb = true then nI (cn T lv (tN T)) else (-3 : Int32)), M2) ∧ (bb = true → VR S2 M2 T lv ch vv (tN T)) := by
  have hN := hf.2.2.1
  obtain ⟨S2, M2, bb, lv2, ch2, vv2, i1, i2, i3, i4, i5⟩ := ma_loadL hf hl h hm ho hp (tN T) 0 rn_FU rn_FU (wI S 276 1 (nI 0)) M (fun _ => 0) (fun _ => 0) (fun _ => 0) (by omega) (by unfold rn_FU; omega) (by unfold rn_FU; omega) (eV_I eV_r (.inr ⟨rfl, rfl⟩)) eVM_r ⟨ra_I, fun q hq => absurd hq (Nat.not_lt_zero q), fun j hj => absurd hj (Nat.not_lt_zero j)⟩
  refine ⟨S2, M2, bb, lv2, ch2, vv2, i1, i2, ?_, ?_, i5⟩
  · have : f147 S 1 (nI p) = if bb = true then some (true, S2) else some (false, S2) := i3 _
    rw [this]
    cases bb <;> rfl
  · have : f98 M (nI p) = if bb = true then some (nI (cn T lv2 (tN T)), M2) else some ((-3 : Int32), M2) := i4 _
    rw [this]
    cases bb <;> rfl
/-- the class's numbers go into the list -/
theorem cl_copyL {S1 : rn_T} {vv : Nat → Nat} {C : Nat} (hC : C ≤ 60) (hc : rI S1 276 1 = nI C) (hv : ∀ q, q < C → rL S1 277 q = lN (vv q)) (f : rn_T → Option (Int32 × rn_T)) : ∀ d i fu (S : rn_T), i + d = C → d < fu → rI S = rI S1 → rA S = rA S1 → (∀ q, q ≠ 3 → rL S q = rL S1 q) → (∀ q, rL S 3 q = if q < i then lN (vv q) else rL S1 3 q) → ∃ S2, f15_L42 fu S (nI i) f = f S2 ∧ rI S2 = rI S1 ∧ rA S2 = rA S1 ∧ (∀ q, q ≠ 3 → rL S2 q = rL S1 q) ∧ (∀ q, rL S2 3 q = if q < C then lN (vv q) else rL S1 3 q) := by
  intro d
  induction d with
  | zero =>
    intro i fu S hi hfu h1 h2 h3 h4
    obtain ⟨G, rfl⟩ : ∃ G, fu = G + 1 := ⟨fu - 1, by omega⟩
    have : i = C := by omega
    subst this
    refine ⟨S, ?_, h1, h2, h3, h4⟩
    rw [f15_L42, h1, hc, if_pos (le_T (by omega) (by omega))]
  | succ d ih =>
    intro i fu S hi hfu h1 h2 h3 h4
    obtain ⟨G, rfl⟩ : ∃ G, fu = G + 1 := ⟨fu - 1, by omega⟩
    have e : rL S 277 i = lN (vv i) := by rw [h3 277 (by omega)]; exact hv i (by omega)
    obtain ⟨S2, i1, i2⟩ := ih (i + 1) G (wL S 3 i (lN (vv i))) (by omega) (by omega) h1 h2 (fun q hq => by rw [ra_Lf hq]; exact h3 q hq) (fun q => by
      by_cases c : q = i
      · subst c
        rw [ra_L, if_pos (by omega)]
      · rw [ra_Ln (by omega), h4 q]
        by_cases c2 : q < i
        · rw [if_pos c2, if_pos (by omega)]
        · rw [if_neg c2, if_neg (by omega)])
    refine ⟨S2, ?_, i2⟩
    rw [f15_L42, h1, hc, if_neg (le_F (by omega) (by omega)), if_neg (ob_F (by omega) (by omega)), if_neg (ob_F (by omega) (by omega)), nI_clamp (by omega), e, nI_p1]
    exact i1
/-- and the reference's -/
theorem rf_copyL {M0 S0 M1 S1 : rn_T} {T : rn_TR} {Y : rn_LY} {lv ch vv : Nat → Nat} {b : Int32} (hf : FT T) (hl : LT S0 M0 T Y) (hM1 : eVM M0 M1) (hv : VR S1 M1 T lv ch vv (tN T)) (hC : cn T lv (tN T) ≤ 60) (f : rn_T → Option (Int32 × rn_T)) : ∀ d i fu (M : rn_T), i + d = tN T → d < fu → (∀ q k, ¬ (q = 318 ∧ k = 33) → rI M q k = rI M1 q k) → rI M 318 33 = nI (cn T lv i) → rA M = rA M1 → (∀ q, q ≠ 345 → rL M q = rL M1 q) → (∀ q, rL M 345 q = if q < cn T lv i then lN (vv q) else rL M1 345 q) → ∃ M2, f99_L38 b fu M (nI i) f = f M2 ∧ (∀ q k, ¬ (q = 318 ∧ k = 33) → rI M2 q k = rI M1 q k) ∧ rI M2 318 33 = nI (cn T lv (tN T)) ∧ rA M2 = rA M1 ∧ (∀ q, q ≠ 345 → rL M2 q = rL M1 q) ∧ (∀ q, rL M2 345 q = if q < cn T lv (tN T) then lN (vv q) else rL M1 345 q) := by
  have hN := hf.2.2.1
  intro d
  induction d with
  | zero =>
    intro i fu M hi hfu h1 h2 h3 h4 h5
    obtain ⟨G, rfl⟩ : ∃ G, fu = G + 1 := ⟨fu - 1, by omega⟩
    have hin : i = tN T := by omega
    have e2 : rI M 318 10 = nI (tN T) := by rw [h1 _ _ (by omega), hM1.1]; exact hl.1.2.1.1.1
    refine ⟨M, ?_, h1, hin ▸ h2, h3, h4, hin ▸ h5⟩
    rw [f99_L38, e2, if_pos (le_T (by omega) (by omega))]
  | succ d ih =>
    intro i fu M hi hfu h1 h2 h3 h4 h5
    obtain ⟨G, rfl⟩ : ∃ G, fu = G + 1 := ⟨fu - 1, by omega⟩
    have hin : i < tN T := by omega
    have hK6 := (hf.1.1 i hin).1
    have e2 : rI M 318 10 = nI (tN T) := by rw [h1 _ _ (by omega), hM1.1]; exact hl.1.2.1.1.1
    have m4 : rA M 322 i = nI (tK T i) := by rw [h3, hM1.2.1 322 (by omega) (by omega)]; exact (hl.1.2.1.1.2 i hin).1
    have h88 := ma_88 (show i < 100 by omega) hK6 m4
    obtain ⟨x1, x2, x3, x4⟩ := hv.2.2 i hin
    have m7 : rA M 347 i = nI (lv i) := by rw [h3]; exact x3
    have hci := cn_mono (T := T) (lv := lv) (show i + 1 ≤ tN T by omega)
    have hgo : f99_L38 b (G + 1) M (nI i) f = if lv i = 0 then f99_L38 b G M (nI (i + 1)) f else if hnb T i = true then (if rn_ob (rI M 318 33) 60 then none else f99_L38 b G (wI (wL M 345 (Int32.toNatClampNeg (rI M 318 33)) (rL M 349 i)) 318 33 ((rI (wL M 345 (Int32.toNatClampNeg (rI M 318 33)) (rL M 349 i)) 318 33) + (1 : Int32))) (nI (i + 1)) f) else f99_L38 b G M (nI (i + 1)) f := by
      rw [f99_L38, e2, if_neg (le_F (by omega) (by omega)), if_neg (ob_F (by omega) (by omega)), nI_clamp (by omega), m7, h88, nI_p1, Option.bind_some]
      by_cases c : lv i = 0
      · rw [if_pos (show nI (lv i) = 0 by rw [c]; rfl), if_pos c]
      · rw [if_neg (show ¬ nI (lv i) = 0 from nI_ne0 (by omega) (by omega)), if_neg c]
    by_cases hn : lv i = 1 ∧ hnb T i = true
    · have hcn : cn T lv (i + 1) = cn T lv i + 1 := by rw [cn, if_pos hn]
      have e9 : rL M 349 i = lN (vv (cn T lv i)) := by rw [h4 349 (by omega)]; exact (x4 hn.1 hn.2).1
      obtain ⟨M2, i1, i2⟩ := ih (i + 1) G (wI (wL M 345 (cn T lv i) (lN (vv (cn T lv i)))) 318 33 (nI (cn T lv i + 1))) (by omega) (by omega) (fun q k hq => by rw [ra_In (by omega)]; exact h1 q k hq) (by rw [ra_I, hcn]) h3 (fun q hq => by
        show rL (wL M 345 (cn T lv i) (lN (vv (cn T lv i)))) q = _
        rw [ra_Lf hq]; exact h4 q hq) (fun q => by
        show rL (wL M 345 (cn T lv i) (lN (vv (cn T lv i)))) 345 q = _
        rw [hcn]
        by_cases c : q = cn T lv i
        · subst c
          rw [ra_L, if_pos (by omega)]
        · rw [ra_Ln (by omega), h5 q]
          by_cases c2 : q < cn T lv i
          · rw [if_pos c2, if_pos (by omega)]
          · rw [if_neg c2, if_neg (by omega)])
      refine ⟨M2, ?_, i2⟩
      have e33 : rI (wL M 345 (cn T lv i) (lN (vv (cn T lv i)))) 318 33 = nI (cn T lv i) := h2
      rw [hgo, if_neg (by omega), if_pos hn.2, h2, if_neg (ob_F (by omega) (by omega)), nI_clamp (by omega), e9, e33, nI_p1]
      exact i1
    · have hcn : cn T lv (i + 1) = cn T lv i := by rw [cn, if_neg hn]; rfl
      obtain ⟨M2, i1, i2⟩ := ih (i + 1) G M (by omega) (by omega) h1 (by rw [hcn]; exact h2) h3 h4 (fun q => by rw [hcn]; exact h5 q)
      refine ⟨M2, ?_, i2⟩
      rw [hgo]
      by_cases c : lv i = 0
      · rw [if_pos c]; exact i1
      · rw [if_neg c, if_neg (fun hh => hn ⟨by omega, hh⟩)]; exact i1
theorem go_read {S M : rn_T} (h : Inv S M) (x u pl : Int32) : Go S M (f15 S x u pl) (f99 M x u pl) := by
  have e1 : f15 S x u pl = cS S x u (fun S => pS S pl (fun S => Option.bind (f147 S 1 pl) fun p7 => if p7.1 = true then if (rI p7.2 276 1) ≤ (60 : Int32) then f15_L42 rn_FU p7.2 (0 : Int32) (fun S13 => some ((rI (wI S13 1 3 (rI S13 276 1)) 1 3), wI S13 1 3 (rI S13 276 1))) else some ((-4 : Int32), p7.2) else some ((-3 : Int32), p7.2))) := rfl
  have e2 : f99 M x u pl = cM M x u (fun M => pM M pl (fun M => Option.bind (f98 M pl) fun p5 => if p5.1 < 0 then if 0 ≤ p5.1 then some ((-4 : Int32), p5.2) else some (p5.1, p5.2) else if p5.1 ≤ (60 : Int32) then f99_L38 p5.1 rn_FU (wI p5.2 318 33 (0 : Int32)) (0 : Int32) (fun M15 => some (p5.1, M15)) else if 0 ≤ p5.1 then some ((-4 : Int32), p5.2) else some (p5.1, p5.2))) := by
    have := f93_cM M x u pl (fun p3 => Option.bind (f98 p3.2 pl) fun p5 => if p5.1 < 0 then if 0 ≤ p5.1 then some ((-4 : Int32), p5.2) else some (p5.1, p5.2) else if p5.1 ≤ (60 : Int32) then f99_L38 p5.1 rn_FU (wI p5.2 318 33 (0 : Int32)) (0 : Int32) (fun M15 => some (p5.1, M15)) else if 0 ≤ p5.1 then some ((-4 : Int32), p5.2) else some (p5.1, p5.2))
    exact this
  rw [e1, e2]
  refine go_place h x u pl ?_
  intro A S2 M2 T Y p p1 p2 ho p3 hf hl hpl hps
  subst hpl
  have hN := hf.2.2.1
  obtain ⟨S3, M3, bb, lv, ch, vv, a1, a2, a3, a4, a5⟩ := ma_load hf hl p1 p2 ho hps
  obtain ⟨k1, k2, k3⟩ := eV_keep p1 p2 p3 a1 a2
  rw [a3, a4, Option.bind_some, Option.bind_some]
  cases bb with
  | false =>
    rw [if_neg Bool.false_ne_true]
    refine ⟨-3, S3, M3, rfl, ?_, A, k1, k2, ho, k3⟩
    show (if (-3 : Int32) < 0 then if 0 ≤ (-3 : Int32) then some ((-4 : Int32), M3) else some ((-3 : Int32), M3) else _) = _
    rw [if_pos (by decide), if_neg (by decide)]
  | true =>
    have hv := a5 rfl
    have hCn : cn T lv (tN T) ≤ 100 := by have := cn_le (T := T) (lv := lv) (i := tN T); omega
    rw [if_pos rfl, if_pos rfl]
    show Go S2 M2 (if (rI S3 276 1) ≤ (60 : Int32) then f15_L42 rn_FU S3 (0 : Int32) (fun S13 => some ((rI (wI S13 1 3 (rI S13 276 1)) 1 3), wI S13 1 3 (rI S13 276 1))) else some ((-4 : Int32), S3)) (if nI (cn T lv (tN T)) < 0 then if 0 ≤ nI (cn T lv (tN T)) then some ((-4 : Int32), M3) else some (nI (cn T lv (tN T)), M3) else if nI (cn T lv (tN T)) ≤ (60 : Int32) then f99_L38 (nI (cn T lv (tN T))) rn_FU (wI M3 318 33 (0 : Int32)) (0 : Int32) (fun M15 => some (nI (cn T lv (tN T)), M15)) else if 0 ≤ nI (cn T lv (tN T)) then some ((-4 : Int32), M3) else some (nI (cn T lv (tN T)), M3))
    rw [hv.1, if_neg (nI_pos (by omega))]
    by_cases c : cn T lv (tN T) ≤ 60
    · rw [if_pos (show nI (cn T lv (tN T)) ≤ (60 : Int32) from nI_le (show cn T lv (tN T) ≤ 60 from c) (show 60 < 2 ^ 31 by omega)), if_pos (show nI (cn T lv (tN T)) ≤ (60 : Int32) from nI_le (show cn T lv (tN T) ≤ 60 from c) (show 60 < 2 ^ 31 by omega))]
      obtain ⟨S4, b1, b2, b3, b4, b5⟩ := cl_copyL (S1 := S3) (vv := vv) c hv.1 (fun q hq => (hv.2.1 q hq).1) (fun S13 => some ((rI (wI S13 1 3 (rI S13 276 1)) 1 3), wI S13 1 3 (rI S13 276 1))) (cn T lv (tN T)) 0 rn_FU S3 (by omega) (by unfold rn_FU; omega) rfl rfl (fun _ _ => rfl) (fun q => by rw [if_neg (Nat.not_lt_zero q)])
      obtain ⟨M4, d1, d2, d3, d4, d5, d6⟩ := rf_copyL (b := nI (cn T lv (tN T))) hf hl a2 hv c (fun M15 => some (nI (cn T lv (tN T)), M15)) (tN T) 0 rn_FU (wI M3 318 33 (nI 0)) (by omega) (by unfold rn_FU; omega) (fun q k hq => by rw [ra_In (by omega)]) (by rw [ra_I]; rfl) rfl (fun _ _ => rfl) (fun q => by rw [if_neg (show ¬ q < cn T lv 0 from Nat.not_lt_zero q)]; rfl)
      obtain ⟨h1, h2, h3, h4, h5, h6⟩ := k1
      obtain ⟨g1, g2, g3, g4, g5, g6⟩ := k2
      obtain ⟨o1, o2, o3, o4, o5, o6, o7⟩ := ho
      refine ⟨nI (cn T lv (tN T)), wI S4 1 3 (nI (cn T lv (tN T))), M4, ?_, d1, (aC A, aN A, (fun q => if q < cn T lv (tN T) then vv q else aL A q), cn T lv (tN T), aM A, aW A), ?_, ?_, ?_, ?_⟩
      · refine b1.trans ?_
        have : rI S4 276 1 = nI (cn T lv (tN T)) := by rw [b2]; exact hv.1
        rw [this, ra_I]
      · refine ⟨fun s hs => ?_, fun s hs i hi => ?_, fun i hi => ?_, ?_, fun i hi => ?_, ?_⟩
        · rw [ra_In (by omega), b2]; exact h1 s hs
        · show rA S4 _ _ = _
          rw [b3]; exact h2 s hs i hi
        · show rL S4 3 i = lN (if i < cn T lv (tN T) then vv i else aL A i)
          rw [b5 i]
          by_cases cc : i < cn T lv (tN T)
          · rw [if_pos cc, if_pos cc]
          · rw [if_neg cc, if_neg cc]; exact h3 i hi
        · rw [ra_I]; rfl
        · show rA S4 _ _ = _
          rw [b3]; exact h5 i hi
        · rw [ra_In (by omega), b2]; exact h6
      · refine ⟨fun s hs => ?_, fun s hs i hi => ?_, fun i hi => ?_, ?_, fun i hi => ?_, ?_⟩
        · rw [d4]; exact g1 s hs
        · rw [d4]; exact g2 s hs i hi
        · show rL M4 345 i = lN (if i < cn T lv (tN T) then vv i else aL A i)
          rw [d6 i]
          by_cases cc : i < cn T lv (tN T)
          · rw [if_pos cc, if_pos cc]
          · rw [if_neg cc, if_neg cc]; exact g3 i hi
        · exact d3
        · rw [d4]; exact g5 i hi
        · rw [d2 _ _ (by omega)]; exact g6
      · refine ⟨o1, o2, o3, c, fun i hi => ?_, o6, o7⟩
        show (if i < cn T lv (tN T) then vv i else aL A i) ≤ 4294967295
        by_cases cc : i < cn T lv (tN T)
        · rw [if_pos cc]; exact (hv.2.1 i cc).2
        · rw [if_neg cc]; exact o5 i hi
      · refine im_eq0 k3 (fun q hq => ⟨?_, ?_, ?_⟩) ?_ (fun q hq => ⟨?_, ?_, ?_⟩) ?_
        · rw [ra_If (by omega), b2]
        · show rA S4 q = _
          rw [b3]
        · show rL S4 q = _
          exact b4 q (by omega)
        · rw [ra_In (by omega), b2]; exact k3.2.1
        · exact funext fun k => d2 q k (by omega)
        · rw [d4]
        · exact d5 q (by omega)
        · rw [d4]; exact k3.2.2
    · rw [if_neg (show ¬ nI (cn T lv (tN T)) ≤ (60 : Int32) from nI_ge (show 60 < cn T lv (tN T) by omega) (by omega)), if_neg (show ¬ nI (cn T lv (tN T)) ≤ (60 : Int32) from nI_ge (show 60 < cn T lv (tN T) by omega) (by omega)), if_pos (nI_pos' (by omega))]
      exact ⟨-4, S3, M3, rfl, rfl, A, k1, k2, ho, k3⟩
theorem go_which {S M : rn_T} (h : Inv S M) (x u pl : Int32) : Go S M (f16 S x u pl) (f100 M x u pl) := by
  have e1 : f16 S x u pl = cS S x u (fun S => pS S pl (fun S => if rn_kd (f154 S) = 3 then if (rI S (f154 S) 4) = (6 : Int32) then Option.bind (f148 S (f154 S) 1 pl) fun p10 => if 0 ≤ p10 then some (p10, S) else some ((-3 : Int32), S) else some ((-6 : Int32), S) else none)) := rfl
  have e2 : f100 M x u pl = cM M x u (fun M => pM M pl (fun M => if (rA M 322 (Int32.toNatClampNeg (0 : Int32))) = (6 : Int32) then Option.bind (f97 M (0 : Int32) pl) fun p6 => if (rA M 326 (Int32.toNatClampNeg (0 : Int32))) ≤ (Int64.toInt32 p6) then some ((-3 : Int32), M) else some ((Int64.toInt32 p6), M) else some ((-6 : Int32), M))) := by
    have := f93_cM M x u pl (fun p3 => if (rA p3.2 322 (Int32.toNatClampNeg (0 : Int32))) = (6 : Int32) then Option.bind (f97 p3.2 (0 : Int32) pl) fun p6 => if (rA p3.2 326 (Int32.toNatClampNeg (0 : Int32))) ≤ (Int64.toInt32 p6) then some ((-3 : Int32), p3.2) else some ((Int64.toInt32 p6), p3.2) else some (p3.1, p3.2))
    exact this
  rw [e1, e2]
  refine go_place h x u pl ?_
  intro A S2 M2 T Y p p1 p2 ho p3 hf hl hpl hps
  subst hpl
  have h0 : 0 < tN T := by have := hf.2.1; omega
  have hinv : Inv S2 M2 := ⟨A, p1, p2, ho, p3⟩
  obtain ⟨-, r1, r2, r3, r4, -, -⟩ := lt_root hf hl
  have h76 : f154 S2 = 76 := rfl
  have hkd : rn_kd 76 = 3 := ma_kd3 (i := 0) (by omega)
  have h00 : Int32.toNatClampNeg (0 : Int32) = 0 := rfl
  have hK6 := (hf.1.1 0 h0).1
  have hC6 := (hf.1.1 0 h0).2.2.2.2
  simp only [h76, hkd, if_true, h00, r1, r2, r4]
  by_cases c6 : tK T 0 = 6
  · have c7 : nI (tK T 0) = (6 : Int32) := by rw [c6]; rfl
    obtain ⟨cv, v, k1, k2, k3, k4⟩ := ma_chosen hf hl eV_r eVM_r p1 p2 ho h0 c6 hps
    have k1 : f148 S2 76 1 (nI p) = some cv := k1
    have k2 : f97 M2 (0 : Int32) (nI p) = some (lN v) := k2
    rw [if_pos c7, if_pos c7, k1, k2, Option.bind_some, Option.bind_some, lN_i]
    rcases k4 with ⟨k5, k6⟩ | ⟨k5, k6, k7⟩
    · rw [k6, if_pos (nI_pos' (by omega)), if_neg (le_F (by omega) (by omega))]
      exact ⟨_, S2, M2, rfl, rfl, hinv⟩
    · rw [k7, if_neg (by decide), if_pos (le_T k5 (by omega))]
      exact ⟨_, S2, M2, rfl, rfl, hinv⟩
  · have c7 : ¬ nI (tK T 0) = (6 : Int32) := by simp (disch := omega) only [nI_lit, nI_add, pk_sub, pk_mul, ma_neg, nI_clamp, ma_ltT, ma_ltF, ma_leT, ma_leF, ma_eqT, ma_eqF, nI_ltI, nI_leI, nI_eq, ma_obT, ma_obF, ma_enF, ma_neF, ma_nlT, ma_lnF, ma_nLT, ma_Ln, ↓reduceIte, Option.bind_some, Option.bind_none, true_and, and_true, false_and, and_false, ne_eq, not_true_eq_false, not_false_eq_true, Bool.false_eq_true, reduceCtorEq, Nat.reduceAdd, Nat.reduceMul, Nat.reduceSub]
    rw [if_neg c7, if_neg c7]
    exact ⟨_, S2, M2, rfl, rfl, hinv⟩
