/-! 89: which parts are there, what numbers they have -/
def hnb (T : rn_TR) (j : Nat) : Bool := decide (tK T j ≠ 0 ∧ tK T j ≠ 5)
/-- how many numbers the first ones have -/
def cn (T : rn_TR) (lv : Nat → Nat) : Nat → Nat
  | 0 => 0
  | j + 1 => cn T lv j + if lv j = 1 ∧ hnb T j = true then 1 else 0
theorem cn_cg {T : rn_TR} {lv lv2 : Nat → Nat} : ∀ {i}, (∀ j, j < i → lv2 j = lv j) → cn T lv2 i = cn T lv i := by
  intro i
  induction i with
  | zero => intro _; rfl
  | succ i ih =>
    intro h
    unfold cn
    rw [ih (fun j hj => h j (by omega)), h i (by omega)]
theorem cn_le {T : rn_TR} {lv : Nat → Nat} : ∀ {i}, cn T lv i ≤ i := by
  intro i
  induction i with
  | zero => exact Nat.le_refl _
  | succ i ih =>
    unfold cn
    split <;> omega
theorem cn_mono {T : rn_TR} {lv : Nat → Nat} : ∀ {i j}, i ≤ j → cn T lv i ≤ cn T lv j := by
  intro i j
  induction j with
  | zero => intro h; rw [show i = 0 by omega]; exact Nat.le_refl _
  | succ j ih =>
    intro h
    by_cases c : i = j + 1
    · rw [c]; exact Nat.le_refl _
    · have := ih (by omega)
      rw [show cn T lv (j + 1) = cn T lv j + (if lv j = 1 ∧ hnb T j = true then 1 else 0) from rfl]
      omega
def eV (S0 S : rn_T) : Prop := (∀ q f, ¬ (76 ≤ q ∧ q < 276 ∧ (f = 16 ∨ f = 17)) → ¬ (q = 276 ∧ f = 1) → rI S q f = rI S0 q f) ∧ rA S = rA S0 ∧ rR S = rR S0 ∧ rP S = rP S0 ∧ ∀ q, q ≠ 277 → rL S q = rL S0 q
def eVM (M0 M : rn_T) : Prop := rI M = rI M0 ∧ (∀ q, q ≠ 347 → q ≠ 348 → rA M q = rA M0 q) ∧ ∀ q, q ≠ 349 → rL M q = rL M0 q
theorem eV_r {S : rn_T} : eV S S := ⟨fun _ _ _ _ => rfl, rfl, rfl, rfl, fun _ _ => rfl⟩
theorem eVM_r {S : rn_T} : eVM S S := ⟨rfl, fun _ _ _ => rfl, fun _ _ => rfl⟩
theorem eV_I {S0 S : rn_T} {q f : Nat} {v : Int32} (h : eV S0 S) (hq : (76 ≤ q ∧ q < 276 ∧ (f = 16 ∨ f = 17)) ∨ (q = 276 ∧ f = 1)) : eV S0 (wI S q f v) := ⟨fun q2 f2 h1 h2 => by rw [ra_In (by omega)]; exact h.1 q2 f2 h1 h2, h.2⟩
theorem eV_L {S0 S : rn_T} {k : Nat} {v : Int64} (h : eV S0 S) : eV S0 (wL S 277 k v) := ⟨h.1, h.2.1, h.2.2.1, h.2.2.2.1, fun q hq => by rw [ra_Lf hq]; exact h.2.2.2.2 q hq⟩
theorem eVM_A {M0 M : rn_T} {q k : Nat} {v : Int32} (h : eVM M0 M) (hq : q = 347 ∨ q = 348) : eVM M0 (wA M q k v) := ⟨h.1, fun q2 h1 h2 => by rw [ra_Af (by omega)]; exact h.2.1 q2 h1 h2, h.2.2⟩
theorem eVM_L {M0 M : rn_T} {k : Nat} {v : Int64} (h : eVM M0 M) : eVM M0 (wL M 349 k v) := ⟨h.1, h.2.1, fun q hq => by rw [ra_Lf hq]; exact h.2.2 q hq⟩
/-- both sides, the first i parts done -/
def VR (S M : rn_T) (T : rn_TR) (lv ch vv : Nat → Nat) (i : Nat) : Prop := rI S 276 1 = nI (cn T lv i) ∧ (∀ q, q < cn T lv i → rL S 277 q = lN (vv q) ∧ vv q ≤ 4294967295) ∧ ∀ j, j < i → lv j < 2 ∧ rI S (76 + 2 * j) 17 = nI (lv j) ∧ rA M 347 j = nI (lv j) ∧ (lv j = 1 → hnb T j = true → rL M 349 j = lN (vv (cn T lv j)) ∧ (tK T j = 6 → rI S (76 + 2 * j) 16 = nI (ch j) ∧ rA M 348 j = nI (ch j) ∧ ch j < tC T j ∧ vv (cn T lv j) = ch j))
theorem ma_live {S0 M0 S M : rn_T} {T : rn_TR} {Y : rn_LY} {lv ch vv : Nat → Nat} {i : Nat} (hf : FT T) (hl : LT S0 M0 T Y) (hS : eV S0 S) (hM : eVM M0 M) (h : VR S M T lv ch vv i) (hi : i < tN T) : ∃ l, l < 2 ∧ f150 S (76 + 2 * i) = some (decide (l = 1)) ∧ f87 M (nI i) = some (decide (l = 1)) := by
  obtain ⟨hw, hN1, hN, hc⟩ := hf
  have hk3 := ma_kd3 (show i < 100 by omega)
  have hR : rR S (76 + 2 * i) = (if i = 0 then none else some (76 + 2 * tP T i)) := by rw [hS.2.2.1]; exact (hl.1.1.1.2.1 i hi).2.2.1
  have hP : rA M 324 i = (if i = 0 then -nI 6 else nI (tP T i)) := by rw [hM.2.1 324 (by omega) (by omega)]; exact (hl.1.2.1.1.2 i hi).2.2.1
  unfold f150 f87
  rw [if_pos hk3, if_neg (ob_F (by omega) (by omega)), nI_clamp (by omega), hP]
  by_cases c0 : i = 0
  · rw [if_pos c0] at hR ⊢
    rw [rn_om_n hR]
    exact ⟨1, by omega, rfl, rfl⟩
  · rw [if_neg c0] at hR ⊢
    obtain ⟨u1, u2, u3⟩ := hw.2.1 i (by omega) hi
    have hkp := ma_kd3 (show tP T i < 100 by omega)
    obtain ⟨v1, v2, v3, v4⟩ := h.2.2 (tP T i) u1
    have hKp := (hw.1 (tP T i) (by omega)).1
    have hIp := (hw.1 (tP T i) (by omega)).2.2.2.2
    have s4 : rI S (76 + 2 * tP T i) 4 = nI (tK T (tP T i)) := by rw [hS.1 _ _ (by omega) (by omega)]; exact (hl.1.1.1.2.1 _ (by omega)).2.1
    have s3 : rI S (76 + 2 * i) 3 = nI (tI T i) := by rw [hS.1 _ _ (by omega) (by omega)]; exact ((hl.1.1.1.2.1 i hi).2.2.2 (by omega)).1
    have m4 : rA M 322 (tP T i) = nI (tK T (tP T i)) := by rw [hM.2.1 322 (by omega) (by omega)]; exact (hl.1.2.1.1.2 _ (by omega)).1
    have m3 : rA M 325 i = nI (tI T i) := by rw [hM.2.1 325 (by omega) (by omega)]; exact (hl.1.2.1.1.2 i hi).2.2.2.1
    rw [rn_om_s hR, if_pos hkp, v2, s4, s3, if_neg (nI_pos (by omega)), if_neg (ob_F (by omega) (by omega)), nI_clamp (by omega), v3, m4, m3]
    by_cases cl : lv (tP T i) = 0
    · rw [if_pos (by rw [cl]; rfl), if_pos (by rw [cl]; rfl)]
      exact ⟨0, by omega, rfl, rfl⟩
    · rw [if_neg (show ¬ nI (lv (tP T i)) = 0 from nI_ne0 (by omega) (by omega)), if_neg (show ¬ nI (lv (tP T i)) = 0 from nI_ne0 (by omega) (by omega))]
      by_cases c6 : tK T (tP T i) = 6
      · have hhn : hnb T (tP T i) = true := by unfold hnb; rw [decide_eq_true_iff]; omega
        obtain ⟨-, w1⟩ := v4 (by omega) hhn
        obtain ⟨w2, w3, w4, w5⟩ := w1 c6
        rw [if_pos (show nI (tK T (tP T i)) = (6 : Int32) by rw [c6]; rfl), if_pos (show nI (tK T (tP T i)) = (6 : Int32) by rw [c6]; rfl), w2, w3]
        by_cases ce : ch (tP T i) = tI T i
        · rw [if_pos (by rw [ce])]
          exact ⟨1, by omega, rfl, rfl⟩
        · rw [if_neg (show ¬ nI (ch (tP T i)) = nI (tI T i) by simp (disch := omega) only [nI_lit, nI_add, pk_sub, pk_mul, ma_neg, nI_clamp, ma_ltT, ma_ltF, ma_leT, ma_leF, ma_eqT, ma_eqF, nI_ltI, nI_leI, nI_eq, ma_obT, ma_obF, ma_enF, ma_neF, ma_nlT, ma_lnF, ma_nLT, ma_Ln, ↓reduceIte, Option.bind_some, Option.bind_none, true_and, and_true, false_and, and_false, ne_eq, not_true_eq_false, not_false_eq_true, Bool.false_eq_true, reduceCtorEq, Nat.reduceAdd, Nat.reduceMul, Nat.reduceSub])]
          exact ⟨0, by omega, rfl, rfl⟩
      · rw [if_neg (show ¬ nI (tK T (tP T i)) = (6 : Int32) by simp (disch := omega) only [nI_lit, nI_add, pk_sub, pk_mul, ma_neg, nI_clamp, ma_ltT, ma_ltF, ma_leT, ma_leF, ma_eqT, ma_eqF, nI_ltI, nI_leI, nI_eq, ma_obT, ma_obF, ma_enF, ma_neF, ma_nlT, ma_lnF, ma_nLT, ma_Ln, ↓reduceIte, Option.bind_some, Option.bind_none, true_and, and_true, false_and, and_false, ne_eq, not_true_eq_false, not_false_eq_true, Bool.false_eq_true, reduceCtorEq, Nat.reduceAdd, Nat.reduceMul, Nat.reduceSub]), if_neg (show ¬ nI (tK T (tP T i)) = (6 : Int32) by simp (disch := omega) only [nI_lit, nI_add, pk_sub, pk_mul, ma_neg, nI_clamp, ma_ltT, ma_ltF, ma_leT, ma_leF, ma_eqT, ma_eqF, nI_ltI, nI_leI, nI_eq, ma_obT, ma_obF, ma_enF, ma_neF, ma_nlT, ma_lnF, ma_nLT, ma_Ln, ↓reduceIte, Option.bind_some, Option.bind_none, true_and, and_true, false_and, and_false, ne_eq, not_true_eq_false, not_false_eq_true, Bool.false_eq_true, reduceCtorEq, Nat.reduceAdd, Nat.reduceMul, Nat.reduceSub])]
        exact ⟨1, by omega, rfl, rfl⟩
theorem ma_131 {S : rn_T} {T : rn_TR} {i : Nat} (hi : i < 100) (hK : tK T i ≤ 6) (s4 : rI S (76 + 2 * i) 4 = nI (tK T i)) : f151 S (76 + 2 * i) = some (hnb T i) := by
  have hk3 := ma_kd3 hi
  unfold f151 f131 hnb
  rw [if_pos hk3, if_pos hk3, s4]
  exact (by decide : ∀ k, k ≤ 6 → (if nI k = (6 : Int32) then some true else Option.bind (if nI k = (1 : Int32) then some true else if nI k = (2 : Int32) then some true else if nI k = (3 : Int32) then some true else if nI k = (4 : Int32) then some true else some false) fun p3 => if p3 = true then some true else some false) = some (decide (k ≠ 0 ∧ k ≠ 5))) _ hK
theorem ma_88 {M : rn_T} {T : rn_TR} {i : Nat} (hi : i < 100) (hK : tK T i ≤ 6) (m4 : rA M 322 i = nI (tK T i)) : f88 M (nI i) = some (hnb T i) := by
  unfold f88 hnb
  rw [if_neg (ob_F (by omega) (by omega)), nI_clamp (by omega), m4]
  exact (by decide : ∀ k, k ≤ 6 → (if nI k = 0 then some false else if nI k = (5 : Int32) then some false else some true) = some (decide (k ≠ 0 ∧ k ≠ 5))) _ hK
theorem cmp_lt {v w : Nat} (hv : v < 2 ^ 63) (hw : w < 2 ^ 63) : (lg_cmp (lN v) (lN w) < 0) ↔ v < w := by
  rw [ma_cmp0, ma_lT hv, ma_lT hw]; omega
theorem cmp_ge {v w : Nat} (hv : v < 2 ^ 63) (hw : w < 2 ^ 63) : (0 ≤ lg_cmp (lN v) (lN w)) ↔ w ≤ v := by
  rw [← Int32.not_lt, cmp_lt hv hw]; omega
theorem cmp_gt {v w : Nat} (hv : v < 2 ^ 63) (hw : w < 2 ^ 63) : (0 < lg_cmp (lN v) (lN w)) ↔ w < v := by
  rw [ma_cmp1, ma_lT hv, ma_lT hw]; omega
theorem cmp_le {v w : Nat} (hv : v < 2 ^ 63) (hw : w < 2 ^ 63) : (lg_cmp (lN v) (lN w) ≤ 0) ↔ v ≤ w := by
  rw [← Int32.not_lt, cmp_gt hv hw]; omega
/-- both sides take the same numbers -/
theorem ma_adm {S0 M0 S M : rn_T} {T : rn_TR} {Y : rn_LY} {i v : Nat} (hf : FT T) (hl : LT S0 M0 T Y) (hS : eV S0 S) (hM : eVM M0 M) (hi : i < tN T) (hh : hnb T i = true) (hv : v ≤ 4294967295) : ∃ bb, f132 S (76 + 2 * i) (lN v) = some bb ∧ f89 M (nI i) (lN v) = some bb ∧ (bb = true → tK T i = 6 → v < tC T i) := by
  obtain ⟨hw, hN1, hN, hc⟩ := hf
  have hk3 := ma_kd3 (show i < 100 by omega)
  obtain ⟨w1, w2, w3, w4, w5⟩ := hw.1 i hi
  have s4 : rI S (76 + 2 * i) 4 = nI (tK T i) := by rw [hS.1 _ _ (by omega) (by omega)]; exact (hl.1.1.1.2.1 _ hi).2.1
  have s1 : rI S (76 + 2 * i) 1 = nI (tC T i) := by rw [hS.1 _ _ (by omega) (by omega)]; exact (hl.1.1.1.2.1 _ hi).1
  have s5 : rI S (76 + 2 * i) 5 = nI (Y i 5) := by rw [hS.1 _ _ (by omega) (by omega)]; exact hl.1.1.2.1 i hi (.inl (Nat.zero_le _)) 5 (by unfold fK; omega)
  have s10 : rI S (76 + 2 * i) 10 = nI (Y i 10) := by rw [hS.1 _ _ (by omega) (by omega)]; exact hl.1.1.2.1 i hi (.inl (Nat.zero_le _)) 10 (by unfold fK; omega)
  have m4 : rA M 322 i = nI (tK T i) := by rw [hM.2.1 322 (by omega) (by omega)]; exact (hl.1.2.1.1.2 _ hi).1
  have m6 : rA M 326 i = nI (tC T i) := by rw [hM.2.1 326 (by omega) (by omega)]; exact (hl.1.2.1.1.2 _ hi).2.2.2.2
  have m3 : tK T i = 1 ∨ tK T i = 3 → rA M 323 i = nI (tO T i) := by
    rw [hM.2.1 323 (by omega) (by omega)]; exact (hl.1.2.1.1.2 _ hi).2.1
  have hleaf := hl.1.2.2.2.2.2 i hi
  have hn0 : ¬ lg_cmp (lN v) (0 : Int64) < 0 := by
    rw [show (0 : Int64) = lN 0 from rfl, cmp_lt (by omega) (by omega)]; omega
  unfold f132 f132_J42 f89
  rw [if_pos hk3, if_neg (ob_F (by omega) (by omega)), nI_clamp (by omega), s4, m4, s1, s5, s10, m6]
  simp only [if_neg hn0]
  unfold hnb at hh
  rw [decide_eq_true_iff] at hh
  have hcase : tK T i = 1 ∨ tK T i = 2 ∨ tK T i = 3 ∨ tK T i = 4 ∨ tK T i = 6 := by omega
  rcases hcase with k | k | k | k | k
  · have hO := m3 (.inl k)
    have h5 := (hleaf (by omega)).1
    rw [k] at h5
    have h5 : Y i 5 = tO T i := h5
    rw [k, h5, hO, if_neg (show ¬ nI 1 = (6 : Int32) by decide), if_neg (show ¬ nI 1 = (4 : Int32) by decide), if_neg (show ¬ nI 1 = (2 : Int32) by decide), if_neg (show ¬ nI 1 = (3 : Int32) by decide), if_pos (show nI 1 = (1 : Int32) from rfl)]
    by_cases c : 0 ≤ lg_cmp (lN v) ((1 : Int64) <<< (((8 : Int32) * nI (tO T i)).toInt64 &&& 63))
    · rw [if_pos c]; exact ⟨false, rfl, rfl, fun hx => by cases hx⟩
    · rw [if_neg c]; exact ⟨true, rfl, rfl, fun _ hx => by omega⟩
  · have h10 := (hleaf (by omega)).2.2.2.2.1
    rw [k] at h10
    have h10 : Y i 10 = 2 := h10
    rw [k, h10, if_neg (show ¬ nI 2 = (6 : Int32) by decide), if_neg (show ¬ nI 2 = (4 : Int32) by decide), if_pos (show nI 2 = (2 : Int32) from rfl), if_neg (show ¬ nI 2 = (1 : Int32) by decide), if_pos (show nI 2 = (2 : Int32) from rfl), show (nI 2).toInt64 = (2 : Int64) by decide]
    by_cases c : 0 ≤ lg_cmp (lN v) (2 : Int64)
    · rw [if_pos c]; exact ⟨false, rfl, rfl, fun hx => by cases hx⟩
    · rw [if_neg c]; exact ⟨true, rfl, rfl, fun _ hx => by omega⟩
  · have hO := m3 (.inr k)
    have h10 := (hleaf (by omega)).2.2.2.2.1
    rw [k] at h10
    have h10 : Y i 10 = tO T i := h10
    rw [k, h10, hO, if_neg (show ¬ nI 3 = (6 : Int32) by decide), if_neg (show ¬ nI 3 = (4 : Int32) by decide), if_neg (show ¬ nI 3 = (2 : Int32) by decide), if_pos (show nI 3 = (3 : Int32) from rfl), if_neg (show ¬ nI 3 = (1 : Int32) by decide), if_neg (show ¬ nI 3 = (2 : Int32) by decide), if_pos (show nI 3 = (3 : Int32) from rfl)]
    by_cases c : 0 ≤ lg_cmp (lN v) (nI (tO T i)).toInt64
    · rw [if_pos c]; exact ⟨false, rfl, rfl, fun hx => by cases hx⟩
    · rw [if_neg c]; exact ⟨true, rfl, rfl, fun _ hx => by omega⟩
  · rw [k, if_neg (show ¬ nI 4 = (6 : Int32) by decide), if_pos (show nI 4 = (4 : Int32) from rfl), if_neg (show ¬ nI 4 = (1 : Int32) by decide), if_neg (show ¬ nI 4 = (2 : Int32) by decide), if_neg (show ¬ nI 4 = (3 : Int32) by decide), if_pos (show nI 4 = (4 : Int32) from rfl)]
    have c9 : ¬ 0 < lg_cmp (lN v) (4294967295 : Int64) := by
      rw [show (4294967295 : Int64) = lN 4294967295 from rfl, cmp_gt (by omega) (by omega)]; omega
    rw [if_neg c9]
    by_cases c : v = 0
    · have c1 : lg_cmp (lN v) (1 : Int64) < 0 := (cmp_lt (w := 1) (by omega) (by omega)).mpr (by omega)
      have c2 : lg_cmp (lN v) (0 : Int64) ≤ 0 := (cmp_le (w := 0) (by omega) (by omega)).mpr (by omega)
      rw [if_pos c1, if_pos c2]; exact ⟨false, rfl, rfl, fun hx => by cases hx⟩
    · have c1 : ¬ lg_cmp (lN v) (1 : Int64) < 0 := fun hx => by have := (cmp_lt (w := 1) (by omega) (by omega)).mp hx; omega
      have c2 : ¬ lg_cmp (lN v) (0 : Int64) ≤ 0 := fun hx => by have := (cmp_le (w := 0) (by omega) (by omega)).mp hx; omega
      rw [if_neg c1, if_neg c2]; exact ⟨true, rfl, rfl, fun _ hx => by omega⟩
  · rw [k, if_pos (show nI 6 = (6 : Int32) from rfl), if_neg (show ¬ nI 6 = (1 : Int32) by decide), if_neg (show ¬ nI 6 = (2 : Int32) by decide), if_neg (show ¬ nI 6 = (3 : Int32) by decide), if_neg (show ¬ nI 6 = (4 : Int32) by decide), nI_l (by omega)]
    by_cases c : tC T i ≤ v
    · rw [if_pos ((cmp_ge (by omega) (by omega)).mpr c)]; exact ⟨false, rfl, rfl, fun hx => by cases hx⟩
    · rw [if_neg (fun hx => c ((cmp_ge (by omega) (by omega)).mp hx))]; exact ⟨true, rfl, rfl, fun _ _ => by omega⟩
theorem vr_skip {S M : rn_T} {T : rn_TR} {lv ch vv : Nat → Nat} {i l : Nat} (hi : i < 100) (h : VR S M T lv ch vv i) (hl : l < 2) (hn : ¬ (l = 1 ∧ hnb T i = true)) : VR (wI S (76 + 2 * i) 17 (nI l)) (wA M 347 i (nI l)) T (fun j => if j = i then l else lv j) ch vv (i + 1) := by
  obtain ⟨h1, h2, h3⟩ := h
  have hcg : ∀ k, k ≤ i → cn T (fun j => if j = i then l else lv j) k = cn T lv k := fun k hk => cn_cg (fun j hj => if_neg (by omega))
  have hc1 : cn T (fun j => if j = i then l else lv j) (i + 1) = cn T lv i := by
    rw [cn, hcg i (Nat.le_refl i), if_pos rfl, if_neg hn]; rfl
  refine ⟨?_, fun q hq => ?_, fun j hj => ?_⟩
  · rw [hc1, ra_In (by omega)]; exact h1
  · rw [hc1] at hq
    exact h2 q hq
  · by_cases e : j = i
    · subst e
      simp only [if_true]
      refine ⟨hl, ra_I, ra_A, fun hx hy => absurd ⟨hx, hy⟩ hn⟩
    · simp only [if_neg e]
      rw [ra_In (by omega), ra_An (by omega), hcg j (by omega), ra_In (by omega), ra_An (by omega)]
      exact h3 j (by omega)
/-- one more number on both sides -/
def nS (S : rn_T) (T : rn_TR) (i c v : Nat) : rn_T := if tK T i = 6 then wI (wI (wL (wI S (76 + 2 * i) 17 (nI 1)) 277 c (lN v)) 276 1 (nI (c + 1))) (76 + 2 * i) 16 (nI v) else wI (wL (wI S (76 + 2 * i) 17 (nI 1)) 277 c (lN v)) 276 1 (nI (c + 1))
def nM (M : rn_T) (i v : Nat) : rn_T := wA (wL (wA M 347 i (nI 1)) 349 i (lN v)) 348 i (nI v)
theorem cl_152 {S : rn_T} {T : rn_TR} {i c v : Nat} (hi : i < 100) (hc : c < 100) (hK : tK T i ≤ 6) (h : rI S 276 1 = nI c) (s4 : rI S (76 + 2 * i) 4 = nI (tK T i)) : f152 (wI S (76 + 2 * i) 17 (nI 1)) (76 + 2 * i) (lN v) = some (nS S T i c v) := by
  have hk3 := ma_kd3 hi
  have e1 : rI (wI S (76 + 2 * i) 17 (nI 1)) 276 1 = nI c := by rw [ra_In (by omega)]; exact h
  unfold f152
  rw [e1, if_pos (show nI c < (100 : Int32) from nI_lt (show c < 100 from hc) (show 100 < 2 ^ 31 by omega)), if_neg (ob_F hc (by omega)), nI_clamp (by omega), if_pos hk3]
  have e2 : rI (wL (wI S (76 + 2 * i) 17 (nI 1)) 277 c (lN v)) 276 1 = nI c := e1
  rw [e2, nI_p1]
  have e4 : rI (wI (wL (wI S (76 + 2 * i) 17 (nI 1)) 277 c (lN v)) 276 1 (nI (c + 1))) (76 + 2 * i) 4 = nI (tK T i) := by simp (disch := omega) only [ra_I, ra_In, ra_A, ra_An, ra_IA, ra_IL, ra_IR, ra_IP, ra_AI, ra_AL, ra_AR, ra_AP, ra_L, ra_Ln, ra_LI, ra_LA, ra_LR, ra_LP, ra_R, ra_Rn, ra_RI, ra_RA, ra_RL, ra_RP, ra_P, ra_Pn, ra_PI, ra_PA, ra_PL, ra_PR]; exact s4
  rw [e4]
  unfold nS
  by_cases c6 : tK T i = 6
  · rw [if_pos (show nI (tK T i) = (6 : Int32) by rw [c6]; rfl), if_pos c6, lN_i]
  · rw [if_neg (show ¬ nI (tK T i) = (6 : Int32) by simp (disch := omega) only [nI_lit, nI_add, pk_sub, pk_mul, ma_neg, nI_clamp, ma_ltT, ma_ltF, ma_leT, ma_leF, ma_eqT, ma_eqF, nI_ltI, nI_leI, nI_eq, ma_obT, ma_obF, ma_enF, ma_neF, ma_nlT, ma_lnF, ma_nLT, ma_Ln, ↓reduceIte, Option.bind_some, Option.bind_none, true_and, and_true, false_and, and_false, ne_eq, not_true_eq_false, not_false_eq_true, Bool.false_eq_true, reduceCtorEq, Nat.reduceAdd, Nat.reduceMul, Nat.reduceSub]), if_neg c6]
theorem vr_num {S M : rn_T} {T : rn_TR} {lv ch vv : Nat → Nat} {i v : Nat} (hi : i < 100) (h : VR S M T lv ch vv i) (hn : hnb T i = true) (hv : v ≤ 4294967295) (h6 : tK T i = 6 → v < tC T i) : VR (nS S T i (cn T lv i) v) (nM M i v) T (fun j => if j = i then 1 else lv j) (fun j => if j = i then v else ch j) (fun q => if q = cn T lv i then v else vv q) (i + 1) := by
  obtain ⟨h1, h2, h3⟩ := h
  have hcg : ∀ k, k ≤ i → cn T (fun j => if j = i then 1 else lv j) k = cn T lv k := fun k hk => cn_cg (fun j hj => if_neg (by omega))
  have hc1 : cn T (fun j => if j = i then 1 else lv j) (i + 1) = cn T lv i + 1 := by
    rw [cn, hcg i (Nat.le_refl i), if_pos rfl, if_pos ⟨rfl, hn⟩]
  have hI : ∀ q f, ¬ (q = 76 + 2 * i ∧ (f = 16 ∨ f = 17)) → ¬ (q = 276 ∧ f = 1) → rI (nS S T i (cn T lv i) v) q f = rI S q f := by
    intro q f k1 k2
    unfold nS
    split <;> simp (disch := omega) only [ra_I, ra_In, ra_A, ra_An, ra_IA, ra_IL, ra_IR, ra_IP, ra_AI, ra_AL, ra_AR, ra_AP, ra_L, ra_Ln, ra_LI, ra_LA, ra_LR, ra_LP, ra_R, ra_Rn, ra_RI, ra_RA, ra_RL, ra_RP, ra_P, ra_Pn, ra_PI, ra_PA, ra_PL, ra_PR]
  have hL : rL (nS S T i (cn T lv i) v) = rL (wL (wI S (76 + 2 * i) 17 (nI 1)) 277 (cn T lv i) (lN v)) := by
    unfold nS; split <;> rfl
  refine ⟨?_, fun q hq => ?_, fun j hj => ?_⟩
  · rw [hc1]
    unfold nS
    split <;> simp (disch := omega) only [ra_I, ra_In, ra_A, ra_An, ra_IA, ra_IL, ra_IR, ra_IP, ra_AI, ra_AL, ra_AR, ra_AP, ra_L, ra_Ln, ra_LI, ra_LA, ra_LR, ra_LP, ra_R, ra_Rn, ra_RI, ra_RA, ra_RL, ra_RP, ra_P, ra_Pn, ra_PI, ra_PA, ra_PL, ra_PR]
  · rw [hc1] at hq
    rw [hL]
    by_cases e : q = cn T lv i
    · subst e
      simp only [if_true]
      exact ⟨ra_L, hv⟩
    · simp only [if_neg e]
      rw [ra_Ln (by omega)]
      exact h2 q (by omega)
  · by_cases e : j = i
    · subst e
      simp only [if_true]
      rw [hcg j (Nat.le_refl j)]
      refine ⟨by omega, ?_, ?_, fun _ _ => ⟨?_, fun k6 => ⟨?_, ?_, h6 k6, ?_⟩⟩⟩
      · unfold nS; split <;> simp (disch := omega) only [ra_I, ra_In, ra_A, ra_An, ra_IA, ra_IL, ra_IR, ra_IP, ra_AI, ra_AL, ra_AR, ra_AP, ra_L, ra_Ln, ra_LI, ra_LA, ra_LR, ra_LP, ra_R, ra_Rn, ra_RI, ra_RA, ra_RL, ra_RP, ra_P, ra_Pn, ra_PI, ra_PA, ra_PL, ra_PR]
      · unfold nM; simp (disch := omega) only [ra_I, ra_In, ra_A, ra_An, ra_IA, ra_IL, ra_IR, ra_IP, ra_AI, ra_AL, ra_AR, ra_AP, ra_L, ra_Ln, ra_LI, ra_LA, ra_LR, ra_LP, ra_R, ra_Rn, ra_RI, ra_RA, ra_RL, ra_RP, ra_P, ra_Pn, ra_PI, ra_PA, ra_PL, ra_PR]
      · simp only [if_true]
        unfold nM; simp (disch := omega) only [ra_I, ra_In, ra_A, ra_An, ra_IA, ra_IL, ra_IR, ra_IP, ra_AI, ra_AL, ra_AR, ra_AP, ra_L, ra_Ln, ra_LI, ra_LA, ra_LR, ra_LP, ra_R, ra_Rn, ra_RI, ra_RA, ra_RL, ra_RP, ra_P, ra_Pn, ra_PI, ra_PA, ra_PL, ra_PR]
      · unfold nS; rw [if_pos k6]; simp (disch := omega) only [ra_I, ra_In, ra_A, ra_An, ra_IA, ra_IL, ra_IR, ra_IP, ra_AI, ra_AL, ra_AR, ra_AP, ra_L, ra_Ln, ra_LI, ra_LA, ra_LR, ra_LP, ra_R, ra_Rn, ra_RI, ra_RA, ra_RL, ra_RP, ra_P, ra_Pn, ra_PI, ra_PA, ra_PL, ra_PR]
      · unfold nM; simp (disch := omega) only [ra_I, ra_In, ra_A, ra_An, ra_IA, ra_IL, ra_IR, ra_IP, ra_AI, ra_AL, ra_AR, ra_AP, ra_L, ra_Ln, ra_LI, ra_LA, ra_LR, ra_LP, ra_R, ra_Rn, ra_RI, ra_RA, ra_RL, ra_RP, ra_P, ra_Pn, ra_PI, ra_PA, ra_PL, ra_PR]
      · simp only [if_true]
    · simp only [if_neg e]
      rw [hcg j (by omega), hI _ 17 (by omega) (by omega), hI _ 16 (by omega) (by omega)]
      obtain ⟨g1, g2, g3, g4⟩ := h3 j (by omega)
      have e7 : rA (nM M i v) 347 j = rA M 347 j := by unfold nM; simp (disch := omega) only [ra_I, ra_In, ra_A, ra_An, ra_IA, ra_IL, ra_IR, ra_IP, ra_AI, ra_AL, ra_AR, ra_AP, ra_L, ra_Ln, ra_LI, ra_LA, ra_LR, ra_LP, ra_R, ra_Rn, ra_RI, ra_RA, ra_RL, ra_RP, ra_P, ra_Pn, ra_PI, ra_PA, ra_PL, ra_PR]
      have e8 : rA (nM M i v) 348 j = rA M 348 j := by unfold nM; simp (disch := omega) only [ra_I, ra_In, ra_A, ra_An, ra_IA, ra_IL, ra_IR, ra_IP, ra_AI, ra_AL, ra_AR, ra_AP, ra_L, ra_Ln, ra_LI, ra_LA, ra_LR, ra_LP, ra_R, ra_Rn, ra_RI, ra_RA, ra_RL, ra_RP, ra_P, ra_Pn, ra_PI, ra_PA, ra_PL, ra_PR]
      have e9 : rL (nM M i v) 349 j = rL M 349 j := by unfold nM; simp (disch := omega) only [ra_I, ra_In, ra_A, ra_An, ra_IA, ra_IL, ra_IR, ra_IP, ra_AI, ra_AL, ra_AR, ra_AP, ra_L, ra_Ln, ra_LI, ra_LA, ra_LR, ra_LP, ra_R, ra_Rn, ra_RI, ra_RA, ra_RL, ra_RP, ra_P, ra_Pn, ra_PI, ra_PA, ra_PL, ra_PR]
      rw [e7, e8, e9]
      refine ⟨g1, g2, g3, fun hx hy => ?_⟩
      have hlt : cn T lv j < cn T lv i := by
        have := cn_mono (T := T) (lv := lv) (show j + 1 ≤ i by omega)
        rw [cn, if_pos ⟨hx, hy⟩] at this
        omega
      rw [if_neg (by omega)]
      exact g4 hx hy
