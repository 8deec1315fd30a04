/-! 72: where all lies: numbers, children -/
def up (n a : Nat) : Nat := (n + a - 1) / a * a
def isA (a : Nat) : Prop := a = 1 ∨ a = 2 ∨ a = 4
theorem up_1 {n : Nat} : up n 1 = n := by unfold up; omega
theorem up_2 {n : Nat} : up n 2 = (n + 1) / 2 * 2 := rfl
theorem up_4 {n : Nat} : up n 4 = (n + 3) / 4 * 4 := rfl
theorem up_ge {n a : Nat} (h : isA a) : n ≤ up n a ∧ up n a ≤ n + 3 ∧ up n a % a = 0 := by
  rcases h with rfl | rfl | rfl
  · rw [up_1]; omega
  · rw [up_2]; omega
  · rw [up_4]; omega
theorem up_id {n a : Nat} (h : isA a) (h2 : n % a = 0) : up n a = n := by
  rcases h with rfl | rfl | rfl
  · exact up_1
  · rw [up_2]; omega
  · rw [up_4]; omega
theorem ma_f26 {n a : Nat} (hn : n < 2000) (h : isA a) : f26 (nI n) (nI a) = nI (up n a) := by
  rcases h with rfl | rfl | rfl
  · exact (by decide +kernel : ∀ n, n < 2000 → f26 (nI n) (nI 1) = nI (up n 1)) n hn
  · exact (by decide +kernel : ∀ n, n < 2000 → f26 (nI n) (nI 2) = nI (up n 2)) n hn
  · exact (by decide +kernel : ∀ n, n < 2000 → f26 (nI n) (nI 4) = nI (up n 4)) n hn
theorem ma_f32 {n a : Nat} (hn : n < 2000) (h : isA a) : f32 (nI n) (nI a) = some (nI (up n a)) := by
  rcases h with rfl | rfl | rfl
  · exact (by decide +kernel : ∀ n, n < 2000 → f32 (nI n) (nI 1) = some (nI (up n 1))) n hn
  · exact (by decide +kernel : ∀ n, n < 2000 → f32 (nI n) (nI 2) = some (nI (up n 2))) n hn
  · exact (by decide +kernel : ∀ n, n < 2000 → f32 (nI n) (nI 4) = some (nI (up n 4))) n hn
def mx2 (a b : Nat) : Nat := if a < b then b else a
theorem mx2_l {a b : Nat} : a ≤ mx2 a b := by unfold mx2; split <;> omega
theorem mx2_r {a b : Nat} : b ≤ mx2 a b := by unfold mx2; split <;> omega
theorem mx2_o {a b : Nat} : mx2 a b = a ∨ mx2 a b = b := by unfold mx2; split <;> simp
theorem ma_f31 {a b : Nat} (ha : a < 2 ^ 31) (hb : b < 2 ^ 31) : f31 (nI a) (nI b) = nI (mx2 a b) := by
  unfold f31 mx2
  by_cases h : a < b
  · rw [if_pos h]; simp (disch := omega) only [nI_lit, nI_add, pk_sub, pk_mul, ma_neg, nI_clamp, ma_ltT, ma_ltF, ma_leT, ma_leF, ma_eqT, ma_eqF, nI_ltI, nI_leI, nI_eq, ma_obT, ma_obF, ma_enF, ma_neF, ma_nlT, ma_lnF, ma_nLT, ma_Ln, ↓reduceIte, Option.bind_some, Option.bind_none, true_and, and_true, false_and, and_false, ne_eq, not_true_eq_false, not_false_eq_true, Bool.false_eq_true, reduceCtorEq, Nat.reduceAdd, Nat.reduceMul, Nat.reduceSub]
  · rw [if_neg h]
    by_cases h2 : a = b
    · subst h2; simp (disch := omega) only [nI_lit, nI_add, pk_sub, pk_mul, ma_neg, nI_clamp, ma_ltT, ma_ltF, ma_leT, ma_leF, ma_eqT, ma_eqF, nI_ltI, nI_leI, nI_eq, ma_obT, ma_obF, ma_enF, ma_neF, ma_nlT, ma_lnF, ma_nLT, ma_Ln, ↓reduceIte, Option.bind_some, Option.bind_none, true_and, and_true, false_and, and_false, ne_eq, not_true_eq_false, not_false_eq_true, Bool.false_eq_true, reduceCtorEq, Nat.reduceAdd, Nat.reduceMul, Nat.reduceSub]
    · simp (disch := omega) only [nI_lit, nI_add, pk_sub, pk_mul, ma_neg, nI_clamp, ma_ltT, ma_ltF, ma_leT, ma_leF, ma_eqT, ma_eqF, nI_ltI, nI_leI, nI_eq, ma_obT, ma_obF, ma_enF, ma_neF, ma_nlT, ma_lnF, ma_nLT, ma_Ln, ↓reduceIte, Option.bind_some, Option.bind_none, true_and, and_true, false_and, and_false, ne_eq, not_true_eq_false, not_false_eq_true, Bool.false_eq_true, reduceCtorEq, Nat.reduceAdd, Nat.reduceMul, Nat.reduceSub]
theorem ma_mxC {a b : Nat} (ha : a < 2 ^ 31) (hb : b < 2 ^ 31) : (if nI a < nI b then nI b else nI a) = nI (mx2 a b) := by
  unfold mx2
  by_cases h : a < b
  · rw [if_pos h]; simp (disch := omega) only [nI_lit, nI_add, pk_sub, pk_mul, ma_neg, nI_clamp, ma_ltT, ma_ltF, ma_leT, ma_leF, ma_eqT, ma_eqF, nI_ltI, nI_leI, nI_eq, ma_obT, ma_obF, ma_enF, ma_neF, ma_nlT, ma_lnF, ma_nLT, ma_Ln, ↓reduceIte, Option.bind_some, Option.bind_none, true_and, and_true, false_and, and_false, ne_eq, not_true_eq_false, not_false_eq_true, Bool.false_eq_true, reduceCtorEq, Nat.reduceAdd, Nat.reduceMul, Nat.reduceSub]
  · rw [if_neg h]; simp (disch := omega) only [nI_lit, nI_add, pk_sub, pk_mul, ma_neg, nI_clamp, ma_ltT, ma_ltF, ma_leT, ma_leF, ma_eqT, ma_eqF, nI_ltI, nI_leI, nI_eq, ma_obT, ma_obF, ma_enF, ma_neF, ma_nlT, ma_lnF, ma_nLT, ma_Ln, ↓reduceIte, Option.bind_some, Option.bind_none, true_and, and_true, false_and, and_false, ne_eq, not_true_eq_false, not_false_eq_true, Bool.false_eq_true, reduceCtorEq, Nat.reduceAdd, Nat.reduceMul, Nat.reduceSub]
/-- the class's nodes as the tree has them -/
def sk (S : rn_T) (T : rn_TR) (i : Nat) : Prop := rI S (76 + 2 * i) 1 = nI (tC T i) ∧ rI S (76 + 2 * i) 4 = nI (tK T i) ∧ rR S (76 + 2 * i) = (if i = 0 then none else some (76 + 2 * tP T i)) ∧ (0 < i → rI S (76 + 2 * i) 3 = nI (tI T i) ∧ rP S (77 + 2 * tP T i) (tI T i) = some (76 + 2 * i))
def SK (S : rn_T) (T : rn_TR) : Prop := rI S 66 0 = nI (tN T) ∧ (∀ i, i < tN T → sk S T i) ∧ rI S 76 15 = nI 0
theorem sb_sk {S : rn_T} {T : rn_TR} (h : SB S T) : SK S T := ⟨h.1, fun i hi => ⟨(h.2.1 i hi).1, (h.2.1 i hi).2.1, (h.2.1 i hi).2.2.2.2.2.2.2.2.2.1, (h.2.1 i hi).2.2.2.2.2.2.2.2.2.2⟩, h.2.2⟩
theorem sk_child {S : rn_T} {T : rn_TR} {k j : Nat} (h : SK S T) (hw : TW T) (hk : k < tN T) (hj : j < tC T k) : rP S (76 + 2 * k + 1) j = some (76 + 2 * tE T k j) := by
  obtain ⟨g1, g2, g3, g4⟩ := hw.2.2 k j hk hj
  have := ((h.2.1 (tE T k j) g2).2.2.2 (by omega)).2
  rw [g3, g4] at this
  rw [show 76 + 2 * k + 1 = 77 + 2 * k by omega]; exact this
theorem ma_childL {M : rn_T} {T : rn_TR} {k j : Nat} {f : rn_T → Option Int32} (h : MB M T) (hw : TW T) (hk : k < tN T) (hj : j < tC T k) (hN : tN T ≤ 100) : ∀ d fu e, e + d = tE T k j → k < e → d < fu → f57_L4 (nI k) (nI j) fu M (nI e) f = some (nI (tE T k j)) := by
  obtain ⟨g1, g2, g3, g4⟩ := hw.2.2 k j hk hj
  have hm := h.1
  intro d
  induction d with
  | zero =>
    intro fu e he hke hf
    obtain ⟨G, rfl⟩ : ∃ G, fu = G + 1 := ⟨fu - 1, by omega⟩
    have : e = tE T k j := by omega
    subst this
    obtain ⟨b1, b2, b3, b4, b5⟩ := h.2 _ g2
    rw [if_neg (by omega), g3] at b3
    rw [g4] at b4
    rw [f57_L4]
    simp (disch := omega) only [hm, b3, b4, nI_lit, nI_add, pk_sub, pk_mul, ma_neg, nI_clamp, ma_ltT, ma_ltF, ma_leT, ma_leF, ma_eqT, ma_eqF, nI_ltI, nI_leI, nI_eq, ma_obT, ma_obF, ma_enF, ma_neF, ma_nlT, ma_lnF, ma_nLT, ma_Ln, ↓reduceIte, Option.bind_some, Option.bind_none, true_and, and_true, false_and, and_false, ne_eq, not_true_eq_false, not_false_eq_true, Bool.false_eq_true, reduceCtorEq, Nat.reduceAdd, Nat.reduceMul, Nat.reduceSub]
  | succ d ih =>
    intro fu e he hke hf
    obtain ⟨G, rfl⟩ : ∃ G, fu = G + 1 := ⟨fu - 1, by omega⟩
    obtain ⟨b1, b2, b3, b4, b5⟩ := h.2 e (by omega)
    rw [if_neg (by omega)] at b3
    have u := hw.2.1 e (by omega) (by omega)
    have hC := (hw.1 (tP T e) (by omega)).2.2.2.2
    have hC2 := (hw.1 k hk).2.2.2.2
    have := ih G (e + 1) (by omega) (by omega) (by omega)
    rw [f57_L4]
    by_cases c1 : tP T e = k
    · by_cases c2 : tI T e = j
      · rw [c1, c2] at u; omega
      · simp (disch := omega) only [hm, b3, b4, c1, nI_lit, nI_add, pk_sub, pk_mul, ma_neg, nI_clamp, ma_ltT, ma_ltF, ma_leT, ma_leF, ma_eqT, ma_eqF, nI_ltI, nI_leI, nI_eq, ma_obT, ma_obF, ma_enF, ma_neF, ma_nlT, ma_lnF, ma_nLT, ma_Ln, ↓reduceIte, Option.bind_some, Option.bind_none, true_and, and_true, false_and, and_false, ne_eq, not_true_eq_false, not_false_eq_true, Bool.false_eq_true, reduceCtorEq, Nat.reduceAdd, Nat.reduceMul, Nat.reduceSub]
        exact this
    · simp (disch := omega) only [hm, b3, b4, nI_lit, nI_add, pk_sub, pk_mul, ma_neg, nI_clamp, ma_ltT, ma_ltF, ma_leT, ma_leF, ma_eqT, ma_eqF, nI_ltI, nI_leI, nI_eq, ma_obT, ma_obF, ma_enF, ma_neF, ma_nlT, ma_lnF, ma_nLT, ma_Ln, ↓reduceIte, Option.bind_some, Option.bind_none, true_and, and_true, false_and, and_false, ne_eq, not_true_eq_false, not_false_eq_true, Bool.false_eq_true, reduceCtorEq, Nat.reduceAdd, Nat.reduceMul, Nat.reduceSub]
      exact this
theorem ma_child {M : rn_T} {T : rn_TR} {k j : Nat} (h : MB M T) (hw : TW T) (hk : k < tN T) (hj : j < tC T k) (hN : tN T ≤ 100) : f57 M (nI k) (nI j) = some (nI (tE T k j)) := by
  obtain ⟨g1, g2, g3, g4⟩ := hw.2.2 k j hk hj
  unfold f57
  rw [show nI k + (1 : Int32) = nI (k + 1) by rw [nI_lit]; exact nI_add _ _]
  exact ma_childL h hw hk hj hN (tE T k j - (k + 1)) rn_FU (k + 1) (by omega) (by omega) (by unfold rn_FU; omega)
theorem tE_inj {T : rn_TR} {k j j2 : Nat} (hw : TW T) (hk : k < tN T) (hj : j < tC T k) (hj2 : j2 < tC T k) (h : tE T k j = tE T k j2) : j = j2 := by
  have h1 := (hw.2.2 k j hk hj).2.2.2
  have h2 := (hw.2.2 k j2 hk hj2).2.2.2
  rw [← h1, ← h2, h]
/-- the fields that one is known by when what is around is laid: size, align, the gap -/
def fK (f : Nat) : Prop := f = 5 ∨ f = 6 ∨ f = 8 ∨ f = 9 ∨ f = 10 ∨ f = 11
/-- the layout, by part and field (the class's numbers: 5 size, 6 align, 7 offset, 8 gap, 9 its width, 10 first, 11 how many, 12 manner, 13 host) -/
abbrev rn_LY : Type := Nat → Nat → Nat
def yU (Y : rn_LY) (k f v : Nat) : rn_LY := fun i g => if i = k ∧ g = f then v else Y i g
theorem yU_s {Y : rn_LY} {k f v : Nat} : yU Y k f v k f = v := by unfold yU; rw [if_pos ⟨rfl, rfl⟩]
theorem yU_n {Y : rn_LY} {k f v i g : Nat} (h : i ≠ k ∨ g ≠ f) : yU Y k f v i g = Y i g := by unfold yU; rw [if_neg (by omega)]
/-- one that is laid in itself -/
def CI (Y : rn_LY) (e : Nat) : Prop := isA (Y e 6) ∧ Y e 5 % Y e 6 = 0 ∧ Y e 5 ≤ 64 ∧ Y e 8 ≤ 64 ∧ Y e 9 ≤ 4 ∧ (Y e 11 = 0 ∨ Y e 8 + Y e 9 ≤ Y e 5) ∧ Y e 10 + Y e 11 ≤ 256
/-- what stands while k is laid -/
def KR (S M : rn_T) (T : rn_TR) (Y : rn_LY) (k : Nat) : Prop := SK S T ∧ MB M T ∧ (∀ j, j < tC T k → CI Y (tE T k j) ∧ ∀ f, fK f → rI S (76 + 2 * tE T k j) f = nI (Y (tE T k j) f) ∧ rA M (329 + f) (tE T k j) = nI (Y (tE T k j) f))
/-- what the laying of k may change -/
def eK (T : rn_TR) (k : Nat) (S S2 : rn_T) : Prop := (∀ q f, ¬ (q = 76 + 2 * k ∧ 5 ≤ f ∧ f ≤ 13 ∧ f ≠ 7) → (∀ j, j < tC T k → ¬ (q = 76 + 2 * tE T k j ∧ (f = 7 ∨ f = 14))) → rI S2 q f = rI S q f) ∧ rA S2 = rA S ∧ rL S2 = rL S ∧ rR S2 = rR S ∧ rP S2 = rP S
theorem eK_r {T : rn_TR} {k : Nat} {S : rn_T} : eK T k S S := ⟨fun _ _ _ _ => rfl, rfl, rfl, rfl, rfl⟩
theorem eK_t {T : rn_TR} {k : Nat} {S S2 S3 : rn_T} (h : eK T k S S2) (g : eK T k S2 S3) : eK T k S S3 := ⟨fun q f h1 h2 => (g.1 q f h1 h2).trans (h.1 q f h1 h2), g.2.1.trans h.2.1, g.2.2.1.trans h.2.2.1, g.2.2.2.1.trans h.2.2.2.1, g.2.2.2.2.trans h.2.2.2.2⟩
theorem eK_k {T : rn_TR} {k f : Nat} {S : rn_T} {v : Int32} (h : 5 ≤ f ∧ f ≤ 13 ∧ f ≠ 7) : eK T k S (wI S (76 + 2 * k) f v) := ⟨fun q g h1 _ => by rw [ra_In (by omega)], rfl, rfl, rfl, rfl⟩
theorem eK_c {T : rn_TR} {k f j : Nat} {S : rn_T} {v : Int32} (hj : j < tC T k) (h : f = 7 ∨ f = 14) : eK T k S (wI S (76 + 2 * tE T k j) f v) := ⟨fun q g _ h2 => by have := h2 j hj; rw [ra_In (by omega)], rfl, rfl, rfl, rfl⟩
def eKM (T : rn_TR) (k : Nat) (M M2 : rn_T) : Prop := (∀ q i, ¬ (i = k ∧ 334 ≤ q ∧ q ≤ 342 ∧ q ≠ 336) → (∀ j, j < tC T k → ¬ (i = tE T k j ∧ q = 336)) → rA M2 q i = rA M q i) ∧ rI M2 = rI M ∧ rL M2 = rL M
theorem eKM_r {T : rn_TR} {k : Nat} {M : rn_T} : eKM T k M M := ⟨fun _ _ _ _ => rfl, rfl, rfl⟩
theorem eKM_t {T : rn_TR} {k : Nat} {M M2 M3 : rn_T} (h : eKM T k M M2) (g : eKM T k M2 M3) : eKM T k M M3 := ⟨fun q f h1 h2 => (g.1 q f h1 h2).trans (h.1 q f h1 h2), g.2.1.trans h.2.1, g.2.2.trans h.2.2⟩
theorem eKM_k {T : rn_TR} {k q : Nat} {M : rn_T} {v : Int32} (h : 334 ≤ q ∧ q ≤ 342 ∧ q ≠ 336) : eKM T k M (wA M q k v) := ⟨fun q g h1 _ => by rw [ra_An (by omega)], rfl, rfl⟩
theorem eKM_c {T : rn_TR} {k j : Nat} {M : rn_T} {v : Int32} (hj : j < tC T k) : eKM T k M (wA M 336 (tE T k j) v) := ⟨fun q g _ h2 => by have := h2 j hj; rw [ra_An (by omega)], rfl, rfl⟩
theorem kr_eq {S S2 M M2 : rn_T} {T : rn_TR} {Y Y2 : rn_LY} {k : Nat} (hw : TW T) (hk : k < tN T) (h : KR S M T Y k) (he : eK T k S S2) (hm : eKM T k M M2) (hy : ∀ i f, i ≠ k → f ≠ 7 → Y2 i f = Y i f) : KR S2 M2 T Y2 k := by
  obtain ⟨h1, h2, h3⟩ := h
  refine ⟨⟨?_, fun i hi => ?_, ?_⟩, mb_eq h2 (by rw [hm.2.1]) (fun q h1 h2 => funext fun i => hm.1 q i (by omega) (fun j hj => by omega)), fun j hj => ?_⟩
  · rw [he.1 66 0 (by omega) (fun j hj => by omega)]; exact h1.1
  · have := h1.2.1 i hi
    unfold sk at this ⊢
    rw [he.1 _ 1 (by omega) (fun j hj => by omega), he.1 _ 4 (by omega) (fun j hj => by omega), he.1 _ 3 (by omega) (fun j hj => by omega), he.2.2.2.1, he.2.2.2.2]
    exact this
  · rw [he.1 76 15 (by omega) (fun j hj => by omega)]; exact h1.2.2
  · obtain ⟨c1, c2⟩ := h3 j hj
    obtain ⟨g1, g2, g3, g4⟩ := hw.2.2 k j hk hj
    refine ⟨?_, fun f hf => ?_⟩
    · unfold CI at c1 ⊢
      rw [hy _ 5 (by omega) (by omega), hy _ 6 (by omega) (by omega), hy _ 8 (by omega) (by omega), hy _ 9 (by omega) (by omega), hy _ 10 (by omega) (by omega), hy _ 11 (by omega) (by omega)]
      exact c1
    · obtain ⟨d1, d2⟩ := c2 f hf
      unfold fK at hf
      rw [hy _ f (by omega) (by omega), he.1 _ f (by omega) (fun j hj => by omega), hm.1 _ _ (by omega) (fun j hj => by omega)]
      exact ⟨d1, d2⟩
