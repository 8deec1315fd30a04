/-! 66: a letter on both sides -/
def XS (S : rn_T) (X : Nat → rn_IT) (n : Nat) : Prop := rI S 66 10 = nI n ∧ ∀ i, i < n → rA S 69 i = nI (X i).1 ∧ rA S 70 i = nI (X i).2.1 ∧ rA S 71 i = encC (X i).2.2
def XM (M : rn_T) (X : Nat → rn_IT) (n : Nat) : Prop := rI M 318 19 = nI n ∧ ∀ i, i < n → rA M 331 i = nI (X i).1 ∧ rA M 332 i = nI (X i).2.1 ∧ rA M 333 i = encM (X i).2.2
def IS (S : rn_T) (t : rn_IT) : Prop := rI S 66 3 = nI t.1 ∧ rI S 66 4 = nI t.2.1 ∧ rI S 66 5 = encC t.2.2
/-- what is needed, and its ends -/
def WX (A : rn_AT) (N : Nat → Prop) (EE : Nat → Nat → Nat) : Prop := ∀ j, j < 8 → N j → WT A j (EE j) ∧ ∀ i, i < aN A j → isL (aC A j i) → N (aC A j i - 65)
def GI (A : rn_AT) (N : Nat → Prop) (EE : Nat → Nat → Nat) (n : Nat) (t : rn_IT) : Prop := t.1 < 8 ∧ N t.1 ∧ (∃ e, TM (aC A t.1) (aO A) t.1 (EE t.1) t.2.1 e ∧ e ≤ aN A t.1) ∧ (∀ i, t.2.2 = some i → i < n) ∧ (aO A t.1 = true → t.2.2 ≠ none)
theorem GI_le {A : rn_AT} {N : Nat → Prop} {EE : Nat → Nat → Nat} {n n2 : Nat} {t : rn_IT} (h : GI A N EE n t) (hn : n ≤ n2) : GI A N EE n2 t := ⟨h.1, h.2.1, h.2.2.1, fun i hi => by have := h.2.2.2.1 i hi; omega, h.2.2.2.2⟩
/-- the tree and the frames stay -/
def eL (S S2 : rn_T) : Prop := (∀ q j, (q ≠ 66 ∨ j = 0 ∨ j = 15) → rI S2 q j = rI S q j) ∧ (∀ q, ¬ (69 ≤ q ∧ q ≤ 71) → rA S2 q = rA S q) ∧ rL S2 = rL S ∧ rR S2 = rR S ∧ rP S2 = rP S
theorem eL_r {S : rn_T} : eL S S := ⟨fun _ _ _ => rfl, fun _ _ => rfl, rfl, rfl, rfl⟩
theorem eL_t {S S2 S3 : rn_T} (h : eL S S2) (g : eL S2 S3) : eL S S3 := ⟨fun q j hq => (g.1 q j hq).trans (h.1 q j hq), fun q hq => (g.2.1 q hq).trans (h.2.1 q hq), g.2.2.1.trans h.2.2.1, g.2.2.2.1.trans h.2.2.2.1, g.2.2.2.2.trans h.2.2.2.2⟩
theorem eL_E {S S2 : rn_T} (h : eL S S2) : EqT (fun q => q < 66 ∨ 276 ≤ q) S S2 := fun q hq => ⟨funext fun j => h.1 q j (by omega), h.2.1 q (by omega), by rw [h.2.2.1]⟩
theorem eL_S {S S2 : rn_T} (h : eL S S2) : eqS S S2 := eq_m (eL_E h) (fun q hq => by omega)
/-- the parts stay -/
def eX (M M2 : rn_T) : Prop := EqT (fun q => q ≠ 318 ∧ (q < 327 ∨ 334 ≤ q)) M M2 ∧ ∀ k, k ≠ 15 → k ≠ 19 → k ≠ 20 → rI M2 318 k = rI M 318 k
theorem eX_r {M : rn_T} : eX M M := ⟨eq_r, fun _ _ _ _ => rfl⟩
theorem eX_t {M M2 M3 : rn_T} (h : eX M M2) (h2 : eX M2 M3) : eX M M3 := ⟨eq_t h.1 h2.1, fun k hk h3 h4 => (h2.2 k hk h3 h4).trans (h.2 k hk h3 h4)⟩
theorem eX_M {M M2 : rn_T} (h : eX M M2) : eqM M M2 := ⟨eq_m h.1 (fun q hq => by omega), h.2 2 (by omega) (by omega) (by omega), h.2 33 (by omega) (by omega) (by omega)⟩
theorem eX_T {M M2 : rn_T} (h : eT M M2) : eX M M2 := ⟨eq_m h.1 (fun q hq => by omega), fun k h1 _ _ => h.2 k h1⟩
theorem eX_A {M : rn_T} {q k : Nat} {v : Int32} (h : 327 ≤ q ∧ q < 334) : eX M (wA M q k v) := ⟨eq_A (by omega), fun _ _ _ _ => rfl⟩
theorem eX_I {M : rn_T} {k : Nat} {v : Int32} (h : k = 15 ∨ k = 19 ∨ k = 20) : eX M (wI M 318 k v) := ⟨eq_I (by omega), fun j h1 h2 h3 => by rw [ra_In (by omega)]⟩
def ad3 (T : rn_T) (q o f n : Nat) (a b c : Int32) : rn_T := wI (wA (wA (wA T q n a) (q + 1) n b) (q + 2) n c) o f (nI (n + 1))
theorem cl_keep {S : rn_T} {n : Nat} {a b c : Int32} (h : rI S 66 10 = nI n) (hn : n ≤ 500) : f158 S a b c = some (nI n, ad3 S 69 66 10 n a b c) := by
  unfold f158 ad3
  simp (disch := omega) only [h, Nat.add_sub_cancel, nI_lit, nI_add, pk_sub, pk_mul, ma_neg, nI_clamp, ma_ltT, ma_ltF, ma_leT, ma_leF, ma_eqT, ma_eqF, nI_ltI, nI_leI, nI_eq, ma_obT, ma_obF, ma_enF, ma_neF, ma_nlT, ma_lnF, ma_nLT, ma_Ln, ↓reduceIte, Option.bind_some, Option.bind_none, true_and, and_true, false_and, and_false, ne_eq, not_true_eq_false, not_false_eq_true, Bool.false_eq_true, reduceCtorEq, Nat.reduceAdd, Nat.reduceMul, Nat.reduceSub, ra_I, ra_In, ra_A, ra_An, ra_IA, ra_IL, ra_IR, ra_IP, ra_AI, ra_AL, ra_AR, ra_AP, ra_L, ra_Ln, ra_LI, ra_LA, ra_LR, ra_LP, ra_R, ra_Rn, ra_RI, ra_RA, ra_RL, ra_RP, ra_P, ra_Pn, ra_PI, ra_PA, ra_PL, ra_PR]
theorem rf_x {M : rn_T} {n : Nat} {a b c : Int32} (h : rI M 318 19 = nI n) (hn : n < 520) : f51 M a b c = some (nI n, ad3 M 331 318 19 n a b c) := by
  unfold f51 ad3
  simp (disch := omega) only [h, Nat.add_sub_cancel, nI_lit, nI_add, pk_sub, pk_mul, ma_neg, nI_clamp, ma_ltT, ma_ltF, ma_leT, ma_leF, ma_eqT, ma_eqF, nI_ltI, nI_leI, nI_eq, ma_obT, ma_obF, ma_enF, ma_neF, ma_nlT, ma_lnF, ma_nLT, ma_Ln, ↓reduceIte, Option.bind_some, Option.bind_none, true_and, and_true, false_and, and_false, ne_eq, not_true_eq_false, not_false_eq_true, Bool.false_eq_true, reduceCtorEq, Nat.reduceAdd, Nat.reduceMul, Nat.reduceSub, ra_I, ra_In, ra_A, ra_An, ra_IA, ra_IL, ra_IR, ra_IP, ra_AI, ra_AL, ra_AR, ra_AP, ra_L, ra_Ln, ra_LI, ra_LA, ra_LR, ra_LP, ra_R, ra_Rn, ra_RI, ra_RA, ra_RL, ra_RP, ra_P, ra_Pn, ra_PI, ra_PA, ra_PL, ra_PR]
theorem xs_add {S : rn_T} {X : Nat → rn_IT} {n : Nat} {t : rn_IT} (h : XS S X n) : XS (ad3 S 69 66 10 n (nI t.1) (nI t.2.1) (encC t.2.2)) (fun i => if i = n then t else X i) (n + 1) := by
  unfold ad3
  refine ⟨by simp (disch := omega) only [ra_I, ra_In, ra_A, ra_An, ra_IA, ra_IL, ra_IR, ra_IP, ra_AI, ra_AL, ra_AR, ra_AP, ra_L, ra_Ln, ra_LI, ra_LA, ra_LR, ra_LP, ra_R, ra_Rn, ra_RI, ra_RA, ra_RL, ra_RP, ra_P, ra_Pn, ra_PI, ra_PA, ra_PL, ra_PR], fun i hi => ?_⟩
  by_cases e : i = n
  · subst e
    simp only [if_true]
    refine ⟨?_, ?_, ?_⟩ <;> simp (disch := omega) only [ra_I, ra_In, ra_A, ra_An, ra_IA, ra_IL, ra_IR, ra_IP, ra_AI, ra_AL, ra_AR, ra_AP, ra_L, ra_Ln, ra_LI, ra_LA, ra_LR, ra_LP, ra_R, ra_Rn, ra_RI, ra_RA, ra_RL, ra_RP, ra_P, ra_Pn, ra_PI, ra_PA, ra_PL, ra_PR]
  · simp only [if_neg e]
    obtain ⟨g1, g2, g3⟩ := h.2 i (by omega)
    rw [← g1, ← g2, ← g3]
    refine ⟨?_, ?_, ?_⟩ <;> simp (disch := omega) only [ra_I, ra_In, ra_A, ra_An, ra_IA, ra_IL, ra_IR, ra_IP, ra_AI, ra_AL, ra_AR, ra_AP, ra_L, ra_Ln, ra_LI, ra_LA, ra_LR, ra_LP, ra_R, ra_Rn, ra_RI, ra_RA, ra_RL, ra_RP, ra_P, ra_Pn, ra_PI, ra_PA, ra_PL, ra_PR]
theorem xm_add {M : rn_T} {X : Nat → rn_IT} {n : Nat} {t : rn_IT} (h : XM M X n) : XM (ad3 M 331 318 19 n (nI t.1) (nI t.2.1) (encM t.2.2)) (fun i => if i = n then t else X i) (n + 1) := by
  unfold ad3
  refine ⟨by simp (disch := omega) only [ra_I, ra_In, ra_A, ra_An, ra_IA, ra_IL, ra_IR, ra_IP, ra_AI, ra_AL, ra_AR, ra_AP, ra_L, ra_Ln, ra_LI, ra_LA, ra_LR, ra_LP, ra_R, ra_Rn, ra_RI, ra_RA, ra_RL, ra_RP, ra_P, ra_Pn, ra_PI, ra_PA, ra_PL, ra_PR], fun i hi => ?_⟩
  by_cases e : i = n
  · subst e
    simp only [if_true]
    refine ⟨?_, ?_, ?_⟩ <;> simp (disch := omega) only [ra_I, ra_In, ra_A, ra_An, ra_IA, ra_IL, ra_IR, ra_IP, ra_AI, ra_AL, ra_AR, ra_AP, ra_L, ra_Ln, ra_LI, ra_LA, ra_LR, ra_LP, ra_R, ra_Rn, ra_RI, ra_RA, ra_RL, ra_RP, ra_P, ra_Pn, ra_PI, ra_PA, ra_PL, ra_PR]
  · simp only [if_neg e]
    obtain ⟨g1, g2, g3⟩ := h.2 i (by omega)
    rw [← g1, ← g2, ← g3]
    refine ⟨?_, ?_, ?_⟩ <;> simp (disch := omega) only [ra_I, ra_In, ra_A, ra_An, ra_IA, ra_IL, ra_IR, ra_IP, ra_AI, ra_AL, ra_AR, ra_AP, ra_L, ra_Ln, ra_LI, ra_LA, ra_LR, ra_LP, ra_R, ra_Rn, ra_RI, ra_RA, ra_RL, ra_RP, ra_P, ra_Pn, ra_PI, ra_PA, ra_PL, ra_PR]
theorem xs_eq {S S2 : rn_T} {X : Nat → rn_IT} {n : Nat} (h : XS S X n) (h0 : rI S2 66 10 = rI S 66 10) (h1 : rA S2 = rA S) : XS S2 X n := by
  unfold XS
  rw [h0, h1]; exact h
theorem xm_eq {M M2 : rn_T} {X : Nat → rn_IT} {n : Nat} (h : XM M X n) (h0 : rI M2 318 19 = rI M 318 19) (h1 : ∀ q, 331 ≤ q → q ≤ 333 → rA M2 q = rA M q) : XM M2 X n := by
  unfold XM
  rw [h0, h1 331 (by omega) (by omega), h1 332 (by omega) (by omega), h1 333 (by omega) (by omega)]; exact h
/-- the class in the midst of letters -/
def CL (S : rn_T) (A : rn_AT) (X : Nat → rn_IT) (n g : Nat) (t : rn_IT) : Prop := PS S A ∧ XS S X n ∧ rI S 66 6 = nI g ∧ IS S t
/-- and the reference -/
def RQ (M : rn_T) (A : rn_AT) (X : Nat → rn_IT) (n g : Nat) (L : List (rn_IT × Option Nat)) : Prop := PM M A ∧ XM M X n ∧ rI M 318 20 = nI g ∧ TD M L ∧ rI M 318 15 = nI L.length
def GX (A : rn_AT) (N : Nat → Prop) (EE : Nat → Nat → Nat) (X : Nat → rn_IT) (n : Nat) : Prop := ∀ i, i < n → GI A N EE n (X i)
theorem GX_add {A : rn_AT} {N : Nat → Prop} {EE : Nat → Nat → Nat} {X : Nat → rn_IT} {n : Nat} {t : rn_IT} (h : GX A N EE X n) (ht : GI A N EE n t) : GX A N EE (fun i => if i = n then t else X i) (n + 1) := by
  intro i hi
  by_cases e : i = n
  · simp only [if_pos e]; exact GI_le ht (by omega)
  · simp only [if_neg e]; exact GI_le (h i (by omega)) (by omega)
theorem TM_x {A : rn_AT} {s p e : Nat} {E : Nat → Nat} (h : TM (aC A s) (aO A) s E p e) (he : e ≤ aN A s) (hc : aC A s p = 120) : aO A s = true := by
  have := TM_lt h
  exact ao_iff.mpr ⟨p, by omega, hc⟩
theorem TM_l {A : rn_AT} {s p e : Nat} {E : Nat → Nat} (h : TM (aC A s) (aO A) s E p e) (hc : isL (aC A s p)) : aC A s p - 65 < s ∧ (aO A (aC A s p - 65) = true → TM (aC A s) (aO A) s E (p + 1) e) := by
  obtain ⟨d, h⟩ := h
  unfold isL at hc
  cases d with
  | zero => exact h.elim
  | succ d =>
    rcases h.2 with ⟨h, _⟩ | ⟨h, _⟩ | ⟨_, h1, h2, _⟩ | ⟨_, h1, h2, h3⟩ | ⟨k, q, h, _⟩
    · unfold isP at h; omega
    · omega
    · exact ⟨h1, fun hh => by rw [h2] at hh; cases hh⟩
    · exact ⟨h1, fun _ => ⟨d, h3⟩⟩
    · omega
theorem rf_open {M : rn_T} {A : rn_AT} {X : Nat → rn_IT} {n g : Nat} {t : rn_IT} {p : Option Nat} {L : List (rn_IT × Option Nat)} (h : RQ M A X n g ((t, p) :: L)) (ho : OKA A) (ht : t.1 < 8) (ha : t.2.1 < aN A t.1) (hL : L.length < 640) : ((aC A t.1 t.2.1 = 120 ∨ isL (aC A t.1 t.2.1)) → f55 M = f55_J47 (wI M 318 15 (nI L.length)) (nI t.1) (nI t.2.1) (encM t.2.2) (encM p) (nI (aC A t.1 t.2.1)) (nI g) (1 : Int32)) ∧ (¬ (aC A t.1 t.2.1 = 120 ∨ isL (aC A t.1 t.2.1)) → f55 M = f55_J47 (wI M 318 15 (nI L.length)) (nI t.1) (nI t.2.1) (encM t.2.2) (encM p) (nI (aC A t.1 t.2.1)) (nI g) (0 : Int32)) := by
  obtain ⟨h1, h2, h3, ⟨⟨k1, k2, k3, k4⟩, h4⟩, h5⟩ := h
  have hN := ho.1 t.1 ht
  have hc := ho.2.1 t.1 ht t.2.1 (by omega)
  have h5 : rI M 318 15 = nI (L.length + 1) := h5
  have hm : PM (wI M 318 15 (nI L.length)) A := pm_eq h1 (eX_M (eX_I (.inl rfl)))
  have e1 : rI M 318 15 - (1 : Int32) = nI L.length := by rw [h5, nI_lit, pk_sub (show 1 ≤ L.length + 1 by omega)]; rfl
  unfold f55 f55_J44
  rw [e1]
  simp only [ra_I, nI_clamp (show L.length < 2 ^ 31 by omega), ra_AI, k1, k2, k3, k4]
  rw [if_neg (by rw [ma_obF (by omega) (by omega)]; exact not_false), ma_f33 hm ht (by omega), Option.bind_some]
  have e37 : f37 (wI M 318 15 (nI L.length)) (nI (aC A t.1 t.2.1)) = decide (65 ≤ aC A t.1 t.2.1 ∧ aC A t.1 t.2.1 < 73) := ma_f37 hc
  have e20 : rI (wI M 318 15 (nI L.length)) 318 20 = nI g := by rw [ra_In (by omega)]; exact h3
  rw [e20, e37]
  refine ⟨fun hc => ?_, fun hc => ?_⟩
  · by_cases c1 : aC A t.1 t.2.1 = 120
    · rw [if_pos (by rw [c1]; rfl)]
    · have c2 := hc.resolve_left c1
      rw [if_neg (by simp (disch := omega) only [c1, nI_lit, nI_add, pk_sub, pk_mul, ma_neg, nI_clamp, ma_ltT, ma_ltF, ma_leT, ma_leF, ma_eqT, ma_eqF, nI_ltI, nI_leI, nI_eq, ma_obT, ma_obF, ma_enF, ma_neF, ma_nlT, ma_lnF, ma_nLT, ma_Ln, ↓reduceIte, Option.bind_some, Option.bind_none, true_and, and_true, false_and, and_false, ne_eq, not_true_eq_false, not_false_eq_true, Bool.false_eq_true, reduceCtorEq, Nat.reduceAdd, Nat.reduceMul, Nat.reduceSub]), if_pos (show decide (65 ≤ aC A t.1 t.2.1 ∧ aC A t.1 t.2.1 < 73) = true from decide_eq_true_iff.mpr c2)]
  · have c1 : ¬ aC A t.1 t.2.1 = 120 := fun hh => hc (.inl hh)
    have c2 : ¬ (65 ≤ aC A t.1 t.2.1 ∧ aC A t.1 t.2.1 < 73) := fun hh => hc (.inr hh)
    rw [if_neg (by simp (disch := omega) only [c1, nI_lit, nI_add, pk_sub, pk_mul, ma_neg, nI_clamp, ma_ltT, ma_ltF, ma_leT, ma_leF, ma_eqT, ma_eqF, nI_ltI, nI_leI, nI_eq, ma_obT, ma_obF, ma_enF, ma_neF, ma_nlT, ma_lnF, ma_nLT, ma_Ln, ↓reduceIte, Option.bind_some, Option.bind_none, true_and, and_true, false_and, and_false, ne_eq, not_true_eq_false, not_false_eq_true, Bool.false_eq_true, reduceCtorEq, Nat.reduceAdd, Nat.reduceMul, Nat.reduceSub]), if_neg (fun hh => c2 (of_decide_eq_true hh))]
theorem ma_letter {A : rn_AT} {N : Nat → Prop} {EE : Nat → Nat → Nat} {X : Nat → rn_IT} {n g : Nat} {t : rn_IT} {p : Option Nat} {L : List (rn_IT × Option Nat)} {S M : rn_T} (ho : OKA A) (hw : WX A N EE) (hg : g ≤ 500) (hn : n ≤ g + 1) (hL : L.length ≤ 630) (hS : CL S A X n g t) (hM : RQ M A X n g ((t, p) :: L)) (hx : GX A N EE X n) (ht : GI A N EE n t) (hc : aC A t.1 t.2.1 = 120 ∨ isL (aC A t.1 t.2.1)) : ∃ (M2 : rn_T) (t2 : rn_IT) (X2 : Nat → rn_IT) (n2 : Nat), f55 M = some M2 ∧ eX M M2 ∧ RQ M2 A X2 n2 (g + 1) ((t2, p) :: L) ∧ GX A N EE X2 n2 ∧ GI A N EE n2 t2 ∧ n ≤ n2 ∧ n2 ≤ g + 2 ∧ (g < 500 → ∃ S2, (∀ v (rc : rn_T → Int32 → Option (Bool × rn_T)) k, f160_J20_2 S 1 v (nI (aC A t.1 t.2.1)) rc k = rc S2 (v + (1 : Int32))) ∧ eL S S2 ∧ CL S2 A X2 n2 (g + 1) t2) := by
  obtain ⟨t1, t2, ⟨e, t3, t4⟩, t5, t6⟩ := ht
  have hlt := TM_lt t3
  have hN := ho.1 t.1 t1
  rw [(rf_open hM ho t1 (by omega) (by omega)).1 hc]
  obtain ⟨h1, h2, h3, h4a, h5⟩ := hM
  have h4 := h4a.2
  obtain ⟨s1, s2, s3, s4, s5, s6⟩ := hS
  have hm : PM (wI (wI M 318 15 (nI L.length)) 318 20 (nI (g + 1))) A := pm_eq h1 (eX_M (eX_t (eX_I (.inl rfl)) (eX_I (.inr (.inr rfl)))))
  have hE0 : eX M (wI (wI M 318 15 (nI L.length)) 318 20 (nI (g + 1))) := eX_t (eX_I (.inl rfl)) (eX_I (.inr (.inr rfl)))
  have hxm0 : XM (wI (wI M 318 15 (nI L.length)) 318 20 (nI (g + 1))) X n := xm_eq h2 (by rw [ra_In (by omega), ra_In (by omega)]) (fun q _ _ => rfl)
  have eg : nI g + (1 : Int32) = nI (g + 1) := by rw [nI_lit]; exact nI_add _ _
  have hLS : eL S (wI S 66 6 (nI (g + 1))) := ⟨fun q j hq => by rw [ra_In (by omega)], fun _ _ => rfl, rfl, rfl, rfl⟩
  have hPS : PS (wI S 66 6 (nI (g + 1))) A := ps_eq s1 (eq_m (eL_E hLS) (fun q hq => by omega))
  rcases hc with c | c
  · -- x
    have hop := TM_x t3 t4 c
    obtain ⟨i, hi⟩ : ∃ i, t.2.2 = some i := by
      cases hh : t.2.2 with
      | none => exact absurd hh (t6 hop)
      | some i => exact ⟨i, rfl⟩
    have hin := t5 i hi
    obtain ⟨x1, x2, x3⟩ := h2.2 i hin
    obtain ⟨y1, y2, y3⟩ := s2.2 i hin
    have hgi := hx i hin
    refine ⟨pu4 (wI (wI M 318 15 (nI L.length)) 318 20 (nI (g + 1))) L.length (nI (X i).1) (nI (X i).2.1) (encM (X i).2.2) (encM p), X i, X, n, ?_, eX_t hE0 (eX_T eT_pu), ⟨pm_eq hm (eT_M eT_pu), ?_, ?_, ?_, ?_⟩, hx, hgi, Nat.le_refl _, by omega, fun hg5 => ⟨wI (wI (wI (wI S 66 6 (nI (g + 1))) 66 3 (nI (X i).1)) 66 4 (nI (X i).2.1)) 66 5 (encC (X i).2.2), fun v rc k => ?_, ?_, ?_⟩⟩
    · unfold f55_J47
      rw [c, if_pos (show nI 120 = (120 : Int32) from rfl), hi, eg]
      unfold encM
      rw [if_neg (by rw [ma_obF (by omega) (by omega)]; exact not_false)]
      simp only [nI_clamp (show i < 2 ^ 31 by omega), ra_AI, x1, x2, x3]
      rw [rf_todo (n := L.length) (by simp (disch := omega) only [ra_I, ra_In, ra_A, ra_An, ra_IA, ra_IL, ra_IR, ra_IP, ra_AI, ra_AL, ra_AR, ra_AP, ra_L, ra_Ln, ra_LI, ra_LA, ra_LR, ra_LP, ra_R, ra_Rn, ra_RI, ra_RA, ra_RL, ra_RP, ra_P, ra_Pn, ra_PI, ra_PA, ra_PL, ra_PR]) (by omega)]
      rfl
    · exact xm_eq hxm0 (by rw [eT_pu.2 19 (by omega)]) (fun q h1 h2 => (eT_pu.1 q (by omega)).2.1)
    · rw [eT_pu.2 20 (by omega)]; simp (disch := omega) only [ra_I, ra_In, ra_A, ra_An, ra_IA, ra_IL, ra_IR, ra_IP, ra_AI, ra_AL, ra_AR, ra_AP, ra_L, ra_Ln, ra_LI, ra_LA, ra_LR, ra_LP, ra_R, ra_Rn, ra_RI, ra_RA, ra_RL, ra_RP, ra_P, ra_Pn, ra_PI, ra_PA, ra_PL, ra_PR]
    · exact td_pu (td_eq h4 (fun k hk => ⟨rfl, rfl, rfl, rfl⟩))
    · unfold pu4; simp (disch := omega) only [ra_I, ra_In, ra_A, ra_An, ra_IA, ra_IL, ra_IR, ra_IP, ra_AI, ra_AL, ra_AR, ra_AP, ra_L, ra_Ln, ra_LI, ra_LA, ra_LR, ra_LP, ra_R, ra_Rn, ra_RI, ra_RA, ra_RL, ra_RP, ra_P, ra_Pn, ra_PI, ra_PA, ra_PL, ra_PR]; rfl
    · unfold f160_J20_2 f157
      have s7 : rI S 66 5 = nI i := by rw [s6, hi]; rfl
      rw [c]
      simp (disch := omega) only [s3, s7, s2.1, y1, y2, y3, nI_lit, nI_add, pk_sub, pk_mul, ma_neg, nI_clamp, ma_ltT, ma_ltF, ma_leT, ma_leF, ma_eqT, ma_eqF, nI_ltI, nI_leI, nI_eq, ma_obT, ma_obF, ma_enF, ma_neF, ma_nlT, ma_lnF, ma_nLT, ma_Ln, ↓reduceIte, Option.bind_some, Option.bind_none, true_and, and_true, false_and, and_false, ne_eq, not_true_eq_false, not_false_eq_true, Bool.false_eq_true, reduceCtorEq, Nat.reduceAdd, Nat.reduceMul, Nat.reduceSub, ra_I, ra_In, ra_A, ra_An, ra_IA, ra_IL, ra_IR, ra_IP, ra_AI, ra_AL, ra_AR, ra_AP, ra_L, ra_Ln, ra_LI, ra_LA, ra_LR, ra_LP, ra_R, ra_Rn, ra_RI, ra_RA, ra_RL, ra_RP, ra_P, ra_Pn, ra_PI, ra_PA, ra_PL, ra_PR]
    · refine ⟨fun q j hq => ?_, fun _ _ => rfl, rfl, rfl, rfl⟩
      simp (disch := omega) only [ra_I, ra_In, ra_A, ra_An, ra_IA, ra_IL, ra_IR, ra_IP, ra_AI, ra_AL, ra_AR, ra_AP, ra_L, ra_Ln, ra_LI, ra_LA, ra_LR, ra_LP, ra_R, ra_Rn, ra_RI, ra_RA, ra_RL, ra_RP, ra_P, ra_Pn, ra_PI, ra_PA, ra_PL, ra_PR]
    · refine ⟨ps_eq hPS (eq_t (eq_t (eq_I (by omega)) (eq_I (by omega))) (eq_I (by omega))), xs_eq s2 (by simp (disch := omega) only [ra_I, ra_In, ra_A, ra_An, ra_IA, ra_IL, ra_IR, ra_IP, ra_AI, ra_AL, ra_AR, ra_AP, ra_L, ra_Ln, ra_LI, ra_LA, ra_LR, ra_LP, ra_R, ra_Rn, ra_RI, ra_RA, ra_RL, ra_RP, ra_P, ra_Pn, ra_PI, ra_PA, ra_PL, ra_PR]) rfl, by simp (disch := omega) only [ra_I, ra_In, ra_A, ra_An, ra_IA, ra_IL, ra_IR, ra_IP, ra_AI, ra_AL, ra_AR, ra_AP, ra_L, ra_Ln, ra_LI, ra_LA, ra_LR, ra_LP, ra_R, ra_Rn, ra_RI, ra_RA, ra_RL, ra_RP, ra_P, ra_Pn, ra_PI, ra_PA, ra_PL, ra_PR], by simp (disch := omega) only [ra_I, ra_In, ra_A, ra_An, ra_IA, ra_IL, ra_IR, ra_IP, ra_AI, ra_AL, ra_AR, ra_AP, ra_L, ra_Ln, ra_LI, ra_LA, ra_LR, ra_LP, ra_R, ra_Rn, ra_RI, ra_RA, ra_RL, ra_RP, ra_P, ra_Pn, ra_PI, ra_PA, ra_PL, ra_PR], by simp (disch := omega) only [ra_I, ra_In, ra_A, ra_An, ra_IA, ra_IL, ra_IR, ra_IP, ra_AI, ra_AL, ra_AR, ra_AP, ra_L, ra_Ln, ra_LI, ra_LA, ra_LR, ra_LP, ra_R, ra_Rn, ra_RI, ra_RA, ra_RL, ra_RP, ra_P, ra_Pn, ra_PI, ra_PA, ra_PL, ra_PR], by simp (disch := omega) only [ra_I, ra_In, ra_A, ra_An, ra_IA, ra_IL, ra_IR, ra_IP, ra_AI, ra_AL, ra_AR, ra_AP, ra_L, ra_Ln, ra_LI, ra_LA, ra_LR, ra_LP, ra_R, ra_Rn, ra_RI, ra_RA, ra_RL, ra_RP, ra_P, ra_Pn, ra_PI, ra_PA, ra_PL, ra_PR]⟩
  · obtain ⟨c1, c2⟩ := TM_l t3 c
    have hcl : isL (aC A t.1 t.2.1) := c
    obtain ⟨w1, w2⟩ := hw t.1 t1 t2
    have hneed := w2 t.2.1 (by omega) c
    unfold isL at c
    have w3 := (hw (aC A t.1 t.2.1 - 65) (by omega) hneed).1.1
    have hne : ¬ aC A t.1 t.2.1 = 120 := by omega
    have e37 : f37 (wI (wI M 318 15 (nI L.length)) 318 20 (nI (g + 1))) (nI (aC A t.1 t.2.1)) = true := by rw [ma_f37 (by omega), decide_eq_true_iff]; exact c
    have e65 : nI (aC A t.1 t.2.1) - (65 : Int32) = nI (aC A t.1 t.2.1 - 65) := by rw [nI_lit, pk_sub (show 65 ≤ aC A t.1 t.2.1 from c.1)]
    by_cases op : aO A (aC A t.1 t.2.1 - 65) = true
    · have c3 := c2 op
      have hgt : GI A N EE n (t.1, t.2.1 + 1, t.2.2) := ⟨t1, t2, ⟨e, c3, t4⟩, t5, t6⟩
      refine ⟨pu4 (ad3 (wI (wI M 318 15 (nI L.length)) 318 20 (nI (g + 1))) 331 318 19 n (nI t.1) (nI (t.2.1 + 1)) (encM t.2.2)) L.length (nI (aC A t.1 t.2.1 - 65)) (nI 0) (encM (some n)) (encM p), (aC A t.1 t.2.1 - 65, 0, some n), fun i => if i = n then (t.1, t.2.1 + 1, t.2.2) else X i, n + 1, ?_, ?_, ⟨?_, ?_, ?_, ?_, ?_⟩, GX_add hx hgt, ⟨by omega, hneed, ⟨_, w3, Nat.le_refl _⟩, fun i hi => by cases hi; omega, fun _ hh => by cases hh⟩, by omega, by omega, fun hg5 => ⟨wI (wI (wI (ad3 (wI S 66 6 (nI (g + 1))) 69 66 10 n (nI t.1) (nI (t.2.1 + 1)) (encC t.2.2)) 66 3 (nI (aC A t.1 t.2.1 - 65))) 66 4 (nI 0)) 66 5 (nI n), fun v rc k => ?_, ?_, ?_⟩⟩
      · unfold f55_J47
        rw [eg, if_neg (by simp (disch := omega) only [hne, nI_lit, nI_add, pk_sub, pk_mul, ma_neg, nI_clamp, ma_ltT, ma_ltF, ma_leT, ma_leF, ma_eqT, ma_eqF, nI_ltI, nI_leI, nI_eq, ma_obT, ma_obF, ma_enF, ma_neF, ma_nlT, ma_lnF, ma_nLT, ma_Ln, ↓reduceIte, Option.bind_some, Option.bind_none, true_and, and_true, false_and, and_false, ne_eq, not_true_eq_false, not_false_eq_true, Bool.false_eq_true, reduceCtorEq, Nat.reduceAdd, Nat.reduceMul, Nat.reduceSub]), if_pos e37, e65, ma_f36 hm ho (by omega), Option.bind_some, if_pos op, rf_x (n := n) (by rw [ra_In (by omega), ra_In (by omega)]; exact h2.1) (by omega), Option.bind_some, rf_todo (n := L.length) (by unfold ad3; simp (disch := omega) only [ra_I, ra_In, ra_A, ra_An, ra_IA, ra_IL, ra_IR, ra_IP, ra_AI, ra_AL, ra_AR, ra_AP, ra_L, ra_Ln, ra_LI, ra_LA, ra_LR, ra_LP, ra_R, ra_Rn, ra_RI, ra_RA, ra_RL, ra_RP, ra_P, ra_Pn, ra_PI, ra_PA, ra_PL, ra_PR]) (by omega), Option.bind_some, show nI t.2.1 + (1 : Int32) = nI (t.2.1 + 1) by rw [nI_lit]; exact nI_add _ _]
        rfl
      · refine eX_t hE0 (eX_t ?_ (eX_T eT_pu))
        unfold ad3
        exact eX_t (eX_t (eX_t (eX_A (by omega)) (eX_A (by omega))) (eX_A (by omega))) (eX_I (by omega))
      · refine pm_eq hm (eX_M (eX_t ?_ (eX_T eT_pu)))
        unfold ad3
        exact eX_t (eX_t (eX_t (eX_A (by omega)) (eX_A (by omega))) (eX_A (by omega))) (eX_I (by omega))
      · have := xm_add (t := (t.1, t.2.1 + 1, t.2.2)) hxm0
        exact xm_eq this (by rw [eT_pu.2 19 (by omega)]) (fun q h1 h2 => (eT_pu.1 q (by omega)).2.1)
      · rw [eT_pu.2 20 (by omega)]; unfold ad3; simp (disch := omega) only [ra_I, ra_In, ra_A, ra_An, ra_IA, ra_IL, ra_IR, ra_IP, ra_AI, ra_AL, ra_AR, ra_AP, ra_L, ra_Ln, ra_LI, ra_LA, ra_LR, ra_LP, ra_R, ra_Rn, ra_RI, ra_RA, ra_RL, ra_RP, ra_P, ra_Pn, ra_PI, ra_PA, ra_PL, ra_PR]
      · exact td_pu (t := (aC A t.1 t.2.1 - 65, 0, some n)) (td_eq h4 (fun k hk => by unfold ad3; refine ⟨?_, ?_, ?_, ?_⟩ <;> simp (disch := omega) only [ra_I, ra_In, ra_A, ra_An, ra_IA, ra_IL, ra_IR, ra_IP, ra_AI, ra_AL, ra_AR, ra_AP, ra_L, ra_Ln, ra_LI, ra_LA, ra_LR, ra_LP, ra_R, ra_Rn, ra_RI, ra_RA, ra_RL, ra_RP, ra_P, ra_Pn, ra_PI, ra_PA, ra_PL, ra_PR]))
      · unfold pu4; simp (disch := omega) only [ra_I, ra_In, ra_A, ra_An, ra_IA, ra_IL, ra_IR, ra_IP, ra_AI, ra_AL, ra_AR, ra_AP, ra_L, ra_Ln, ra_LI, ra_LA, ra_LR, ra_LP, ra_R, ra_Rn, ra_RI, ra_RA, ra_RL, ra_RP, ra_P, ra_Pn, ra_PI, ra_PA, ra_PL, ra_PR]; rfl
      · unfold f160_J20_2 f157
        simp (disch := omega) only [s3, s4, s5, s6, hne, ma_f114 hPS ho (show aC A t.1 t.2.1 - 65 < 8 by omega), op, nI_lit, nI_add, pk_sub, pk_mul, ma_neg, nI_clamp, ma_ltT, ma_ltF, ma_leT, ma_leF, ma_eqT, ma_eqF, nI_ltI, nI_leI, nI_eq, ma_obT, ma_obF, ma_enF, ma_neF, ma_nlT, ma_lnF, ma_nLT, ma_Ln, ↓reduceIte, Option.bind_some, Option.bind_none, true_and, and_true, false_and, and_false, ne_eq, not_true_eq_false, not_false_eq_true, Bool.false_eq_true, reduceCtorEq, Nat.reduceAdd, Nat.reduceMul, Nat.reduceSub, ra_I, ra_In, ra_A, ra_An, ra_IA, ra_IL, ra_IR, ra_IP, ra_AI, ra_AL, ra_AR, ra_AP, ra_L, ra_Ln, ra_LI, ra_LA, ra_LR, ra_LP, ra_R, ra_Rn, ra_RI, ra_RA, ra_RL, ra_RP, ra_P, ra_Pn, ra_PI, ra_PA, ra_PL, ra_PR]
        rw [cl_keep (n := n) (by rw [ra_In (by omega)]; exact s2.1) (by omega)]
        rfl
      · refine eL_t hLS ?_
        unfold ad3
        refine ⟨fun q j hq => ?_, fun q hq => ?_, rfl, rfl, rfl⟩
        · simp (disch := omega) only [ra_I, ra_In, ra_A, ra_An, ra_IA, ra_IL, ra_IR, ra_IP, ra_AI, ra_AL, ra_AR, ra_AP, ra_L, ra_Ln, ra_LI, ra_LA, ra_LR, ra_LP, ra_R, ra_Rn, ra_RI, ra_RA, ra_RL, ra_RP, ra_P, ra_Pn, ra_PI, ra_PA, ra_PL, ra_PR]
        · funext k
          simp (disch := omega) only [ra_I, ra_In, ra_A, ra_An, ra_IA, ra_IL, ra_IR, ra_IP, ra_AI, ra_AL, ra_AR, ra_AP, ra_L, ra_Ln, ra_LI, ra_LA, ra_LR, ra_LP, ra_R, ra_Rn, ra_RI, ra_RA, ra_RL, ra_RP, ra_P, ra_Pn, ra_PI, ra_PA, ra_PL, ra_PR]
      · refine ⟨ps_eq hPS (eq_m (P := fun q => q < 66) ?_ (fun q hq => by omega)), ?_, ?_, ?_, ?_, ?_⟩
        · unfold ad3
          exact eq_t (eq_t (eq_t (eq_t (eq_t (eq_t (eq_A (by omega)) (eq_A (by omega))) (eq_A (by omega))) (eq_I (by omega))) (eq_I (by omega))) (eq_I (by omega))) (eq_I (by omega))
        · have := xs_add (t := (t.1, t.2.1 + 1, t.2.2)) (xs_eq (S2 := wI S 66 6 (nI (g + 1))) s2 (by simp (disch := omega) only [ra_I, ra_In, ra_A, ra_An, ra_IA, ra_IL, ra_IR, ra_IP, ra_AI, ra_AL, ra_AR, ra_AP, ra_L, ra_Ln, ra_LI, ra_LA, ra_LR, ra_LP, ra_R, ra_Rn, ra_RI, ra_RA, ra_RL, ra_RP, ra_P, ra_Pn, ra_PI, ra_PA, ra_PL, ra_PR]) rfl)
          exact xs_eq this (by simp (disch := omega) only [ra_I, ra_In, ra_A, ra_An, ra_IA, ra_IL, ra_IR, ra_IP, ra_AI, ra_AL, ra_AR, ra_AP, ra_L, ra_Ln, ra_LI, ra_LA, ra_LR, ra_LP, ra_R, ra_Rn, ra_RI, ra_RA, ra_RL, ra_RP, ra_P, ra_Pn, ra_PI, ra_PA, ra_PL, ra_PR]) rfl
        · unfold ad3; simp (disch := omega) only [ra_I, ra_In, ra_A, ra_An, ra_IA, ra_IL, ra_IR, ra_IP, ra_AI, ra_AL, ra_AR, ra_AP, ra_L, ra_Ln, ra_LI, ra_LA, ra_LR, ra_LP, ra_R, ra_Rn, ra_RI, ra_RA, ra_RL, ra_RP, ra_P, ra_Pn, ra_PI, ra_PA, ra_PL, ra_PR]
        · unfold ad3; simp (disch := omega) only [ra_I, ra_In, ra_A, ra_An, ra_IA, ra_IL, ra_IR, ra_IP, ra_AI, ra_AL, ra_AR, ra_AP, ra_L, ra_Ln, ra_LI, ra_LA, ra_LR, ra_LP, ra_R, ra_Rn, ra_RI, ra_RA, ra_RL, ra_RP, ra_P, ra_Pn, ra_PI, ra_PA, ra_PL, ra_PR]
        · unfold ad3; simp (disch := omega) only [ra_I, ra_In, ra_A, ra_An, ra_IA, ra_IL, ra_IR, ra_IP, ra_AI, ra_AL, ra_AR, ra_AP, ra_L, ra_Ln, ra_LI, ra_LA, ra_LR, ra_LP, ra_R, ra_Rn, ra_RI, ra_RA, ra_RL, ra_RP, ra_P, ra_Pn, ra_PI, ra_PA, ra_PL, ra_PR]
        · unfold ad3; simp (disch := omega) only [ra_I, ra_In, ra_A, ra_An, ra_IA, ra_IL, ra_IR, ra_IP, ra_AI, ra_AL, ra_AR, ra_AP, ra_L, ra_Ln, ra_LI, ra_LA, ra_LR, ra_LP, ra_R, ra_Rn, ra_RI, ra_RA, ra_RL, ra_RP, ra_P, ra_Pn, ra_PI, ra_PA, ra_PL, ra_PR]; rfl
    · refine ⟨pu4 (wI (wI M 318 15 (nI L.length)) 318 20 (nI (g + 1))) L.length (nI (aC A t.1 t.2.1 - 65)) (nI 0) (encM none) (encM p), (aC A t.1 t.2.1 - 65, 0, none), X, n, ?_, eX_t hE0 (eX_T eT_pu), ⟨pm_eq hm (eT_M eT_pu), ?_, ?_, ?_, ?_⟩, hx, ⟨by omega, hneed, ⟨_, w3, Nat.le_refl _⟩, (fun i hi => by cases hi), fun hh => absurd hh op⟩, Nat.le_refl _, by omega, fun hg5 => ⟨wI (wI (wI (wI S 66 6 (nI (g + 1))) 66 3 (nI (aC A t.1 t.2.1 - 65))) 66 4 (nI 0)) 66 5 (-nI 1), fun v rc k => ?_, ?_, ?_⟩⟩
      · unfold f55_J47
        rw [eg, if_neg (by simp (disch := omega) only [hne, nI_lit, nI_add, pk_sub, pk_mul, ma_neg, nI_clamp, ma_ltT, ma_ltF, ma_leT, ma_leF, ma_eqT, ma_eqF, nI_ltI, nI_leI, nI_eq, ma_obT, ma_obF, ma_enF, ma_neF, ma_nlT, ma_lnF, ma_nLT, ma_Ln, ↓reduceIte, Option.bind_some, Option.bind_none, true_and, and_true, false_and, and_false, ne_eq, not_true_eq_false, not_false_eq_true, Bool.false_eq_true, reduceCtorEq, Nat.reduceAdd, Nat.reduceMul, Nat.reduceSub]), if_pos e37, e65, ma_f36 hm ho (by omega), Option.bind_some, if_neg op]
        rw [show (-6 : Int32) = encM none from rfl, rf_todo (n := L.length) (by simp (disch := omega) only [ra_I, ra_In, ra_A, ra_An, ra_IA, ra_IL, ra_IR, ra_IP, ra_AI, ra_AL, ra_AR, ra_AP, ra_L, ra_Ln, ra_LI, ra_LA, ra_LR, ra_LP, ra_R, ra_Rn, ra_RI, ra_RA, ra_RL, ra_RP, ra_P, ra_Pn, ra_PI, ra_PA, ra_PL, ra_PR]) (by omega)]
        rfl
      · exact xm_eq hxm0 (by rw [eT_pu.2 19 (by omega)]) (fun q h1 h2 => (eT_pu.1 q (by omega)).2.1)
      · rw [eT_pu.2 20 (by omega)]; simp (disch := omega) only [ra_I, ra_In, ra_A, ra_An, ra_IA, ra_IL, ra_IR, ra_IP, ra_AI, ra_AL, ra_AR, ra_AP, ra_L, ra_Ln, ra_LI, ra_LA, ra_LR, ra_LP, ra_R, ra_Rn, ra_RI, ra_RA, ra_RL, ra_RP, ra_P, ra_Pn, ra_PI, ra_PA, ra_PL, ra_PR]
      · exact td_pu (t := (aC A t.1 t.2.1 - 65, 0, none)) (td_eq h4 (fun k hk => ⟨rfl, rfl, rfl, rfl⟩))
      · unfold pu4; simp (disch := omega) only [ra_I, ra_In, ra_A, ra_An, ra_IA, ra_IL, ra_IR, ra_IP, ra_AI, ra_AL, ra_AR, ra_AP, ra_L, ra_Ln, ra_LI, ra_LA, ra_LR, ra_LP, ra_R, ra_Rn, ra_RI, ra_RA, ra_RL, ra_RP, ra_P, ra_Pn, ra_PI, ra_PA, ra_PL, ra_PR]; rfl
      · unfold f160_J20_2 f157
        simp (disch := omega) only [s3, s4, s5, s6, hne, ma_f114 hPS ho (show aC A t.1 t.2.1 - 65 < 8 by omega), op, nI_lit, nI_add, pk_sub, pk_mul, ma_neg, nI_clamp, ma_ltT, ma_ltF, ma_leT, ma_leF, ma_eqT, ma_eqF, nI_ltI, nI_leI, nI_eq, ma_obT, ma_obF, ma_enF, ma_neF, ma_nlT, ma_lnF, ma_nLT, ma_Ln, ↓reduceIte, Option.bind_some, Option.bind_none, true_and, and_true, false_and, and_false, ne_eq, not_true_eq_false, not_false_eq_true, Bool.false_eq_true, reduceCtorEq, Nat.reduceAdd, Nat.reduceMul, Nat.reduceSub, ra_I, ra_In, ra_A, ra_An, ra_IA, ra_IL, ra_IR, ra_IP, ra_AI, ra_AL, ra_AR, ra_AP, ra_L, ra_Ln, ra_LI, ra_LA, ra_LR, ra_LP, ra_R, ra_Rn, ra_RI, ra_RA, ra_RL, ra_RP, ra_P, ra_Pn, ra_PI, ra_PA, ra_PL, ra_PR]
      · refine eL_t hLS ⟨fun q j hq => ?_, fun _ _ => rfl, rfl, rfl, rfl⟩
        simp (disch := omega) only [ra_I, ra_In, ra_A, ra_An, ra_IA, ra_IL, ra_IR, ra_IP, ra_AI, ra_AL, ra_AR, ra_AP, ra_L, ra_Ln, ra_LI, ra_LA, ra_LR, ra_LP, ra_R, ra_Rn, ra_RI, ra_RA, ra_RL, ra_RP, ra_P, ra_Pn, ra_PI, ra_PA, ra_PL, ra_PR]
      · refine ⟨ps_eq hPS (eq_t (eq_t (eq_I (by omega)) (eq_I (by omega))) (eq_I (by omega))), xs_eq s2 (by simp (disch := omega) only [ra_I, ra_In, ra_A, ra_An, ra_IA, ra_IL, ra_IR, ra_IP, ra_AI, ra_AL, ra_AR, ra_AP, ra_L, ra_Ln, ra_LI, ra_LA, ra_LR, ra_LP, ra_R, ra_Rn, ra_RI, ra_RA, ra_RL, ra_RP, ra_P, ra_Pn, ra_PI, ra_PA, ra_PL, ra_PR]) rfl, by simp (disch := omega) only [ra_I, ra_In, ra_A, ra_An, ra_IA, ra_IL, ra_IR, ra_IP, ra_AI, ra_AL, ra_AR, ra_AP, ra_L, ra_Ln, ra_LI, ra_LA, ra_LR, ra_LP, ra_R, ra_Rn, ra_RI, ra_RA, ra_RL, ra_RP, ra_P, ra_Pn, ra_PI, ra_PA, ra_PL, ra_PR], by simp (disch := omega) only [ra_I, ra_In, ra_A, ra_An, ra_IA, ra_IL, ra_IR, ra_IP, ra_AI, ra_AL, ra_AR, ra_AP, ra_L, ra_Ln, ra_LI, ra_LA, ra_LR, ra_LP, ra_R, ra_Rn, ra_RI, ra_RA, ra_RL, ra_RP, ra_P, ra_Pn, ra_PI, ra_PA, ra_PL, ra_PR], by simp (disch := omega) only [ra_I, ra_In, ra_A, ra_An, ra_IA, ra_IL, ra_IR, ra_IP, ra_AI, ra_AL, ra_AR, ra_AP, ra_L, ra_Ln, ra_LI, ra_LA, ra_LR, ra_LP, ra_R, ra_Rn, ra_RI, ra_RA, ra_RL, ra_RP, ra_P, ra_Pn, ra_PI, ra_PA, ra_PL, ra_PR], by simp (disch := omega) only [ra_I, ra_In, ra_A, ra_An, ra_IA, ra_IL, ra_IR, ra_IP, ra_AI, ra_AL, ra_AR, ra_AP, ra_L, ra_Ln, ra_LI, ra_LA, ra_LR, ra_LP, ra_R, ra_Rn, ra_RI, ra_RA, ra_RL, ra_RP, ra_P, ra_Pn, ra_PI, ra_PA, ra_PL, ra_PR]; rfl⟩
