/-! 64: the reference's stack -/
def encC : Option Nat → Int32
  | none => -nI 1
  | some i => nI i
def encM : Option Nat → Int32
  | none => -nI 6
  | some i => nI i
abbrev rn_IT : Type := Nat × Nat × Option Nat
/-- what is to do, the next one first -/
def TD (M : rn_T) : List (rn_IT × Option Nat) → Prop
  | [] => True
  | t :: L => (rA M 327 L.length = nI t.1.1 ∧ rA M 328 L.length = nI t.1.2.1 ∧ rA M 329 L.length = encM t.1.2.2 ∧ rA M 330 L.length = encM t.2) ∧ TD M L
theorem td_eq {M M2 : rn_T} : ∀ {L : List (rn_IT × Option Nat)}, TD M L → (∀ k, k < L.length → rA M2 327 k = rA M 327 k ∧ rA M2 328 k = rA M 328 k ∧ rA M2 329 k = rA M 329 k ∧ rA M2 330 k = rA M 330 k) → TD M2 L := by
  intro L
  induction L with
  | nil => intro _ _; trivial
  | cons t L ih =>
    rintro ⟨⟨h1, h2, h3, h4⟩, h5⟩ h
    have hl : (t :: L).length = L.length + 1 := rfl
    obtain ⟨g1, g2, g3, g4⟩ := h L.length (by omega)
    exact ⟨⟨g1.trans h1, g2.trans h2, g3.trans h3, g4.trans h4⟩, ih h5 (fun k hk => h k (by omega))⟩
theorem td_app {M : rn_T} {L : List (rn_IT × Option Nat)} {sh nd : Nat} {bi : Option Nat} (h : TD M L) : ∀ {l : List Nat}, (∀ i, i < l.length → rA M 327 (L.length + i) = nI sh ∧ rA M 328 (L.length + (l.length - 1 - i)) = nI (l.getD i 0) ∧ rA M 329 (L.length + i) = encM bi ∧ rA M 330 (L.length + i) = nI nd) → TD M (l.map (fun a => ((sh, a, bi), some nd)) ++ L) := by
  intro l
  induction l with
  | nil => intro _; exact h
  | cons a l ih =>
    intro g
    have hl : (a :: l).length = l.length + 1 := rfl
    have hm : (l.map (fun a => (((sh, a, bi), some nd) : rn_IT × Option Nat)) ++ L).length = L.length + l.length := by rw [List.length_append, List.length_map]; omega
    refine ⟨?_, ih (fun i hi => ?_)⟩
    · show rA M 327 (l.map (fun a => (((sh, a, bi), some nd) : rn_IT × Option Nat)) ++ L).length = _ ∧ rA M 328 (l.map (fun a => (((sh, a, bi), some nd) : rn_IT × Option Nat)) ++ L).length = _ ∧ rA M 329 (l.map (fun a => (((sh, a, bi), some nd) : rn_IT × Option Nat)) ++ L).length = _ ∧ rA M 330 (l.map (fun a => (((sh, a, bi), some nd) : rn_IT × Option Nat)) ++ L).length = _
      rw [hm]
      have g0 := g 0 (by omega)
      have g1 := g l.length (by omega)
      rw [hl, show L.length + (l.length + 1 - 1 - 0) = L.length + l.length by omega] at g0
      exact ⟨g1.1, g0.2.1, g1.2.2.1, g1.2.2.2⟩
    · obtain ⟨k1, k2, k3, k4⟩ := g i (by omega)
      have k5 := (g (i + 1) (by omega)).2.1
      rw [hl, show l.length + 1 - 1 - (i + 1) = l.length - 1 - i by omega] at k5
      exact ⟨k1, k5, k3, k4⟩
/-- only the stack changed -/
def eT (M M2 : rn_T) : Prop := EqT (fun q => q ≠ 318 ∧ (q < 327 ∨ 331 ≤ q)) M M2 ∧ ∀ k, k ≠ 15 → rI M2 318 k = rI M 318 k
theorem eT_r {M : rn_T} : eT M M := ⟨eq_r, fun _ _ => rfl⟩
theorem eT_t {M M2 M3 : rn_T} (h : eT M M2) (h2 : eT M2 M3) : eT M M3 := ⟨eq_t h.1 h2.1, fun k hk => (h2.2 k hk).trans (h.2 k hk)⟩
theorem eT_M {M M2 : rn_T} (h : eT M M2) : eqM M M2 := ⟨eq_m h.1 (fun q hq => by omega), h.2 2 (by omega), h.2 33 (by omega)⟩
def pu4 (M : rn_T) (n : Nat) (a b c d : Int32) : rn_T := wI (wA (wA (wA (wA M 327 n a) 328 n b) 329 n c) 330 n d) 318 15 (nI (n + 1))
theorem rf_todo {M : rn_T} {n : Nat} {a b c d : Int32} (h : rI M 318 15 = nI n) (hn : n < 640) : f50 M a b c d = some (pu4 M n a b c d) := by
  unfold f50 pu4
  simp (disch := omega) only [h, nI_lit, nI_add, pk_sub, pk_mul, ma_neg, nI_clamp, ma_ltT, ma_ltF, ma_leT, ma_leF, ma_eqT, ma_eqF, nI_ltI, nI_leI, nI_eq, ma_obT, ma_obF, ma_enF, ma_neF, ma_nlT, ma_lnF, ma_nLT, ma_Ln, ↓reduceIte, Option.bind_some, Option.bind_none, true_and, and_true, false_and, and_false, ne_eq, not_true_eq_false, not_false_eq_true, Bool.false_eq_true, reduceCtorEq, Nat.reduceAdd, Nat.reduceMul, Nat.reduceSub, ra_I, ra_In, ra_A, ra_An, ra_IA, ra_IL, ra_IR, ra_IP, ra_AI, ra_AL, ra_AR, ra_AP, ra_L, ra_Ln, ra_LI, ra_LA, ra_LR, ra_LP, ra_R, ra_Rn, ra_RI, ra_RA, ra_RL, ra_RP, ra_P, ra_Pn, ra_PI, ra_PA, ra_PL, ra_PR]
theorem eT_pu {M : rn_T} {n : Nat} {a b c d : Int32} : eT M (pu4 M n a b c d) := by
  unfold pu4
  refine ⟨?_, fun k hk => by simp (disch := omega) only [ra_I, ra_In, ra_A, ra_An, ra_IA, ra_IL, ra_IR, ra_IP, ra_AI, ra_AL, ra_AR, ra_AP, ra_L, ra_Ln, ra_LI, ra_LA, ra_LR, ra_LP, ra_R, ra_Rn, ra_RI, ra_RA, ra_RL, ra_RP, ra_P, ra_Pn, ra_PI, ra_PA, ra_PL, ra_PR]⟩
  exact eq_t (eq_t (eq_t (eq_t (eq_A (by omega)) (eq_A (by omega))) (eq_A (by omega))) (eq_A (by omega))) (eq_I (by omega))
theorem td_pu {M : rn_T} {L : List (rn_IT × Option Nat)} {t : rn_IT} {p : Option Nat} (h : TD M L) : TD (pu4 M L.length (nI t.1) (nI t.2.1) (encM t.2.2) (encM p)) ((t, p) :: L) := by
  unfold pu4
  refine ⟨⟨?_, ?_, ?_, ?_⟩, td_eq h (fun k hk => ⟨?_, ?_, ?_, ?_⟩)⟩ <;> simp (disch := omega) only [ra_I, ra_In, ra_A, ra_An, ra_IA, ra_IL, ra_IR, ra_IP, ra_AI, ra_AL, ra_AR, ra_AP, ra_L, ra_Ln, ra_LI, ra_LA, ra_LR, ra_LP, ra_R, ra_Rn, ra_RI, ra_RA, ra_RL, ra_RP, ra_P, ra_Pn, ra_PI, ra_PA, ra_PL, ra_PR]
/-- one behind another, to q -/
def LQ (R : Nat → Nat → Prop) : List Nat → Nat → Prop
  | [], _ => True
  | a :: l, q => R a (l.headD q) ∧ LQ R l q
theorem ls_le {R : Nat → Nat → Prop} (h : ∀ p e, R p e → p < e) {q : Nat} : ∀ {l : List Nat}, LQ R l q → l.headD q ≤ q := by
  intro l
  induction l with
  | nil => intro _; exact Nat.le_refl q
  | cons a l ih =>
    rintro ⟨h1, h2⟩
    have := h _ _ h1
    have := ih h2
    show a ≤ q
    omega
theorem ls_of {R : Nat → Nat → Prop} {q : Nat} : ∀ {k p}, tms R k p q → ∃ l : List Nat, l.length = k ∧ l.headD q = p ∧ LQ R l q := by
  intro k
  induction k with
  | zero => intro p h; exact ⟨[], rfl, (show p = q from h).symm, trivial⟩
  | succ k ih =>
    rintro p ⟨m, h1, h2⟩
    obtain ⟨l, g1, g2, g3⟩ := ih h2
    refine ⟨p :: l, by simp [g1], rfl, ?_, g3⟩
    rw [g2]; exact h1
theorem ls_mono {R R2 : Nat → Nat → Prop} (h : ∀ p e, R p e → R2 p e) {q : Nat} : ∀ {l : List Nat}, LQ R l q → LQ R2 l q := by
  intro l
  induction l with
  | nil => intro _; trivial
  | cons a l ih => rintro ⟨h1, h2⟩; exact ⟨h _ _ h1, ih h2⟩
theorem TM_first {c : Nat → Nat} {o : Nat → Bool} {s : Nat} {E : Nat → Nat} {p e : Nat} (h : TM c o s E p e) : c p ≠ 41 ∧ c p ≠ 93 := by
  obtain ⟨d, h⟩ := h
  cases d with
  | zero => exact h.elim
  | succ d =>
    rcases h.2 with ⟨h, _⟩ | ⟨h, _⟩ | ⟨h, _⟩ | ⟨h, _⟩ | ⟨k, q, h, _⟩
    · unfold isP at h; omega
    · omega
    · unfold isL at h; omega
    · unfold isL at h; omega
    · omega
/-- the ones within, pushed -/
theorem rf_push {A : rn_AT} {sh q : Nat} {bi nd x : Int32} {E : Nat → Nat} {k : rn_T → Option rn_T} (ho : OKA A) (hs : sh < 8) (hq : q < aN A sh) (hc : aC A sh q = 41 ∨ aC A sh q = 93) : ∀ (l : List Nat) (b fu : Nat) (M : rn_T), PM M A → rI M 318 15 = nI b → LQ (TM (aC A sh) (aO A) sh E) l q → b + l.length < 640 → l.length < fu → ∃ M2, f53_L7 (nI sh) bi nd x fu M (nI (l.headD q)) k = k M2 ∧ eT M M2 ∧ rI M2 318 15 = nI (b + l.length) ∧ (∀ m, m < b → rA M2 327 m = rA M 327 m ∧ rA M2 328 m = rA M 328 m ∧ rA M2 329 m = rA M 329 m ∧ rA M2 330 m = rA M 330 m) ∧ ∀ i, i < l.length → rA M2 327 (b + i) = nI sh ∧ rA M2 328 (b + i) = nI (l.getD i 0) ∧ rA M2 329 (b + i) = bi ∧ rA M2 330 (b + i) = nd := by
  have hN := ho.1 sh hs
  intro l
  induction l with
  | nil =>
    intro b fu M hm hb _ _ hf
    obtain ⟨g, rfl⟩ : ∃ g, fu = g + 1 := ⟨fu - 1, by simp at hf; omega⟩
    refine ⟨M, ?_, eT_r, hb, fun m _ => ⟨rfl, rfl, rfl, rfl⟩, fun i hi => absurd hi (by simp)⟩
    show f53_L7 (nI sh) bi nd x (g + 1) M (nI q) k = k M
    unfold f53_L7
    rcases hc with hc | hc
    · simp (disch := omega) only [ma_f33 hm hs (show q < 40 by omega), hc, nI_lit, nI_add, pk_sub, pk_mul, ma_neg, nI_clamp, ma_ltT, ma_ltF, ma_leT, ma_leF, ma_eqT, ma_eqF, nI_ltI, nI_leI, nI_eq, ma_obT, ma_obF, ma_enF, ma_neF, ma_nlT, ma_lnF, ma_nLT, ma_Ln, ↓reduceIte, Option.bind_some, Option.bind_none, true_and, and_true, false_and, and_false, ne_eq, not_true_eq_false, not_false_eq_true, Bool.false_eq_true, reduceCtorEq, Nat.reduceAdd, Nat.reduceMul, Nat.reduceSub]
    · simp (disch := omega) only [ma_f33 hm hs (show q < 40 by omega), hc, nI_lit, nI_add, pk_sub, pk_mul, ma_neg, nI_clamp, ma_ltT, ma_ltF, ma_leT, ma_leF, ma_eqT, ma_eqF, nI_ltI, nI_leI, nI_eq, ma_obT, ma_obF, ma_enF, ma_neF, ma_nlT, ma_lnF, ma_nLT, ma_Ln, ↓reduceIte, Option.bind_some, Option.bind_none, true_and, and_true, false_and, and_false, ne_eq, not_true_eq_false, not_false_eq_true, Bool.false_eq_true, reduceCtorEq, Nat.reduceAdd, Nat.reduceMul, Nat.reduceSub]
  | cons a l ih =>
    intro b fu M hm hb hl hL hf
    have hlen : (a :: l).length = l.length + 1 := rfl
    obtain ⟨g, rfl⟩ : ∃ g, fu = g + 1 := ⟨fu - 1, by omega⟩
    have h1 := hl.1
    have hle := ls_le (fun _ _ => TM_lt) hl.2
    have hlt := TM_lt h1
    obtain ⟨n1, n2⟩ := TM_first h1
    have hc2 := ho.2.1 sh hs a (by omega)
    have hm2 : PM (pu4 M b (nI sh) (nI a) bi nd) A := pm_eq hm (eT_M eT_pu)
    obtain ⟨M2, e1, e2, e3, e4, e5⟩ := ih (b + 1) g (pu4 M b (nI sh) (nI a) bi nd) hm2 (by unfold pu4; simp (disch := omega) only [ra_I, ra_In, ra_A, ra_An, ra_IA, ra_IL, ra_IR, ra_IP, ra_AI, ra_AL, ra_AR, ra_AP, ra_L, ra_Ln, ra_LI, ra_LA, ra_LR, ra_LP, ra_R, ra_Rn, ra_RI, ra_RA, ra_RL, ra_RP, ra_P, ra_Pn, ra_PI, ra_PA, ra_PL, ra_PR]) hl.2 (by omega) (by omega)
    refine ⟨M2, ?_, eT_t eT_pu e2, by rw [e3, hlen]; congr 1; omega, fun m hmb => ?_, fun i hi => ?_⟩
    · show f53_L7 (nI sh) bi nd x (g + 1) M (nI a) k = k M2
      rw [f53_L7]
      simp (disch := omega) only [ma_f33 hm hs (show a < 40 by omega), rf_todo hb (show b < 640 by omega), ma_f49 hm2 ho hs h1 (show l.headD q ≤ 40 by omega), nI_lit, nI_add, pk_sub, pk_mul, ma_neg, nI_clamp, ma_ltT, ma_ltF, ma_leT, ma_leF, ma_eqT, ma_eqF, nI_ltI, nI_leI, nI_eq, ma_obT, ma_obF, ma_enF, ma_neF, ma_nlT, ma_lnF, ma_nLT, ma_Ln, ↓reduceIte, Option.bind_some, Option.bind_none, true_and, and_true, false_and, and_false, ne_eq, not_true_eq_false, not_false_eq_true, Bool.false_eq_true, reduceCtorEq, Nat.reduceAdd, Nat.reduceMul, Nat.reduceSub]
      exact e1
    · obtain ⟨g1, g2, g3, g4⟩ := e4 m (by omega)
      rw [g1, g2, g3, g4]
      unfold pu4
      refine ⟨?_, ?_, ?_, ?_⟩ <;> simp (disch := omega) only [ra_I, ra_In, ra_A, ra_An, ra_IA, ra_IL, ra_IR, ra_IP, ra_AI, ra_AL, ra_AR, ra_AP, ra_L, ra_Ln, ra_LI, ra_LA, ra_LR, ra_LP, ra_R, ra_Rn, ra_RI, ra_RA, ra_RL, ra_RP, ra_P, ra_Pn, ra_PI, ra_PA, ra_PL, ra_PR]
    · by_cases h0 : i = 0
      · subst h0
        obtain ⟨g1, g2, g3, g4⟩ := e4 b (by omega)
        rw [show b + 0 = b by omega, g1, g2, g3, g4]
        unfold pu4
        refine ⟨?_, ?_, ?_, ?_⟩ <;> (simp (disch := omega) only [ra_I, ra_In, ra_A, ra_An, ra_IA, ra_IL, ra_IR, ra_IP, ra_AI, ra_AL, ra_AR, ra_AP, ra_L, ra_Ln, ra_LI, ra_LA, ra_LR, ra_LP, ra_R, ra_Rn, ra_RI, ra_RA, ra_RL, ra_RP, ra_P, ra_Pn, ra_PI, ra_PA, ra_PL, ra_PR]; try rfl)
      · obtain ⟨j, rfl⟩ : ∃ j, i = j + 1 := ⟨i - 1, by omega⟩
        have := e5 j (by omega)
        rw [show b + 1 + j = b + (j + 1) by omega] at this
        exact this
/-- turned round -/
theorem rf_rev {k : rn_T → Option rn_T} : ∀ (d lo hi fu : Nat) (M : rn_T), hi + 1 = lo + d → hi < 640 → lo < 640 → d < fu → ∃ M2, f53_L38 fu M (nI lo) (nI hi) k = k M2 ∧ (∀ m, rA M2 328 m = if lo ≤ m ∧ m ≤ hi then rA M 328 (lo + hi - m) else rA M 328 m) ∧ rI M2 = rI M ∧ (∀ q, q ≠ 328 → rA M2 q = rA M q) ∧ rL M2 = rL M := by
  intro d
  induction d using Nat.strongRecOn with
  | _ d ih =>
    intro lo hi fu M hd hh hl hf
    obtain ⟨g, rfl⟩ : ∃ g, fu = g + 1 := ⟨fu - 1, by omega⟩
    by_cases h2 : d < 2
    · refine ⟨M, ?_, fun m => ?_, rfl, fun _ _ => rfl, rfl⟩
      · rw [f53_L38]
        simp (disch := omega) only [nI_lit, nI_add, pk_sub, pk_mul, ma_neg, nI_clamp, ma_ltT, ma_ltF, ma_leT, ma_leF, ma_eqT, ma_eqF, nI_ltI, nI_leI, nI_eq, ma_obT, ma_obF, ma_enF, ma_neF, ma_nlT, ma_lnF, ma_nLT, ma_Ln, ↓reduceIte, Option.bind_some, Option.bind_none, true_and, and_true, false_and, and_false, ne_eq, not_true_eq_false, not_false_eq_true, Bool.false_eq_true, reduceCtorEq, Nat.reduceAdd, Nat.reduceMul, Nat.reduceSub]
      · split
        · rename_i h
          rw [show lo + hi - m = m by omega]
        · rfl
    · obtain ⟨M2, e1, e2, e3, e4, e5⟩ := ih (d - 2) (by omega) (lo + 1) (hi - 1) g (wA (wA M 328 lo (rA M 328 hi)) 328 hi (rA M 328 lo)) (by omega) (by omega) (by omega) (by omega)
      refine ⟨M2, ?_, fun m => ?_, e3, fun q hq => ?_, e5⟩
      · rw [f53_L38]
        simp (disch := omega) only [nI_lit, nI_add, pk_sub, pk_mul, ma_neg, nI_clamp, ma_ltT, ma_ltF, ma_leT, ma_leF, ma_eqT, ma_eqF, nI_ltI, nI_leI, nI_eq, ma_obT, ma_obF, ma_enF, ma_neF, ma_nlT, ma_lnF, ma_nLT, ma_Ln, ↓reduceIte, Option.bind_some, Option.bind_none, true_and, and_true, false_and, and_false, ne_eq, not_true_eq_false, not_false_eq_true, Bool.false_eq_true, reduceCtorEq, Nat.reduceAdd, Nat.reduceMul, Nat.reduceSub]
        exact e1
      · rw [e2 m]
        by_cases c1 : lo + 1 ≤ m ∧ m ≤ hi - 1
        · rw [if_pos c1, if_pos (by omega)]
          simp (disch := omega) only [ra_I, ra_In, ra_A, ra_An, ra_IA, ra_IL, ra_IR, ra_IP, ra_AI, ra_AL, ra_AR, ra_AP, ra_L, ra_Ln, ra_LI, ra_LA, ra_LR, ra_LP, ra_R, ra_Rn, ra_RI, ra_RA, ra_RL, ra_RP, ra_P, ra_Pn, ra_PI, ra_PA, ra_PL, ra_PR]
          rw [show lo + 1 + (hi - 1) - m = lo + hi - m by omega]
        · rw [if_neg c1]
          by_cases c2 : m = hi
          · subst c2
            rw [if_pos (by omega)]
            simp (disch := omega) only [ra_I, ra_In, ra_A, ra_An, ra_IA, ra_IL, ra_IR, ra_IP, ra_AI, ra_AL, ra_AR, ra_AP, ra_L, ra_Ln, ra_LI, ra_LA, ra_LR, ra_LP, ra_R, ra_Rn, ra_RI, ra_RA, ra_RL, ra_RP, ra_P, ra_Pn, ra_PI, ra_PA, ra_PL, ra_PR]
            rw [show lo + m - m = lo by omega]
          · by_cases c3 : m = lo
            · subst c3
              rw [if_pos (by omega)]
              simp (disch := omega) only [ra_I, ra_In, ra_A, ra_An, ra_IA, ra_IL, ra_IR, ra_IP, ra_AI, ra_AL, ra_AR, ra_AP, ra_L, ra_Ln, ra_LI, ra_LA, ra_LR, ra_LP, ra_R, ra_Rn, ra_RI, ra_RA, ra_RL, ra_RP, ra_P, ra_Pn, ra_PI, ra_PA, ra_PL, ra_PR]
              rw [show m + hi - m = hi by omega]
            · rw [if_neg (by omega)]
              simp (disch := omega) only [ra_I, ra_In, ra_A, ra_An, ra_IA, ra_IL, ra_IR, ra_IP, ra_AI, ra_AL, ra_AR, ra_AP, ra_L, ra_Ln, ra_LI, ra_LA, ra_LR, ra_LP, ra_R, ra_Rn, ra_RI, ra_RA, ra_RL, ra_RP, ra_P, ra_Pn, ra_PI, ra_PA, ra_PL, ra_PR]
      · rw [e4 q hq]
        rw [ra_Af hq, ra_Af hq]
theorem rf_within {M : rn_T} {A : rn_AT} {sh at1 q nd : Nat} {bi : Option Nat} {E : Nat → Nat} {l : List Nat} {L : List (rn_IT × Option Nat)} (hm : PM M A) (ho : OKA A) (hs : sh < 8) (hq : q < aN A sh) (hc : aC A sh q = 41 ∨ aC A sh q = 93) (hl : LQ (TM (aC A sh) (aO A) sh E) l q) (hh : l.headD q = at1 + 1) (hk : 1 ≤ l.length) (hk2 : l.length ≤ 6) (hL : TD M L) (hn : rI M 318 15 = nI L.length) (hb : L.length ≤ 630) : ∃ M2, f53 M (nI sh) (nI at1) (encM bi) (nI nd) = some M2 ∧ eT M M2 ∧ rI M2 318 15 = nI (L.length + l.length) ∧ TD M2 (l.map (fun a => ((sh, a, bi), some nd)) ++ L) := by
  have hN := ho.1 sh hs
  unfold f53 f53_J31
  obtain ⟨M2, e1, e2, e3, e4, e5⟩ := rf_push (k := fun M7 => f53_L38 rn_FU M7 (rI M 318 15) ((rI M7 318 15) - (1 : Int32)) (fun M11 => some (M11))) (bi := encM bi) (nd := nI nd) (x := rI M 318 15) ho hs hq hc l L.length rn_FU M hm hn hl (by omega) (by unfold rn_FU; omega)
  obtain ⟨M3, g1, g2, g3, g4, g5⟩ := rf_rev (k := fun M11 => some (M11)) l.length L.length (L.length + l.length - 1) rn_FU M2 (by omega) (by omega) (by omega) (by unfold rn_FU; omega)
  refine ⟨M3, ?_, eT_t e2 ⟨fun z hz => ?_, fun j hj => by rw [g3]⟩, by rw [g3]; exact e3, ?_⟩
  · rw [hh] at e1
    rw [show nI at1 + (1 : Int32) = nI (at1 + 1) by rw [nI_lit]; exact nI_add _ _]
    rw [e1]
    show f53_L38 rn_FU M2 (rI M 318 15) ((rI M2 318 15) - (1 : Int32)) (fun M11 => some (M11)) = _
    rw [hn, e3, nI_lit, pk_sub (show 1 ≤ L.length + l.length by omega)]
    exact g1
  · rw [g3, g4 z (by omega), g5]
    exact ⟨rfl, rfl, rfl⟩
  · refine td_app (td_eq hL (fun j hj => ?_)) (fun i hi => ?_)
    · obtain ⟨k1, k2, k3, k4⟩ := e4 j hj
      rw [g4 327 (by omega), g4 329 (by omega), g4 330 (by omega), g2, if_neg (by omega)]
      exact ⟨k1, k2, k3, k4⟩
    · obtain ⟨k1, k2, k3, k4⟩ := e5 i hi
      rw [g4 327 (by omega), g4 329 (by omega), g4 330 (by omega), g2, if_pos (by omega)]
      refine ⟨k1, ?_, k3, k4⟩
      rw [show L.length + (L.length + l.length - 1) - (L.length + (l.length - 1 - i)) = L.length + i by omega]
      exact k2
