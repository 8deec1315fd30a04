/-! 68: a part on both sides -/
/-- a record or variant that is begun: its node, shape, the terms left, its closing sign, its argument -/
abbrev rn_FT : Type := Nat × Nat × List Nat × Nat × Option Nat
def FD (S : rn_T) : List rn_FT → Prop
  | [] => True
  | f :: F => (rP S 72 F.length = some (76 + 2 * f.1) ∧ rA S 73 F.length = nI f.2.1 ∧ rA S 74 F.length = nI (f.2.2.1.headD f.2.2.2.1) ∧ rA S 75 F.length = encC f.2.2.2.2) ∧ FD S F
theorem fd_eq {S S2 : rn_T} : ∀ {F : List rn_FT}, FD S F → (∀ k, k < F.length → rP S2 72 k = rP S 72 k ∧ rA S2 73 k = rA S 73 k ∧ rA S2 74 k = rA S 74 k ∧ rA S2 75 k = rA S 75 k) → FD S2 F := by
  intro F
  induction F with
  | nil => intro _ _; trivial
  | cons f F ih =>
    rintro ⟨⟨h1, h2, h3, h4⟩, h5⟩ h
    have hl : (f :: F).length = F.length + 1 := rfl
    obtain ⟨g1, g2, g3, g4⟩ := h F.length (by omega)
    exact ⟨⟨g1.trans h1, g2.trans h2, g3.trans h3, g4.trans h4⟩, ih h5 (fun k hk => h k (by omega))⟩
/-- what is to do in them -/
def fl : List rn_FT → List (rn_IT × Option Nat)
  | [] => []
  | f :: F => f.2.2.1.map (fun a => ((f.2.1, a, f.2.2.2.2), some f.1)) ++ fl F
def GF (A : rn_AT) (N : Nat → Prop) (EE : Nat → Nat → Nat) (n : Nat) (T : rn_TR) (f : rn_FT) : Prop := f.2.1 < 8 ∧ N f.2.1 ∧ f.2.2.2.1 < aN A f.2.1 ∧ (aC A f.2.1 f.2.2.2.1 = 41 ∨ aC A f.2.1 f.2.2.2.1 = 93) ∧ LQ (TM (aC A f.2.1) (aO A) f.2.1 (EE f.2.1)) f.2.2.1 f.2.2.2.1 ∧ (∀ i, f.2.2.2.2 = some i → i < n) ∧ (aO A f.2.1 = true → f.2.2.2.2 ≠ none) ∧ f.1 < tN T ∧ 5 ≤ tK T f.1 ∧ 1 ≤ tC T f.1 + f.2.2.1.length ∧ tC T f.1 + f.2.2.1.length ≤ 6
def GFs (A : rn_AT) (N : Nat → Prop) (EE : Nat → Nat → Nat) (n : Nat) (T : rn_TR) : List rn_FT → Prop
  | [] => True
  | f :: F => GF A N EE n T f ∧ (∀ g, g ∈ F → g.1 < f.1) ∧ GFs A N EE n T F
theorem GFs_eq {A : rn_AT} {N : Nat → Prop} {EE : Nat → Nat → Nat} {n n2 : Nat} {T T2 : rn_TR} (hn : n ≤ n2) (hT : tN T ≤ tN T2) : ∀ {F : List rn_FT}, GFs A N EE n T F → (∀ f, f ∈ F → f.1 < tN T → tK T2 f.1 = tK T f.1 ∧ tC T2 f.1 = tC T f.1) → GFs A N EE n2 T2 F := by
  intro F
  induction F with
  | nil => intro _ _; trivial
  | cons f F ih =>
    rintro ⟨⟨h1, h2, h3, h4, h5, h6, h7, h8, h9, h10, h11⟩, g, hF⟩ h
    obtain ⟨e1, e2⟩ := h f (by simp) h8
    refine ⟨⟨h1, h2, h3, h4, h5, fun i hi => ?_, h7, by omega, by omega, by omega, by omega⟩, g, ih hF (fun x hx => h x (by simp [hx]))⟩
    have := h6 i hi
    omega
theorem GFs_len {A : rn_AT} {N : Nat → Prop} {EE : Nat → Nat → Nat} {n : Nat} {T : rn_TR} : ∀ {F : List rn_FT} {b : Nat}, GFs A N EE n T F → (∀ f, f ∈ F → f.1 < b) → F.length ≤ b := by
  intro F
  induction F with
  | nil => intro b _ _; exact Nat.zero_le b
  | cons f F ih =>
    rintro b ⟨_, g, hF⟩ h
    have := ih hF g
    have := h f (by simp)
    have : (f :: F).length = F.length + 1 := rfl
    omega
theorem GFs_all {A : rn_AT} {N : Nat → Prop} {EE : Nat → Nat → Nat} {n : Nat} {T : rn_TR} : ∀ {F : List rn_FT}, GFs A N EE n T F → ∀ f, f ∈ F → f.1 < tN T := by
  intro F
  induction F with
  | nil => intro _ f hf; exact absurd hf (by simp)
  | cons f F ih =>
    rintro ⟨h, g, hF⟩ x hx
    rcases List.mem_cons.mp hx with rfl | hx
    · exact h.2.2.2.2.2.2.2.1
    · exact ih hF x hx
theorem GFs_fl {A : rn_AT} {N : Nat → Prop} {EE : Nat → Nat → Nat} {n : Nat} {T : rn_TR} : ∀ {F : List rn_FT}, GFs A N EE n T F → (fl F).length ≤ 6 * F.length := by
  intro F
  induction F with
  | nil => intro _; exact Nat.le_refl _
  | cons f F ih =>
    rintro ⟨h, g, hF⟩
    have := ih hF
    have e : (fl (f :: F)).length = f.2.2.1.length + (fl F).length := by
      show (f.2.2.1.map _ ++ fl F).length = _
      rw [List.length_append, List.length_map]
    have : (f :: F).length = F.length + 1 := rfl
    have := h.2.2.2.2.2.2.2.2.2.2
    omega
/-- the groups that hold none yet are begun -/
def GD (T : rn_TR) (F : List rn_FT) : Prop := ∀ i, i < tN T → 5 ≤ tK T i → 1 ≤ tC T i ∨ ∃ f, f ∈ F ∧ f.1 = i
/-- the frames before a part is taken, where it goes, the frames behind -/
def PF (T : rn_TR) (F0 : List rn_FT) (p : Option Nat) (F : List rn_FT) : Prop := (F0 = [] ∧ p = none ∧ F = [] ∧ tN T = 0) ∨ ∃ nd sh a l q bi F2, F0 = (nd, sh, a :: l, q, bi) :: F2 ∧ F = (nd, sh, l, q, bi) :: F2 ∧ p = some nd
theorem pf_pp {A : rn_AT} {N : Nat → Prop} {EE : Nat → Nat → Nat} {n : Nat} {T : rn_TR} {F0 F : List rn_FT} {p : Option Nat} (h : PF T F0 p F) (hF : GFs A N EE n T F0) : PP T p := by
  rcases h with ⟨-, h2, -, h4⟩ | ⟨nd, sh, a, l, q, bi, F2, rfl, rfl, rfl⟩
  · exact .inl ⟨h2, h4⟩
  · obtain ⟨h1, h2, h3, h4, h5, h6, h7, h8, h9, h10, h11⟩ := hF.1
    refine .inr ⟨nd, rfl, h8, h9, ?_⟩
    have : (a :: l).length = l.length + 1 := rfl
    have h11 : tC T nd + (a :: l).length ≤ 6 := h11
    omega
theorem pf_add {A : rn_AT} {N : Nat → Prop} {EE : Nat → Nat → Nat} {n n2 : Nat} {T : rn_TR} {F0 F : List rn_FT} {p : Option Nat} {k o : Nat} (h : PF T F0 p F) (hF : GFs A N EE n T F0) (hn : n ≤ n2) (hd : GD T F0) : GFs A N EE n2 (addP T k o p) F ∧ (∀ i, i < tN T → 5 ≤ tK T i → 1 ≤ tC (addP T k o p) i ∨ ∃ f, f ∈ F ∧ f.1 = i) := by
  have hK : ∀ i, i < tN T → tK (addP T k o p) i = tK T i := by
    intro i hi
    rw [ad_K, if_neg (show ¬ i = tN T by omega)]
  have hC : ∀ i, i < tN T → tC (addP T k o p) i = if p = some i then tC T i + 1 else tC T i := by
    intro i hi
    rw [ad_C, if_neg (show ¬ i = tN T by omega)]
  rcases h with ⟨rfl, rfl, rfl, h4⟩ | ⟨nd, sh, a, l, q, bi, F2, rfl, rfl, rfl⟩
  · exact ⟨trivial, fun i hi => by omega⟩
  · obtain ⟨⟨h1, h2, h3, h4, h5, h6, h7, h8, h9, h10, h11⟩, g, hF⟩ := hF
    have hl : (a :: l).length = l.length + 1 := rfl
    have h8 : nd < tN T := h8
    have h9 : 5 ≤ tK T nd := h9
    have h11 : tC T nd + (a :: l).length ≤ 6 := h11
    have e1 := hK nd h8
    have e2 := hC nd h8
    rw [if_pos rfl] at e2
    refine ⟨⟨⟨h1, h2, h3, h4, h5.2, fun i hi => by have := h6 i hi; omega, h7, ?_, ?_, ?_, ?_⟩, g, GFs_eq hn (Nat.le_succ _) hF (fun f hf hlt => ?_)⟩, fun i hi hk => ?_⟩
    · show nd < tN T + 1; omega
    · show 5 ≤ tK (addP T k o (some nd)) nd; omega
    · show 1 ≤ tC (addP T k o (some nd)) nd + l.length; omega
    · show tC (addP T k o (some nd)) nd + l.length ≤ 6; omega
    · have := g f hf
      have : f.1 < nd := this
      refine ⟨hK _ hlt, ?_⟩
      rw [hC _ hlt, if_neg (fun hh => by cases hh; omega)]
    · rw [hC i hi]
      by_cases e : i = nd
      · subst e
        rw [if_pos rfl]
        exact .inl (by omega)
      · rw [if_neg (fun hh => e (Option.some.inj hh).symm)]
        rcases hd i hi hk with h | ⟨f, hf, hi2⟩
        · exact .inl h
        · rcases List.mem_cons.mp hf with rfl | hf
          · exact absurd hi2.symm e
          · exact .inr ⟨f, by simp [hf], hi2⟩
theorem TM_n {c : Nat → Nat} {o : Nat → Bool} {s p e : Nat} {E : Nat → Nat} (h : TM c o s E p e) (hc : ¬ (c p = 120 ∨ isL (c p))) : (c p = 48 ∨ c p = 49 ∨ c p = 50 ∨ c p = 52 ∨ c p = 98 ∨ c p = 112) ∨ (c p = 101 ∧ 50 ≤ c (p + 1) ∧ c (p + 1) ≤ 57 ∧ e = p + 2) ∨ ∃ (l : List Nat) (q : Nat), (c p = 40 ∧ c q = 41 ∨ c p = 91 ∧ c q = 93) ∧ 1 ≤ l.length ∧ l.length ≤ 6 ∧ LQ (TM c o s E) l q ∧ l.headD q = p + 1 ∧ e = q + 1 := by
  obtain ⟨d, h⟩ := h
  cases d with
  | zero => exact h.elim
  | succ d =>
    rcases h.2 with ⟨h, _⟩ | h | ⟨h1, _⟩ | ⟨h1, _⟩ | ⟨k, q, h1, h2, h3, h4, h5⟩
    · unfold isP at h; exact .inl (by omega)
    · exact .inr (.inl h)
    · exact absurd (.inr h1) hc
    · exact absurd (.inr h1) hc
    · obtain ⟨l, g1, g2, g3⟩ := ls_of h4
      exact .inr (.inr ⟨l, q, h1, by omega, by omega, ls_mono (fun p e hh => ⟨d, hh⟩) g3, g2, h5⟩)
theorem rs_E {S : rn_T} {T : rn_TR} {p : Option Nat} (hn : tN T < 100) (hp : PP T p) : EqT (fun q => q < 66 ∨ 276 ≤ q) S (rs S T p) := by
  have hq : ∀ q, p = some q → q < tN T := by
    intro q e
    rcases hp with ⟨rfl, b⟩ | ⟨q2, rfl, b1, b2, b3⟩
    · cases e
    · cases e; exact b1
  unfold rs
  split
  · exact eq_t (eq_t (eq_t (eq_I (by omega)) (eq_I (by omega))) eq_R) (eq_I (by omega))
  · rename_i a
    have := hq a rfl
    exact eq_t (eq_t (eq_t (eq_t (eq_t (eq_t (eq_I (by omega)) (eq_I (by omega))) eq_R) (eq_I (by omega))) (eq_I (by omega))) eq_P) (eq_I (by omega))
theorem rs_A {S : rn_T} {T : rn_TR} {p : Option Nat} : rA (rs S T p) = rA S := by unfold rs; split <;> rfl
theorem rs_72 {S : rn_T} {T : rn_TR} {p : Option Nat} {k : Nat} : rP (rs S T p) 72 k = rP S 72 k := by
  unfold rs; split <;> simp (disch := omega) only [ra_I, ra_In, ra_A, ra_An, ra_IA, ra_IL, ra_IR, ra_IP, ra_AI, ra_AL, ra_AR, ra_AP, ra_L, ra_Ln, ra_LI, ra_LA, ra_LR, ra_LP, ra_R, ra_Rn, ra_RI, ra_RA, ra_RL, ra_RP, ra_P, ra_Pn, ra_PI, ra_PA, ra_PL, ra_PR]
theorem LF_E {S S2 : rn_T} {b k o : Nat} (hb : 66 ≤ b ∧ b < 276) (h : LF b S S2 k o) : EqT (fun q => q < 66 ∨ 276 ≤ q) S S2 := fun q hq => ⟨funext fun j => h.1 q j (by omega), by rw [h.2.1], by rw [h.2.2.1]⟩
theorem sb_eq {S S2 : rn_T} {T : rn_TR} (h : SB S T) (h1 : ∀ q j, (q ≠ 66 ∨ j = 0) → rI S2 q j = rI S q j) (h2 : rR S2 = rR S) (h3 : ∀ q, 76 ≤ q → rP S2 q = rP S q) : SB S2 T := by
  refine ⟨(h1 66 0 (by omega)).trans h.1, fun i hi => ?_, (h1 76 15 (by omega)).trans h.2.2⟩
  have := h.2.1 i hi
  unfold nB at this ⊢
  rw [h1 _ 1 (by omega), h1 _ 4 (by omega), h1 _ 5 (by omega), h1 _ 6 (by omega), h1 _ 8 (by omega), h1 _ 9 (by omega), h1 _ 10 (by omega), h1 _ 11 (by omega), h1 _ 14 (by omega), h1 _ 3 (by omega), h2, h3 (77 + 2 * tP T i) (by omega)]
  exact this
def gq (S : rn_T) (pp : Option Nat) : Option (Bool × rn_T) := if (rI S 66 0) < (100 : Int32) then if rn_ob (rI S 66 0) 100 then none else Option.bind (f128 (wI S 66 0 ((rI S 66 0) + (1 : Int32))) (76 + 2 * (Int32.toNatClampNeg (rI S 66 0))) pp) fun p6 => if rn_kd 1 = 1 then Option.bind (f115 p6 1 (rI p6 66 3) (rI p6 66 4)) fun p8 => if p8 = (40 : Int32) then f159_J38 p6 (76 + 2 * (Int32.toNatClampNeg (rI S 66 0))) p8 else if p8 = (91 : Int32) then f159_J38 p6 (76 + 2 * (Int32.toNatClampNeg (rI S 66 0))) p8 else Option.bind (f115 p6 1 (rI p6 66 3) ((rI p6 66 4) + (1 : Int32))) fun p17 => Option.bind (f161 p6 (76 + 2 * (Int32.toNatClampNeg (rI S 66 0))) p8 p17) fun p18 => some (p18.1, p18.2) else none else some (false, S)
theorem f159_eq (S : rn_T) (pp : Option Nat) : f159 S 1 pp = Option.bind (f160 S 1) fun p2 => if p2.1 = true then gq p2.2 pp else some (false, p2.2) := by
  cases pp <;> rfl
/-- all of the class between parts -/
def CB (S : rn_T) (A : rn_AT) (X : Nat → rn_IT) (n g : Nat) (T : rn_TR) (F : List rn_FT) : Prop := PS S A ∧ XS S X n ∧ rI S 66 6 = nI g ∧ SB S T ∧ FD S F ∧ rI S 66 15 = nI F.length
def J45f (S : rn_T) (b sh at1 : Nat) (bi : Option Nat) (m : Nat) : rn_T := wI (wA (wA (wA (wP S 72 m (some b)) 73 m (nI sh)) 74 m (nI (at1 + 1))) 75 m (encC bi)) 66 15 (nI (m + 1))
theorem cl_J45 {S S1 : rn_T} {b k m : Nat} {t : rn_IT} (h : f129 S b (nI k) (0 : Int32) = some S1) (hm : rI S1 66 15 = nI m) (hm2 : m < 100) (ht : IS S1 t) (ha : t.2.1 < 1000) : f159_J45 S b b (nI k) = some (true, J45f S1 b t.1 t.2.1 t.2.2 m) := by
  unfold f159_J45 J45f
  obtain ⟨g1, g2, g3⟩ := ht
  rw [h, Option.bind_some]
  simp (disch := omega) only [hm, g1, g2, g3, nI_lit, nI_add, pk_sub, pk_mul, ma_neg, nI_clamp, ma_ltT, ma_ltF, ma_leT, ma_leF, ma_eqT, ma_eqF, nI_ltI, nI_leI, nI_eq, ma_obT, ma_obF, ma_enF, ma_neF, ma_nlT, ma_lnF, ma_nLT, ma_Ln, ↓reduceIte, Option.bind_some, Option.bind_none, true_and, and_true, false_and, and_false, ne_eq, not_true_eq_false, not_false_eq_true, Bool.false_eq_true, reduceCtorEq, Nat.reduceAdd, Nat.reduceMul, Nat.reduceSub, ra_I, ra_In, ra_A, ra_An, ra_IA, ra_IL, ra_IR, ra_IP, ra_AI, ra_AL, ra_AR, ra_AP, ra_L, ra_Ln, ra_LI, ra_LA, ra_LR, ra_LP, ra_R, ra_Rn, ra_RI, ra_RA, ra_RL, ra_RP, ra_P, ra_Pn, ra_PI, ra_PA, ra_PL, ra_PR]
