/-! 52: a text gone through, on both sides -/
def kS (a s : Nat) : rn_T → Option rn_T := fun S10 => if (rI S10 (5 + 2 * s) 1) ≤ 0 then some (wI S10 a 0 (rI S10 (5 + 2 * s) 1)) else if (rI S10 a 5) = 0 then some (wI S10 a 0 (-6 : Int32)) else some (wI S10 a 0 (rI S10 (5 + 2 * s) 1))
def kM (s : Nat) : rn_T → Option (Int32 × rn_T) := fun M7 => if (rI M7 318 4) = 0 then some ((-6 : Int32), M7) else if rn_ob (nI s) 8 then none else some ((rA M7 320 (Int32.toNatClampNeg (nI s))), M7)
/-- without a fault: a term from end to end, its letters lesser -/
def WT (A : rn_AT) (s : Nat) (E : Nat → Nat) : Prop := TM (aC A s) (aO A) s E 0 (aN A s) ∧ ∀ i, i < aN A s → isL (aC A s i) → aC A s i - 65 < s
/-- what the scan at a tells -/
def FR (A : rn_AT) (s a : Nat) (S2 : rn_T) (r : Int32) : Prop := rI S2 a 0 = r ∧ ((r = -nI 6 ∧ ∃ E, (∀ i, i < 40 → rA S2 (a + 1) i = nI (E i)) ∧ WT A s E) ∨ ∃ j, j ≤ 40 ∧ r = nI j)
theorem sm_len : ∀ {l : List (Nat × Nat × Nat)}, (sm l).length ≤ l.length := by
  intro l
  induction l with
  | nil => exact Nat.le_refl _
  | cons f l ih =>
    obtain ⟨x, y, h⟩ := f
    rw [sm_c]
    split
    · exact Nat.le_succ_of_le ih
    · exact Nat.succ_le_succ ih
theorem rm_len {l : List (Nat × Nat × Nat)} : (rm l).length ≤ l.length := by
  cases l with
  | nil => exact Nat.le_refl _
  | cons f l =>
    obtain ⟨x, y, h⟩ := f
    exact Nat.succ_le_succ sm_len
set_option maxHeartbeats 4000000 in
theorem scan_loop {A : rn_AT} {s a : Nat} (ho : OKA A) (hs : s < 8) (ha : rn_kd a = 4) (ha2 : 23 ≤ a) : ∀ (d p : Nat) (l : List (Nat × Nat × Nat)) (E : Nat → Nat) (dd : List Nat) (S M : rn_T) (fu fu2 : Nat), p + d = aN A s → d < fu → d < fu2 → PS S A → PM M A → SC S a l E → DS M dd → (p = 0 ∧ l = [] ∧ dd = [0] ∨ 0 < p ∧ CH (aC A s) (aO A) s E l p ∧ dd = rm l) → (∀ i, i < p → isL (aC A s i) → aC A s i - 65 < s) → ∃ S2 M2 r, f134_L10 a 1 (nI s) (5 + 2 * s) fu S (nI p) (kS a s) = some S2 ∧ f43_L8 (nI s) fu2 M (nI p) (kM s) = some (r, M2) ∧ EqT (scO a) S S2 ∧ eqD M M2 ∧ FR A s a S2 r := by
  have hn := ho.1 s hs
  intro d
  induction d with
  | zero =>
    intro p l E dd S M fu fu2 hp hf hf2 hS hM hSC hDS hI hLt
    obtain ⟨g, rfl⟩ : ∃ g, fu = g + 1 := ⟨fu - 1, by omega⟩
    obtain ⟨g2, rfl⟩ : ∃ g2, fu2 = g2 + 1 := ⟨fu2 - 1, by omega⟩
    have hpn : p = aN A s := by omega
    subst hpn
    have e1 : f134_L10 a 1 (nI s) (5 + 2 * s) (g + 1) S (nI (aN A s)) (kS a s) = kS a s S := by
      unfold f134_L10
      simp (disch := omega) only [hS.1 s hs, nI_lit, nI_add, pk_sub, pk_mul, ma_neg, nI_clamp, ma_ltT, ma_ltF, ma_leT, ma_leF, ma_eqT, ma_eqF, nI_ltI, nI_leI, nI_eq, ma_obT, ma_obF, ma_enF, ma_neF, ma_nlT, ma_lnF, ma_nLT, ma_Ln, ↓reduceIte, Option.bind_some, Option.bind_none, true_and, and_true, false_and, and_false, ne_eq, not_true_eq_false, not_false_eq_true, Bool.false_eq_true, reduceCtorEq, Nat.reduceAdd, Nat.reduceMul, Nat.reduceSub]
    have e2 : f43_L8 (nI s) (g2 + 1) M (nI (aN A s)) (kM s) = kM s M := by
      unfold f43_L8
      simp (disch := omega) only [hM.1 s hs, nI_lit, nI_add, pk_sub, pk_mul, ma_neg, nI_clamp, ma_ltT, ma_ltF, ma_leT, ma_leF, ma_eqT, ma_eqF, nI_ltI, nI_leI, nI_eq, ma_obT, ma_obF, ma_enF, ma_neF, ma_nlT, ma_lnF, ma_nLT, ma_Ln, ↓reduceIte, Option.bind_some, Option.bind_none, true_and, and_true, false_and, and_false, ne_eq, not_true_eq_false, not_false_eq_true, Bool.false_eq_true, reduceCtorEq, Nat.reduceAdd, Nat.reduceMul, Nat.reduceSub]
    rw [e1, e2]
    unfold kS kM
    have hl := hSC.1
    have hd := hDS.1
    rcases hI with ⟨h0, h1, h2⟩ | ⟨h0, h1, h2⟩
    · refine ⟨wI S a 0 (nI (aN A s)), M, nI (aN A s), ?_, ?_, eq_I (by unfold scO; omega), eqD_r, ra_I, .inr ⟨_, hn, rfl⟩⟩
      · simp (disch := omega) only [hS.1 s hs, h0, nI_lit, nI_add, pk_sub, pk_mul, ma_neg, nI_clamp, ma_ltT, ma_ltF, ma_leT, ma_leF, ma_eqT, ma_eqF, nI_ltI, nI_leI, nI_eq, ma_obT, ma_obF, ma_enF, ma_neF, ma_nlT, ma_lnF, ma_nLT, ma_Ln, ↓reduceIte, Option.bind_some, Option.bind_none, true_and, and_true, false_and, and_false, ne_eq, not_true_eq_false, not_false_eq_true, Bool.false_eq_true, reduceCtorEq, Nat.reduceAdd, Nat.reduceMul, Nat.reduceSub]
      · subst h2
        have hd1 : rI M 318 4 = nI 1 := hd
        simp (disch := omega) only [hd1, hM.1 s hs, nI_lit, nI_add, pk_sub, pk_mul, ma_neg, nI_clamp, ma_ltT, ma_ltF, ma_leT, ma_leF, ma_eqT, ma_eqF, nI_ltI, nI_leI, nI_eq, ma_obT, ma_obF, ma_enF, ma_neF, ma_nlT, ma_lnF, ma_nLT, ma_Ln, ↓reduceIte, Option.bind_some, Option.bind_none, true_and, and_true, false_and, and_false, ne_eq, not_true_eq_false, not_false_eq_true, Bool.false_eq_true, reduceCtorEq, Nat.reduceAdd, Nat.reduceMul, Nat.reduceSub]
    · cases l with
      | nil =>
        subst h2
        have hd1 : rI M 318 4 = nI 0 := hd
        have hl1 : rI S a 5 = nI 0 := hl
        refine ⟨wI S a 0 (-nI 6), M, -nI 6, ?_, ?_, eq_I (by unfold scO; omega), eqD_r, ra_I, .inl ⟨rfl, E, hSC.2.2, h1, hLt⟩⟩
        · simp (disch := omega) only [hS.1 s hs, hl1, nI_lit, nI_add, pk_sub, pk_mul, ma_neg, nI_clamp, ma_ltT, ma_ltF, ma_leT, ma_leF, ma_eqT, ma_eqF, nI_ltI, nI_leI, nI_eq, ma_obT, ma_obF, ma_enF, ma_neF, ma_nlT, ma_lnF, ma_nLT, ma_Ln, ↓reduceIte, Option.bind_some, Option.bind_none, true_and, and_true, false_and, and_false, ne_eq, not_true_eq_false, not_false_eq_true, Bool.false_eq_true, reduceCtorEq, Nat.reduceAdd, Nat.reduceMul, Nat.reduceSub]
        · simp (disch := omega) only [hd1, hM.1 s hs, nI_lit, nI_add, pk_sub, pk_mul, ma_neg, nI_clamp, ma_ltT, ma_ltF, ma_leT, ma_leF, ma_eqT, ma_eqF, nI_ltI, nI_leI, nI_eq, ma_obT, ma_obF, ma_enF, ma_neF, ma_nlT, ma_lnF, ma_nLT, ma_Ln, ↓reduceIte, Option.bind_some, Option.bind_none, true_and, and_true, false_and, and_false, ne_eq, not_true_eq_false, not_false_eq_true, Bool.false_eq_true, reduceCtorEq, Nat.reduceAdd, Nat.reduceMul, Nat.reduceSub]
      | cons f l =>
        subst h2
        have hlen : (f :: l).length ≤ aN A s := CH_len h1
        obtain ⟨x, y, h⟩ := f
        have hl1 : rI S a 5 = nI (l.length + 1) := hl
        have hd1 : rI M 318 4 = nI ((sm l).length + 1) := hd
        have hsl : (sm l).length ≤ l.length := sm_len
        have hlen2 : l.length + 1 ≤ aN A s := hlen
        refine ⟨wI S a 0 (nI (aN A s)), M, nI (aN A s), ?_, ?_, eq_I (by unfold scO; omega), eqD_r, ra_I, .inr ⟨_, hn, rfl⟩⟩
        · simp (disch := omega) only [hS.1 s hs, hl1, nI_lit, nI_add, pk_sub, pk_mul, ma_neg, nI_clamp, ma_ltT, ma_ltF, ma_leT, ma_leF, ma_eqT, ma_eqF, nI_ltI, nI_leI, nI_eq, ma_obT, ma_obF, ma_enF, ma_neF, ma_nlT, ma_lnF, ma_nLT, ma_Ln, ↓reduceIte, Option.bind_some, Option.bind_none, true_and, and_true, false_and, and_false, ne_eq, not_true_eq_false, not_false_eq_true, Bool.false_eq_true, reduceCtorEq, Nat.reduceAdd, Nat.reduceMul, Nat.reduceSub]
        · simp (disch := omega) only [hd1, hM.1 s hs, nI_lit, nI_add, pk_sub, pk_mul, ma_neg, nI_clamp, ma_ltT, ma_ltF, ma_leT, ma_leF, ma_eqT, ma_eqF, nI_ltI, nI_leI, nI_eq, ma_obT, ma_obF, ma_enF, ma_neF, ma_nlT, ma_lnF, ma_nLT, ma_Ln, ↓reduceIte, Option.bind_some, Option.bind_none, true_and, and_true, false_and, and_false, ne_eq, not_true_eq_false, not_false_eq_true, Bool.false_eq_true, reduceCtorEq, Nat.reduceAdd, Nat.reduceMul, Nat.reduceSub]
  | succ d ih =>
    intro p l E dd S M fu fu2 hp hf hf2 hS hM hSC hDS hI hLt
    obtain ⟨g, rfl⟩ : ∃ g, fu = g + 1 := ⟨fu - 1, by omega⟩
    obtain ⟨g2, rfl⟩ : ∃ g2, fu2 = g2 + 1 := ⟨fu2 - 1, by omega⟩
    have hc := ho.2.1 s hs p (by omega)
    have hll : l.length < 40 := by
      rcases hI with ⟨h0, h1, h2⟩ | ⟨h0, h1, h2⟩
      · subst h1; show 0 < 40; omega
      · have := CH_len h1; omega
    have hdl : dd.length < 60 := by
      rcases hI with ⟨h0, h1, h2⟩ | ⟨h0, h1, h2⟩
      · subst h2; show 1 < 60; omega
      · subst h2; have := rm_len (l := l); omega
    have hSP : SP A s p E (tk A s l p (aC A s p)) (rst A s (aC A s p) dd) := by
      rcases hI with ⟨h0, h1, h2⟩ | ⟨h0, h1, h2⟩
      · subst h0 h1 h2
        have e1 : tk A s [] 0 (aC A s 0) = (beg A s (aC A s 0), [(aC A s 0, 0, 0)]) := rfl
        have e2 : rst A s (aC A s 0) [0] = rbeg A s (aC A s 0) (sm []) := rfl
        rw [e1, e2]
        have hb : BL (aC A s) (aO A) s E [] 0 := rfl
        rcases beg_ok hb with ⟨a1, a2⟩ | ⟨a1, a2, a3⟩ | ⟨a1, a2, a3⟩
        · exact .inl ⟨a1, a2⟩
        · exact .inr (.inl ⟨a1, a2, a3⟩)
        · exact .inr (.inr ⟨a1, _, _, rfl, a2, rfl, a3⟩)
      · subst h2
        cases l with
        | nil =>
          refine .inl ⟨?_, rfl⟩
          have e1 : tk A s [] p (aC A s p) = if p = 0 then (beg A s (aC A s p), [(aC A s p, p, 0)]) else (0, []) := rfl
          rw [e1, if_neg (by omega)]
        | cons f l => exact step_ok h1
    obtain ⟨S1, e1, q1, q2⟩ := ma_f136 (p := p) hS ho ha ha2 hSC hll hc hs (by omega)
    obtain ⟨M1, e2, q3, q4⟩ := ma_f42 hM ho hDS hdl hc hs
    have hS1 : PS S1 A := ps_eq hS (eq_m q1 (fun q hq => .inl (by omega)))
    have hM1 : PM M1 A := pm_D hM q3
    have hA : rA S (5 + 2 * s + 1) p = nI (aC A s p) := by
      rw [show 5 + 2 * s + 1 = 6 + 2 * s by omega]; exact hS.2.1 s hs p (by omega)
    have h33 := ma_f33 hM hs (show p < 40 by omega)
    have u1 : f134_L10 a 1 (nI s) (5 + 2 * s) (g + 1) S (nI p) (kS a s) = (if (nI (tk A s l p (aC A s p)).1) = 0 then some (wI S1 a 0 (nI p)) else if (nI (tk A s l p (aC A s p)).1) = (2 : Int32) then Option.bind (f138 S1 a (nI (p + 1))) fun p9 => f134_L10 a 1 (nI s) (5 + 2 * s) g p9 (nI (p + 1)) (kS a s) else f134_L10 a 1 (nI s) (5 + 2 * s) g S1 (nI (p + 1)) (kS a s)) := by
      rw [show f134_L10 a 1 (nI s) (5 + 2 * s) (g + 1) S (nI p) (kS a s) = (if (rI S (5 + 2 * s) 1) ≤ nI p then kS a s S else if rn_ob (nI p) 40 then none else Option.bind (f136 S a 1 (nI s) (nI p) (rA S (5 + 2 * s + 1) (Int32.toNatClampNeg (nI p)))) fun p6 => if p6.1 = 0 then some (wI p6.2 a 0 (nI p)) else if p6.1 = (2 : Int32) then Option.bind (f138 p6.2 a (nI p + (1 : Int32))) fun p9 => f134_L10 a 1 (nI s) (5 + 2 * s) g p9 (nI p + (1 : Int32)) (kS a s) else f134_L10 a 1 (nI s) (5 + 2 * s) g p6.2 (nI p + (1 : Int32)) (kS a s)) from rfl]
      rw [hS.1 s hs, if_neg (by rw [nI_leI (by omega) (by omega)]; omega), if_neg (by rw [ma_obF (by omega) (by omega)]; exact id), nI_clamp (by omega), hA, e1, nI_1]
      rfl
    have u2 : f43_L8 (nI s) (g2 + 1) M (nI p) (kM s) = (if (rst A s (aC A s p) dd).1 = true then f43_L8 (nI s) g2 M1 (nI (p + 1)) (kM s) else some (nI p, M1)) := by
      rw [show f43_L8 (nI s) (g2 + 1) M (nI p) (kM s) = (if rn_ob (nI s) 8 then none else if (rA M 320 (Int32.toNatClampNeg (nI s))) ≤ nI p then kM s M else Option.bind (f33 M (nI s) (nI p)) fun p4 => Option.bind (f42 M (nI s) p4) fun p5 => if p5.1 = true then f43_L8 (nI s) g2 p5.2 (nI p + (1 : Int32)) (kM s) else some (nI p, p5.2)) from rfl]
      rw [if_neg (by rw [ma_obF (by omega) (by omega)]; exact id), nI_clamp (by omega), hM.1 s hs, if_neg (by rw [nI_leI (by omega) (by omega)]; omega), h33]
      simp only [Option.bind_some]
      rw [e2, nI_1]
      rfl
    rw [u1, u2]
    have hLt2 : (tk A s l p (aC A s p)).1 ≠ 0 → ∀ i, i < p + 1 → isL (aC A s i) → aC A s i - 65 < s := by
      intro hne i hi hL
      by_cases e : i = p
      · subst e; exact let_ok hne hL
      · exact hLt i (by omega) hL
    rcases hSP with ⟨a1, a2⟩ | ⟨a1, a2, a3⟩ | ⟨a1, f, t, a2, a3, a4, a5⟩
    · rw [a1, a2]
      exact ⟨_, _, _, rfl, rfl, eq_t q1 (eq_I (by unfold scO; omega)), q3, ra_I, .inr ⟨p, by omega, rfl⟩⟩
    · rw [a1, a2, if_neg (by decide), if_neg (by decide), if_pos rfl]
      rw [a2] at q4
      obtain ⟨S2, M2, r, z1, z2, z3, z4, z5⟩ := ih (p + 1) _ E _ S1 M1 g g2 (by omega) (by omega) (by omega) hS1 hM1 q2 q4 (.inr ⟨by omega, a3, rfl⟩) (hLt2 (by rw [a1]; decide))
      exact ⟨S2, M2, r, z1, z2, eq_t q1 z3, eqD_t q3 z4, z5⟩
    · rw [a1, a3, if_neg (by decide), if_pos (by decide), if_pos rfl]
      rw [a3] at q4
      rw [a2] at q2
      have hb40 : f.2.1 < 40 := q2.2.1.2.2.2.2.1
      have htl : t.length < 40 := by have := BL_len a4; omega
      obtain ⟨k1, k2, k3⟩ := end_ok a4 a5
      obtain ⟨S3, y1, y2, y3⟩ := ma_f138 (e := p + 1) ha q2 htl k3
      rw [y1]
      have hS3 : PS S3 A := ps_eq hS1 (eq_m y2 (fun q hq => .inl (by omega)))
      obtain ⟨S2, M2, r, z1, z2, z3, z4, z5⟩ := ih (p + 1) _ _ _ S3 M1 g g2 (by omega) (by omega) (by omega) hS3 hM1 y3 q4 (.inr ⟨by omega, k1, k2.symm⟩) (hLt2 (by rw [a1]; decide))
      exact ⟨S2, M2, r, z1, z2, eq_t q1 (eq_t y2 z3), eqD_t q3 z4, z5⟩
