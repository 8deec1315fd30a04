/-! 50: the terms begun, and what is read of them -/
def sm : List (Nat × Nat × Nat) → List Nat
  | [] => []
  | (x, _, h) :: l => if 65 ≤ x ∧ x < 73 then sm l else ((if x = 40 then 10 else 20) + h + 1) :: sm l
def rm : List (Nat × Nat × Nat) → List Nat
  | [] => []
  | (x, _, h) :: l => (if 65 ≤ x ∧ x < 73 then 0 else if x = 101 then 30 else (if x = 40 then 10 else 20) + h) :: sm l
def BL (c : Nat → Nat) (o : Nat → Bool) (s : Nat) (E : Nat → Nat) : List (Nat × Nat × Nat) → Nat → Prop
  | [], b => b = 0
  | (x, y, h) :: l, b => y < b ∧ c y = x ∧ ((isL x ∧ x - 65 < s ∧ o (x - 65) = true ∧ b = y + 1) ∨ ((x = 40 ∨ x = 91) ∧ h ≤ 5 ∧ TMs c o s E h (y + 1) b)) ∧ BL c o s E l y
def CH (c : Nat → Nat) (o : Nat → Bool) (s : Nat) (E : Nat → Nat) : List (Nat × Nat × Nat) → Nat → Prop
  | [], p => TM c o s E 0 p
  | (x, y, h) :: l, p => c y = x ∧ ((x = 101 ∧ p = y + 1) ∨ (isL x ∧ x - 65 < s ∧ o (x - 65) = true ∧ p = y + 1) ∨ ((x = 40 ∨ x = 91) ∧ h ≤ 6 ∧ TMs c o s E h (y + 1) p)) ∧ BL c o s E l y
theorem BL_cg {c : Nat → Nat} {o : Nat → Bool} {s : Nat} {E E2 : Nat → Nat} : ∀ {l b}, (∀ i, i < b → E2 i = E i) → BL c o s E l b → BL c o s E2 l b := by
  intro l
  induction l with
  | nil => intro b _ h; exact h
  | cons f l ih =>
    obtain ⟨x, y, h⟩ := f
    rintro b he ⟨h1, h2, h3, h4⟩
    refine ⟨h1, h2, ?_, ih (fun i hi => he i (by omega)) h4⟩
    rcases h3 with h3 | ⟨h5, h6, h7⟩
    · exact .inl h3
    · exact .inr ⟨h5, h6, TMs_cg (fun i _ hi => he i hi) h7⟩
theorem BL_len {c : Nat → Nat} {o : Nat → Bool} {s : Nat} {E : Nat → Nat} : ∀ {l b}, BL c o s E l b → l.length ≤ b := by
  intro l
  induction l with
  | nil => intro b h; exact Nat.zero_le _
  | cons f l ih =>
    obtain ⟨x, y, h⟩ := f
    rintro b ⟨h1, h2, h3, h4⟩
    have := ih h4
    simp only [List.length_cons]; omega
theorem CH_pos {c : Nat → Nat} {o : Nat → Bool} {s : Nat} {E : Nat → Nat} {x y h : Nat} {l : List (Nat × Nat × Nat)} {p : Nat} (hc : CH c o s E ((x, y, h) :: l) p) : y < p := by
  obtain ⟨h1, h2, h3⟩ := hc
  rcases h2 with h2 | h2 | ⟨_, _, h2⟩
  · omega
  · omega
  · have := TMs_le h2; omega
theorem CH_len {c : Nat → Nat} {o : Nat → Bool} {s : Nat} {E : Nat → Nat} {l : List (Nat × Nat × Nat)} {p : Nat} (hc : CH c o s E l p) : l.length ≤ p := by
  cases l with
  | nil => exact Nat.zero_le _
  | cons f l =>
    obtain ⟨x, y, h⟩ := f
    have := CH_pos hc
    have := BL_len hc.2.2
    simp only [List.length_cons]; omega
theorem end_ok {c : Nat → Nat} {o : Nat → Bool} {s e : Nat} : ∀ {l : List (Nat × Nat × Nat)} {b : Nat} {E : Nat → Nat}, BL c o s E l b → TM c o s E b e → CH c o s (eE E e l) (hi1 (pl l)) e ∧ rm (hi1 (pl l)) = sm l ∧ ∀ g t, pl l = g :: t → g.2.2 ≤ 5 := by
  intro l
  induction l with
  | nil =>
    intro b E h ht
    have : b = 0 := h
    subst this
    exact ⟨ht, rfl, fun g t hg => by cases hg⟩
  | cons f l ih =>
    obtain ⟨x, y, h⟩ := f
    rintro b E ⟨h1, h2, h3, h4⟩ ht
    rcases h3 with ⟨h5, h6, h7, h8⟩ | ⟨h5, h6, h7⟩
    · have hl : 65 ≤ x ∧ x < 73 := h5
      have hT : TM c o s (fun i => if i = y then e else E i) y e := by
        refine TM_o (by rw [if_pos rfl]) (h2 ▸ h5) (h2 ▸ h6) (h2 ▸ h7) ?_
        rw [← h8]
        exact TM_cg (fun i hi _ => by rw [if_neg (by omega)]) ht
      have := ih (BL_cg (E2 := fun i => if i = y then e else E i) (fun i hi => by rw [if_neg (by omega)]) h4) hT
      have e1 : pl ((x, y, h) :: l) = pl l := by show (if _ then _ else _) = _; rw [if_pos hl]
      have e2 : eE E e ((x, y, h) :: l) = eE (fun i => if i = y then e else E i) e l := by show (if _ then _ else _) = _; rw [if_pos hl]
      have e3 : sm ((x, y, h) :: l) = sm l := by show (if _ then _ else _) = _; rw [if_pos hl]
      rw [e1, e2, e3]
      exact this
    · have hl : ¬ (65 ≤ x ∧ x < 73) := by omega
      have e1 : pl ((x, y, h) :: l) = (x, y, h) :: l := by show (if _ then _ else _) = _; rw [if_neg hl]
      have e2 : eE E e ((x, y, h) :: l) = E := by show (if _ then _ else _) = _; rw [if_neg hl]
      have e3 : sm ((x, y, h) :: l) = ((if x = 40 then 10 else 20) + h + 1) :: sm l := by show (if _ then _ else _) = _; rw [if_neg hl]
      rw [e1, e2, e3]
      refine ⟨⟨h2, .inr (.inr ⟨h5, by omega, TMs_snoc h7 ht⟩), h4⟩, ?_, fun g t hg => ?_⟩
      · show (if _ then _ else _) :: _ = _
        rw [if_neg hl, if_neg (by omega), Nat.add_assoc]
      · cases hg; exact h6
theorem beg_ok {A : rn_AT} {s p : Nat} {l : List (Nat × Nat × Nat)} {E : Nat → Nat} (hb : BL (aC A s) (aO A) s E l p) : (beg A s (aC A s p) = 0 ∧ (rbeg A s (aC A s p) (sm l)).1 = false) ∨ (beg A s (aC A s p) = 1 ∧ rbeg A s (aC A s p) (sm l) = (true, rm ((aC A s p, p, 0) :: l)) ∧ CH (aC A s) (aO A) s E ((aC A s p, p, 0) :: l) (p + 1)) ∨ (beg A s (aC A s p) = 2 ∧ rbeg A s (aC A s p) (sm l) = (true, sm l) ∧ TM (aC A s) (aO A) s (fun i => if i = p then p + 1 else E i) p (p + 1)) := by
  have hE : (fun i => if i = p then p + 1 else E i) p = p + 1 := by simp
  by_cases h1 : aC A s p = 40 ∨ aC A s p = 91
  · refine .inr (.inl ⟨?_, ?_, rfl, .inr (.inr ⟨h1, by omega, TMs_0⟩), hb⟩)
    · unfold beg; rw [if_pos (by omega)]
    · unfold rbeg
      have : rm ((aC A s p, p, 0) :: l) = (if aC A s p = 40 then 10 else 20) :: sm l := by
        show (if _ then _ else _) :: _ = _
        rw [if_neg (by omega), if_neg (by omega)]; rfl
      rw [this]
      rcases h1 with h1 | h1
      · rw [if_pos h1, if_pos h1]
      · rw [if_neg (by omega), if_pos h1, if_neg (by omega)]
  · by_cases h2 : aC A s p = 101
    · refine .inr (.inl ⟨?_, ?_, rfl, .inl ⟨h2, rfl⟩, hb⟩)
      · unfold beg; rw [if_pos (by omega)]
      · unfold rbeg
        rw [if_neg (by omega), if_neg (by omega), if_pos h2]
        show _ = (true, (if _ then _ else _) :: _)
        rw [if_neg (by omega), if_pos h2]
    · by_cases h3 : 65 ≤ aC A s p ∧ aC A s p < 73 ∧ aC A s p - 65 < s
      · have hb1 : beg A s (aC A s p) = if aO A (aC A s p - 65) = true then 1 else 2 := by
          unfold beg
          rw [if_neg (by omega), if_neg (by omega), if_pos h3]
        have hr1 : rbeg A s (aC A s p) (sm l) = if aO A (aC A s p - 65) = true then (true, 0 :: sm l) else (true, sm l) := by
          unfold rbeg
          rw [if_neg (by omega), if_neg (by omega), if_neg h2, if_pos h3]
        rw [hb1, hr1]
        cases e : aO A (aC A s p - 65) with
        | true =>
          refine .inr (.inl ⟨rfl, ?_, rfl, .inr (.inl ⟨⟨h3.1, h3.2.1⟩, h3.2.2, e, rfl⟩), hb⟩)
          show (true, 0 :: sm l) = (true, (if _ then _ else _) :: _)
          rw [if_pos ⟨h3.1, h3.2.1⟩]
        | false => exact .inr (.inr ⟨rfl, rfl, TM_c hE ⟨h3.1, h3.2.1⟩ h3.2.2 e⟩)
      · by_cases h4 : isP (aC A s p)
        · refine .inr (.inr ⟨?_, ?_, TM_p hE h4⟩)
          · unfold isP at h4
            unfold beg
            rw [if_neg (by omega), if_pos h4]
          · unfold isP at h4
            unfold rbeg isPb
            rw [if_neg (by omega), if_neg (by omega), if_neg h2, if_neg h3, if_pos h4]
        · refine .inl ⟨?_, ?_⟩
          · unfold isP at h4
            unfold beg
            rw [if_neg (by omega), if_neg h4, if_neg h3]
          · unfold isP at h4
            unfold rbeg isPb
            rw [if_neg (by omega), if_neg (by omega), if_neg h2, if_neg h3, if_neg h4]
