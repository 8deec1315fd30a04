/-! 45: a TERM in a text, with where each ends -/
def isL (c : Nat) : Prop := 65 ≤ c ∧ c < 73
def isP (c : Nat) : Prop := c = 48 ∨ c = 49 ∨ c = 50 ∨ c = 52 ∨ c = 98 ∨ c = 112 ∨ c = 120
/-- so many, one behind another -/
def tms (R : Nat → Nat → Prop) : Nat → Nat → Nat → Prop
  | 0, p, e => p = e
  | k + 1, p, e => ∃ m, R p m ∧ tms R k m e
/-- a term from p, behind it e; E tells of each one within where it ends -/
def tm (c : Nat → Nat) (o : Nat → Bool) (s : Nat) (E : Nat → Nat) : Nat → Nat → Nat → Prop
  | 0, _, _ => False
  | d + 1, p, e => E p = e ∧ ((isP (c p) ∧ e = p + 1) ∨ (c p = 101 ∧ 50 ≤ c (p + 1) ∧ c (p + 1) ≤ 57 ∧ e = p + 2) ∨ (isL (c p) ∧ c p - 65 < s ∧ o (c p - 65) = false ∧ e = p + 1) ∨ (isL (c p) ∧ c p - 65 < s ∧ o (c p - 65) = true ∧ tm c o s E d (p + 1) e) ∨ (∃ k q, (c p = 40 ∧ c q = 41 ∨ c p = 91 ∧ c q = 93) ∧ 1 ≤ k ∧ k ≤ 6 ∧ tms (tm c o s E d) k (p + 1) q ∧ e = q + 1))
theorem tms_mono {R R2 : Nat → Nat → Prop} (h : ∀ p e, R p e → R2 p e) : ∀ {k p e}, tms R k p e → tms R2 k p e := by
  intro k
  induction k with
  | zero => intro p e hr; exact hr
  | succ k ih =>
    rintro p e ⟨m, h1, h2⟩
    exact ⟨m, h p m h1, ih h2⟩
theorem tms_snoc {R : Nat → Nat → Prop} {m e : Nat} (hr : R m e) : ∀ {k p}, tms R k p m → tms R (k + 1) p e := by
  intro k
  induction k with
  | zero =>
    intro p h
    have : p = m := h
    subst this
    exact ⟨e, hr, rfl⟩
  | succ k ih =>
    rintro p ⟨x, h1, h2⟩
    exact ⟨x, h1, ih h2⟩
theorem tm_succ {c : Nat → Nat} {o : Nat → Bool} {s : Nat} {E : Nat → Nat} : ∀ {d p e}, tm c o s E d p e → tm c o s E (d + 1) p e := by
  intro d
  induction d with
  | zero => intro p e h; exact h.elim
  | succ d ih =>
    rintro p e ⟨h0, h⟩
    refine ⟨h0, ?_⟩
    rcases h with h | h | h | ⟨h1, h2, h3, h4⟩ | ⟨k, q, h1, h2, h3, h4, h5⟩
    · exact .inl h
    · exact .inr (.inl h)
    · exact .inr (.inr (.inl h))
    · exact .inr (.inr (.inr (.inl ⟨h1, h2, h3, ih h4⟩)))
    · exact .inr (.inr (.inr (.inr ⟨k, q, h1, h2, h3, tms_mono (fun _ _ => ih) h4, h5⟩)))
theorem tm_le {c : Nat → Nat} {o : Nat → Bool} {s : Nat} {E : Nat → Nat} {d d2 p e : Nat} (h : tm c o s E d p e) (hd : d ≤ d2) : tm c o s E d2 p e := by
  obtain ⟨x, rfl⟩ : ∃ x, d2 = d + x := ⟨d2 - d, by omega⟩
  induction x with
  | zero => exact h
  | succ x ih => exact tm_succ (ih (by omega))
theorem tms_lt {R : Nat → Nat → Prop} (h : ∀ p e, R p e → p < e) : ∀ {k p e}, tms R k p e → p + k ≤ e := by
  intro k
  induction k with
  | zero => intro p e hr; have : p = e := hr; omega
  | succ k ih =>
    rintro p e ⟨m, h1, h2⟩
    have := h p m h1
    have := ih h2
    omega
theorem tm_lt {c : Nat → Nat} {o : Nat → Bool} {s : Nat} {E : Nat → Nat} : ∀ {d p e}, tm c o s E d p e → p < e := by
  intro d
  induction d with
  | zero => intro p e h; exact h.elim
  | succ d ih =>
    rintro p e ⟨h0, h⟩
    rcases h with h | h | h | ⟨h1, h2, h3, h4⟩ | ⟨k, q, h1, h2, h3, h4, h5⟩
    · omega
    · omega
    · omega
    · have := ih h4; omega
    · have := tms_lt (fun _ _ => ih) h4; omega
/-- only what lies within tells -/
theorem tms_cg {R R2 : Nat → Nat → Prop} {lo hi : Nat} (hl : ∀ p e, R p e → p < e) (h : ∀ p e, lo ≤ p → e ≤ hi → R p e → R2 p e) : ∀ {k p e}, lo ≤ p → e ≤ hi → tms R k p e → tms R2 k p e := by
  intro k
  induction k with
  | zero => intro p e _ _ hr; exact hr
  | succ k ih =>
    rintro p e hp he ⟨m, h1, h2⟩
    have := hl p m h1
    have := tms_lt hl h2
    exact ⟨m, h p m hp (by omega) h1, ih (by omega) he h2⟩
theorem tm_cg {c : Nat → Nat} {o : Nat → Bool} {s : Nat} {E E2 : Nat → Nat} : ∀ {d p e}, (∀ i, p ≤ i → i < e → E2 i = E i) → tm c o s E d p e → tm c o s E2 d p e := by
  intro d
  induction d with
  | zero => intro p e _ h; exact h.elim
  | succ d ih =>
    intro p e he h
    have hlt := tm_lt h
    obtain ⟨h0, h⟩ := h
    refine ⟨by rw [he p (by omega) hlt]; exact h0, ?_⟩
    rcases h with h | h | h | ⟨h1, h2, h3, h4⟩ | ⟨k, q, h1, h2, h3, h4, h5⟩
    · exact .inl h
    · exact .inr (.inl h)
    · exact .inr (.inr (.inl h))
    · exact .inr (.inr (.inr (.inl ⟨h1, h2, h3, ih (fun i hi hi2 => he i (by omega) hi2) h4⟩)))
    · refine .inr (.inr (.inr (.inr ⟨k, q, h1, h2, h3, ?_, h5⟩)))
      exact tms_cg (lo := p + 1) (hi := q) (fun _ _ => tm_lt) (fun a b ha hb hr => ih (fun i hi hi2 => he i (by omega) (by omega)) hr) (by omega) (by omega) h4
/-- a term, at some depth -/
def TM (c : Nat → Nat) (o : Nat → Bool) (s : Nat) (E : Nat → Nat) (p e : Nat) : Prop := ∃ d, tm c o s E d p e
def TMs (c : Nat → Nat) (o : Nat → Bool) (s : Nat) (E : Nat → Nat) (k p e : Nat) : Prop := ∃ d, tms (tm c o s E d) k p e
theorem TM_lt {c : Nat → Nat} {o : Nat → Bool} {s : Nat} {E : Nat → Nat} {p e : Nat} (h : TM c o s E p e) : p < e := by
  obtain ⟨d, h⟩ := h
  exact tm_lt h
theorem TMs_le {c : Nat → Nat} {o : Nat → Bool} {s : Nat} {E : Nat → Nat} {k p e : Nat} (h : TMs c o s E k p e) : p + k ≤ e := by
  obtain ⟨d, h⟩ := h
  exact tms_lt (fun _ _ => tm_lt) h
theorem TM_cg {c : Nat → Nat} {o : Nat → Bool} {s : Nat} {E E2 : Nat → Nat} {p e : Nat} (he : ∀ i, p ≤ i → i < e → E2 i = E i) (h : TM c o s E p e) : TM c o s E2 p e := by
  obtain ⟨d, h⟩ := h
  exact ⟨d, tm_cg he h⟩
theorem TMs_cg {c : Nat → Nat} {o : Nat → Bool} {s : Nat} {E E2 : Nat → Nat} {k p e : Nat} (he : ∀ i, p ≤ i → i < e → E2 i = E i) (h : TMs c o s E k p e) : TMs c o s E2 k p e := by
  obtain ⟨d, h⟩ := h
  exact ⟨d, tms_cg (lo := p) (hi := e) (fun _ _ => tm_lt) (fun a b ha hb hr => tm_cg (fun i hi hi2 => he i (by omega) (by omega)) hr) (by omega) (by omega) h⟩
theorem TMs_0 {c : Nat → Nat} {o : Nat → Bool} {s : Nat} {E : Nat → Nat} {p : Nat} : TMs c o s E 0 p p := ⟨0, rfl⟩
theorem TMs_snoc {c : Nat → Nat} {o : Nat → Bool} {s : Nat} {E : Nat → Nat} {k p m e : Nat} (h : TMs c o s E k p m) (h2 : TM c o s E m e) : TMs c o s E (k + 1) p e := by
  obtain ⟨d, h⟩ := h
  obtain ⟨d2, h2⟩ := h2
  exact ⟨d + d2, tms_snoc (tm_le h2 (by omega)) (tms_mono (fun _ _ hr => tm_le hr (by omega)) h)⟩
theorem TM_p {c : Nat → Nat} {o : Nat → Bool} {s : Nat} {E : Nat → Nat} {p : Nat} (hE : E p = p + 1) (h : isP (c p)) : TM c o s E p (p + 1) := ⟨1, hE, .inl ⟨h, rfl⟩⟩
theorem TM_e {c : Nat → Nat} {o : Nat → Bool} {s : Nat} {E : Nat → Nat} {p : Nat} (hE : E p = p + 2) (h : c p = 101) (h1 : 50 ≤ c (p + 1)) (h2 : c (p + 1) ≤ 57) : TM c o s E p (p + 2) := ⟨1, hE, .inr (.inl ⟨h, h1, h2, rfl⟩)⟩
theorem TM_c {c : Nat → Nat} {o : Nat → Bool} {s : Nat} {E : Nat → Nat} {p : Nat} (hE : E p = p + 1) (h : isL (c p)) (h1 : c p - 65 < s) (h2 : o (c p - 65) = false) : TM c o s E p (p + 1) := ⟨1, hE, .inr (.inr (.inl ⟨h, h1, h2, rfl⟩))⟩
theorem TM_o {c : Nat → Nat} {o : Nat → Bool} {s : Nat} {E : Nat → Nat} {p e : Nat} (hE : E p = e) (h : isL (c p)) (h1 : c p - 65 < s) (h2 : o (c p - 65) = true) (h3 : TM c o s E (p + 1) e) : TM c o s E p e := by
  obtain ⟨d, h3⟩ := h3
  exact ⟨d + 1, hE, .inr (.inr (.inr (.inl ⟨h, h1, h2, h3⟩)))⟩
theorem TM_g {c : Nat → Nat} {o : Nat → Bool} {s : Nat} {E : Nat → Nat} {p k q : Nat} (hE : E p = q + 1) (h : c p = 40 ∧ c q = 41 ∨ c p = 91 ∧ c q = 93) (h1 : 1 ≤ k) (h2 : k ≤ 6) (h3 : TMs c o s E k (p + 1) q) : TM c o s E p (q + 1) := by
  obtain ⟨d, h3⟩ := h3
  exact ⟨d + 1, hE, .inr (.inr (.inr (.inr ⟨k, q, h, h1, h2, h3, rfl⟩)))⟩
