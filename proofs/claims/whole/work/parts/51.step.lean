/-! 51: one sign, on both sides -/
theorem tk_c {A : rn_AT} {s p c o b k : Nat} {t : List (Nat × Nat × Nat)} : tk A s ((o, b, k) :: t) p c = if o = 101 then (if 50 ≤ c ∧ c ≤ 57 then 2 else 0, (o, b, k) :: t) else if 65 ≤ o ∧ o < 73 then (beg A s c, (c, p, 0) :: (o, b, k) :: t) else if c = (if o = 40 then 41 else 93) then (if 0 < k then 2 else 0, (o, b, k) :: t) else if k < 6 then (beg A s c, (c, p, 0) :: (o, b, k) :: t) else (0, (o, b, k) :: t) := rfl
theorem rst_c {A : rn_AT} {s c x : Nat} {l : List Nat} : rst A s c (x :: l) = if 0 < x ∧ x < 30 then (if 10 < x ∧ x < 20 ∧ c = 41 ∨ 20 < x ∧ c = 93 then (true, l) else if x % 10 = 6 then (false, x :: l) else rbeg A s c ((x + 1) :: l)) else if x = 30 then (decide (50 ≤ c ∧ c ≤ 57), l) else rbeg A s c l := rfl
theorem rm_c {x y h : Nat} {l : List (Nat × Nat × Nat)} : rm ((x, y, h) :: l) = (if 65 ≤ x ∧ x < 73 then 0 else if x = 101 then 30 else (if x = 40 then 10 else 20) + h) :: sm l := rfl
theorem sm_c {x y h : Nat} {l : List (Nat × Nat × Nat)} : sm ((x, y, h) :: l) = if 65 ≤ x ∧ x < 73 then sm l else ((if x = 40 then 10 else 20) + h + 1) :: sm l := rfl
theorem rb_no {A : rn_AT} {s c : Nat} {l : List Nat} (h : c = 41 ∨ c = 93) : rbeg A s c l = (false, l) := by
  unfold rbeg isPb
  rw [if_neg (show ¬ c = 40 by omega), if_neg (show ¬ c = 91 by omega), if_neg (show ¬ c = 101 by omega), if_neg (show ¬ (65 ≤ c ∧ c < 73 ∧ c - 65 < s) by omega), if_neg (show ¬ (c = 48 ∨ c = 49 ∨ c = 50 ∨ c = 52 ∨ c = 98 ∨ c = 112 ∨ c = 120) by omega)]
def SP (A : rn_AT) (s p : Nat) (E : Nat → Nat) (T : Nat × List (Nat × Nat × Nat)) (R : Bool × List Nat) : Prop := (T.1 = 0 ∧ R.1 = false) ∨ (T.1 = 1 ∧ R = (true, rm T.2) ∧ CH (aC A s) (aO A) s E T.2 (p + 1)) ∨ (T.1 = 2 ∧ ∃ f t, T.2 = f :: t ∧ R = (true, sm t) ∧ BL (aC A s) (aO A) s (fun i => if i = f.2.1 then p + 1 else E i) t f.2.1 ∧ TM (aC A s) (aO A) s (fun i => if i = f.2.1 then p + 1 else E i) f.2.1 (p + 1))
theorem step_ok {A : rn_AT} {s p : Nat} {f0 : Nat × Nat × Nat} {l : List (Nat × Nat × Nat)} {E : Nat → Nat} (hc : CH (aC A s) (aO A) s E (f0 :: l) p) : SP A s p E (tk A s (f0 :: l) p (aC A s p)) (rst A s (aC A s p) (rm (f0 :: l))) := by
  obtain ⟨x, y, h⟩ := f0
  have hy := CH_pos hc
  obtain ⟨h1, h2, h3⟩ := hc
  have hBLy : BL (aC A s) (aO A) s (fun i => if i = y then p + 1 else E i) l y := BL_cg (fun i hi => by rw [if_neg (by omega)]) h3
  have begs : BL (aC A s) (aO A) s E ((x, y, h) :: l) p → tk A s ((x, y, h) :: l) p (aC A s p) = (beg A s (aC A s p), (aC A s p, p, 0) :: (x, y, h) :: l) → rst A s (aC A s p) (rm ((x, y, h) :: l)) = rbeg A s (aC A s p) (sm ((x, y, h) :: l)) → SP A s p E (tk A s ((x, y, h) :: l) p (aC A s p)) (rst A s (aC A s p) (rm ((x, y, h) :: l))) := fun hb htk hrs => by
    have := beg_ok hb
    rw [htk, hrs]
    rcases this with ⟨a1, a2⟩ | ⟨a1, a2, a3⟩ | ⟨a1, a2, a3⟩
    · exact .inl ⟨a1, a2⟩
    · exact .inr (.inl ⟨a1, a2, a3⟩)
    · exact .inr (.inr ⟨a1, _, _, rfl, a2, BL_cg (fun i hi => if_neg (show ¬ i = p by have hi3 : i < p := hi; omega)) hb, a3⟩)
  rcases h2 with ⟨h4, h5⟩ | ⟨h4, h5, h6, h7⟩ | ⟨h4, h5, h6⟩
  · have htk : tk A s ((x, y, h) :: l) p (aC A s p) = (if 50 ≤ aC A s p ∧ aC A s p ≤ 57 then 2 else 0, (x, y, h) :: l) := by
      rw [tk_c, if_pos h4]
    have hrm : rm ((x, y, h) :: l) = 30 :: sm l := by
      rw [rm_c, if_neg (by omega), if_pos h4]
    have hrs : rst A s (aC A s p) (30 :: sm l) = (decide (50 ≤ aC A s p ∧ aC A s p ≤ 57), sm l) := by
      rw [rst_c, if_neg (by omega), if_pos rfl]
    rw [htk, hrm, hrs]
    by_cases hd : 50 ≤ aC A s p ∧ aC A s p ≤ 57
    · refine .inr (.inr ⟨if_pos hd, (x, y, h), l, rfl, ?_, hBLy, ?_⟩)
      · rw [decide_eq_true hd]
      · subst h5
        exact TM_e (by simp) (h1.trans h4) hd.1 hd.2
    · exact .inl ⟨if_neg hd, decide_eq_false hd⟩
  · refine begs ⟨hy, h1, .inl ⟨h4, h5, h6, h7⟩, h3⟩ ?_ ?_
    · have hl : 65 ≤ x ∧ x < 73 := h4
      rw [tk_c, if_neg (by omega), if_pos hl]
    · have hl : 65 ≤ x ∧ x < 73 := h4
      have hrm : rm ((x, y, h) :: l) = 0 :: sm l := by
        rw [rm_c, if_pos hl]
      have hsm : sm ((x, y, h) :: l) = sm l := by
        rw [sm_c, if_pos hl]
      rw [hrm, hsm]
      rw [rst_c, if_neg (by omega), if_neg (by omega)]
  · have hnl : ¬ (65 ≤ x ∧ x < 73) := by omega
    have hrm : rm ((x, y, h) :: l) = ((if x = 40 then 10 else 20) + h) :: sm l := by
      rw [rm_c, if_neg hnl, if_neg (by omega)]
    have hrs : rst A s (aC A s p) (((if x = 40 then 10 else 20) + h) :: sm l) = if 10 < (if x = 40 then 10 else 20) + h ∧ (if x = 40 then 10 else 20) + h < 20 ∧ aC A s p = 41 ∨ 20 < (if x = 40 then 10 else 20) + h ∧ aC A s p = 93 then (true, sm l) else if ((if x = 40 then 10 else 20) + h) % 10 = 6 then (false, ((if x = 40 then 10 else 20) + h) :: sm l) else rbeg A s (aC A s p) (((if x = 40 then 10 else 20) + h + 1) :: sm l) := by
      rw [rst_c, if_pos (by split <;> omega)]
    have htk : tk A s ((x, y, h) :: l) p (aC A s p) = if aC A s p = (if x = 40 then 41 else 93) then (if 0 < h then 2 else 0, (x, y, h) :: l) else if h < 6 then (beg A s (aC A s p), (aC A s p, p, 0) :: (x, y, h) :: l) else (0, (x, y, h) :: l) := by
      rw [tk_c, if_neg (by omega), if_neg hnl]
    have hsm : sm ((x, y, h) :: l) = ((if x = 40 then 10 else 20) + h + 1) :: sm l := by
      rw [sm_c, if_neg hnl]
    by_cases hcl : aC A s p = (if x = 40 then 41 else 93) ∧ 0 < h
    · obtain ⟨k1, k2⟩ := hcl
      rw [htk, if_pos k1, if_pos k2, hrm, hrs]
      have : 10 < (if x = 40 then 10 else 20) + h ∧ (if x = 40 then 10 else 20) + h < 20 ∧ aC A s p = 41 ∨ 20 < (if x = 40 then 10 else 20) + h ∧ aC A s p = 93 := by
        by_cases hx : x = 40
        · rw [if_pos hx] at k1 ⊢
          omega
        · rw [if_neg hx] at k1 ⊢
          omega
      rw [if_pos this]
      refine .inr (.inr ⟨rfl, (x, y, h), l, rfl, rfl, hBLy, ?_⟩)
      refine TM_g (k := h) (by simp) ?_ (by omega) h5 (TMs_cg (fun i hi hi2 => if_neg (show ¬ i = y by have hi3 : y + 1 ≤ i := hi; omega)) h6)
      by_cases hx : x = 40
      · rw [if_pos hx] at k1
        exact .inl ⟨h1.trans hx, k1⟩
      · rw [if_neg hx] at k1
        exact .inr ⟨h1.trans (h4.resolve_left hx), k1⟩
    · have hno : ¬ (10 < (if x = 40 then 10 else 20) + h ∧ (if x = 40 then 10 else 20) + h < 20 ∧ aC A s p = 41 ∨ 20 < (if x = 40 then 10 else 20) + h ∧ aC A s p = 93) := by
        by_cases hx : x = 40
        · rw [if_pos hx] at hcl ⊢
          omega
        · rw [if_neg hx] at hcl ⊢
          omega
      rw [if_neg hno] at hrs
      have hm : ((if x = 40 then 10 else 20) + h) % 10 = 6 ↔ h = 6 := by split <;> omega
      by_cases k1 : aC A s p = (if x = 40 then 41 else 93)
      · have k2 : h = 0 := by
          rcases Nat.eq_zero_or_pos h with k2 | k2
          · exact k2
          · exact absurd ⟨k1, k2⟩ hcl
        have this : aC A s p = 41 ∨ aC A s p = 93 := by
          rw [k1]; split <;> omega
        have e1 : tk A s ((x, y, h) :: l) p (aC A s p) = (0, (x, y, h) :: l) := by rw [htk, if_pos k1, if_neg (show ¬ 0 < h by omega)]
        have hm2 : ¬ ((if x = 40 then 10 else 20) + h) % 10 = 6 := fun e => by have := hm.mp e; omega
        rw [if_neg hm2, rb_no this] at hrs
        rw [e1, hrm, hrs]
        exact .inl ⟨rfl, rfl⟩
      · by_cases k2 : h < 6
        · refine begs ⟨hy, h1, .inr ⟨h4, by omega, h6⟩, h3⟩ ?_ ?_
          · rw [htk, if_neg k1, if_pos k2]
          · rw [hrm, hrs, if_neg (by rw [hm]; omega), hsm]
        · rw [htk, if_neg k1, if_neg k2, hrm, hrs, if_pos (by rw [hm]; omega)]
          exact .inl ⟨rfl, rfl⟩
theorem let_ok {A : rn_AT} {s p c : Nat} {l : List (Nat × Nat × Nat)} (h : (tk A s l p c).1 ≠ 0) (hc : isL c) : c - 65 < s := by
  have hb : beg A s c ≠ 0 → c - 65 < s := by
    intro h
    unfold isL at hc
    unfold beg at h
    rw [if_neg (by omega), if_neg (by omega)] at h
    by_cases h3 : 65 ≤ c ∧ c < 73 ∧ c - 65 < s
    · exact h3.2.2
    · rw [if_neg h3] at h; exact absurd rfl h
  unfold isL at hc
  cases l with
  | nil =>
    have e : tk A s [] p c = if p = 0 then (beg A s c, [(c, p, 0)]) else (0, []) := rfl
    rw [e] at h
    by_cases hp : p = 0
    · rw [if_pos hp] at h; exact hb h
    · rw [if_neg hp] at h; exact absurd rfl h
  | cons f t =>
    obtain ⟨o, b, k⟩ := f
    have e : tk A s ((o, b, k) :: t) p c = if o = 101 then (if 50 ≤ c ∧ c ≤ 57 then 2 else 0, (o, b, k) :: t) else if 65 ≤ o ∧ o < 73 then (beg A s c, (c, p, 0) :: (o, b, k) :: t) else if c = (if o = 40 then 41 else 93) then (if 0 < k then 2 else 0, (o, b, k) :: t) else if k < 6 then (beg A s c, (c, p, 0) :: (o, b, k) :: t) else (0, (o, b, k) :: t) := rfl
    rw [e] at h
    by_cases h1 : o = 101
    · rw [if_pos h1, if_neg (by omega)] at h; exact absurd rfl h
    rw [if_neg h1] at h
    by_cases h2 : 65 ≤ o ∧ o < 73
    · rw [if_pos h2] at h; exact hb h
    rw [if_neg h2] at h
    by_cases h3 : c = (if o = 40 then 41 else 93)
    · exfalso
      have : c = 41 ∨ c = 93 := by rw [h3]; split <;> omega
      omega
    rw [if_neg h3] at h
    by_cases h4 : k < 6
    · rw [if_pos h4] at h; exact hb h
    · rw [if_neg h4] at h; exact absurd rfl h
