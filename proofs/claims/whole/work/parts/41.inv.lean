/-! 41: the state of both sides, as one -/
/-- signs, counts, list, listed, memory, way -/
abbrev rn_AT : Type := (Nat → Nat → Nat) × (Nat → Nat) × (Nat → Nat) × Nat × (Nat → Nat) × Nat
def aC (A : rn_AT) : Nat → Nat → Nat := A.1
def aN (A : rn_AT) : Nat → Nat := A.2.1
def aL (A : rn_AT) : Nat → Nat := A.2.2.1
def aK (A : rn_AT) : Nat := A.2.2.2.1
def aM (A : rn_AT) : Nat → Nat := A.2.2.2.2.1
def aW (A : rn_AT) : Nat := A.2.2.2.2.2
/-- the class's side -/
def PS (S : rn_T) (A : rn_AT) : Prop := (∀ s, s < 8 → rI S (5 + 2 * s) 1 = nI (aN A s)) ∧ (∀ s, s < 8 → ∀ i, i < 40 → rA S (6 + 2 * s) i = nI (aC A s i)) ∧ (∀ i, i < 60 → rL S 3 i = lN (aL A i)) ∧ rI S 1 3 = nI (aK A) ∧ (∀ i, i < 96 → rA S 4 i = nI (aM A i)) ∧ rI S 1 4 = nI (aW A)
/-- an image of the class's -/
def PH (S : rn_T) (b : Nat) (A : rn_AT) : Prop := (∀ s, s < 8 → rI S (b + 4 + 2 * s) 1 = nI (aN A s)) ∧ (∀ s, s < 8 → ∀ i, i < 40 → rA S (b + 5 + 2 * s) i = nI (aC A s i)) ∧ (∀ i, i < 60 → rL S (b + 2) i = lN (aL A i)) ∧ rI S b 3 = nI (aK A) ∧ (∀ i, i < 96 → rA S (b + 3) i = nI (aM A i)) ∧ rI S b 4 = nI (aW A)
theorem ps_ph {S : rn_T} {A : rn_AT} : PS S A ↔ PH S 1 A := Iff.rfl
/-- the reference's side -/
def PM (M : rn_T) (A : rn_AT) : Prop := (∀ s, s < 8 → rA M 320 s = nI (aN A s)) ∧ (∀ s, s < 8 → ∀ i, i < 40 → rA M 319 (40 * s + i) = nI (aC A s i)) ∧ (∀ i, i < 60 → rL M 345 i = lN (aL A i)) ∧ rI M 318 33 = nI (aK A) ∧ (∀ i, i < 96 → rA M 346 i = nI (aM A i)) ∧ rI M 318 2 = nI (aW A)
/-- an image of the reference's -/
def PK (M : rn_T) (k : Nat) (A : rn_AT) : Prop := (∀ s, s < 8 → rA M 350 (426 * k + 322 + s) = nI (aN A s)) ∧ (∀ s, s < 8 → ∀ i, i < 40 → rA M 350 (426 * k + 2 + (40 * s + i)) = nI (aC A s i)) ∧ (∀ i, i < 60 → rL M 351 (60 * k + i) = lN (aL A i)) ∧ rA M 350 (426 * k + 1) = nI (aK A) ∧ (∀ i, i < 96 → rA M 350 (426 * k + 330 + i) = nI (aM A i)) ∧ rA M 350 (426 * k) = nI (aW A)
def OKA (A : rn_AT) : Prop := (∀ s, s < 8 → aN A s ≤ 40) ∧ (∀ s, s < 8 → ∀ i, i < 40 → aC A s i ≤ 126) ∧ (∀ s, s < 8 → ∀ i, i < aN A s → 33 ≤ aC A s i) ∧ aK A ≤ 60 ∧ (∀ i, i < 60 → aL A i ≤ 4294967295) ∧ (∀ i, i < 96 → aM A i < 256) ∧ aW A < 2
def Im (S M : rn_T) : Prop := (∃ (B : Nat → rn_AT) (fl : Nat → Nat), ∀ k, k < 2 → fl k < 2 ∧ rA S 22 k = nI (fl k) ∧ rA M 352 k = nI (fl k) ∧ (fl k = 1 → PH S (278 + 20 * k) (B k) ∧ PK M k (B k) ∧ OKA (B k))) ∧ rI S 76 15 = nI 0 ∧ rA M 343 0 = nI 0
def Inv (S M : rn_T) : Prop := ∃ A, PS S A ∧ PM M A ∧ OKA A ∧ Im S M
/-- the same in these entries -/
def EqT (P : Nat → Prop) (S S2 : rn_T) : Prop := ∀ q, P q → rI S2 q = rI S q ∧ rA S2 q = rA S q ∧ rL S2 q = rL S q
theorem eq_r {P : Nat → Prop} {S : rn_T} : EqT P S S := fun _ _ => ⟨rfl, rfl, rfl⟩
theorem eq_t {P : Nat → Prop} {S S2 S3 : rn_T} (h : EqT P S S2) (h2 : EqT P S2 S3) : EqT P S S3 := fun q hq => ⟨(h2 q hq).1.trans (h q hq).1, (h2 q hq).2.1.trans (h q hq).2.1, (h2 q hq).2.2.trans (h q hq).2.2⟩
theorem eq_m {P P2 : Nat → Prop} {S S2 : rn_T} (h : EqT P S S2) (hp : ∀ q, P2 q → P q) : EqT P2 S S2 := fun q hq => h q (hp q hq)
theorem ra_If {S : rn_T} {q q2 k : Nat} {v : Int32} (h : q2 ≠ q) : rI (wI S q k v) q2 = rI S q2 := by unfold rI wI va_up; simp only [if_neg h]
theorem ra_Af {S : rn_T} {q q2 k : Nat} {v : Int32} (h : q2 ≠ q) : rA (wA S q k v) q2 = rA S q2 := by unfold rA wA va_up; simp only [if_neg h]
theorem ra_Lf {S : rn_T} {q q2 k : Nat} {v : Int64} (h : q2 ≠ q) : rL (wL S q k v) q2 = rL S q2 := by unfold rL wL va_up; simp only [if_neg h]
theorem ra_cf {S : rn_T} {q q2 : Nat} {f : Nat → Int32} (h : q2 ≠ q) : rA (wAc S q f) q2 = rA S q2 := by unfold rA wAc va_up; simp only [if_neg h]
theorem ra_lf {S : rn_T} {q q2 : Nat} {f : Nat → Int64} (h : q2 ≠ q) : rL (wLc S q f) q2 = rL S q2 := by unfold rL wLc va_up; simp only [if_neg h]
theorem ra_c {S : rn_T} {q : Nat} {f : Nat → Int32} : rA (wAc S q f) q = f := by simp only [rA, wAc, va_up_self]
theorem ra_l {S : rn_T} {q : Nat} {f : Nat → Int64} : rL (wLc S q f) q = f := by simp only [rL, wLc, va_up_self]
theorem eq_I {P : Nat → Prop} {S : rn_T} {q k : Nat} {v : Int32} (h : ¬ P q) : EqT P S (wI S q k v) := fun q2 hq => ⟨ra_If (fun e => h (e ▸ hq)), rfl, rfl⟩
theorem eq_A {P : Nat → Prop} {S : rn_T} {q k : Nat} {v : Int32} (h : ¬ P q) : EqT P S (wA S q k v) := fun q2 hq => ⟨rfl, ra_Af (fun e => h (e ▸ hq)), rfl⟩
theorem eq_L {P : Nat → Prop} {S : rn_T} {q k : Nat} {v : Int64} (h : ¬ P q) : EqT P S (wL S q k v) := fun q2 hq => ⟨rfl, rfl, ra_Lf (fun e => h (e ▸ hq))⟩
theorem eq_R {P : Nat → Prop} {S : rn_T} {q : Nat} {v : Option Nat} : EqT P S (wR S q v) := fun _ _ => ⟨rfl, rfl, rfl⟩
theorem eq_P {P : Nat → Prop} {S : rn_T} {q k : Nat} {v : Option Nat} : EqT P S (wP S q k v) := fun _ _ => ⟨rfl, rfl, rfl⟩
theorem eq_c {P : Nat → Prop} {S : rn_T} {q : Nat} {f : Nat → Int32} (h : ¬ P q) : EqT P S (wAc S q f) := fun q2 hq => ⟨rfl, ra_cf (fun e => h (e ▸ hq)), rfl⟩
theorem eq_l {P : Nat → Prop} {S : rn_T} {q : Nat} {f : Nat → Int64} (h : ¬ P q) : EqT P S (wLc S q f) := fun q2 hq => ⟨rfl, rfl, ra_lf (fun e => h (e ▸ hq))⟩
theorem ph_eq {S S2 : rn_T} {b : Nat} {A : rn_AT} (h : PH S b A) (he : EqT (fun q => b ≤ q ∧ q < b + 20) S S2) : PH S2 b A := by
  obtain ⟨h1, h2, h3, h4, h5, h6⟩ := h
  refine ⟨fun s hs => ?_, fun s hs i hi => ?_, fun i hi => ?_, ?_, fun i hi => ?_, ?_⟩
  · rw [(he (b + 4 + 2 * s) (by omega)).1]; exact h1 s hs
  · rw [(he (b + 5 + 2 * s) (by omega)).2.1]; exact h2 s hs i hi
  · rw [(he (b + 2) (by omega)).2.2]; exact h3 i hi
  · rw [(he b (by omega)).1]; exact h4
  · rw [(he (b + 3) (by omega)).2.1]; exact h5 i hi
  · rw [(he b (by omega)).1]; exact h6
theorem ps_eq {S S2 : rn_T} {A : rn_AT} (h : PS S A) (he : EqT (fun q => q < 23) S S2) : PS S2 A := ps_ph.mpr (ph_eq (ps_ph.mp h) (eq_m he (fun q hq => by omega)))
theorem im_eq0 {S S2 M M2 : rn_T} (h : Im S M) (he : EqT (fun q => q = 22 ∨ 278 ≤ q) S S2) (h0 : rI S2 76 15 = nI 0) (hm : EqT (fun q => 350 ≤ q) M M2) (h3 : rA M2 343 0 = nI 0) : Im S2 M2 := by
  obtain ⟨⟨B, fl, h⟩, -⟩ := h
  refine ⟨⟨B, fl, fun k hk => ?_⟩, h0, h3⟩
  obtain ⟨h1, h2, h3, h4⟩ := h k hk
  refine ⟨h1, ?_, ?_, fun hf => ?_⟩
  · rw [(he 22 (by omega)).2.1]; exact h2
  · rw [(hm 352 (by omega)).2.1]; exact h3
  · obtain ⟨g1, g2, g3⟩ := h4 hf
    refine ⟨ph_eq g1 (eq_m he (fun q hq => by omega)), ?_, g3⟩
    obtain ⟨k1, k2, k3, k4, k5, k6⟩ := g2
    unfold PK
    rw [(hm 350 (by omega)).2.1, (hm 351 (by omega)).2.2]
    exact ⟨k1, k2, k3, k4, k5, k6⟩
theorem im_eq {S S2 M M2 : rn_T} (h : Im S M) (he : EqT (fun q => q = 22 ∨ q = 76 ∨ 278 ≤ q) S S2) (hm : EqT (fun q => q = 343 ∨ 350 ≤ q) M M2) : Im S2 M2 := im_eq0 h (eq_m he (fun q hq => by omega)) (by rw [(he 76 (by omega)).1]; exact h.2.1) (eq_m hm (fun q hq => by omega)) (by rw [(hm 343 (by omega)).2.1]; exact h.2.2)
/-- what the calls on a tree may change of the class -/
def eqS (S S2 : rn_T) : Prop := EqT (fun q => q < 23 ∨ 278 ≤ q) S S2
/-- and of the reference -/
def eqM (M M2 : rn_T) : Prop := EqT (fun q => q = 319 ∨ q = 320 ∨ q = 343 ∨ q = 345 ∨ q = 346 ∨ 350 ≤ q) M M2 ∧ rI M2 318 2 = rI M 318 2 ∧ rI M2 318 33 = rI M 318 33
theorem pm_eq {M M2 : rn_T} {A : rn_AT} (h : PM M A) (he : eqM M M2) : PM M2 A := by
  obtain ⟨h1, h2, h3, h4, h5, h6⟩ := h
  obtain ⟨e, e2, e3⟩ := he
  refine ⟨fun s hs => ?_, fun s hs i hi => ?_, fun i hi => ?_, ?_, fun i hi => ?_, ?_⟩
  · rw [(e 320 (by omega)).2.1]; exact h1 s hs
  · rw [(e 319 (by omega)).2.1]; exact h2 s hs i hi
  · rw [(e 345 (by omega)).2.2]; exact h3 i hi
  · rw [e3]; exact h4
  · rw [(e 346 (by omega)).2.1]; exact h5 i hi
  · rw [e2]; exact h6
theorem inv_eq {S S2 M M2 : rn_T} (h : Inv S M) (he : eqS S S2) (h0 : rI S2 76 15 = nI 0) (hm : eqM M M2) : Inv S2 M2 := by
  obtain ⟨A, h1, h2, h3, h4⟩ := h
  exact ⟨A, ps_eq h1 (eq_m he (fun q hq => by omega)), pm_eq h2 hm, h3, im_eq0 h4 (eq_m he (fun q hq => by omega)) h0 (eq_m hm.1 (fun q hq => by omega)) (by rw [(hm.1 343 (by omega)).2.1]; exact h4.2.2)⟩
