/-! 84: what is asked of a layout -/
theorem keep3 {S S2 M M2 : rn_T} {A : rn_AT} (h : PS S A) (hm : PM M A) (hi : Im S M) (he : eqS S S2) (h0 : rI S2 76 15 = nI 0) (hM : eqM M M2) : PS S2 A ∧ PM M2 A ∧ Im S2 M2 := ⟨ps_eq h (eq_m he (fun q hq => by omega)), pm_eq hm hM, im_eq0 hi (eq_m he (fun q hq => by omega)) h0 (eq_m hM.1 (fun q hq => by omega)) (by rw [(hM.1 343 (by omega)).2.1]; exact hi.2.2)⟩
theorem eqS_t {S S2 S3 : rn_T} (h : eqS S S2) (g : eqS S2 S3) : eqS S S3 := eq_t h g
theorem ma_prep {S M : rn_T} {A : rn_AT} {s : Nat} {u : Int32} {kk : Option Nat} (h : PS S A) (hm : PM M A) (ho : OKA A) (hi : Im S M) (hs : s < 8) (hk : aU A s u kk) : ∃ (S2 M2 : rn_T), (PS S2 A ∧ PM M2 A ∧ Im S2 M2) ∧ ((∃ c : Int32, c ≠ 0 ∧ c ≠ -6 ∧ f24 S (nI s) u = some (c, S2) ∧ f71 M (nI s) u = some (c, M2)) ∨ (f24 S (nI s) u = some ((0 : Int32), S2) ∧ f71 M (nI s) u = some ((-6 : Int32), M2) ∧ ∃ T Y, FT T ∧ LT S2 M2 T Y)) := by
  obtain ⟨S1, M1, b1, a1, a2, ⟨a3, a4⟩, a5, a6⟩ := ma_well h hm ho hs hk
  have hb1 : rI S1 76 15 = nI 0 := a4.trans hi.2.1
  obtain ⟨p1, p2, p3⟩ := keep3 h hm hi a3 hb1 (eqD_M a5)
  unfold f24 f71
  rw [a1, a2, Option.bind_some, Option.bind_some]
  cases b1 with
  | false => exact ⟨S1, M1, ⟨p1, p2, p3⟩, .inl ⟨-5, by decide, by decide, rfl, rfl⟩⟩
  | true =>
    obtain ⟨S2, M2, b2, c1, c2, ⟨c3, c4⟩, c5, c6⟩ := ma_tree p1 p2 ho hs hk (a6 rfl) hb1
    obtain ⟨q1, q2, q3⟩ := keep3 p1 p2 p3 c3 c4 c5
    rw [if_pos rfl, if_pos rfl]
    show ∃ S5 M5, (PS S5 A ∧ PM M5 A ∧ Im S5 M5) ∧ ((∃ c : Int32, c ≠ 0 ∧ c ≠ -6 ∧ (Option.bind (f156 S1 1 (nI s) u) fun p3 => if p3.1 = true then Option.bind (f162 p3.2 (rI p3.2 1 4)) fun p5 => if p5.1 = true then some ((0 : Int32), p5.2) else some ((-3 : Int32), p5.2) else some ((-3 : Int32), p3.2)) = some (c, S5) ∧ (Option.bind (f56 M1 (nI s) u) fun p3 => if p3.1 = true then Option.bind (f70 p3.2) fun p5 => if p5.1 = true then some ((-6 : Int32), p5.2) else some ((-3 : Int32), p5.2) else some ((-3 : Int32), p3.2)) = some (c, M5)) ∨ ((Option.bind (f156 S1 1 (nI s) u) fun p3 => if p3.1 = true then Option.bind (f162 p3.2 (rI p3.2 1 4)) fun p5 => if p5.1 = true then some ((0 : Int32), p5.2) else some ((-3 : Int32), p5.2) else some ((-3 : Int32), p3.2)) = some ((0 : Int32), S5) ∧ (Option.bind (f56 M1 (nI s) u) fun p3 => if p3.1 = true then Option.bind (f70 p3.2) fun p5 => if p5.1 = true then some ((-6 : Int32), p5.2) else some ((-3 : Int32), p5.2) else some ((-3 : Int32), p3.2)) = some ((-6 : Int32), M5) ∧ ∃ T Y, FT T ∧ LT S5 M5 T Y))
    rw [c1, c2, Option.bind_some, Option.bind_some]
    cases b2 with
    | false => exact ⟨S2, M2, ⟨q1, q2, q3⟩, .inl ⟨-3, by decide, by decide, rfl, rfl⟩⟩
    | true =>
      obtain ⟨T, t1, t2, t3⟩ := c6 rfl
      have hw := q1.2.2.2.2.2
      have hw2 : rI M2 318 2 = nI (aW A) := q2.2.2.2.2.2
      obtain ⟨S3, M3, b3, d1, d2, d3, d4, d5, d6⟩ := ma_lay t1 t2 t3 ho.2.2.2.2.2.2 hw2
      obtain ⟨r1, r2, r3⟩ := keep3 q1 q2 q3 (eq_m d3 (fun q hq => by omega)) d4 d5
      rw [if_pos rfl, if_pos rfl]
      show ∃ S5 M5, (PS S5 A ∧ PM M5 A ∧ Im S5 M5) ∧ ((∃ c : Int32, c ≠ 0 ∧ c ≠ -6 ∧ (Option.bind (f162 S2 (rI S2 1 4)) fun p5 => if p5.1 = true then some ((0 : Int32), p5.2) else some ((-3 : Int32), p5.2)) = some (c, S5) ∧ (Option.bind (f70 M2) fun p5 => if p5.1 = true then some ((-6 : Int32), p5.2) else some ((-3 : Int32), p5.2)) = some (c, M5)) ∨ ((Option.bind (f162 S2 (rI S2 1 4)) fun p5 => if p5.1 = true then some ((0 : Int32), p5.2) else some ((-3 : Int32), p5.2)) = some ((0 : Int32), S5) ∧ (Option.bind (f70 M2) fun p5 => if p5.1 = true then some ((-6 : Int32), p5.2) else some ((-3 : Int32), p5.2)) = some ((-6 : Int32), M5) ∧ ∃ T Y, FT T ∧ LT S5 M5 T Y))
      rw [hw, d1, d2, Option.bind_some, Option.bind_some]
      cases b3 with
      | false => exact ⟨S3, M3, ⟨r1, r2, r3⟩, .inl ⟨-3, by decide, by decide, rfl, rfl⟩⟩
      | true =>
        obtain ⟨Y, hY⟩ := d6 rfl
        exact ⟨S3, M3, ⟨r1, r2, r3⟩, .inr ⟨rfl, rfl, T, Y, t3, hY⟩⟩
/-- a call on the layout -/
def cS (S : rn_T) (x u : Int32) (f : rn_T → Option (Int32 × rn_T)) : Option (Int32 × rn_T) := Option.bind (f23 S x u) fun p1 => if p1 = true then Option.bind (f24 S x u) fun p5 => if p5.1 = 0 then f p5.2 else some (p5.1, p5.2) else some ((-1 : Int32), S)
def cM (M : rn_T) (x u : Int32) (f : rn_T → Option (Int32 × rn_T)) : Option (Int32 × rn_T) := Option.bind (f46 M x u) fun p1 => if p1 = true then Option.bind (f71 M x u) fun p5 => if p5.1 = (-6 : Int32) then f p5.2 else some (p5.1, p5.2) else some ((-1 : Int32), M)
theorem go_tree {S M : rn_T} (h : Inv S M) (x u : Int32) {f g : rn_T → Option (Int32 × rn_T)} (hc : ∀ A S2 M2 T Y, PS S2 A → PM M2 A → OKA A → Im S2 M2 → FT T → LT S2 M2 T Y → Go S2 M2 (f S2) (g M2)) : Go S M (cS S x u f) (cM M x u g) := by
  obtain ⟨A, h1, h2, h3, h4⟩ := id h
  unfold cS cM
  rcases ma_ask h1 h2 h3 x u with ⟨e1, e2⟩ | ⟨e1, e2, s, k, hs, rfl, hk⟩
  · rw [e1, e2]
    exact ⟨-1, S, M, rfl, rfl, h⟩
  · rw [e1, e2, Option.bind_some, Option.bind_some, if_pos rfl, if_pos rfl]
    obtain ⟨S2, M2, ⟨p1, p2, p3⟩, hh⟩ := ma_prep h1 h2 h3 h4 hs hk
    rcases hh with ⟨c, c0, c6, q1, q2⟩ | ⟨q1, q2, T, Y, q3, q4⟩
    · rw [q1, q2, Option.bind_some, Option.bind_some, if_neg c0, if_neg c6]
      exact ⟨c, S2, M2, rfl, rfl, A, p1, p2, h3, p3⟩
    · rw [q1, q2, Option.bind_some, Option.bind_some, if_pos rfl, if_pos rfl]
      exact hc A S2 M2 T Y p1 p2 h3 p3 q3 q4
theorem go_out {S M : rn_T} (h : Inv S M) (x u : Int32) : Go S M (Option.bind (f23 S x u) fun p1 => if p1 = true then some ((-2 : Int32), S) else some ((-1 : Int32), S)) (Option.bind (f46 M x u) fun p1 => if p1 = true then some ((-2 : Int32), M) else some ((-1 : Int32), M)) := by
  obtain ⟨A, h1, h2, h3, h4⟩ := id h
  rcases ma_ask h1 h2 h3 x u with ⟨e1, e2⟩ | ⟨e1, e2, -⟩
  · rw [e1, e2]
    exact ⟨-1, S, M, rfl, rfl, h⟩
  · rw [e1, e2]
    exact ⟨-2, S, M, rfl, rfl, h⟩
/-- in a range, or not: both sides' tests -/
theorem ma_what (x : Int32) (hi : Nat) (hh : hi < 100) : (f29 x.toInt64 (0 : Int64) (Int64.ofNat hi) = false ∧ (x < 0 ∨ ¬ x ≤ nI hi)) ∨ ∃ n, n ≤ hi ∧ x = nI n ∧ f29 (nI n).toInt64 (0 : Int64) (Int64.ofNat hi) = true := by
  have e0 : (0 : Int64).toInt = 0 := rfl
  have eh : (Int64.ofNat hi).toInt = hi := (by decide +kernel : ∀ hi, hi < 100 → (Int64.ofNat hi).toInt = hi) hi hh
  rcases ma_rng x 0 hi (by omega) (by omega) with ⟨h1, h2⟩ | ⟨n, h1, h2, rfl⟩
  · refine .inl ⟨?_, ?_⟩
    · rw [ma_in32, e0, eh, decide_eq_false_iff_not]
      exact h2
    · rcases h1 with h1 | h1
      · exact .inl h1
      · refine .inr (fun hx => ?_)
        rw [Int32.lt_iff_toInt_lt] at h1
        rw [Int32.le_iff_toInt_le] at hx
        omega
  · refine .inr ⟨n, h2, rfl, ?_⟩
    rw [ma_in32, e0, eh, decide_eq_true_iff, nI_toInt (by omega)]
    omega
/-- what stands of the root -/
theorem lt_root {S M : rn_T} {T : rn_TR} {Y : rn_LY} (hf : FT T) (h : LT S M T Y) : (∀ f, fK f → rI S 76 f = nI (Y 0 f) ∧ rA M (329 + f) 0 = nI (Y 0 f)) ∧ rI S 76 4 = nI (tK T 0) ∧ rA M 322 0 = nI (tK T 0) ∧ rI S 76 1 = nI (tC T 0) ∧ rA M 326 0 = nI (tC T 0) ∧ rI S 66 0 = nI (tN T) ∧ rI M 318 10 = nI (tN T) := by
  obtain ⟨hw, hN1, hN, hc⟩ := hf
  have h0 : 0 < tN T := by omega
  refine ⟨fun f hf => ⟨h.1.1.2.1 0 h0 (.inl (Nat.le_refl 0)) f hf, h.1.2.1.2.1 0 h0 (Nat.le_refl 0) f hf⟩, (h.1.1.1.2.1 0 h0).2.1, (h.1.2.1.1.2 0 h0).1, (h.1.1.1.2.1 0 h0).1, (h.1.2.1.1.2 0 h0).2.2.2.2, h.1.1.1.1, h.1.2.1.1.1⟩
theorem go_layout {S M : rn_T} (h : Inv S M) (x u w : Int32) : Go S M (f5 S x u w) (f73 M x u w) := by
  rcases ma_what w 6 (by omega) with ⟨h1, h2⟩ | ⟨n, hn, rfl, h1⟩
  · have e1 : f5 S x u w = Option.bind (f23 S x u) fun p1 => if p1 = true then some ((-2 : Int32), S) else some ((-1 : Int32), S) := by
      unfold f5
      by_cases c : w < 0
      · simp only [if_pos c]
      · have c2 : ¬ w ≤ (6 : Int32) := h2.resolve_left c
        simp only [if_neg c, if_neg c2]
    have e2 : f73 M x u w = Option.bind (f46 M x u) fun p1 => if p1 = true then some ((-2 : Int32), M) else some ((-1 : Int32), M) := by
      have h1 : f29 w.toInt64 (0 : Int64) (6 : Int64) = false := h1
      unfold f73
      simp only [h1, Bool.false_eq_true, if_false]
    rw [e1, e2]
    exact go_out h x u
  · have h1 : f29 (nI n).toInt64 (0 : Int64) (6 : Int64) = true := h1
    have hg := go_tree h x u (f := fun S => if nI n = 0 then if rn_kd (f154 S) = 3 then some ((rI S (f154 S) 5), S) else none else if nI n = (1 : Int32) then if rn_kd (f154 S) = 3 then some ((rI S (f154 S) 6), S) else none else if nI n = (6 : Int32) then some ((rI S 66 0), S) else if rn_kd (f154 S) = 3 then if (rI S (f154 S) 11) = 0 then some ((-6 : Int32), S) else if nI n = (2 : Int32) then some ((rI S (f154 S) 8), S) else if nI n = (3 : Int32) then some ((rI S (f154 S) 9), S) else if nI n = (4 : Int32) then some ((rI S (f154 S) 10), S) else some ((rI S (f154 S) 11), S) else none) (g := fun M => some ((f72 M (nI n)), M)) (by
      intro A S2 M2 T Y p1 p2 ho p3 hf hl
      obtain ⟨r, -, -, -, -, r5, r6⟩ := lt_root hf hl
      obtain ⟨a5, b5⟩ := r 5 (by unfold fK; omega)
      obtain ⟨a6, b6⟩ := r 6 (by unfold fK; omega)
      obtain ⟨a8, b8⟩ := r 8 (by unfold fK; omega)
      obtain ⟨a9, b9⟩ := r 9 (by unfold fK; omega)
      obtain ⟨a10, b10⟩ := r 10 (by unfold fK; omega)
      obtain ⟨a11, b11⟩ := r 11 (by unfold fK; omega)
      have b5 : rA M2 334 0 = nI (Y 0 5) := b5
      have b6 : rA M2 335 0 = nI (Y 0 6) := b6
      have b8 : rA M2 337 0 = nI (Y 0 8) := b8
      have b9 : rA M2 338 0 = nI (Y 0 9) := b9
      have b10 : rA M2 339 0 = nI (Y 0 10) := b10
      have b11 : rA M2 340 0 = nI (Y 0 11) := b11
      have hinv : Inv S2 M2 := ⟨A, p1, p2, ho, p3⟩
      have hc : n = 0 ∨ n = 1 ∨ n = 2 ∨ n = 3 ∨ n = 4 ∨ n = 5 ∨ n = 6 := by omega
      have h76 : f154 S2 = 76 := rfl
      have hkd : rn_kd 76 = 3 := ma_kd3 (i := 0) (by omega)
      have h00 : Int32.toNatClampNeg (0 : Int32) = 0 := rfl
      refine ⟨f72 M2 (nI n), S2, M2, ?_, rfl, hinv⟩
      simp only [h76, hkd, if_true]
      unfold f72
      rw [h00, a5, a6, a8, a9, a10, a11, b5, b6, b8, b9, b10, b11, r5, r6]
      rcases hc with rfl | rfl | rfl | rfl | rfl | rfl | rfl
      · rfl
      · rfl
      · by_cases c : nI (Y 0 11) = 0
        · simp only [c, if_true]; rfl
        · simp only [if_neg c]; rfl
      · by_cases c : nI (Y 0 11) = 0
        · simp only [c, if_true]; rfl
        · simp only [if_neg c]; rfl
      · by_cases c : nI (Y 0 11) = 0
        · simp only [c, if_true]; rfl
        · simp only [if_neg c]; rfl
      · by_cases c : nI (Y 0 11) = 0
        · simp only [c, if_true]; rfl
        · simp only [if_neg c]; rfl
      · rfl)
    have e1 : f5 S x u (nI n) = cS S x u (fun S => if nI n = 0 then if rn_kd (f154 S) = 3 then some ((rI S (f154 S) 5), S) else none else if nI n = (1 : Int32) then if rn_kd (f154 S) = 3 then some ((rI S (f154 S) 6), S) else none else if nI n = (6 : Int32) then some ((rI S 66 0), S) else if rn_kd (f154 S) = 3 then if (rI S (f154 S) 11) = 0 then some ((-6 : Int32), S) else if nI n = (2 : Int32) then some ((rI S (f154 S) 8), S) else if nI n = (3 : Int32) then some ((rI S (f154 S) 9), S) else if nI n = (4 : Int32) then some ((rI S (f154 S) 10), S) else some ((rI S (f154 S) 11), S) else none) := by
      have c : ¬ nI n < 0 := nI_pos (by omega)
      have c2 : nI n ≤ (6 : Int32) := nI_le (show n ≤ 6 from hn) (show 6 < 2 ^ 31 by omega)
      unfold f5 cS
      simp only [if_neg c, if_pos c2]
    have e2 : f73 M x u (nI n) = cM M x u (fun M => some ((f72 M (nI n)), M)) := by
      unfold f73 cM
      simp only [h1, if_true]
    rw [e1, e2]
    exact hg
