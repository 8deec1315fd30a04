/-! 86: least -/
def clr (v i : Nat) : Nat := if v.testBit i then v - 2 ^ i else v
theorem clr_32 {v i : Nat} (hv : v < 64) (hi : i < 6) : nI v &&& (((1 : Int32) <<< (nI i &&& 31)) ^^^ (-1 : Int32)) = nI (clr v i) := (by decide +kernel : ∀ v, v < 64 → ∀ i, i < 6 → nI v &&& (((1 : Int32) <<< (nI i &&& 31)) ^^^ (-1 : Int32)) = nI (clr v i)) v hv i hi
theorem clr_bit {v i j : Nat} (hv : v < 64) (hi : i < 6) (hj : j < 6) : (clr v i).testBit j = (v.testBit j && decide (j ≠ i)) := (by decide +kernel : ∀ v, v < 64 → ∀ i, i < 6 → ∀ j, j < 6 → (clr v i).testBit j = (v.testBit j && decide (j ≠ i))) v hv i hi j hj
theorem clr_lt {v i : Nat} (hv : v < 64) (hi : i < 6) (h : v.testBit i = true) : clr v i < v := (by decide +kernel : ∀ v, v < 64 → ∀ i, i < 6 → v.testBit i = true → clr v i < v) v hv i hi h
theorem bit_some {v c : Nat} (hc : c < 7) (hv : v < 2 ^ c) (h0 : 1 ≤ v) : ∃ i, i < c ∧ v.testBit i = true := (by decide +kernel : ∀ c, c < 7 → ∀ v, v < 2 ^ c → 1 ≤ v → ∃ i, i < c ∧ v.testBit i = true) c hc v hv h0
theorem bit_all {c j : Nat} (hc : c < 7) (hj : j < c) : (2 ^ c - 1).testBit j = true := (by decide +kernel : ∀ c, c < 7 → ∀ j, j < c → (2 ^ c - 1).testBit j = true) c hc j hj
/-- the sum of those told by bits -/
def ms (z : Nat → Nat) (v : Nat) : Nat → Nat
  | 0 => 0
  | n + 1 => ms z v n + if v.testBit n then z n else 0
def sm1 (z : Nat → Nat) : Nat → Nat
  | 0 => 0
  | n + 1 => sm1 z n + z n
theorem ms_le {z : Nat → Nat} {v : Nat} : ∀ {n}, (∀ j, j < n → z j ≤ 64) → ms z v n ≤ 64 * n := by
  intro n
  induction n with
  | zero => intro _; exact Nat.le_refl _
  | succ n ih =>
    intro h
    have := ih (fun j hj => h j (by omega))
    have := h n (by omega)
    unfold ms
    split <;> omega
theorem ms_clr {z : Nat → Nat} {v i : Nat} (hv : v < 64) (hi : i < 6) (hb : v.testBit i = true) : ∀ {n}, n ≤ 6 → ms z (clr v i) n + (if i < n then z i else 0) = ms z v n := by
  intro n
  induction n with
  | zero => intro _; rfl
  | succ n ih =>
    intro hn
    have h := ih (by omega)
    have hc := clr_bit hv hi (show n < 6 by omega)
    unfold ms
    by_cases e : n = i
    · subst e
      rw [hc, hb]
      rw [if_neg (Nat.lt_irrefl n)] at h
      simp only [ne_eq, not_true_eq_false, decide_false, Bool.and_false, Bool.false_eq_true, if_false, if_true, Nat.lt_succ_self]
      omega
    · rw [hc]
      have e2 : decide (n ≠ i) = true := by simpa using e
      rw [e2, Bool.and_true]
      by_cases e4 : i < n
      · rw [if_pos e4] at h
        rw [if_pos (show i < n + 1 by omega)]
        omega
      · rw [if_neg e4] at h
        rw [if_neg (show ¬ i < n + 1 by omega)]
        omega
theorem ms_dv {z a : Nat → Nat} {v i : Nat} {A : Nat} (hA : isA A) : ∀ {n}, (∀ j, j < n → v.testBit j = true → z j % A = 0) → ms z v n % A = 0 := by
  intro n
  induction n with
  | zero => intro _; exact Nat.zero_mod A
  | succ n ih =>
    intro h
    have h1 := ih (fun j hj => h j (by omega))
    unfold ms
    split
    · have h2 := h n (by omega) (by assumption)
      rcases hA with rfl | rfl | rfl <;> omega
    · exact h1
theorem min_bit {a : Nat → Nat} {v : Nat} : ∀ {n}, (∃ j, j < n ∧ v.testBit j = true) → ∃ i, i < n ∧ v.testBit i = true ∧ ∀ j, j < n → v.testBit j = true → a i ≤ a j := by
  intro n
  induction n with
  | zero => rintro ⟨j, hj, _⟩; omega
  | succ n ih =>
    rintro ⟨j, hj, hb⟩
    by_cases c : ∃ j, j < n ∧ v.testBit j = true
    · obtain ⟨i, i1, i2, i3⟩ := ih c
      by_cases c2 : v.testBit n = true ∧ a n < a i
      · refine ⟨n, by omega, c2.1, fun x hx hxb => ?_⟩
        by_cases e : x = n
        · subst e; exact Nat.le_refl _
        · have := i3 x (by omega) hxb; omega
      · refine ⟨i, by omega, i2, fun x hx hxb => ?_⟩
        by_cases e : x = n
        · subst e
          have : ¬ a x < a i := fun hh => c2 ⟨hxb, hh⟩
          omega
        · exact i3 x (by omega) hxb
    · have : j = n := by
        by_cases e : j = n
        · exact e
        · exact absurd ⟨j, by omega, hb⟩ c
      subst this
      refine ⟨j, by omega, hb, fun x hx hxb => ?_⟩
      by_cases e : x = j
      · subst e; exact Nat.le_refl _
      · exact absurd ⟨x, by omega, hxb⟩ c
theorem ms_all {z : Nat → Nat} {c : Nat} (hc : c < 7) : ∀ {n}, n ≤ c → ms z (2 ^ c - 1) n = sm1 z n := by
  intro n
  induction n with
  | zero => intro _; rfl
  | succ n ih =>
    intro hn
    unfold ms sm1
    rw [ih (by omega), bit_all hc (show n < c by omega), if_pos rfl]
/-- only ends changed, and not its first -/
def eEn (M M2 : rn_T) : Prop := (∀ q, q ≠ 343 → rA M2 q = rA M q) ∧ rI M2 = rI M ∧ rL M2 = rL M ∧ rA M2 343 0 = rA M 343 0
theorem eEn_r {M : rn_T} : eEn M M := ⟨fun _ _ => rfl, rfl, rfl, rfl⟩
theorem eEn_t {M M2 M3 : rn_T} (h : eEn M M2) (g : eEn M2 M3) : eEn M M3 := ⟨fun q hq => (g.1 q hq).trans (h.1 q hq), g.2.1.trans h.2.1, g.2.2.1.trans h.2.2.1, g.2.2.2.trans h.2.2.2⟩
theorem eEn_w {M : rn_T} {k : Nat} {v : Int32} (h : 1 ≤ k) : eEn M (wA M 343 k v) := ⟨fun q hq => ra_Af hq, rfl, rfl, ra_An (by omega)⟩
theorem ml_eEn {M M2 : rn_T} {T : rn_TR} {Y : rn_LY} (h : ML M T Y 0) (he : eEn M M2) : ML M2 T Y 0 := by
  obtain ⟨h1, h2, h3, h4⟩ := h
  refine ⟨mb_eq h1 (by rw [he.2.1]) (fun q h1 h2 => he.1 q (by omega)), fun i hi hl f hf => ?_, fun i h0 hi hl => ?_, ?_⟩
  · rw [he.1 _ (by unfold fK at hf; omega)]; exact h2 i hi hl f hf
  · rw [he.1 _ (by omega)]; exact h3 i h0 hi hl
  · rw [he.1 _ (by omega)]; exact h4
/-- one set: the least end is the sum -/
theorem rf_setL {T : rn_TR} {Y : rn_LY} {v : Nat} (hw : TW T) (h0 : 0 < tN T) (hN : tN T ≤ 100) (hY : YL T Y 0) (hv1 : 1 ≤ v) (hv : v < 2 ^ tC T 0) (hv64 : v < 64) : ∀ d i cur fu (M : rn_T), i + d = tC T 0 → d < fu → ML M T Y 0 → rA M 343 v = nI cur → cur ≤ 1000 → ms (fun j => Y (tE T 0 j) 5) v (tC T 0) ≤ cur → (∀ j, j < i → v.testBit j = true → cur ≤ up (ms (fun j => Y (tE T 0 j) 5) (clr v j) (tC T 0)) (Y (tE T 0 j) 6) + Y (tE T 0 j) 5) → (∀ s, s < v → rA M 343 s = nI (ms (fun j => Y (tE T 0 j) 5) s (tC T 0))) → ∃ M2, eEn M M2 ∧ (∀ f, f79_L17 (nI v) fu M (nI i) f = f M2) ∧ rA M2 343 v = nI (ms (fun j => Y (tE T 0 j) 5) v (tC T 0)) ∧ (∀ s, s < v → rA M2 343 s = rA M 343 s) := by
  have hC := (hw.1 0 h0).2.2.2.2
  have h64 : ∀ j, j < tC T 0 → Y (tE T 0 j) 5 ≤ 64 := fun j hj => (hY.1 _ (hw.2.2 0 j h0 hj).2.1 (.inl (Nat.zero_le _))).2.2.1
  have hms : ∀ s, ms (fun j => Y (tE T 0 j) 5) s (tC T 0) ≤ 384 := fun s => by
    have := ms_le (z := fun j => Y (tE T 0 j) 5) (v := s) (n := tC T 0) h64
    omega
  have h00 : Int32.toNatClampNeg (0 : Int32) = 0 := rfl
  intro d
  induction d with
  | zero =>
    intro i cur fu M hi hf h hcur hc1 hc2 hc3 hc4
    obtain ⟨G, rfl⟩ : ∃ G, fu = G + 1 := ⟨fu - 1, by omega⟩
    have e2 := (h.1.2 0 h0).2.2.2.2
    refine ⟨M, eEn_r, fun f => ?_, ?_, fun _ _ => rfl⟩
    · rw [f79_L17, h00, e2, if_pos (le_T (by omega) (by omega))]
    · rw [hcur]
      congr 1
      obtain ⟨b, b1, b2, b3⟩ := min_bit (a := fun j => Y (tE T 0 j) 6) (bit_some (by omega) hv hv1)
      have hcl := ms_clr (z := fun j => Y (tE T 0 j) 5) hv64 (show b < 6 by omega) b2 (n := tC T 0) (by omega)
      rw [if_pos b1] at hcl
      have hA := (hY.1 _ (hw.2.2 0 b h0 b1).2.1 (.inl (Nat.zero_le _))).1
      have hdv : ms (fun j => Y (tE T 0 j) 5) (clr v b) (tC T 0) % Y (tE T 0 b) 6 = 0 := by
        refine ms_dv (a := fun _ => 0) (i := 0) hA (fun j hj hb => ?_)
        rw [clr_bit hv64 (by omega) (by omega)] at hb
        have hb2 := (Bool.and_eq_true _ _).mp hb
        have hle := b3 j hj hb2.1
        obtain ⟨hA2, hm2, -⟩ := hY.1 _ (hw.2.2 0 j h0 hj).2.1 (.inl (Nat.zero_le _))
        have hle : Y (tE T 0 b) 6 ≤ Y (tE T 0 j) 6 := hle
        show Y (tE T 0 j) 5 % Y (tE T 0 b) 6 = 0
        generalize Y (tE T 0 b) 6 = A at *
        generalize Y (tE T 0 j) 6 = B at *
        rcases hA with rfl | rfl | rfl <;> rcases hA2 with rfl | rfl | rfl <;> omega
      have := hc3 b (by omega) b2
      rw [up_id hA hdv] at this
      have hcl : ms (fun j => Y (tE T 0 j) 5) (clr v b) (tC T 0) + Y (tE T 0 b) 5 = ms (fun j => Y (tE T 0 j) 5) v (tC T 0) := hcl
      omega
  | succ d ih =>
    intro i cur fu M hi hf h hcur hc1 hc2 hc3 hc4
    obtain ⟨G, rfl⟩ : ∃ G, fu = G + 1 := ⟨fu - 1, by omega⟩
    have e2 := (h.1.2 0 h0).2.2.2.2
    have hj : i < tC T 0 := by omega
    obtain ⟨g1, g2, g3, g4⟩ := hw.2.2 0 i h0 hj
    obtain ⟨hA, hm2, h65, -⟩ := hY.1 _ g2 (.inl (Nat.zero_le _))
    have m5 : rA M 334 (tE T 0 i) = _ := h.2.1 _ g2 (Nat.zero_le _) 5 (by unfold fK; omega)
    have m6 : rA M 335 (tE T 0 i) = _ := h.2.1 _ g2 (Nat.zero_le _) 6 (by unfold fK; omega)
    have hM57 : f57 M (0 : Int32) (nI i) = some (nI (tE T 0 i)) := ma_child h.1 hw h0 hj hN
    have hbit := ma_bit (b := v) (e := i) (by omega) (by omega)
    -- the lesser one
    have hJ : ∀ t, t ≤ 1000 → ∃ cur2, cur2 ≤ cur ∧ cur2 ≤ t ∧ (cur2 = cur ∨ cur2 = t) ∧ ∀ f, f79_J56_17 M (nI v) (nI i) (nI t) (fun M v2 => f79_L17 (nI v) G M v2 f) f = f79_L17 (nI v) G (wA M 343 v (nI cur2)) (nI (i + 1)) f := by
      intro t ht
      by_cases c : cur ≤ t
      · refine ⟨cur, Nat.le_refl _, c, .inl rfl, fun f => ?_⟩
        unfold f79_J56_17
        rw [if_neg (ob_F (by omega) (by omega)), nI_clamp (by omega), hcur, if_pos (le_T c (by omega)), nI_p1]
      · refine ⟨t, by omega, Nat.le_refl _, .inr rfl, fun f => ?_⟩
        unfold f79_J56_17
        rw [if_neg (ob_F (by omega) (by omega)), nI_clamp (by omega), hcur, if_neg (le_F (by omega) (by omega)), nI_p1]
    have hstep : ∀ t, t ≤ 1000 → ms (fun j => Y (tE T 0 j) 5) v (tC T 0) ≤ t → (v.testBit i = true → t ≤ up (ms (fun j => Y (tE T 0 j) 5) (clr v i) (tC T 0)) (Y (tE T 0 i) 6) + Y (tE T 0 i) 5) → (∀ f, f79_L17 (nI v) (G + 1) M (nI i) f = f79_J56_17 M (nI v) (nI i) (nI t) (fun M v2 => f79_L17 (nI v) G M v2 f) f) → ∃ M2, eEn M M2 ∧ (∀ f, f79_L17 (nI v) (G + 1) M (nI i) f = f M2) ∧ rA M2 343 v = nI (ms (fun j => Y (tE T 0 j) 5) v (tC T 0)) ∧ (∀ s, s < v → rA M2 343 s = rA M 343 s) := by
      intro t ht1 ht2 ht3 hgo
      obtain ⟨cur2, q1, q2, q3, q4⟩ := hJ t ht1
      obtain ⟨M2, i1, i2, i3, i4⟩ := ih (i + 1) cur2 G (wA M 343 v (nI cur2)) (by omega) (by omega) (ml_eEn h (eEn_w hv1)) ra_A (by omega) (by omega) (fun j hj2 hb => by
        by_cases e : j = i
        · subst e; have := ht3 hb; omega
        · have := hc3 j (by omega) hb; omega) (fun s hs => by rw [ra_An (by omega)]; exact hc4 s hs)
      refine ⟨M2, eEn_t (eEn_w hv1) i1, fun f => ?_, i3, fun s hs => by rw [i4 s hs, ra_An (by omega)]⟩
      rw [hgo, q4]; exact i2 f
    by_cases cb : v.testBit i = true
    · rw [cb, if_pos rfl] at hbit
      have hcl := clr_lt hv64 (show i < 6 by omega) cb
      have hmc := hms (clr v i)
      obtain ⟨u1, u2, u3⟩ := up_ge (n := ms (fun j => Y (tE T 0 j) 5) (clr v i) (tC T 0)) hA
      have hsum := ms_clr (z := fun j => Y (tE T 0 j) 5) hv64 (show i < 6 by omega) cb (n := tC T 0) (by omega)
      rw [if_pos hj] at hsum
      have hsum : ms (fun j => Y (tE T 0 j) 5) (clr v i) (tC T 0) + Y (tE T 0 i) 5 = ms (fun j => Y (tE T 0 j) 5) v (tC T 0) := hsum
      refine hstep (up (ms (fun j => Y (tE T 0 j) 5) (clr v i) (tC T 0)) (Y (tE T 0 i) 6) + Y (tE T 0 i) 5) (by omega) (by omega) (fun _ => Nat.le_refl _) (fun f => ?_)
      rw [f79_L17, h00, e2, if_neg (le_F (by omega) (by omega)), hM57, Option.bind_some, hbit, if_neg (by decide), clr_32 hv64 (by omega), if_neg (ob_F (by omega) (by omega)), if_neg (ob_F (by omega) (by omega)), nI_clamp (show clr v i < 2 ^ 31 by omega), nI_clamp (show tE T 0 i < 2 ^ 31 by omega), hc4 _ hcl, m5, m6, ma_f32 (by omega) hA, Option.bind_some, nI_add]
    · have cb2 : v.testBit i = false := by simpa using cb
      rw [cb2, if_neg Bool.false_ne_true] at hbit
      refine hstep 1000 (by omega) (by have := hms v; omega) (fun hh => absurd hh cb) (fun f => ?_)
      rw [f79_L17, h00, e2, if_neg (le_F (by omega) (by omega)), hM57, Option.bind_some, hbit, if_pos (by rfl)]
      rfl
theorem rf_setsL {T : rn_TR} {Y : rn_LY} (hw : TW T) (h0 : 0 < tN T) (hN : tN T ≤ 100) (hY : YL T Y 0) : ∀ d v fu (M : rn_T), v + d = 2 ^ tC T 0 → d < fu → 1 ≤ v → ML M T Y 0 → (∀ s, s < v → rA M 343 s = nI (ms (fun j => Y (tE T 0 j) 5) s (tC T 0))) → ∃ M2, eEn M M2 ∧ (∀ f, f79_L2 fu M (nI v) f = f M2) ∧ (∀ s, s < 2 ^ tC T 0 → rA M2 343 s = nI (ms (fun j => Y (tE T 0 j) 5) s (tC T 0))) := by
  have hC := (hw.1 0 h0).2.2.2.2
  have hp : 2 ^ tC T 0 ≤ 64 := (by decide : ∀ c, c ≤ 6 → 2 ^ c ≤ 64) _ hC
  have h64 : ∀ j, j < tC T 0 → Y (tE T 0 j) 5 ≤ 64 := fun j hj => (hY.1 _ (hw.2.2 0 j h0 hj).2.1 (.inl (Nat.zero_le _))).2.2.1
  have h00 : Int32.toNatClampNeg (0 : Int32) = 0 := rfl
  intro d
  induction d with
  | zero =>
    intro v fu M hv hf hv1 h hs
    obtain ⟨G, rfl⟩ : ∃ G, fu = G + 1 := ⟨fu - 1, by omega⟩
    have e2 := (h.1.2 0 h0).2.2.2.2
    refine ⟨M, eEn_r, fun f => ?_, fun s hs2 => hs s (by omega)⟩
    rw [f79_L2, h00, e2, ma_shl (by omega), if_pos (le_T (by omega) (by omega))]
  | succ d ih =>
    intro v fu M hv hf hv1 h hs
    obtain ⟨G, rfl⟩ : ∃ G, fu = G + 1 := ⟨fu - 1, by omega⟩
    have e2 := (h.1.2 0 h0).2.2.2.2
    obtain ⟨M2, i1, i2, i3, i4⟩ := rf_setL hw h0 hN hY hv1 (show v < 2 ^ tC T 0 by omega) (by omega) (tC T 0) 0 1000 rn_FU (wA M 343 v (nI 1000)) (by omega) (by unfold rn_FU; omega) (ml_eEn h (eEn_w hv1)) ra_A (by omega) (by
      have := ms_le (z := fun j => Y (tE T 0 j) 5) (v := v) (n := tC T 0) h64
      omega) (fun j hj => by omega) (fun s hs2 => by rw [ra_An (by omega)]; exact hs s hs2)
    obtain ⟨M3, j1, j2, j3⟩ := ih (v + 1) G M2 (by omega) (by omega) (by omega) (ml_eEn (ml_eEn h (eEn_w hv1)) i1) (fun s hs2 => by
      by_cases e : s = v
      · subst e; exact i3
      · rw [i4 s (by omega), ra_An (by omega)]; exact hs s (by omega))
    refine ⟨M3, eEn_t (eEn_t (eEn_w hv1) i1) j1, fun f => ?_, j3⟩
    rw [f79_L2, h00, e2, ma_shl (by omega), if_neg (le_F (by omega) (by omega)), if_neg (ob_F (by omega) (by omega)), nI_clamp (by omega)]
    refine (i2 _).trans ?_
    rw [nI_p1]
    exact j2 f
theorem cl_sumL {S : rn_T} {M : rn_T} {T : rn_TR} {Y : rn_LY} (hw : TW T) (h0 : 0 < tN T) (hN : tN T ≤ 100) (hl : LT S M T Y) : ∀ d i fu, i + d = tC T 0 → d < fu → ∀ f, f9_L30 76 fu S (nI (sm1 (fun j => Y (tE T 0 j) 5) i)) (nI i) f = f S (nI (sm1 (fun j => Y (tE T 0 j) 5) (tC T 0))) := by
  have hC := (hw.1 0 h0).2.2.2.2
  have e1 : rI S 76 1 = nI (tC T 0) := (hl.1.1.1.2.1 0 h0).1
  intro d
  induction d with
  | zero =>
    intro i fu hi hf f
    obtain ⟨G, rfl⟩ : ∃ G, fu = G + 1 := ⟨fu - 1, by omega⟩
    rw [f9_L30, e1, if_pos (le_T (by omega) (by omega)), show i = tC T 0 by omega]
  | succ d ih =>
    intro i fu hi hf f
    obtain ⟨G, rfl⟩ : ∃ G, fu = G + 1 := ⟨fu - 1, by omega⟩
    have hj : i < tC T 0 := by omega
    obtain ⟨g1, g2, g3, g4⟩ := hw.2.2 0 i h0 hj
    have hk4 := ma_kd3 (show tE T 0 i < 100 by omega)
    have s5 := hl.1.1.2.1 _ g2 (.inl (Nat.zero_le _)) 5 (by unfold fK; omega)
    have hch : rP S (76 + 1) i = some (76 + 2 * tE T 0 i) := sk_child hl.1.1.1 hw h0 hj
    rw [f9_L30, e1, if_neg (le_F (by omega) (by omega)), if_neg (ob_F (by omega) (by omega)), nI_clamp (by omega), rn_om_s hch, if_pos hk4, s5, nI_add, nI_p1]
    exact ih (i + 1) G (by omega) (by omega) f
theorem sm1_le {z : Nat → Nat} : ∀ {n}, (∀ j, j < n → z j ≤ 64) → sm1 z n ≤ 64 * n := by
  intro n
  induction n with
  | zero => intro _; exact Nat.le_refl _
  | succ n ih =>
    intro h
    have := ih (fun j hj => h j (by omega))
    have := h n (by omega)
    unfold sm1
    omega
theorem go_least {S M : rn_T} (h : Inv S M) (x u : Int32) : Go S M (f9 S x u) (f80 M x u) := by
  refine go_tree h x u (f := fun S => if rn_kd (f154 S) = 3 then if (rI S (f154 S) 4) = (5 : Int32) then f9_L30 (f154 S) rn_FU S (0 : Int32) (0 : Int32) (fun S13 w13_5 => some ((f26 w13_5 (rI S13 (f154 S) 6)), S13)) else some ((-6 : Int32), S) else none) (g := fun M => if (rA M 322 (Int32.toNatClampNeg (0 : Int32))) = (5 : Int32) then Option.bind (f79 M) fun p6 => Option.bind (f32 p6.1 (rA p6.2 335 (Int32.toNatClampNeg (0 : Int32)))) fun p7 => some (p7, p6.2) else some ((-6 : Int32), M)) ?_
  intro A S2 M2 T Y p1 p2 ho p3 hf hl
  obtain ⟨hw, hN1, hN, hc⟩ := id hf
  have h0 : 0 < tN T := by omega
  obtain ⟨r, r1, r2, r3, r4, -, -⟩ := lt_root hf hl
  have h76 : f154 S2 = 76 := rfl
  have hkd : rn_kd 76 = 3 := ma_kd3 (i := 0) (by omega)
  have h00 : Int32.toNatClampNeg (0 : Int32) = 0 := rfl
  have w1 := hw.1 0 h0
  have hC := w1.2.2.2.2
  simp only [h76, hkd, if_true, h00, r1, r2]
  by_cases c5 : tK T 0 = 5
  · have c7 : nI (tK T 0) = (5 : Int32) := by rw [c5]; rfl
    rw [if_pos c7, if_pos c7]
    have hA := (hl.1.2.2.2.1 0 h0 (.inl (Nat.zero_le _))).1
    have h64 : ∀ j, j < tC T 0 → Y (tE T 0 j) 5 ≤ 64 := fun j hj => (hl.1.2.2.2.1 _ (hw.2.2 0 j h0 hj).2.1 (.inl (Nat.zero_le _))).2.2.1
    have hsl := sm1_le (z := fun j => Y (tE T 0 j) 5) h64
    have hp : 2 ^ tC T 0 ≤ 64 := (by decide : ∀ c, c ≤ 6 → 2 ^ c ≤ 64) _ hC
    have hp1 : 1 ≤ 2 ^ tC T 0 := Nat.one_le_two_pow
    obtain ⟨M3, i1, i2, i3⟩ := rf_setsL hw h0 hN hl.1.2.2.2 (2 ^ tC T 0 - 1) 1 rn_FU M2 (by omega) (by unfold rn_FU; omega) (by omega) hl.1.2.1 (fun s hs => by
      have : s = 0 := by omega
      subst this
      rw [p3.2.2]
      have hz : ∀ n, ms (fun j => Y (tE T 0 j) 5) 0 n = 0 := by
        intro n
        induction n with
        | zero => rfl
        | succ n ih => unfold ms; rw [ih, Nat.zero_testBit]; rfl
      rw [hz])
    have e326 : rA M3 326 0 = nI (tC T 0) := by rw [i1.1 326 (by omega)]; exact r4
    have h79 : f79 M2 = some (nI (sm1 (fun j => Y (tE T 0 j) 5) (tC T 0)), M3) := by
      unfold f79
      refine (i2 _).trans ?_
      rw [h00, e326, ma_shl (by omega), show nI (2 ^ tC T 0) - (1 : Int32) = nI (2 ^ tC T 0 - 1) from pk_sub hp1, if_neg (ob_F (by omega) (by omega)), nI_clamp (by omega), i3 _ (by omega), ms_all (by omega) (Nat.le_refl _)]
    have e335 : rA M3 335 0 = nI (Y 0 6) := by rw [i1.1 335 (by omega)]; exact (r 6 (by unfold fK; omega)).2
    have e6 := (r 6 (by unfold fK; omega)).1
    have hS := cl_sumL hw h0 hN hl (tC T 0) 0 rn_FU (by omega) (by unfold rn_FU; omega) (fun S13 w13_5 => some ((f26 w13_5 (rI S13 76 6)), S13))
    refine ⟨nI (up (sm1 (fun j => Y (tE T 0 j) 5) (tC T 0)) (Y 0 6)), S2, M3, ?_, ?_, A, p1, ?_, ho, ?_⟩
    · refine hS.trans ?_
      show some ((f26 (nI (sm1 (fun j => Y (tE T 0 j) 5) (tC T 0))) (rI S2 76 6)), S2) = _
      rw [e6, ma_f26 (by omega) hA]
    · rw [h79, Option.bind_some]
      show Option.bind (f32 (nI (sm1 (fun j => Y (tE T 0 j) 5) (tC T 0))) (rA M3 335 0)) _ = _
      rw [e335, ma_f32 (by omega) hA]
      rfl
    · obtain ⟨k1, k2, k3, k4, k5, k6⟩ := p2
      unfold PM
      rw [i1.1 320 (by omega), i1.1 319 (by omega), i1.1 346 (by omega), i1.2.1, i1.2.2.1]
      exact ⟨k1, k2, k3, k4, k5, k6⟩
    · exact im_eq0 p3 eq_r p3.2.1 (fun q hq => ⟨by rw [i1.2.1], i1.1 q (by omega), by rw [i1.2.2.1]⟩) (by rw [i1.2.2.2]; exact p3.2.2)
  · have c7 : ¬ nI (tK T 0) = (5 : Int32) := by
      have := w1.1
      simp (disch := omega) only [nI_lit, nI_add, pk_sub, pk_mul, ma_neg, nI_clamp, ma_ltT, ma_ltF, ma_leT, ma_leF, ma_eqT, ma_eqF, nI_ltI, nI_leI, nI_eq, ma_obT, ma_obF, ma_enF, ma_neF, ma_nlT, ma_lnF, ma_nLT, ma_Ln, ↓reduceIte, Option.bind_some, Option.bind_none, true_and, and_true, false_and, and_false, ne_eq, not_true_eq_false, not_false_eq_true, Bool.false_eq_true, reduceCtorEq, Nat.reduceAdd, Nat.reduceMul, Nat.reduceSub]
    rw [if_neg c7, if_neg c7]
    exact ⟨_, S2, M2, rfl, rfl, A, p1, p2, ho, p3⟩
