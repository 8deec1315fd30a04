/-! masks, what was found of a call, states as lists -/
noncomputable def pe_mk (k c b : Nat) : Nat := @Nat.rec (fun _ => Nat → Nat) (fun b => @Bool.rec (fun _ => Nat) (Nat.shiftLeft 68719476735 (Nat.mul 36 b)) 0 (Nat.beq (pe_cg c b) 0)) (fun k ih b => Nat.lor (ih b) (ih (Nat.add b (Nat.pow 2 k)))) k b
theorem pe_gg_or {w x y a : Nat} : pe_gg w (x ||| y) a = pe_gg w x a ||| pe_gg w y a := by
  refine Nat.eq_of_testBit_eq fun i => ?_
  rw [Nat.testBit_or, pe_gg_bit, pe_gg_bit, pe_gg_bit, Nat.testBit_or, Bool.and_or_distrib_left]
theorem pe_gg_and {w x y a : Nat} : pe_gg w (x &&& y) a = pe_gg w x a &&& pe_gg w y a := by
  refine Nat.eq_of_testBit_eq fun i => ?_
  rw [Nat.testBit_and, pe_gg_bit, pe_gg_bit, pe_gg_bit, Nat.testBit_and]
  cases decide (i < w) <;> simp
theorem pe_gg_xor {w x y a : Nat} : pe_gg w (x ^^^ y) a = pe_gg w x a ^^^ pe_gg w y a := by
  refine Nat.eq_of_testBit_eq fun i => ?_
  rw [Nat.testBit_xor, pe_gg_bit, pe_gg_bit, pe_gg_bit, Nat.testBit_xor]
  cases decide (i < w) <;> simp
theorem pe_cg_or {x y a : Nat} : pe_cg (Nat.lor x y) a = pe_cg x a ||| pe_cg y a := pe_gg_or (w := 36)
theorem pe_cg_and {x y a : Nat} : pe_cg (Nat.land x y) a = pe_cg x a &&& pe_cg y a := pe_gg_and (w := 36)
theorem pe_cg_xor {x y a : Nat} : pe_cg (Nat.xor x y) a = pe_cg x a ^^^ pe_cg y a := pe_gg_xor (w := 36)
theorem pe_cg_0 {a : Nat} : pe_cg 0 a = 0 := by
  rw [pe_cg_gg]; unfold pe_gg; rw [Nat.zero_shiftRight]
theorem pe_cg_lt {c a : Nat} : pe_cg c a < 68719476736 := pe_gg_lt (w := 36)
theorem pe_cg_1 {a b : Nat} : pe_cg (Nat.shiftLeft 68719476735 (Nat.mul 36 b)) a = if a = b then 68719476735 else 0 := by
  have h := pe_cg_cs (c := 0) (a := b) (b := a) (v := 68719476735) (by decide)
  rw [pe_cg_0] at h
  rw [← h]
  unfold pe_cs
  rw [pe_cg_0]
  show pe_cg (68719476735 <<< (36 * b)) a = pe_cg (0 ^^^ ((0 ^^^ 68719476735) <<< (36 * b))) a
  rw [Nat.zero_xor, Nat.zero_xor]
theorem pe_cg_mk {c a : Nat} : ∀ (k b : Nat), pe_cg (pe_mk k c b) a = if b ≤ a ∧ a < b + 2 ^ k ∧ pe_cg c a ≠ 0 then 68719476735 else 0
  | 0, b => by
    show pe_cg (@Bool.rec (fun _ => Nat) (Nat.shiftLeft 68719476735 (Nat.mul 36 b)) 0 (Nat.beq (pe_cg c b) 0)) a = _
    cases hb : Nat.beq (pe_cg c b) 0 with
    | true =>
      have h := pe_beq hb
      show pe_cg 0 a = _
      rw [pe_cg_0, if_neg]
      rintro ⟨h1, h2, h3⟩
      have : a = b := by omega
      rw [this] at h3
      exact h3 h
    | false =>
      have h : pe_cg c b ≠ 0 := fun g => by rw [g] at hb; cases hb
      show pe_cg (Nat.shiftLeft 68719476735 (Nat.mul 36 b)) a = _
      rw [pe_cg_1]
      by_cases e : a = b
      · rw [if_pos e, if_pos]; exact ⟨by omega, by omega, by rw [e]; exact h⟩
      · rw [if_neg e, if_neg]
        rintro ⟨h1, h2, h3⟩
        omega
  | k + 1, b => by
    show pe_cg (Nat.lor (pe_mk k c b) (pe_mk k c (b + 2 ^ k))) a = _
    rw [pe_cg_or, pe_cg_mk k b, pe_cg_mk k (b + 2 ^ k)]
    have e2 : 2 ^ (k + 1) = 2 ^ k + 2 ^ k := by rw [Nat.pow_succ]; omega
    rw [e2]
    by_cases h3 : pe_cg c a ≠ 0
    · by_cases h1 : b ≤ a ∧ a < b + 2 ^ k
      · rw [if_pos ⟨h1.1, h1.2, h3⟩, if_neg (fun g => by omega), if_pos ⟨h1.1, by omega, h3⟩]; rfl
      · rw [if_neg (fun g => h1 ⟨g.1, g.2.1⟩), Nat.zero_or]
        by_cases h2 : b + 2 ^ k ≤ a ∧ a < b + 2 ^ k + 2 ^ k
        · rw [if_pos ⟨h2.1, h2.2, h3⟩, if_pos ⟨by omega, by omega, h3⟩]
        · rw [if_neg (fun g => h2 ⟨g.1, g.2.1⟩), if_neg (fun g => by omega)]
    · rw [if_neg (fun g => h3 g.2.2), if_neg (fun g => h3 g.2.2), if_neg (fun g => h3 g.2.2)]; rfl
theorem pe_ones {x : Nat} (h : x < 68719476736) : x &&& 68719476735 = x := by
  rw [show 68719476735 = 2 ^ 36 - 1 from rfl, Nat.and_two_pow_sub_one_eq_mod]
  exact Nat.mod_eq_of_lt h
/-- the one laid over the other -/
noncomputable def pe_ov (c c1 : Nat) : Nat := Nat.xor (Nat.xor c (Nat.land c (pe_mk 12 c1 0))) c1
theorem pe_cg_ov {c c1 a : Nat} (ha : a < 4096) : pe_cg (pe_ov c c1) a = if pe_cg c1 a ≠ 0 then pe_cg c1 a else pe_cg c a := by
  unfold pe_ov
  rw [pe_cg_xor, pe_cg_xor, pe_cg_and, pe_cg_mk]
  by_cases h : pe_cg c1 a ≠ 0
  · rw [if_pos h, if_pos ⟨Nat.zero_le _, by omega, h⟩, pe_ones pe_cg_lt, Nat.xor_self, Nat.zero_xor]
  · rw [if_neg h, if_neg (fun g => h g.2.2), Nat.and_zero, Nat.xor_zero]
    rw [show pe_cg c1 a = 0 by omega, Nat.xor_zero]
theorem pe_bs_bl {q k : Nat} (h : k < pe_bl q) : pe_bs q + k < 4096 := by
  have hq : q < 320 := Nat.lt_of_not_le fun g => by rw [pe_bl_0 g] at h; omega
  have := (by decide +kernel : ∀ q, q < 320 → pe_bs q + pe_bl q ≤ 4096) q hq
  omega
theorem pe_cl_ov {c c1 q k : Nat} : pe_cl (pe_ov c c1) q k = if pe_cl c1 q k ≠ 0 then pe_cl c1 q k else pe_cl c q k := by
  unfold pe_cl
  by_cases h : k < pe_bl q
  · rw [if_pos h, if_pos h, if_pos h, pe_cg_ov (pe_bs_bl h)]
  · rw [if_neg h, if_neg h, if_neg h]; rfl
theorem pe_if3 {α : Type} {p : Prop} [Decidable p] {a b : Nat} {f : Nat → α} {x : α} : (if p ∧ (if a ≠ 0 then a else b) ≠ 0 then f (if a ≠ 0 then a else b) else x) = (if p ∧ a ≠ 0 then f a else if p ∧ b ≠ 0 then f b else x) := by
  by_cases hp : p
  · by_cases ha : a ≠ 0
    · rw [if_pos ha, if_pos ⟨hp, ha⟩, if_pos ⟨hp, ha⟩]
    · rw [if_neg ha, if_neg (fun g : p ∧ a ≠ 0 => ha g.2)]
  · rw [if_neg (fun g => hp g.1), if_neg (fun g => hp g.1), if_neg (fun g => hp g.1)]
theorem pe_TT_ov {c c1 : Nat} {B : rn_T} : pe_TT (pe_ov c c1) B = pe_TT c1 (pe_TT c B) := by
  unfold pe_TT
  simp only [pe_cl_ov]
  refine Prod.ext (funext fun q => funext fun k => ?_) (Prod.ext (funext fun q => funext fun k => ?_) (Prod.ext (funext fun q => funext fun k => ?_) (Prod.ext (funext fun q => ?_) (funext fun q => funext fun k => ?_))))
  · exact pe_if3
  · exact pe_if3
  · exact pe_if3
  · exact pe_if3
  · exact pe_if3
/-- the heap agrees with a number -/
def pe_ag (d : Nat) (S : rn_T) : Prop := pe_TT d S = S
theorem pe_if4 {α : Type} {p : Prop} [Decidable p] {a b : Nat} {f : Nat → α} {x : α} (h : a = 0 ∨ a = b) : (if p ∧ a ≠ 0 then f a else if p ∧ b ≠ 0 then f b else x) = (if p ∧ b ≠ 0 then f b else x) := by
  rcases h with h | h
  · rw [if_neg (fun g => g.2 h)]
  · subst h
    by_cases g : p ∧ a ≠ 0
    · rw [if_pos g, if_pos g]
    · rw [if_neg g]
/-- a number whose cells are cells of another one -/
def pe_sb (d c : Nat) : Prop := ∀ a, a < 4096 → pe_cg d a = 0 ∨ pe_cg d a = pe_cg c a
theorem pe_sb_cl {d c q k : Nat} (h : pe_sb d c) : pe_cl d q k = 0 ∨ pe_cl d q k = pe_cl c q k := by
  unfold pe_cl
  by_cases hk : k < pe_bl q
  · rw [if_pos hk, if_pos hk]; exact h _ (pe_bs_bl hk)
  · rw [if_neg hk]; exact Or.inl rfl
theorem pe_ag_sb {d c : Nat} {B : rn_T} (h : pe_sb d c) : pe_ag d (pe_TT c B) := by
  unfold pe_ag pe_TT
  refine Prod.ext (funext fun q => funext fun k => ?_) (Prod.ext (funext fun q => funext fun k => ?_) (Prod.ext (funext fun q => funext fun k => ?_) (Prod.ext (funext fun q => ?_) (funext fun q => funext fun k => ?_))))
  · exact pe_if4 (pe_sb_cl h)
  · exact pe_if4 (pe_sb_cl h)
  · exact pe_if4 (pe_sb_cl h)
  · exact pe_if4 (pe_sb_cl h)
  · exact pe_if4 (pe_sb_cl h)
theorem pe_sb_mk {d c : Nat} (h : Nat.beq (Nat.land c (pe_mk 12 d 0)) d = true) : pe_sb d c := by
  intro a ha
  have h := pe_beq h
  by_cases h0 : pe_cg d a = 0
  · exact Or.inl h0
  · right
    have e : pe_cg (Nat.land c (pe_mk 12 d 0)) a = pe_cg d a := by rw [h]
    rw [pe_cg_and, pe_cg_mk, if_pos ⟨Nat.zero_le _, by omega, h0⟩, pe_ones pe_cg_lt] at e
    exact e.symm
/-- what a run of a method finds, kept -/
noncomputable def pe_me (n m : Nat) (as : List Nat) (d : Nat) : pe_W := match pe_av as with
  | true => match pe_ru n pe_w0 [] 12 (m, pe_tb m, pe_ar 0 as, [], d, []) with
    | some (.inr (.inr (vs, c1))) => (m, as, (d, pe_mk 12 d 0), vs, (c1, pe_mk 12 c1 0))
    | _ => pe_w0
  | false => pe_w0
section MEMO
variable {σ : Nat → Value} {n : Nat} {B : rn_T} {h0 : rn_H} {X : rn_X} {N sl : Nat}
theorem pe_w0_ok : pe_Wok σ n B h0 X N sl pe_w0 := by
  intro as c h hq
  obtain ⟨q, hq⟩ := hq
  exact absurd hq (by rw [show rn_ms pe_w0.1 = none from by decide +kernel]; exact fun g => by cases g)
theorem pe_me_ok (hn : pe_nn n) (m : Nat) (as : List Nat) (d : Nat) : pe_Wok σ n B h0 X N sl (pe_me n m as d) := by
  unfold pe_me
  split
  · next hav =>
    split
    · next vs c1 hr =>
      intro as2 c h _ hle hpre hH
      have e := pe_le_of hle
      simp only at e
      subst e
      have hsb := pe_sb_mk hpre
      have hag : pe_TT d (pe_TT c B) = pe_TT c B := pe_ag_sb hsb
      have hH2 : pe_HR n d (pe_TT c B) h0 h := ⟨fun q hq => by rw [hag]; exact hH.1 q hq, hH.2⟩
      obtain ⟨v, h2, g1, g2, g3⟩ := pe_ru_ok (X := X) (N := N) (sl := sl) hn (pe_w0_ok (σ := σ) (n := n) (B := pe_TT c B) (h0 := h0)) 12 m _ [] d [] _ 0 _ h [] (pe_RL_ar 0 hav) hH2 trivial hr
      refine ⟨v, h2, g3, g1, ?_⟩
      have : pe_TT c1 (pe_TT c B) = pe_TT (pe_ov c c1) B := pe_TT_ov.symm
      show pe_HR n (pe_ov c c1) B h0 h2
      exact ⟨fun q hq => by rw [← this]; exact g2.1 q hq, g2.2⟩
    · exact pe_w0_ok
  · exact pe_w0_ok
end MEMO
