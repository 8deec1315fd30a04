/-! 88: a place, bytes -/
def pS (S : rn_T) (x : Int32) (f : rn_T → Option (Int32 × rn_T)) : Option (Int32 × rn_T) := Option.bind (f25 S x) fun p5 => if p5 = true then f S else some ((-2 : Int32), S)
def pM (M : rn_T) (x : Int32) (f : rn_T → Option (Int32 × rn_T)) : Option (Int32 × rn_T) := if x < 0 then some ((-2 : Int32), M) else if (96 : Int32) < x then some ((-2 : Int32), M) else if (rA M 335 (Int32.toNatClampNeg (0 : Int32))) = 0 then none else if (x - x / (rA M 335 (Int32.toNatClampNeg (0 : Int32))) * (rA M 335 (Int32.toNatClampNeg (0 : Int32)))) = 0 then if (x + (rA M 334 (Int32.toNatClampNeg (0 : Int32)))) ≤ (96 : Int32) then f M else some ((-2 : Int32), M) else some ((-2 : Int32), M)
theorem f93_cM (M : rn_T) (x u pl : Int32) (h : Int32 × rn_T → Option (Int32 × rn_T)) : (Option.bind (f46 M x u) fun p1 => if p1 = true then Option.bind (f93 M x u pl) fun p3 => if p3.1 = (-6 : Int32) then h p3 else some (p3.1, p3.2) else some ((-1 : Int32), M)) = cM M x u (fun M => pM M pl (fun M => h (-6, M))) := by
  unfold cM
  cases f46 M x u with
  | none => rfl
  | some b =>
    cases b with
    | false => rfl
    | true =>
      simp only [Option.bind_some, if_true]
      unfold f93
      cases f71 M x u with
      | none => rfl
      | some p =>
        obtain ⟨r, M1⟩ := p
        simp only [Option.bind_some]
        by_cases c : r = (-6 : Int32)
        · subst c
          have c2 : ¬ (-2 : Int32) = -6 := by decide
          unfold pM
          simp only [if_true]
          split
          · rw [Option.bind_some, if_neg c2]
          · split
            · rw [Option.bind_some, if_neg c2]
            · split
              · rfl
              · split
                · split
                  · rw [Option.bind_some, if_pos rfl]
                  · rw [Option.bind_some, if_neg c2]
                · rw [Option.bind_some, if_neg c2]
        · simp only [if_neg c, Option.bind_some]
theorem up_fix {n a : Nat} (h : isA a) : up n a = n ↔ n % a = 0 := by
  rcases h with rfl | rfl | rfl
  · rw [up_1]; omega
  · rw [up_2]; omega
  · rw [up_4]; omega
theorem ma_place {S M : rn_T} {T : rn_TR} {Y : rn_LY} (hf : FT T) (hl : LT S M T Y) (x : Int32) (f g : rn_T → Option (Int32 × rn_T)) : (pS S x f = some ((-2 : Int32), S) ∧ pM M x g = some ((-2 : Int32), M)) ∨ ∃ p, x = nI p ∧ p + Y 0 5 ≤ 96 ∧ pS S x f = f S ∧ pM M x g = g M := by
  obtain ⟨r, -⟩ := lt_root hf hl
  have h0 : 0 < tN T := by have := hf.2.1; omega
  obtain ⟨hA, hm, h64, -⟩ := hl.1.2.2.2.1 0 h0 (.inl (Nat.zero_le _))
  have s5 := (r 5 (by unfold fK; omega)).1
  have s6 := (r 6 (by unfold fK; omega)).1
  have m5 : rA M 334 0 = _ := (r 5 (by unfold fK; omega)).2
  have m6 : rA M 335 0 = _ := (r 6 (by unfold fK; omega)).2
  have h76 : f154 S = 76 := rfl
  have hkd : rn_kd 76 = 3 := ma_kd3 (i := 0) (by omega)
  have h00 : Int32.toNatClampNeg (0 : Int32) = 0 := rfl
  have hA0 : 0 < Y 0 6 ∧ Y 0 6 < 5 := by rcases hA with e | e | e <;> omega
  unfold pS pM f25
  simp only [h76, hkd, if_true, h00, s5, s6, m5, m6]
  by_cases c : x < 0
  · exact .inl ⟨by rw [if_pos c]; rfl, by rw [if_pos c]⟩
  · obtain ⟨p, hp, rfl⟩ := nI_of c
    rw [if_neg c, if_neg c, show (96 : Int32) - nI (Y 0 5) = nI (96 - Y 0 5) from pk_sub (show Y 0 5 ≤ 96 by omega)]
    by_cases c96 : 96 < p
    · refine .inl ⟨?_, ?_⟩
      · rw [if_neg (le_F (by omega) (by omega))]; rfl
      · rw [if_pos (show (96 : Int32) < nI p from nI_lt (show 96 < p from c96) hp)]
    · rw [if_neg (show ¬ (96 : Int32) < nI p from nI_nlt (show p ≤ 96 by omega) (show 96 < 2 ^ 31 by omega)), if_neg (show ¬ nI (Y 0 6) = 0 from nI_ne0 hA0.1 (by omega)), pk_rem (by omega) hA0.1 (by omega), nI_add]
      by_cases cs : p + Y 0 5 ≤ 96
      · rw [if_pos (le_T (show p ≤ 96 - Y 0 5 by omega) (by omega)), if_pos (show nI (p + Y 0 5) ≤ (96 : Int32) from nI_le (show p + Y 0 5 ≤ 96 from cs) (show 96 < 2 ^ 31 by omega)), ma_f26 (by omega) hA]
        by_cases ca : p % Y 0 6 = 0
        · refine .inr ⟨p, rfl, cs, ?_, ?_⟩
          · rw [(up_fix hA).mpr ca, if_pos rfl]; rfl
          · rw [ca, if_pos (show nI 0 = 0 from rfl)]
        · refine .inl ⟨?_, ?_⟩
          · rw [if_neg (fun hh => ca ((up_fix hA).mp ((nI_eq (by have := up_ge (n := p) hA; omega) hp).mp hh)))]; rfl
          · rw [if_neg (show ¬ nI (p % Y 0 6) = 0 from nI_ne0 (by omega) (by have := Nat.mod_lt p hA0.1; omega))]
      · refine .inl ⟨?_, ?_⟩
        · rw [if_neg (le_F (show 96 - Y 0 5 < p by omega) (by omega))]; rfl
        · rw [if_neg (show ¬ nI (p + Y 0 5) ≤ (96 : Int32) from nI_ge (show 96 < p + Y 0 5 by omega) (by omega)), ite_self]
theorem go_place {S M : rn_T} (h : Inv S M) (x u pl : Int32) {f g : rn_T → Option (Int32 × rn_T)} (hc : ∀ A S2 M2 T Y p, PS S2 A → PM M2 A → OKA A → Im S2 M2 → FT T → LT S2 M2 T Y → pl = nI p → p + Y 0 5 ≤ 96 → Go S2 M2 (f S2) (g M2)) : Go S M (cS S x u (fun S => pS S pl f)) (cM M x u (fun M => pM M pl g)) := by
  refine go_tree h x u ?_
  intro A S2 M2 T Y p1 p2 ho p3 hf hl
  rcases ma_place hf hl pl f g with ⟨e1, e2⟩ | ⟨p, hp, hs, e1, e2⟩
  · rw [e1, e2]
    exact ⟨-2, S2, M2, rfl, rfl, A, p1, p2, ho, p3⟩
  · rw [e1, e2]
    exact hc A S2 M2 T Y p p1 p2 ho p3 hf hl hp hs
/-! numbers of 64 bits -/
theorem l_and {m : Nat} (h : m < 2 ^ 63) : lN m &&& (255 : Int64) = lN (m % 256) := by
  apply Int64.toBitVec_inj.mp
  apply BitVec.eq_of_toNat_eq
  rw [Int64.toBitVec_and, BitVec.toNat_and]
  show (BitVec.ofNat 64 m).toNat &&& (BitVec.ofNat 64 255).toNat = (BitVec.ofNat 64 (m % 256)).toNat
  rw [BitVec.toNat_ofNat, BitVec.toNat_ofNat, BitVec.toNat_ofNat, Nat.mod_eq_of_lt (by omega), show 255 % 2 ^ 64 = 2 ^ 8 - 1 from rfl, Nat.and_two_pow_sub_one_eq_mod]
  exact (Nat.mod_eq_of_lt (by omega)).symm
theorem l_shr {n k : Nat} (hn : n < 2 ^ 62) (hk : k < 64) : lN n >>> lN k = lN (n / 2 ^ k) := by
  apply Int64.toInt_inj.mp
  have h2 : n / 2 ^ k ≤ n := Nat.div_le_self _ _
  have hs : ((lN k).toBitVec.smod 64).toNat = k := (by decide +kernel : ∀ k, k < 64 → ((lN k).toBitVec.smod 64).toNat = k) k hk
  have : (lN n >>> lN k).toInt = (lN n).toInt >>> k := by
    show ((lN n).toBitVec.sshiftRight ((lN k).toBitVec.smod 64).toNat).toInt = _
    rw [hs, BitVec.toInt_sshiftRight]
    rfl
  rw [this, ma_lT (by omega), ma_lT (by omega), Int.shiftRight_eq_div_pow]
  rfl
theorem l_amt {e : Nat} (he : e < 8) : (((8 : Int32) * nI e).toInt64 &&& 63) = lN (8 * e) := (by decide +kernel : ∀ e, e < 8 → (((8 : Int32) * nI e).toInt64 &&& 63) = lN (8 * e)) e he
def byt (n e : Nat) : Nat := n / 2 ^ (8 * e) % 256
theorem byt_c {n e : Nat} (hn : n < 2 ^ 32) (he : e < 8) : (Int64.toInt32 (lN n >>> (((8 : Int32) * nI e).toInt64 &&& 63))) &&& (255 : Int32) = nI (byt n e) := by
  have h2 : n / 2 ^ (8 * e) ≤ n := Nat.div_le_self _ _
  rw [l_amt he, l_shr (by omega) (by omega), lN_i, pk_andN (by omega) 8 (by decide)]
  rfl
theorem byt_m {n e : Nat} (hn : n < 2 ^ 32) (he : e < 8) : Int64.toInt32 ((lN n >>> (((8 : Int32) * nI e).toInt64 &&& 63)) &&& (255 : Int64)) = nI (byt n e) := by
  have h2 : n / 2 ^ (8 * e) ≤ n := Nat.div_le_self _ _
  rw [l_amt he, l_shr (by omega) (by omega), l_and (by omega), lN_i]
  rfl
theorem byt_lt {n e : Nat} : byt n e < 256 := Nat.mod_lt _ (by omega)
/-- only the memory changed -/
def eY (S S2 : rn_T) : Prop := rI S2 = rI S ∧ rR S2 = rR S ∧ rP S2 = rP S ∧ rL S2 = rL S ∧ ∀ q, q ≠ 4 → rA S2 q = rA S q
def eYM (M M2 : rn_T) : Prop := rI M2 = rI M ∧ rL M2 = rL M ∧ ∀ q, q ≠ 346 → rA M2 q = rA M q
theorem eY_r {S : rn_T} : eY S S := ⟨rfl, rfl, rfl, rfl, fun _ _ => rfl⟩
theorem eYM_r {S : rn_T} : eYM S S := ⟨rfl, rfl, fun _ _ => rfl⟩
theorem eY_t {S S2 S3 : rn_T} (h : eY S S2) (g : eY S2 S3) : eY S S3 := ⟨g.1.trans h.1, g.2.1.trans h.2.1, g.2.2.1.trans h.2.2.1, g.2.2.2.1.trans h.2.2.2.1, fun q hq => (g.2.2.2.2 q hq).trans (h.2.2.2.2 q hq)⟩
theorem eYM_t {S S2 S3 : rn_T} (h : eYM S S2) (g : eYM S2 S3) : eYM S S3 := ⟨g.1.trans h.1, g.2.1.trans h.2.1, fun q hq => (g.2.2 q hq).trans (h.2.2 q hq)⟩
theorem eY_w {S : rn_T} {k : Nat} {v : Int32} : eY S (wA S 4 k v) := ⟨rfl, rfl, rfl, rfl, fun q hq => ra_Af hq⟩
theorem eYM_w {S : rn_T} {k : Nat} {v : Int32} : eYM S (wA S 346 k v) := ⟨rfl, rfl, fun q hq => ra_Af hq⟩
theorem ok_M2 {A : rn_AT} {i v : Nat} (h : OKA A) (h1 : v < 256) : OKA (sM A i v) := ok_M h h1
theorem ma_putL {p w : Nat} {v : Int64} (hp : p + w ≤ 96) (hv : ∀ e, e < w → ∃ b, b < 256 ∧ (Int64.toInt32 (v >>> (((8 : Int32) * nI e).toInt64 &&& 63))) &&& (255 : Int32) = nI b ∧ Int64.toInt32 ((v >>> (((8 : Int32) * nI e).toInt64 &&& 63)) &&& (255 : Int64)) = nI b) : ∀ d i fu fu2 (S M : rn_T) (A : rn_AT), i + d = w → d < fu → d < fu2 → PS S A → PM M A → OKA A → ∃ (S2 M2 : rn_T) (A2 : rn_AT), (∀ f, f116_L2 1 (nI p) (nI w) v fu S (nI i) f = f S2) ∧ (∀ f, f91_L2 (nI p) (nI w) v fu2 M (nI i) f = f M2) ∧ PS S2 A2 ∧ PM M2 A2 ∧ OKA A2 ∧ eY S S2 ∧ eYM M M2 := by
  intro d
  induction d with
  | zero =>
    intro i fu fu2 S M A hi hf hf2 h hm ho
    obtain ⟨G, rfl⟩ : ∃ G, fu = G + 1 := ⟨fu - 1, by omega⟩
    obtain ⟨G2, rfl⟩ : ∃ G, fu2 = G + 1 := ⟨fu2 - 1, by omega⟩
    refine ⟨S, M, A, fun f => ?_, fun f => ?_, h, hm, ho, eY_r, eYM_r⟩
    · rw [f116_L2, if_pos (le_T (by omega) (by omega))]
    · rw [f91_L2, if_pos (le_T (by omega) (by omega))]
  | succ d ih =>
    intro i fu fu2 S M A hi hf hf2 h hm ho
    obtain ⟨G, rfl⟩ : ∃ G, fu = G + 1 := ⟨fu - 1, by omega⟩
    obtain ⟨G2, rfl⟩ : ∃ G, fu2 = G + 1 := ⟨fu2 - 1, by omega⟩
    obtain ⟨b, hb, b1, b2⟩ := hv i (by omega)
    obtain ⟨S2, M2, A2, i1, i2, i3, i4, i5, i6, i7⟩ := ih (i + 1) G G2 (wA S 4 (p + i) (nI b)) (wA M 346 (p + i) (nI b)) (sM A (p + i) b) (by omega) (by omega) (by omega) (ps_M h) (pm_M hm) (ok_M ho hb)
    refine ⟨S2, M2, A2, fun f => ?_, fun f => ?_, i3, i4, i5, eY_t eY_w i6, eYM_t eYM_w i7⟩
    · rw [f116_L2, if_neg (le_F (by omega) (by omega)), nI_add, if_neg (nI_pos (by omega)), if_neg (show ¬ (96 : Int32) ≤ nI (p + i) from nI_ge (show p + i < 96 by omega) (show 96 < 2 ^ 31 by omega)), if_pos (show rn_kd 1 = 1 from rfl), if_neg (ob_F (by omega) (by omega)), nI_clamp (by omega), b1, nI_p1]
      exact i1 f
    · rw [f91_L2, if_neg (le_F (by omega) (by omega)), nI_add, if_neg (ob_F (by omega) (by omega)), nI_clamp (by omega), b2, nI_p1]
      exact i2 f
/-- a number is put on both sides -/
theorem ma_put {S M : rn_T} {A : rn_AT} {p w n : Nat} (h : PS S A) (hm : PM M A) (ho : OKA A) (hp : p + w ≤ 96) (hw : w ≤ 4) (hn : n < 2 ^ 32) : ∃ (S2 M2 : rn_T) (A2 : rn_AT), f116 S 1 (nI p) (nI w) (lN n) = some S2 ∧ f91 M (nI p) (nI w) (lN n) = some M2 ∧ PS S2 A2 ∧ PM M2 A2 ∧ OKA A2 ∧ eY S S2 ∧ eYM M M2 := by
  obtain ⟨S2, M2, A2, i1, i2, i3⟩ := ma_putL (v := lN n) hp (fun e he => ⟨byt n e, byt_lt, byt_c hn (by omega), byt_m hn (by omega)⟩) w 0 rn_FU rn_FU S M A (by omega) (by unfold rn_FU; omega) (by unfold rn_FU; omega) h hm ho
  exact ⟨S2, M2, A2, i1 _, i2 _, i3⟩
theorem z_c (x : Int64) : (Int64.toInt32 ((0 : Int64) >>> x)) &&& (255 : Int32) = nI 0 := by
  have : (0 : Int64) >>> x = 0 := by
    apply Int64.toInt_inj.mp
    show ((0 : BitVec 64).sshiftRight (x.toBitVec.smod 64).toNat).toInt = 0
    rw [BitVec.toInt_sshiftRight]
    simp
  rw [this]; decide
/-- the place of the root is wiped -/
theorem ma_zeroL {p w : Nat} (hp : p + w ≤ 96) : ∀ d i fu fu2 (S M : rn_T) (A : rn_AT), i + d = w → d < fu → d < fu2 → PS S A → PM M A → OKA A → rA M 334 0 = nI w → ∃ (S2 M2 : rn_T) (A2 : rn_AT), (∀ f, f116_L2 1 (nI p) (nI w) (0 : Int64) fu S (nI i) f = f S2) ∧ (∀ f, f92_L2 (nI p) fu2 M (nI i) f = f M2) ∧ PS S2 A2 ∧ PM M2 A2 ∧ OKA A2 ∧ eY S S2 ∧ eYM M M2 := by
  intro d
  induction d with
  | zero =>
    intro i fu fu2 S M A hi hf hf2 h hm ho h3
    obtain ⟨G, rfl⟩ : ∃ G, fu = G + 1 := ⟨fu - 1, by omega⟩
    obtain ⟨G2, rfl⟩ : ∃ G, fu2 = G + 1 := ⟨fu2 - 1, by omega⟩
    refine ⟨S, M, A, fun f => ?_, fun f => ?_, h, hm, ho, eY_r, eYM_r⟩
    · rw [f116_L2, if_pos (le_T (by omega) (by omega))]
    · rw [f92_L2, show Int32.toNatClampNeg (0 : Int32) = 0 from rfl, h3, if_pos (le_T (by omega) (by omega))]
  | succ d ih =>
    intro i fu fu2 S M A hi hf hf2 h hm ho h3
    obtain ⟨G, rfl⟩ : ∃ G, fu = G + 1 := ⟨fu - 1, by omega⟩
    obtain ⟨G2, rfl⟩ : ∃ G, fu2 = G + 1 := ⟨fu2 - 1, by omega⟩
    obtain ⟨S2, M2, A2, i1, i2, i3, i4, i5, i6, i7⟩ := ih (i + 1) G G2 (wA S 4 (p + i) (nI 0)) (wA M 346 (p + i) (nI 0)) (sM A (p + i) 0) (by omega) (by omega) (by omega) (ps_M h) (pm_M hm) (ok_M ho (by omega)) (by rw [ra_An (by omega)]; exact h3)
    refine ⟨S2, M2, A2, fun f => ?_, fun f => ?_, i3, i4, i5, eY_t eY_w i6, eYM_t eYM_w i7⟩
    · rw [f116_L2, if_neg (le_F (by omega) (by omega)), nI_add, if_neg (nI_pos (by omega)), if_neg (show ¬ (96 : Int32) ≤ nI (p + i) from nI_ge (show p + i < 96 by omega) (show 96 < 2 ^ 31 by omega)), if_pos (show rn_kd 1 = 1 from rfl), if_neg (ob_F (by omega) (by omega)), nI_clamp (by omega), z_c, nI_p1]
      exact i1 f
    · rw [f92_L2, show Int32.toNatClampNeg (0 : Int32) = 0 from rfl, h3, if_neg (le_F (by omega) (by omega)), nI_add, if_neg (ob_F (by omega) (by omega)), nI_clamp (by omega), nI_p1]
      exact i2 f
