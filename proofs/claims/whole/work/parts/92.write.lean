/-! 92: write; a number, a choice out of the memory -/
theorem eV_E {S0 S : rn_T} (h : eV S0 S) : EqT (fun q => q < 76 ∨ 278 ≤ q) S0 S := fun q hq => ⟨funext fun f => h.1 q f (by omega) (by omega), by rw [h.2.1], h.2.2.2.2 q (by omega)⟩
theorem eVM_E {M0 M : rn_T} (h : eVM M0 M) : eqM M0 M := ⟨fun q hq => ⟨by rw [h.1], h.2.1 q (by omega) (by omega), h.2.2 q (by omega)⟩, by rw [h.1], by rw [h.1]⟩
theorem eV_keep {S S2 M M2 : rn_T} {A : rn_AT} (h : PS S A) (hm : PM M A) (hi : Im S M) (he : eV S S2) (hM : eVM M M2) : PS S2 A ∧ PM M2 A ∧ Im S2 M2 := keep3 h hm hi (eq_m (eV_E he) (fun q hq => by omega)) (by rw [he.1 76 15 (by omega) (by omega)]; exact hi.2.1) (eVM_E hM)
theorem go_write {S M : rn_T} (h : Inv S M) (x u pl : Int32) : Go S M (f14 S x u pl) (f94 M x u pl) := by
  have e1 : f14 S x u pl = cS S x u (fun S => pS S pl (fun S => Option.bind (f145 S 1) fun p7 => if p7.1 = true then Option.bind (f146 p7.2 1 pl) fun p9 => if rn_kd (f154 p9) = 3 then some ((rI p9 (f154 p9) 5), p9) else none else some ((-3 : Int32), p7.2))) := rfl
  have e2 : f94 M x u pl = cM M x u (fun M => pM M pl (fun M => Option.bind (f90 M) fun p5 => if p5.1 = true then Option.bind (f92 p5.2 pl) fun p7 => some ((rA p7 334 (Int32.toNatClampNeg (0 : Int32))), p7) else some ((-3 : Int32), p5.2))) := by
    have := f93_cM M x u pl (fun p3 => Option.bind (f90 p3.2) fun p5 => if p5.1 = true then Option.bind (f92 p5.2 pl) fun p7 => some ((rA p7 334 (Int32.toNatClampNeg (0 : Int32))), p7) else some ((-3 : Int32), p5.2))
    exact this
  rw [e1, e2]
  refine go_place h x u pl ?_
  intro A S2 M2 T Y p p1 p2 ho p3 hf hl hpl hps
  subst hpl
  have hN := hf.2.2.1
  have h0 : 0 < tN T := by have := hf.2.1; omega
  obtain ⟨S3, M3, bb, a1, a2, a3, a4, a5⟩ := ma_accept p1 p2 ho hf hl
  obtain ⟨k1, k2, k3⟩ := eV_keep p1 p2 p3 a3 a4
  rw [a1, a2, Option.bind_some, Option.bind_some]
  cases bb with
  | false => exact ⟨-3, S3, M3, rfl, rfl, A, k1, k2, ho, k3⟩
  | true =>
    obtain ⟨lv, ch, vv, hv⟩ := a5 rfl
    rw [if_pos rfl, if_pos rfl]
    obtain ⟨r, -⟩ := lt_root hf hl
    have h76 : f154 S3 = 76 := rfl
    have hkd : rn_kd 76 = 3 := ma_kd3 (i := 0) (by omega)
    have s5 : rI S3 76 5 = nI (Y 0 5) := by rw [a3.1 _ _ (by omega) (by omega)]; exact (r 5 (by unfold fK; omega)).1
    have m5 : rA M3 334 0 = nI (Y 0 5) := by rw [a4.2.1 334 (by omega) (by omega)]; exact (r 5 (by unfold fK; omega)).2
    obtain ⟨S4, M4, A4, z1, z2, z3, z4, z5, z6, z7⟩ := ma_zeroL hps (Y 0 5) 0 rn_FU rn_FU S3 M3 A (by omega) (by have := (hl.1.2.2.2.1 0 h0 (.inl (Nat.zero_le _))).2.2.1; unfold rn_FU; omega) (by have := (hl.1.2.2.2.1 0 h0 (.inl (Nat.zero_le _))).2.2.1; unfold rn_FU; omega) k1 k2 ho m5
    obtain ⟨S5, M5, A5, w1, w2, w3, w4, w5, w6, w7⟩ := ma_stL hf hl a3 a4 hv hps (tN T) 0 rn_FU rn_FU S4 M4 A4 (by omega) (by unfold rn_FU; omega) (by unfold rn_FU; omega) z6 z7 z3 z4 z5
    have hS : f146 S3 1 (nI p) = some S5 := by
      unfold f146
      rw [h76, if_pos hkd, if_pos (show rn_kd 1 = 1 from rfl), s5]
      have : f116 S3 1 (nI p) (nI (Y 0 5)) (0 : Int64) = some S4 := z1 _
      rw [this, Option.bind_some]
      exact w1 _
    have hM : f92 M3 (nI p) = some M5 := by
      unfold f92
      exact (z2 _).trans (w2 _)
    have s5' : rI S5 76 5 = nI (Y 0 5) := by rw [w3.1]; exact s5
    have m5' : rA M5 334 0 = nI (Y 0 5) := by rw [w4.2.2 334 (by omega)]; exact m5
    have hIm : Im S5 M5 := im_eq0 k3 (fun q hq => ⟨by rw [w3.1], w3.2.2.2.2 q (by omega), by rw [w3.2.2.2.1]⟩) (by rw [w3.1]; exact k3.2.1) (fun q hq => ⟨by rw [w4.1], w4.2.2 q (by omega), by rw [w4.2.1]⟩) (by rw [w4.2.2 343 (by omega)]; exact k3.2.2)
    refine ⟨nI (Y 0 5), S5, M5, ?_, ?_, A5, w5, w6, w7, hIm⟩
    · show Option.bind (f146 S3 1 (nI p)) _ = _
      rw [hS, Option.bind_some, show f154 S5 = 76 from rfl, if_pos hkd, s5']
    · show Option.bind (f92 M3 (nI p)) _ = _
      rw [hM, Option.bind_some, show Int32.toNatClampNeg (0 : Int32) = 0 from rfl, m5']
/-! out of the memory -/
theorem l_or (a b : Nat) (ha : a < 2 ^ 63) (hb : b < 2 ^ 63) : lN a ||| lN b = lN (a ||| b) := by
  apply Int64.toBitVec_inj.mp
  apply BitVec.eq_of_toNat_eq
  have hc : a ||| b < 2 ^ 63 := Nat.or_lt_two_pow ha hb
  rw [Int64.toBitVec_or, BitVec.toNat_or]
  show (BitVec.ofNat 64 a).toNat ||| (BitVec.ofNat 64 b).toNat = (BitVec.ofNat 64 (a ||| b)).toNat
  rw [BitVec.toNat_ofNat, BitVec.toNat_ofNat, BitVec.toNat_ofNat, Nat.mod_eq_of_lt (by omega), Nat.mod_eq_of_lt (by omega), Nat.mod_eq_of_lt (by omega)]
theorem l_shl {n k : Nat} (hk : k < 64) : lN n <<< lN k = lN (n * 2 ^ k) := by
  apply Int64.toBitVec_inj.mp
  apply BitVec.eq_of_toNat_eq
  have hs : ((lN k).toBitVec.smod 64).toNat = k := (by decide +kernel : ∀ k, k < 64 → ((lN k).toBitVec.smod 64).toNat = k) k hk
  show ((lN n).toBitVec <<< ((lN k).toBitVec.smod 64).toNat).toNat = (BitVec.ofNat 64 (n * 2 ^ k)).toNat
  rw [hs, BitVec.toNat_shiftLeft, Nat.shiftLeft_eq, BitVec.toNat_ofNat]
  show (BitVec.ofNat 64 n).toNat * 2 ^ k % 2 ^ 64 = _
  rw [BitVec.toNat_ofNat, Nat.mod_mul_mod]
/-- so many bytes from a on -/
def nb (A : rn_AT) (a : Nat) : Nat → Nat
  | 0 => 0
  | e + 1 => nb A a e + aM A (a + e) * 2 ^ (8 * e)
theorem nb_lt {A : rn_AT} {a w : Nat} (ho : OKA A) (h : a + w ≤ 96) : ∀ {e}, e ≤ w → nb A a e < 2 ^ (8 * e) := by
  intro e
  induction e with
  | zero => intro _; exact Nat.one_pos
  | succ e ih =>
    intro he
    have h1 := ih (by omega)
    have h2 := ho.2.2.2.2.2.1 (a + e) (by omega)
    unfold nb
    rw [show 8 * (e + 1) = 8 * e + 8 by omega, Nat.pow_add]
    have h3 : aM A (a + e) * 2 ^ (8 * e) ≤ 255 * 2 ^ (8 * e) := Nat.mul_le_mul_right _ (by omega)
    omega
theorem cl_numL {S : rn_T} {A : rn_AT} {a w : Nat} (h : PS S A) (ho : OKA A) (hp : a + w ≤ 96) (hw : w ≤ 4) (f : rn_T → Int64 → Option Int64) : ∀ d i fu, i + d = w → d < fu → f117_L4 1 (nI a) (nI w) fu S (lN (nb A a i)) (nI i) f = f S (lN (nb A a w)) := by
  intro d
  induction d with
  | zero =>
    intro i fu hi hfu
    obtain ⟨G, rfl⟩ : ∃ G, fu = G + 1 := ⟨fu - 1, by omega⟩
    rw [f117_L4, if_pos (le_T (by omega) (by omega)), show i = w by omega]
  | succ d ih =>
    intro i fu hi hfu
    obtain ⟨G, rfl⟩ : ∃ G, fu = G + 1 := ⟨fu - 1, by omega⟩
    have hM : rA S 4 (a + i) = nI (aM A (a + i)) := h.2.2.2.2.1 (a + i) (by omega)
    have hb := ho.2.2.2.2.2.1 (a + i) (by omega)
    have h1 := nb_lt (A := A) (a := a) (w := w) ho hp (show i ≤ w by omega)
    have hpw : 2 ^ (8 * i) ≤ 2 ^ 24 := Nat.pow_le_pow_right (by omega) (by omega)
    have h3 : aM A (a + i) * 2 ^ (8 * i) ≤ 255 * 2 ^ 24 := Nat.mul_le_mul (by omega) hpw
    have hor : lN (nb A a i) ||| lN (aM A (a + i) * 2 ^ (8 * i)) = lN (nb A a (i + 1)) := by
      rw [l_or _ _ (by omega) (by omega)]
      congr 1
      show nb A a i ||| aM A (a + i) * 2 ^ (8 * i) = nb A a i + aM A (a + i) * 2 ^ (8 * i)
      rw [Nat.or_comm, Nat.add_comm (nb A a i), ← Nat.shiftLeft_eq]
      exact (Nat.shiftLeft_add_eq_or_of_lt h1 _).symm
    rw [f117_L4, if_neg (le_F (by omega) (by omega)), nI_add, if_neg (nI_pos (by omega)), if_neg (show ¬ (96 : Int32) ≤ nI (a + i) from nI_ge (show a + i < 96 by omega) (show 96 < 2 ^ 31 by omega)), if_pos (show rn_kd 1 = 1 from rfl), if_neg (ob_F (by omega) (by omega)), nI_clamp (by omega), hM, nI_l (by omega), l_amt (by omega), l_shl (by omega), hor, nI_p1]
    exact ih (i + 1) G (by omega) (by omega)
theorem rf_numL {M : rn_T} {A : rn_AT} {a w : Nat} (h : PM M A) (ho : OKA A) (hp : a + w ≤ 96) (hw : w ≤ 4) (f : rn_T → Int64 → Option Int64) : ∀ e y fu, e ≤ w → e < fu → nb A a e + y * 2 ^ (8 * e) = nb A a w → f95_L6 (nI a) fu M (lN y) (vk e) f = f M (lN (nb A a w)) := by
  have hlt := nb_lt (A := A) (a := a) (w := w) ho hp (Nat.le_refl w)
  have hpw : 2 ^ (8 * w) ≤ 2 ^ 32 := Nat.pow_le_pow_right (by omega) (by omega)
  intro e
  induction e with
  | zero =>
    intro y fu he hfu hy
    obtain ⟨G, rfl⟩ : ∃ G, fu = G + 1 := ⟨fu - 1, by omega⟩
    have : y = nb A a w := by
      have : nb A a 0 = 0 := rfl
      rw [this] at hy
      simpa using hy
    rw [f95_L6, if_pos (show vk 0 < 0 by decide), this]
  | succ e ih =>
    intro y fu he hfu hy
    obtain ⟨G, rfl⟩ : ∃ G, fu = G + 1 := ⟨fu - 1, by omega⟩
    have hM : rA M 346 (a + e) = nI (aM A (a + e)) := h.2.2.2.2.1 (a + e) (by omega)
    have hb := ho.2.2.2.2.2.1 (a + e) (by omega)
    have hy2 : nb A a e + (y * 2 ^ 8 + aM A (a + e)) * 2 ^ (8 * e) = nb A a w := by
      rw [← hy]
      show _ = nb A a e + aM A (a + e) * 2 ^ (8 * e) + y * 2 ^ (8 * (e + 1))
      rw [Nat.add_mul, show 8 * (e + 1) = 8 + 8 * e by omega, Nat.pow_add, Nat.mul_assoc]
      omega
    have hyb : y < 2 ^ 32 := by
      have h1 : y * 1 ≤ y * 2 ^ (8 * (e + 1)) := Nat.mul_le_mul_left y (Nat.one_le_two_pow)
      omega
    have hor : (lN y <<< ((8 : Int32).toInt64 &&& 63)) ||| lN (aM A (a + e)) = lN (y * 2 ^ 8 + aM A (a + e)) := by
      rw [show (8 : Int32).toInt64 &&& 63 = lN 8 by decide, l_shl (by omega), l_or _ _ (by omega) (by omega)]
      congr 1
      rw [← Nat.shiftLeft_eq]
      exact (Nat.shiftLeft_add_eq_or_of_lt (show aM A (a + e) < 2 ^ 8 by omega) _).symm
    rw [f95_L6, vk_c, if_neg (nI_pos (by omega)), nI_add, if_neg (ob_F (by omega) (by omega)), nI_clamp (by omega), hM, nI_l (by omega), hor, vk_s]
    exact ih _ G (by omega) (by omega) hy2
theorem ma_num {S M : rn_T} {A : rn_AT} {a w : Nat} (h : PS S A) (hm : PM M A) (ho : OKA A) (hp : a + w ≤ 96) (hw : w ≤ 4) : f117 S 1 (nI a) (nI w) = some (lN (nb A a w)) ∧ f95 M (nI a) (nI w) = some (lN (nb A a w)) ∧ nb A a w ≤ 4294967295 := by
  have hlt := nb_lt (A := A) (a := a) (w := w) ho hp (Nat.le_refl w)
  have hpw : 2 ^ (8 * w) ≤ 2 ^ 32 := Nat.pow_le_pow_right (by omega) (by omega)
  refine ⟨cl_numL h ho hp hw (fun S6 w6_3 => some w6_3) w 0 rn_FU (by omega) (by unfold rn_FU; omega), ?_, by omega⟩
  unfold f95
  have hv : nI w - (1 : Int32) = vk w := by
    rw [Int32.sub_eq_add_neg]
    exact vk_s
  rw [hv]
  exact rf_numL hm ho hp hw (fun M3 w3_3 => some w3_3) w 0 rn_FU (Nat.le_refl w) (by unfold rn_FU; omega) (by rw [Nat.zero_mul]; rfl)
