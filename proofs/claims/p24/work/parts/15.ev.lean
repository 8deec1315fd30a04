/-! runs of the abstract machine, row by row -/
theorem rn_x_up {X : rn_X} {dv : Nat → List Value} {ms : Nat → Option rn_M} : ∀ (f y : Nat) (s : rn_S) (out : Option Value × Nat × Nat × rn_H), rn_x X dv ms f y s = some out → ∀ g, f ≤ g → rn_x X dv ms g y s = some out := by
  intro f
  induction f with
  | zero => intro y s out hr; cases hr
  | succ f ih =>
    intro y s out hr g hg
    obtain ⟨g, rfl⟩ : ∃ g2, g = g2 + 1 := ⟨g - 1, by omega⟩
    obtain ⟨k, lv, st, N, sl, h⟩ := s
    unfold rn_x at hr ⊢
    cases hq : ms y with
    | none => rw [hq] at hr; cases hr
    | some q =>
      obtain ⟨nm, b, mL, rt, T, n, fr, lo, ini⟩ := q
      rw [hq] at hr
      simp only at hr ⊢
      cases he : T[k]? with
      | none => rw [he] at hr; cases hr
      | some e =>
        rw [he] at hr
        simp only at hr ⊢
        cases hs : rn_sp X dv e (k, rn_kp e.2.2.1 lv, st, N, sl, h) with
        | some s2 =>
          rw [hs] at hr
          simp only at hr ⊢
          exact ih _ _ _ hr g (by omega)
        | none =>
          rw [hs] at hr
          simp only at hr ⊢
          cases hv : rn_rt e.2.1 rt st with
          | some v =>
            rw [hv] at hr
            simp only at hr ⊢
            exact hr
          | none =>
            rw [hv] at hr
            simp only at hr ⊢
            cases hc : rn_cc e.2.1 e.2.2.2 with
            | none => rw [hc] at hr; cases hr
            | some zc =>
              obtain ⟨z, bb, c⟩ := zc
              rw [hc] at hr
              simp only at hr ⊢
              cases hz : ms z with
              | none => rw [hz] at hr; cases hr
              | some q2 =>
                obtain ⟨nm2, b2, mL2, rt2, T2, n2, fr2, lo2, ini2⟩ := q2
                rw [hz] at hr
                simp only at hr ⊢
                split at hr
                · cases hr
                · next hck =>
                  split at hr
                  · cases hr
                  · next v2 N2 sl2 h2 hzr =>
                    simp only [ih _ _ _ hzr g (by omega)]
                    exact ih _ _ _ hr g (by omega)
/-- the run from a state of method y comes to an end with that -/
def rn_rv (X : rn_X) (y : Nat) (s : rn_S) (out : Option Value × Nat × Nat × rn_H) : Prop := ∃ f, rn_x X rn_dv rn_ms f y s = some out
abbrev rn_tb (q : rn_M) : List rn_I := q.2.2.2.2.1
def rn_g1 (X : rn_X) (T : List rn_I) (s : rn_S) : Option rn_S := match T[s.1]? with
  | some e => rn_sp X rn_dv e (s.1, rn_kp e.2.2.1 s.2.1, s.2.2)
  | none => none
def rn_go (X : rn_X) (T : List rn_I) : Nat → rn_S → Option rn_S
  | 0, s => some s
  | n + 1, s => match rn_g1 X T s with
    | some s2 => rn_go X T n s2
    | none => none
section EV
variable {X : rn_X} {y k N sl : Nat} {q : rn_M} {lv : rn_L} {st : List Value} {h : rn_H} {out : Option Value × Nat × Nat × rn_H}
theorem rn_e1 (hq : rn_ms y = some q) {s s2 : rn_S} (hs : rn_g1 X (rn_tb q) s = some s2) (hn : rn_rv X y s2 out) : rn_rv X y s out := by
  obtain ⟨f, hf⟩ := hn
  obtain ⟨nm, b, mL, rt, T, n, fr, lo, ini⟩ := q
  refine ⟨f + 1, ?_⟩
  obtain ⟨k, lv, st, N, sl, h⟩ := s
  unfold rn_g1 at hs
  split at hs
  · next e he =>
    unfold rn_x
    rw [hq]
    simp only at he hs ⊢
    rw [he]
    simp only [hs]
    exact hf
  · cases hs
theorem rn_eg (hq : rn_ms y = some q) : ∀ (n : Nat) {s s2 : rn_S}, rn_go X (rn_tb q) n s = some s2 → rn_rv X y s2 out → rn_rv X y s out
  | 0, s, s2, hs, hn => by cases hs; exact hn
  | n + 1, s, s2, hs, hn => by
    unfold rn_go at hs
    split at hs
    · next s3 h3 => exact rn_e1 hq h3 (rn_eg hq n hs hn)
    · cases hs
theorem rn_ite {c : Prop} [Decidable c] {a b : Nat} {r : rn_L × List Value × Nat × Nat × rn_H} (ht : c → rn_rv X y (a, r) out) (hf : ¬ c → rn_rv X y (b, r) out) : rn_rv X y (if c then a else b, r) out := by
  by_cases hc : c
  · rw [if_pos hc]; exact ht hc
  · rw [if_neg hc]; exact hf hc
theorem rn_er (hq : rn_ms y = some q) {e : rn_I} (he : (rn_tb q)[k]? = some e) (hs : rn_sp X rn_dv e (k, rn_kp e.2.2.1 lv, st, N, sl, h) = none) {v : Option Value} (hr : rn_rt e.2.1 q.2.2.2.1 st = some v) : rn_rv X y (k, lv, st, N, sl, h) (v, N, sl, h) := by
  obtain ⟨nm, b, mL, rt, T, n, fr, lo, ini⟩ := q
  refine ⟨1, ?_⟩
  unfold rn_x
  rw [hq]
  simp only at he hr ⊢
  rw [he]
  simp only [hs, hr]
theorem rn_ec (hq : rn_ms y = some q) {e : rn_I} (he : (rn_tb q)[k]? = some e) (hs : rn_sp X rn_dv e (k, rn_kp e.2.2.1 lv, st, N, sl, h) = none) (hr : rn_rt e.2.1 q.2.2.2.1 st = none) {z c : Nat} {b : Bool} (hc : rn_cc e.2.1 e.2.2.2 = some (z, b, c)) {q2 : rn_M} (hz : rn_ms z = some q2) {as rest : List Value} (has : (st.take (q2.2.2.2.2.2.1 + (bif b then 1 else 0))).reverse = as) (hre : st.drop (q2.2.2.2.2.2.1 + (bif b then 1 else 0)) = rest)
    (hck : (Nat.ble (q2.2.2.2.2.2.2.1 + 1) q.2.2.2.2.2.2.1 && Nat.ble (19 + q2.2.2.1 + q2.2.2.2.2.2.2.2.1) q.2.2.2.2.2.2.2.1 && Nat.ble (q2.2.2.2.2.2.1 + (bif b then 1 else 0)) st.length && Nat.ble (rn_cs rest) 8 && Nat.ble (rn_cs as) q2.2.2.1) = true) (hrc : b = true → rn_rc h c as = true)
    {v : Option Value} {N1 sl1 : Nat} {h1 : rn_H} (hev : rn_rv X z (0, lv_args 0 as, [], N, sl, h) (v, N1, sl1, h1)) (hn : rn_rv X y (k + 1, rn_kp e.2.2.1 lv, v.toList ++ rest, N1, sl1, h1) out) : rn_rv X y (k, lv, st, N, sl, h) out := by
  obtain ⟨f1, hf1⟩ := hev
  obtain ⟨f2, hf2⟩ := hn
  obtain ⟨nm, bc, mL, rt, T, n, fr, lo, ini⟩ := q
  obtain ⟨nm2, b2, mL2, rt2, T2, n2, fr2, lo2, ini2⟩ := q2
  refine ⟨f1 + f2 + 1, ?_⟩
  unfold rn_x
  rw [hq]
  simp only at he hr has hre hck ⊢
  rw [he]
  simp only [hs, hr, hc, hz]
  have hrc2 : (!b || rn_rc h c (st.take (n2 + 1)).reverse) = true := by
    cases b with
    | false => rfl
    | true =>
      rw [Bool.not_true, Bool.false_or]
      have := hrc rfl
      rw [← has] at this
      exact this
  subst has
  subst hre
  have hck2 : (Nat.ble (fr2 + 1) fr && Nat.ble (19 + mL2 + lo2) lo && Nat.ble (n2 + (bif b then 1 else 0)) st.length && Nat.ble (rn_cs (st.drop (n2 + (bif b then 1 else 0)))) 8 && Nat.ble (rn_cs (st.take (n2 + (bif b then 1 else 0)))) mL2 && (!b || rn_rc h c (st.take (n2 + 1)).reverse)) = true := by
    rw [hrc2, Bool.and_true]
    rw [rn_cs_rev] at hck
    exact hck
  simp only [hck2]
  rw [rn_x_up _ _ _ _ hf1 (f1 + f2) (by omega)]
  exact rn_x_up _ _ _ _ hf2 (f1 + f2) (by omega)
end EV
/-! one row for each instruction that looks into entries, divides, or writes -/
abbrev rn_ob (i : Int32) (n : Nat) : Prop := i < 0 ∨ n ≤ i.toNatClampNeg
section EVR
variable {X : rn_X} {pc k N sl n : Nat} {T : List rn_I} {lv lv2 : rn_L} {st : List Value} {h h2 : rn_H} {kp : List Nat} {qa : Nat} {i : Int32}
theorem rn_g1_of {e : rn_I} {s2 : rn_S} (he : T[k]? = some e) (hl : rn_kp e.2.2.1 lv = lv2) (hs : rn_sp X rn_dv e (k, lv2, st, N, sl, h) = some s2) : rn_g1 X T (k, lv, st, N, sl, h) = some s2 := by
  unfold rn_g1
  rw [he]
  subst hl
  exact hs
theorem rn_g_iald {f : Nat → Int32} (he : T[k]? = some (pc, .iaload, kp, [])) (hl : rn_kp kp lv = lv2) (hq : h qa = .inl (0, n, .inl f)) (hin : ¬ rn_ob i n) : rn_g1 X T (k, lv, .int i :: .ref qa :: st, N, sl, h) = some (k + 1, lv2, .int (f i.toNatClampNeg) :: st, N, sl, h) := by
  refine rn_g1_of he hl ?_
  have : rn_ai 0 h (.int i :: .ref qa :: st) = some (.int (f i.toNatClampNeg) :: st) := by
    simp only [rn_ai, hq]
    exact if_neg hin
  simp only [rn_sp, rn_p, this]
theorem rn_g_bald {f : Nat → Int32} (he : T[k]? = some (pc, .baload, kp, [])) (hl : rn_kp kp lv = lv2) (hq : h qa = .inl (2, n, .inl f)) (hin : ¬ rn_ob i n) : rn_g1 X T (k, lv, .int i :: .ref qa :: st, N, sl, h) = some (k + 1, lv2, .int (f i.toNatClampNeg) :: st, N, sl, h) := by
  refine rn_g1_of he hl ?_
  have : rn_ai 2 h (.int i :: .ref qa :: st) = some (.int (f i.toNatClampNeg) :: st) := by
    simp only [rn_ai, hq]
    exact if_neg hin
  simp only [rn_sp, rn_p, this]
theorem rn_g_lald {f : Nat → Int64} (he : T[k]? = some (pc, .laload, kp, [])) (hl : rn_kp kp lv = lv2) (hq : h qa = .inl (1, n, .inr (.inl f))) (hin : ¬ rn_ob i n) : rn_g1 X T (k, lv, .int i :: .ref qa :: st, N, sl, h) = some (k + 1, lv2, .long (f i.toNatClampNeg) :: st, N, sl, h) := by
  refine rn_g1_of he hl ?_
  have : rn_aj h (.int i :: .ref qa :: st) = some (.long (f i.toNatClampNeg) :: st) := by
    simp only [rn_aj, hq, if_neg hin]
  simp only [rn_sp, rn_p, this]
theorem rn_g_aald {t : Nat} {f : Nat → Option Nat} {r : Option Nat} (he : T[k]? = some (pc, .aaload, kp, [t])) (hl : rn_kp kp lv = lv2) (hq : h qa = .inl (t, n, .inr (.inr (.inr (.inr f))))) (hin : ¬ rn_ob i n) (hv : f i.toNatClampNeg = r) : rn_g1 X T (k, lv, .int i :: .ref qa :: st, N, sl, h) = some (k + 1, lv2, va_rf r :: st, N, sl, h) := by
  refine rn_g1_of he hl ?_
  have hb : Nat.beq t t = true := by simp
  have : rn_aa t h (.int i :: .ref qa :: st) = some (va_rf r :: st) := by
    simp only [rn_aa, hq, hb, if_neg hin, hv]
  simp only [rn_sp, rn_p, this]
theorem rn_g_getf {c kf w idx : Nat} {fs : List Value} {v : Value} (he : T[k]? = some (pc, .getfield idx, kp, [c, kf, w])) (hl : rn_kp kp lv = lv2) (hq : h qa = .inr (c, fs)) (hv : fs[kf]? = some v) : rn_g1 X T (k, lv, .ref qa :: st, N, sl, h) = some (k + 1, lv2, v :: st, N, sl, h) := by
  refine rn_g1_of he hl ?_
  have hb : Nat.beq c c = true := by simp
  have : rn_gf c kf h (.ref qa :: st) = some (v :: st) := by
    simp only [rn_gf, hq, hb, hv]
  simp only [rn_sp, rn_p, this]
theorem rn_g_putf {c kf w idx ty : Nat} {fs fs2 : List Value} {v : Value} (he : T[k]? = some (pc, .putfield idx, kp, [c, kf, ty, w])) (hl : rn_kp kp lv = lv2) (hq : h qa = .inr (c, fs)) (hty : rn_ty ty v = true) (hk : Nat.blt kf fs.length = true) (hfs : fs.set kf v = fs2) (hh : rn_up h qa (.inr (c, fs2)) = h2) : rn_g1 X T (k, lv, v :: .ref qa :: st, N, sl, h) = some (k + 1, lv2, st, N, sl, h2) := by
  refine rn_g1_of he hl ?_
  have hb : Nat.beq c c = true := by simp
  have : rn_w (.putfield idx) [c, kf, ty, w] (v :: .ref qa :: st) h = some (st, h2) := by
    simp only [rn_w, hq, hb, hty, hk, hfs, hh]
  simp only [rn_sp]
  rw [show rn_p X (.putfield idx) [c, kf, ty, w] lv2 (v :: .ref qa :: st) h = none from rfl, show rn_b (.putfield idx) [c, kf, ty, w] (k + 1) (v :: .ref qa :: st) = none from rfl, show rn_l (.putfield idx) [c, kf, ty, w] lv2 (v :: .ref qa :: st) = none from rfl]
  simp only [this]
theorem rn_g_iast {f : Nat → Int32} {x : Int32} (he : T[k]? = some (pc, .iastore, kp, [])) (hl : rn_kp kp lv = lv2) (hq : h qa = .inl (0, n, .inl f)) (hin : ¬ rn_ob i n) (hh : rn_up h qa (.inl (0, n, .inl (upd f i.toNatClampNeg x))) = h2) : rn_g1 X T (k, lv, .int x :: .int i :: .ref qa :: st, N, sl, h) = some (k + 1, lv2, st, N, sl, h2) := by
  refine rn_g1_of he hl ?_
  have : rn_w .iastore [] (.int x :: .int i :: .ref qa :: st) h = some (st, h2) := by
    simp only [rn_w, hq, if_neg hin, hh]
  simp only [rn_sp]
  rw [show rn_p X .iastore [] lv2 (.int x :: .int i :: .ref qa :: st) h = none from rfl, show rn_b .iastore [] (k + 1) (.int x :: .int i :: .ref qa :: st) = none from rfl, show rn_l .iastore [] lv2 (.int x :: .int i :: .ref qa :: st) = none from rfl]
  simp only [this]
theorem rn_g_bast {f : Nat → Int32} {x : Int32} (he : T[k]? = some (pc, .bastore, kp, [])) (hl : rn_kp kp lv = lv2) (hq : h qa = .inl (2, n, .inl f)) (hin : ¬ rn_ob i n) (h01 : x = 0 ∨ x = 1) (hh : rn_up h qa (.inl (2, n, .inl (upd f i.toNatClampNeg x))) = h2) : rn_g1 X T (k, lv, .int x :: .int i :: .ref qa :: st, N, sl, h) = some (k + 1, lv2, st, N, sl, h2) := by
  refine rn_g1_of he hl ?_
  have : rn_w .bastore [] (.int x :: .int i :: .ref qa :: st) h = some (st, h2) := by
    simp only [rn_w, hq, if_neg hin, if_pos h01, hh]
  simp only [rn_sp]
  rw [show rn_p X .bastore [] lv2 (.int x :: .int i :: .ref qa :: st) h = none from rfl, show rn_b .bastore [] (k + 1) (.int x :: .int i :: .ref qa :: st) = none from rfl, show rn_l .bastore [] lv2 (.int x :: .int i :: .ref qa :: st) = none from rfl]
  simp only [this]
theorem rn_g_last {f : Nat → Int64} {x : Int64} (he : T[k]? = some (pc, .lastore, kp, [])) (hl : rn_kp kp lv = lv2) (hq : h qa = .inl (1, n, .inr (.inl f))) (hin : ¬ rn_ob i n) (hh : rn_up h qa (.inl (1, n, .inr (.inl (vp_updL f i.toNatClampNeg x)))) = h2) : rn_g1 X T (k, lv, .long x :: .int i :: .ref qa :: st, N, sl, h) = some (k + 1, lv2, st, N, sl, h2) := by
  refine rn_g1_of he hl ?_
  have : rn_w .lastore [] (.long x :: .int i :: .ref qa :: st) h = some (st, h2) := by
    simp only [rn_w, hq, if_neg hin, hh]
  simp only [rn_sp]
  rw [show rn_p X .lastore [] lv2 (.long x :: .int i :: .ref qa :: st) h = none from rfl, show rn_b .lastore [] (k + 1) (.long x :: .int i :: .ref qa :: st) = none from rfl, show rn_l .lastore [] lv2 (.long x :: .int i :: .ref qa :: st) = none from rfl]
  simp only [this]
theorem rn_g_aast {t c v : Nat} {f : Nat → Option Nat} {vs : List Value} (he : T[k]? = some (pc, .aastore, kp, [t, c])) (hl : rn_kp kp lv = lv2) (hq : h qa = .inl (t, n, .inr (.inr (.inr (.inr f))))) (hv : h v = .inr (c, vs)) (hin : ¬ rn_ob i n) (hh : rn_up h qa (.inl (t, n, .inr (.inr (.inr (.inr (va_up f i.toNatClampNeg (some v))))))) = h2) : rn_g1 X T (k, lv, .ref v :: .int i :: .ref qa :: st, N, sl, h) = some (k + 1, lv2, st, N, sl, h2) := by
  refine rn_g1_of he hl ?_
  have hb : Nat.beq c c = true := by simp
  have hb2 : Nat.beq t t = true := by simp
  have : rn_w .aastore [t, c] (.ref v :: .int i :: .ref qa :: st) h = some (st, h2) := by
    simp only [rn_w, hq, hb, hb2, hv, if_neg hin, hh]
  simp only [rn_sp]
  rw [show rn_p X .aastore [t, c] lv2 (.ref v :: .int i :: .ref qa :: st) h = none from rfl, show rn_b .aastore [t, c] (k + 1) (.ref v :: .int i :: .ref qa :: st) = none from rfl, show rn_l .aastore [t, c] lv2 (.ref v :: .int i :: .ref qa :: st) = none from rfl]
  simp only [this]
theorem rn_g_idiv {x z : Int32} (he : T[k]? = some (pc, .idiv, kp, [])) (hl : rn_kp kp lv = lv2) (hz : ¬ z = 0) : rn_g1 X T (k, lv, .int z :: .int x :: st, N, sl, h) = some (k + 1, lv2, .int (x / z) :: st, N, sl, h) := by
  refine rn_g1_of he hl ?_
  simp only [rn_sp, rn_p, rn_id, if_neg hz]
theorem rn_g_irem {x z : Int32} (he : T[k]? = some (pc, .irem, kp, [])) (hl : rn_kp kp lv = lv2) (hz : ¬ z = 0) : rn_g1 X T (k, lv, .int z :: .int x :: st, N, sl, h) = some (k + 1, lv2, .int (x - x / z * z) :: st, N, sl, h) := by
  refine rn_g1_of he hl ?_
  simp only [rn_sp, rn_p, rn_id, if_neg hz]
theorem rn_g_sald (he : T[k]? = some (pc, .iaload, kp, [1])) (hl : rn_kp kp lv = lv2) (hin : ¬ rn_ob i X.1) : rn_g1 X T (k, lv, .int i :: .ref 1000000 :: st, N, sl, h) = some (k + 1, lv2, .int (X.2 i.toNatClampNeg) :: st, N, sl, h) := by
  refine rn_g1_of he hl ?_
  have : rn_sl X (.int i :: .ref 1000000 :: st) = some (.int (X.2 i.toNatClampNeg) :: st) := by
    simp only [rn_sl, if_neg hin]
  simp only [rn_sp, rn_p, this]
end EVR
