/-! the runs of the machine on numbers are runs of the abstract machine -/
theorem pe_lkpk {i : Nat} {lv : rn_L} : ∀ {ks : List Nat} {w : Value}, i ∈ ks → rn_lk i lv = some w → rn_lk i (rn_pk lv ks) = some w
  | [], _, h, _ => absurd h List.not_mem_nil
  | j :: t, w, h, hw => by
    unfold rn_pk
    by_cases e : j = i
    · subst e
      rw [hw]
      show rn_lk j ((j, w) :: _) = _
      rw [pe_lk_c, if_pos rfl]
    · have ht : i ∈ t := by
        rcases List.mem_cons.mp h with g | g
        · exact absurd g.symm e
        · exact g
      have ih := pe_lkpk ht hw
      cases hj : rn_lk j lv with
      | none => exact ih
      | some v =>
        show rn_lk i ((j, v) :: rn_pk lv t) = _
        rw [pe_lk_c, if_neg e]; exact ih
theorem pe_lg_pk {L i : Nat} : ∀ {ks : List Nat}, pe_lg (pe_pk L ks) i ≠ 0 → i ∈ ks ∧ pe_lg (pe_pk L ks) i = pe_lg L i
  | [], h => absurd pe_lg_0 h
  | j :: t, h => by
    have e : pe_pk L (j :: t) = pe_ls (pe_pk L t) j (pe_lg L j) := rfl
    rw [e, pe_lg_ls pe_lg_lt] at h ⊢
    by_cases g : i = j
    · subst g
      rw [if_pos rfl]; exact ⟨List.mem_cons_self, rfl⟩
    · rw [if_neg g] at h ⊢
      obtain ⟨a, b⟩ := pe_lg_pk h
      exact ⟨List.mem_cons_of_mem _ a, b⟩
theorem pe_RL_kp {σ : Nat → Value} {L : Nat} {lv : rn_L} {ks : List Nat} (hL : pe_RL σ L lv) : pe_RL σ (pe_kp ks L) (rn_kp ks lv) := by
  cases ks with
  | nil => exact hL
  | cons j t =>
    intro i hi
    obtain ⟨a, b⟩ := pe_lg_pk (ks := j :: t) hi
    show rn_lk i (rn_pk lv (j :: t)) = some (pe_dv σ (pe_lg (pe_pk L (j :: t)) i))
    rw [b]
    exact pe_lkpk a (hL i (by rw [← b]; exact hi))
/-- the same step with the locals kept -/
def pe_E (ks : List Nat) (g g2 : pe_K) : Prop := ∀ L st c N J, g2 L st c N J = g (pe_kp ks L) st c N J
theorem pe_fk_inv {ks : List Nat} {g : pe_K} {o : pe_O} (h : pe_fk ks g = some o) : ∃ g2, o = .inl g2 ∧ pe_E ks g g2 := by
  cases ks with
  | nil => cases h; exact ⟨g, rfl, fun _ _ _ _ _ => rfl⟩
  | cons i t => cases h; exact ⟨_, rfl, fun _ _ _ _ _ => rfl⟩
theorem pe_f_inv {n pc : Nat} {i : Instr} {ks ax : List Nat} {o : pe_O} (h : pe_f n (pc, i, ks, ax) = some o) :
    (∃ g g2, pe_p n i ax = some g ∧ o = .inl g2 ∧ pe_E ks g g2) ∨ (∃ g g2, pe_b i ax = some g ∧ o = .inl g2 ∧ pe_E ks g g2) ∨ (∃ g g2, pe_l i ax = some g ∧ o = .inl g2 ∧ pe_E ks g g2) ∨ (∃ g g2, pe_w n i ax = some g ∧ o = .inl g2 ∧ pe_E ks g g2) ∨ (∃ r, rn_cc i ax = some r ∧ o = .inr (.inr r)) ∨ o = .inr (.inl ()) := by
  unfold pe_f at h
  simp only at h
  split at h
  · next g hg => obtain ⟨g2, a, b⟩ := pe_fk_inv h; exact Or.inl ⟨g, g2, hg, a, b⟩
  · split at h
    · next g hg => obtain ⟨g2, a, b⟩ := pe_fk_inv h; exact Or.inr (Or.inl ⟨g, g2, hg, a, b⟩)
    · split at h
      · next g hg => obtain ⟨g2, a, b⟩ := pe_fk_inv h; exact Or.inr (Or.inr (Or.inl ⟨g, g2, hg, a, b⟩))
      · split at h
        · next g hg => obtain ⟨g2, a, b⟩ := pe_fk_inv h; exact Or.inr (Or.inr (Or.inr (Or.inl ⟨g, g2, hg, a, b⟩)))
        · split at h
          · next r hr => cases h; exact Or.inr (Or.inr (Or.inr (Or.inr (Or.inl ⟨r, hr, rfl⟩))))
          · split at h
            · cases h; exact Or.inr (Or.inr (Or.inr (Or.inr (Or.inr rfl))))
            · cases h; exact Or.inr (Or.inr (Or.inr (Or.inr (Or.inr rfl))))
            · cases h; exact Or.inr (Or.inr (Or.inr (Or.inr (Or.inr rfl))))
            · cases h; exact Or.inr (Or.inr (Or.inr (Or.inr (Or.inr rfl))))
            · cases h
theorem pe_b_np {i : Instr} {ax : List Nat} {g : pe_K} (h : pe_b i ax = some g) {X : rn_X} {lv : rn_L} {st : List Value} {hh : rn_H} : rn_p X i ax lv st hh = none := by
  cases ax with
  | nil => cases h
  | cons t ts =>
    cases i
    all_goals (first | rfl | exact absurd (show (none : Option pe_K) = some g from h) (fun q => by cases q))
theorem pe_l_np {i : Instr} {ax : List Nat} {g : pe_K} (h : pe_l i ax = some g) {X : rn_X} {k : Nat} {lv : rn_L} {st : List Value} {hh : rn_H} : rn_p X i ax lv st hh = none ∧ rn_b i ax k st = none := by
  cases i
  all_goals (try (exact absurd (show (none : Option pe_K) = some g from h) (fun q => by cases q)))
  all_goals (refine ⟨rfl, ?_⟩)
  all_goals (cases ax <;> rfl)
theorem pe_w_np {n : Nat} {i : Instr} {ax : List Nat} {g : pe_K} (h : pe_w n i ax = some g) {X : rn_X} {k : Nat} {lv : rn_L} {st : List Value} {hh : rn_H} : rn_p X i ax lv st hh = none ∧ rn_b i ax k st = none ∧ rn_l i ax lv st = none := by
  cases i
  all_goals (try (exact absurd (show (none : Option pe_K) = some g from h) (fun q => by cases q)))
  all_goals (refine ⟨rfl, ?_, rfl⟩)
  all_goals (cases ax <;> rfl)
theorem pe_cc_np {i : Instr} {ax : List Nat} {r : Nat × Bool × Nat} (h : rn_cc i ax = some r) {X : rn_X} {pc k N sl : Nat} {ks : List Nat} {lv : rn_L} {st : List Value} {hh : rn_H} {rt : Option FieldType} : rn_sp X rn_dv (pc, i, ks, ax) (k, lv, st, N, sl, hh) = none ∧ rn_rt i rt st = none := by
  cases i
  all_goals (try (exact absurd (show (none : Option (Nat × Bool × Nat)) = some r from h) (fun q => by cases q)))
  all_goals (refine ⟨?_, rfl⟩)
  all_goals (simp only [rn_cc] at h)
  all_goals (split at h <;> first | rfl | (cases h; done))
abbrev pe_AF : Type := Nat × Nat × rn_L × List Value
def pe_FM (σ : Nat → Value) : List pe_G → List pe_AF → Prop
  | [], [] => True
  | g :: fs, a :: as => a.1 = g.1 ∧ g.2.1 = (pe_tb g.1).drop a.2.1 ∧ pe_RL σ g.2.2.1 a.2.2.1 ∧ a.2.2.2 = g.2.2.2.map (pe_dv σ) ∧ pe_FM σ fs as
  | _, _ => False
abbrev pe_Out : Type := Option Value × Nat × Nat × rn_H
/-- a run with those that wait comes to that end -/
def pe_Q (X : rn_X) (N sl : Nat) : List pe_AF → Nat → Nat → rn_L → List Value → rn_H → pe_Out → Prop
  | [], y, k, lv, st, h, out => rn_rv X y (k, lv, st, N, sl, h) out
  | a :: as, y, k, lv, st, h, out => ∃ v h1, rn_rv X y (k, lv, st, N, sl, h) (v, N, sl, h1) ∧ pe_Q X N sl as a.1 a.2.1 a.2.2.1 (v.toList ++ a.2.2.2) h1 out
section RUN
variable {X : rn_X} {N sl y k : Nat} {q : rn_M} {lv : rn_L} {st : List Value} {h : rn_H} {out : pe_Out} {as : List pe_AF}
theorem pe_Q_e1 (hq : rn_ms y = some q) {k2 : Nat} {lv2 : rn_L} {st2 : List Value} {h2 : rn_H} (hs : rn_g1 X (rn_tb q) (k, lv, st, N, sl, h) = some (k2, lv2, st2, N, sl, h2)) (hn : pe_Q X N sl as y k2 lv2 st2 h2 out) : pe_Q X N sl as y k lv st h out := by
  cases as with
  | nil => exact rn_e1 hq hs hn
  | cons a as =>
    obtain ⟨v, h1, g1, g2⟩ := hn
    exact ⟨v, h1, rn_e1 hq hs g1, g2⟩
theorem pe_Q_ec (hq : rn_ms y = some q) {e : rn_I} (he : (rn_tb q)[k]? = some e) (hs : rn_sp X rn_dv e (k, rn_kp e.2.2.1 lv, st, N, sl, h) = none) (hr : rn_rt e.2.1 q.2.2.2.1 st = none) {z c : Nat} {b : Bool} (hc : rn_cc e.2.1 e.2.2.2 = some (z, b, c)) {q2 : rn_M} (hz : rn_ms z = some q2) {ar rest : List Value} (has : (st.take (q2.2.2.2.2.2.1 + (bif b then 1 else 0))).reverse = ar) (hre : st.drop (q2.2.2.2.2.2.1 + (bif b then 1 else 0)) = rest)
    (hck : (Nat.ble (q2.2.2.2.2.2.2.1 + 1) q.2.2.2.2.2.2.1 && Nat.ble (19 + q2.2.2.1 + q2.2.2.2.2.2.2.2.1) q.2.2.2.2.2.2.2.1 && Nat.ble (q2.2.2.2.2.2.1 + (bif b then 1 else 0)) st.length && Nat.ble (rn_cs rest) 8 && Nat.ble (rn_cs ar) q2.2.2.1) = true) (hrc : b = true → rn_rc h c ar = true)
    {v : Option Value} {h1 : rn_H} (hev : rn_rv X z (0, lv_args 0 ar, [], N, sl, h) (v, N, sl, h1)) (hn : pe_Q X N sl as y (k + 1) (rn_kp e.2.2.1 lv) (v.toList ++ rest) h1 out) : pe_Q X N sl as y k lv st h out := by
  cases as with
  | nil => exact rn_ec hq he hs hr hc hz has hre hck hrc hev hn
  | cons a as =>
    obtain ⟨v2, h2, g1, g2⟩ := hn
    exact ⟨v2, h2, rn_ec hq he hs hr hc hz has hre hck hrc hev g1, g2⟩
end RUN
/-- what a result of a run tells, P being what is to be shown of its end -/
def pe_fin (σ : Nat → Value) (n : Nat) (B : rn_T) (h0 : rn_H) (X : rn_X) (N sl : Nat) (P : pe_Out → Prop) (res : pe_R) : Prop := match res with
  | .inl (y, suf, L, st, c, fs) => ∃ (k : Nat) (lv : rn_L) (h : rn_H) (as : List pe_AF), suf = (pe_tb y).drop k ∧ pe_RL σ L lv ∧ pe_HR n c B h0 h ∧ pe_FM σ fs as ∧ ∀ out, pe_Q X N sl as y k lv (st.map (pe_dv σ)) h out → P out
  | .inr (.inl (y, suf, L, st, c, fs)) => ∃ (k : Nat) (lv : rn_L) (h : rn_H) (as : List pe_AF), suf = (pe_tb y).drop k ∧ pe_RL σ L lv ∧ pe_HR n c B h0 h ∧ pe_FM σ fs as ∧ ∀ out, pe_Q X N sl as y k lv (st.map (pe_dv σ)) h out → P out
  | .inr (.inr (vs, c)) => ∃ (v : Option Value) (h : rn_H), vs.map (pe_dv σ) = v.toList ∧ pe_HR n c B h0 h ∧ P (v, N, sl, h)
theorem pe_fin_m {σ : Nat → Value} {n : Nat} {B : rn_T} {h0 : rn_H} {X : rn_X} {N sl : Nat} {P P2 : pe_Out → Prop} (hP : ∀ out, P out → P2 out) {res : pe_R} (h : pe_fin σ n B h0 X N sl P res) : pe_fin σ n B h0 X N sl P2 res := by
  rcases res with ⟨y, suf, L, st, c, fs⟩ | ⟨y, suf, L, st, c, fs⟩ | ⟨vs, c⟩
  · obtain ⟨k, lv, h1, as, a, b, d, e, f⟩ := h
    exact ⟨k, lv, h1, as, a, b, d, e, fun out g => hP out (f out g)⟩
  · obtain ⟨k, lv, h1, as, a, b, d, e, f⟩ := h
    exact ⟨k, lv, h1, as, a, b, d, e, fun out g => hP out (f out g)⟩
  · obtain ⟨v, h1, a, b, d⟩ := h
    exact ⟨v, h1, a, b, hP _ d⟩
/-- what was found of a call holds -/
def pe_Wok (σ : Nat → Value) (n : Nat) (B : rn_T) (h0 : rn_H) (X : rn_X) (N sl : Nat) (w : pe_W) : Prop := ∀ (as : List Nat) (c : Nat) (h : rn_H), (∃ q, rn_ms w.1 = some q) → pe_le as w.2.1 = true → Nat.beq (Nat.land c w.2.2.1.2) w.2.2.1.1 = true → pe_HR n c B h0 h → ∃ v h2, rn_rv X w.1 (0, lv_args 0 (as.map (pe_dv σ)), [], N, sl, h) (v, N, sl, h2) ∧ w.2.2.2.1.map (pe_dv σ) = v.toList ∧ pe_HR n (Nat.xor (Nat.xor c (Nat.land c w.2.2.2.2.2)) w.2.2.2.2.1) B h0 h2
def pe_good (σ : Nat → Value) (n : Nat) (B : rn_T) (h0 : rn_H) (X : rn_X) (N sl : Nat) (f : pe_X) : Prop := ∀ (y : Nat) (L : Nat) (st : List Nat) (c : Nat) (fs : List pe_G) (res : pe_R) (k : Nat) (lv : rn_L) (h : rn_H) (as : List pe_AF), pe_RL σ L lv → pe_HR n c B h0 h → pe_FM σ fs as → f y ((pe_tb y).drop k) L st c fs = some res → pe_fin σ n B h0 X N sl (pe_Q X N sl as y k lv (st.map (pe_dv σ)) h) res
theorem pe_tb_of {y k : Nat} {e : rn_I} {rest : List rn_I} (h : (pe_tb y).drop k = e :: rest) : ∃ q, rn_ms y = some q ∧ (rn_tb q)[k]? = some e ∧ rest = (pe_tb y).drop (k + 1) ∧ pe_tb y = rn_tb q := by
  unfold pe_tb at h ⊢
  cases hq : rn_ms y with
  | none => rw [hq] at h; simp at h
  | some q =>
    rw [hq] at h
    simp only at h ⊢
    refine ⟨q, rfl, ?_, ?_, rfl⟩
    · have := List.getElem?_drop (xs := rn_tb q) (i := k) (j := 0)
      rw [h] at this
      simpa using this.symm
    · have := List.drop_drop (l := rn_tb q) (i := 1) (j := k)
      rw [h] at this
      simpa [Nat.add_comm] using this
theorem pe_sp_of : ∀ {m : Nat} {st acc as r : List Nat}, pe_sp m st acc = some (as, r) → m ≤ st.length ∧ as = (st.take m).reverse ++ acc ∧ r = st.drop m
  | 0, st, acc, as, r, h => by
    have h : some (acc, st) = some (as, r) := h
    cases h
    exact ⟨Nat.zero_le _, by simp, by simp⟩
  | m + 1, [], acc, as, r, h => by
    have h : (none : Option (List Nat × List Nat)) = some (as, r) := h
    cases h
  | m + 1, x :: st, acc, as, r, h => by
    have h : pe_sp m st (x :: acc) = some (as, r) := h
    obtain ⟨a, b, d⟩ := pe_sp_of h
    refine ⟨by simpa using a, ?_, by simpa using d⟩
    rw [b]
    simp
theorem pe_av_c {v : Nat} {r : List Nat} (h : pe_av (v :: r) = true) : v < 4722366482869645213696 ∧ (v % 8 = 1 ∨ v % 8 = 2 ∨ v % 8 = 3 ∨ v % 8 = 4) ∧ pe_av r = true := by
  have h : pe_if (pe_i v) (pe_av r) (pe_if (Nat.ble v 4722366482869645213695) (pe_if (pe_a v) (pe_av r) (pe_if (pe_j v) (pe_av r) false)) false) = true := h
  simp only [pe_if_eq] at h
  by_cases h1 : pe_i v = true
  · rw [if_pos h1] at h
    have := pe_i_of h1
    exact ⟨by omega, Or.inl this.1, h⟩
  · rw [if_neg h1] at h
    by_cases h2 : Nat.ble v 4722366482869645213695 = true
    · rw [if_pos h2] at h
      have h2 := Nat.le_of_ble_eq_true h2
      by_cases h3 : pe_a v = true
      · rw [if_pos h3] at h
        have := pe_a_of h3
        exact ⟨by omega, by omega, h⟩
      · rw [if_neg h3] at h
        by_cases h4 : pe_j v = true
        · rw [if_pos h4] at h
          have := pe_j_of h4
          exact ⟨by omega, Or.inr (Or.inl this.1), h⟩
        · rw [if_neg h4] at h; cases h
    · rw [if_neg h2] at h; cases h
theorem pe_ct_cat {σ : Nat → Value} {v : Nat} (h : v % 8 = 1 ∨ v % 8 = 2 ∨ v % 8 = 3 ∨ v % 8 = 4) (j : Nat) : (if (pe_dv σ v).category = 2 then j + 2 else j + 1) = Nat.add j (pe_ct v) := by
  show _ = j + pe_ct v
  rw [pe_ct_eq]
  rcases h with h | h | h | h
  · rw [if_neg (show ¬ v % 8 = 2 by omega), if_neg (show ¬ v % 8 = 5 by omega), pe_dv1 h]; rfl
  · rw [if_pos h, pe_dv2 h]; rfl
  · rw [if_neg (show ¬ v % 8 = 2 by omega), if_neg (show ¬ v % 8 = 5 by omega), pe_dv3 h]; rfl
  · rw [if_neg (show ¬ v % 8 = 2 by omega), if_neg (show ¬ v % 8 = 5 by omega), pe_dv4 h]; rfl
theorem pe_RL_ar {σ : Nat → Value} : ∀ {as : List Nat} (j : Nat), pe_av as = true → pe_RL σ (pe_ar j as) (lv_args j (as.map (pe_dv σ)))
  | [], j, _ => fun i hi => absurd pe_lg_0 hi
  | v :: r, j, h => by
    obtain ⟨h1, h2, h3⟩ := pe_av_c h
    intro i hi
    have e : pe_ar j (v :: r) = pe_ls (pe_ar (Nat.add j (pe_ct v)) r) j v := rfl
    rw [e, pe_lg_ls h1] at hi ⊢
    rw [List.map_cons]
    show rn_lk i ((j, pe_dv σ v) :: lv_args (if (pe_dv σ v).category = 2 then j + 2 else j + 1) (r.map (pe_dv σ))) = _
    rw [pe_lk_c]
    by_cases g : i = j
    · subst g; rw [if_pos rfl, if_pos rfl]
    · rw [if_neg g] at hi ⊢
      rw [if_neg (fun e => g e.symm), pe_ct_cat h2]
      exact pe_RL_ar (Nat.add j (pe_ct v)) h3 i hi
theorem pe_rt_of {σ : Nat → Value} {y : Nat} {q : rn_M} {i : Instr} {st vs : List Nat} (hq : rn_ms y = some q) (h : pe_rt (pe_rk y i) st = some vs) : ∃ v, rn_rt i q.2.2.2.1 (st.map (pe_dv σ)) = some v ∧ vs.map (pe_dv σ) = v.toList ∧ ∀ (X : rn_X) (pc k N sl : Nat) (ks ax : List Nat) (lv : rn_L) (s : List Value) (hh : rn_H), rn_cc i ax = none ∧ rn_sp X rn_dv (pc, i, ks, ax) (k, lv, s, N, sl, hh) = none := by
  have hr : ∀ {b : Nat → Bool} {st vs : List Nat}, pe_r1 b st = some vs → ∃ x, st = [x] ∧ vs = [x] ∧ b x = true := by
    intro b st vs h
    match st, h with
    | [], h => cases h
    | [x], h =>
      have h : @Bool.rec (fun _ => Option (List Nat)) none (some [x]) (b x) = some vs := h
      cases hb : b x with
      | false => rw [hb] at h; cases h
      | true => rw [hb] at h; cases h; exact ⟨x, rfl, rfl, hb⟩
    | _ :: _ :: _, h => cases h
  obtain ⟨nm, bb, mL, rt, T, rest⟩ := q
  unfold pe_rk at h
  rw [hq] at h
  simp only at h ⊢
  split at h
  · cases st with
    | nil =>
      have h : some ([] : List Nat) = some vs := h
      cases h
      exact ⟨none, rfl, rfl, fun X pc k N sl ks ax lv s hh => by cases ax <;> exact ⟨rfl, rfl⟩⟩
    | cons a b =>
      have h : (none : Option (List Nat)) = some vs := h
      cases h
  · obtain ⟨x, rfl, rfl, hb⟩ := hr h
    have hx := (pe_i_of hb).1
    exact ⟨some (.int (pe_dI x)), by rw [List.map_cons, pe_dv1 hx]; rfl, by rw [List.map_cons, pe_dv1 hx]; rfl, fun X pc k N sl ks ax lv s hh => by cases ax <;> exact ⟨rfl, rfl⟩⟩
  · obtain ⟨x, rfl, rfl, hb⟩ := hr h
    obtain ⟨hx, -, h01⟩ := pe_01_v hb
    exact ⟨some (.int (pe_dI x)), by rw [List.map_cons, pe_dv1 hx]; exact if_pos h01, by rw [List.map_cons, pe_dv1 hx]; rfl, fun X pc k N sl ks ax lv s hh => by cases ax <;> exact ⟨rfl, rfl⟩⟩
  · obtain ⟨x, rfl, rfl, hb⟩ := hr h
    have hx := (pe_j_of hb).1
    exact ⟨some (.long (pe_dJ x)), by rw [List.map_cons, pe_dv2 hx]; rfl, by rw [List.map_cons, pe_dv2 hx]; rfl, fun X pc k N sl ks ax lv s hh => by cases ax <;> exact ⟨rfl, rfl⟩⟩
  · obtain ⟨x, rfl, rfl, hb⟩ := hr h
    have hx : x % 8 = 3 := pe_beq hb
    exact ⟨some (.ref (x / 8)), by rw [List.map_cons, pe_dv3 hx]; rfl, by rw [List.map_cons, pe_dv3 hx]; rfl, fun X pc k N sl ks ax lv s hh => by cases ax <;> exact ⟨rfl, rfl⟩⟩
  · cases h
