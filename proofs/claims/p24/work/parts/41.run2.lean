/-! a step, many steps -/
section RUN2
variable {σ : Nat → Value} {n : Nat} {B : rn_T} {h0 : rn_H} {X : rn_X} {N sl : Nat}
theorem pe_fin_s {y k : Nat} {L : Nat} {lv : rn_L} {st : List Nat} {c : Nat} {fs : List pe_G} {h : rn_H} {as : List pe_AF} (hL : pe_RL σ L lv) (hH : pe_HR n c B h0 h) (hF : pe_FM σ fs as) : pe_fin σ n B h0 X N sl (pe_Q X N sl as y k lv (st.map (pe_dv σ)) h) (.inl (y, (pe_tb y).drop k, L, st, c, fs)) := ⟨k, lv, h, as, rfl, hL, hH, hF, fun _ g => g⟩
theorem pe_nx_ok {f : pe_X} (hf : pe_good σ n B h0 X N sl f) {stops : List Nat} {y k : Nat} {L : Nat} {lv : rn_L} {st : List Nat} {c : Nat} {fs : List pe_G} {h : rn_H} {as : List pe_AF} {res : pe_R} (hL : pe_RL σ L lv) (hH : pe_HR n c B h0 h) (hF : pe_FM σ fs as) (hr : pe_nx stops f y ((pe_tb y).drop k) fs L st c = some res) : pe_fin σ n B h0 X N sl (pe_Q X N sl as y k lv (st.map (pe_dv σ)) h) res := by
  cases fs with
  | cons g gs => exact hf y L st c (g :: gs) res k lv h as hL hH hF hr
  | nil =>
    have hr : pe_ab stops f y ((pe_tb y).drop k) L st c = some res := hr
    unfold pe_ab at hr
    cases hs : (pe_tb y).drop k with
    | nil => rw [hs] at hr; cases hr
    | cons e r =>
      rw [hs] at hr
      have hr : @Bool.rec (fun _ => pe_T) (f y (e :: r) L st c []) (some (.inr (.inl (y, e :: r, L, st, c, [])))) (pe_in e.1 stops) = some res := hr
      rcases pe_Bo hr with ⟨-, g⟩ | ⟨-, g⟩
      · cases g
        exact ⟨k, lv, h, as, hs.symm, hL, hH, hF, fun _ g => g⟩
      · rw [← hs] at g
        exact hf y L st c [] res k lv h as hL hH hF g
theorem pe_le_of : ∀ {as bs : List Nat}, pe_le as bs = true → as = bs
  | [], [], _ => rfl
  | [], _ :: _, h => by cases (show false = true from h)
  | _ :: _, [], h => by cases (show false = true from h)
  | x :: as, y :: bs, h => by
    have h : @Bool.rec (fun _ => Bool) false (pe_le as bs) (Nat.beq x y) = true := h
    cases hb : Nat.beq x y with
    | false => rw [hb] at h; cases h
    | true => rw [hb] at h; rw [pe_beq hb, pe_le_of h]
theorem pe_ck_of {y z : Nat} {b : Bool} {m : Nat × Nat} {q : rn_M} (hq : rn_ms y = some q) (h : pe_ck y z b = some m) : ∃ q2, rn_ms z = some q2 ∧ m.1 = q2.2.2.2.2.2.1 + (bif b then 1 else 0) ∧ m.2 = q2.2.2.1 ∧ (Nat.ble (q2.2.2.2.2.2.2.1 + 1) q.2.2.2.2.2.2.1 && Nat.ble (19 + q2.2.2.1 + q2.2.2.2.2.2.2.2.1) q.2.2.2.2.2.2.2.1) = true := by
  obtain ⟨nm, bb, mL, rt, T, nn, fr, lo, ini⟩ := q
  unfold pe_ck at h
  rw [hq] at h
  simp only at h
  cases hz : rn_ms z with
  | none => rw [hz] at h; cases h
  | some q2 =>
    obtain ⟨nm2, bb2, mL2, rt2, T2, nn2, fr2, lo2, ini2⟩ := q2
    rw [hz] at h
    simp only at h
    split at h
    · next hc => cases h; exact ⟨_, rfl, rfl, rfl, hc⟩
    · cases h
theorem pe_c1_of {b : Bool} {c cl : Nat} {h : rn_H} {as : List Nat} (hn : pe_nn n) (hH : pe_HR n c B h0 h) (hcl : cl < 10) (hcl2 : cl ≠ 2 ∧ cl ≠ 9) (hc : pe_c1 n b cl as = true) : b = true → rn_rc h cl (as.map (pe_dv σ)) = true := by
  intro hb
  subst hb
  cases as with
  | nil => cases (show false = true from hc)
  | cons x as =>
    have hc : pe_q n cl x = true := hc
    obtain ⟨a1, a2, a3, -⟩ := pe_q_of hn hc
    rw [List.map_cons, pe_dv3 a1]
    unfold rn_rc
    have : ∃ fs, h (x / 8) = .inr (cl, fs) := by
      rw [pe_en hH a2, a3]
      rcases (show cl = 0 ∨ cl = 1 ∨ cl = 3 ∨ cl = 4 ∨ cl = 5 ∨ cl = 6 ∨ cl = 7 ∨ cl = 8 by omega) with e | e | e | e | e | e | e | e <;> subst e <;> exact ⟨_, rfl⟩
    obtain ⟨fs, e⟩ := this
    simp only [e, Nat.beq_refl]
theorem pe_rc_of {y k : Nat} {q : rn_M} {e : rn_I} (hq : rn_ms y = some q) (he : (rn_tb q)[k]? = some e) {z cl : Nat} (hc : rn_cc e.2.1 e.2.2.2 = some (z, true, cl)) : cl < 10 ∧ cl ≠ 2 ∧ cl ≠ 9 := by
  have hall : ∀ q ∈ rn_ml, ∀ e ∈ rn_tb q, (match rn_cc e.2.1 e.2.2.2 with
    | some (_, true, cl) => Nat.blt cl 10 && (!(Nat.beq cl 2) && !(Nat.beq cl 9))
    | _ => true) = true := by decide +kernel
  have := hall q (List.mem_of_getElem? hq) e (List.mem_of_getElem? he)
  rw [hc] at this
  simp only [Bool.and_eq_true, Bool.not_eq_true'] at this
  obtain ⟨a, b, d⟩ := this
  refine ⟨Nat.le_of_ble_eq_true a, ?_, ?_⟩
  · intro g; rw [g] at b; cases b
  · intro g; rw [g] at d; cases d
theorem pe_Oi {α : Type} {o : Option α} {k : α → pe_T} {r : pe_R} (h : @Option.rec α (fun _ => pe_T) none k o = some r) : ∃ a, o = some a ∧ k a = some r := by
  cases o with
  | none => cases h
  | some a => exact ⟨a, rfl, h⟩
set_option maxHeartbeats 4000000 in
theorem pe_s1_ok {f : pe_X} (hn : pe_nn n) {w : pe_W} (hw : pe_Wok σ n B h0 X N sl w) (hf : pe_good σ n B h0 X N sl f) {stops : List Nat} : pe_good σ n B h0 X N sl (pe_s1 n w stops f) := by
  intro y L st c fs res k lv h as hL hH hF hr
  unfold pe_s1 at hr
  cases hs : (pe_tb y).drop k with
  | nil => rw [hs] at hr; cases hr
  | cons e rest =>
    rw [hs] at hr
    have hr : pe_s1b n w stops f y e rest L st c fs = some res := hr
    obtain ⟨q, hq, he, hrest, hT⟩ := pe_tb_of hs
    subst hrest
    obtain ⟨o, ho, hr⟩ := pe_Oi (show @Option.rec pe_O (fun _ => pe_T) none (pe_s1c n w stops f y e ((pe_tb y).drop (k + 1)) L st c fs) (pe_f n e) = some res from hr)
    obtain ⟨pc, i, ks, ax⟩ := e
    have hLk := pe_RL_kp (ks := ks) hL
    have hg : ∀ {s2}, rn_sp X rn_dv (pc, i, ks, ax) (k, rn_kp ks lv, st.map (pe_dv σ), N, sl, h) = some s2 → rn_g1 X (rn_tb q) (k, lv, st.map (pe_dv σ), N, sl, h) = some s2 := by
      intro s2 h2
      unfold rn_g1
      simp only [he]
      exact h2
    rcases pe_f_inv ho with ⟨g, g2, h1, rfl, hE⟩ | ⟨g, g2, h1, rfl, hE⟩ | ⟨g, g2, h1, rfl, hE⟩ | ⟨g, g2, h1, rfl, hE⟩ | ⟨r, h1, rfl⟩ | rfl
    · have hr : g2 L st c (pe_nx stops f y ((pe_tb y).drop (k + 1)) fs) (pe_jx stops f y fs) = some res := hr
      rw [hE] at hr
      obtain ⟨st2, e1, hr⟩ := pe_p_ok (X := X) hn hLk hH h1 hr
      refine pe_fin_m (fun out g => pe_Q_e1 hq (hg ?_) g) (pe_nx_ok hf (k := k + 1) hLk hH hF hr)
      simp only [rn_sp, e1]
    · have hr : g2 L st c (pe_nx stops f y ((pe_tb y).drop (k + 1)) fs) (pe_jx stops f y fs) = some res := hr
      rw [hE] at hr
      obtain ⟨st2, j, e1, hj⟩ := pe_b_ok (σ := σ) (k + 1) h1 hr
      have e0 := pe_b_np h1 (X := X) (lv := rn_kp ks lv) (st := st.map (pe_dv σ)) (hh := h)
      rcases hj with ⟨hr, rfl⟩ | ⟨t, hr, rfl⟩
      · refine pe_fin_m (fun out g => pe_Q_e1 hq (hg ?_) g) (pe_nx_ok hf (k := k + 1) hLk hH hF hr)
        simp only [rn_sp, e0, e1]
      · refine pe_fin_m (fun out g => pe_Q_e1 hq (hg ?_) g) (pe_nx_ok hf (k := j) hLk hH hF hr)
        simp only [rn_sp, e0, e1]
    · have hr : g2 L st c (pe_nx stops f y ((pe_tb y).drop (k + 1)) fs) (pe_jx stops f y fs) = some res := hr
      rw [hE] at hr
      obtain ⟨L2, lv2, st2, e1, hL2, hr⟩ := pe_l_ok hLk h1 hr
      obtain ⟨e0, eb⟩ := pe_l_np h1 (X := X) (k := k + 1) (lv := rn_kp ks lv) (st := st.map (pe_dv σ)) (hh := h)
      refine pe_fin_m (fun out g => pe_Q_e1 hq (hg ?_) g) (pe_nx_ok hf (k := k + 1) hL2 hH hF hr)
      simp only [rn_sp, e0, eb, e1]
    · have hr : g2 L st c (pe_nx stops f y ((pe_tb y).drop (k + 1)) fs) (pe_jx stops f y fs) = some res := hr
      rw [hE] at hr
      obtain ⟨st2, c2, h2, e1, hH2, hr⟩ := pe_w_ok (σ := σ) hn hH h1 hr
      obtain ⟨e0, eb, el⟩ := pe_w_np h1 (X := X) (k := k + 1) (lv := rn_kp ks lv) (st := st.map (pe_dv σ)) (hh := h)
      refine pe_fin_m (fun out g => pe_Q_e1 hq (hg ?_) g) (pe_nx_ok hf (k := k + 1) hLk hH2 hF hr)
      simp only [rn_sp, e0, eb, el, e1]
    · obtain ⟨m, b, cl⟩ := r
      have hr : pe_ca n y m b cl st (pe_s3c w (pe_at stops f) y ks ((pe_tb y).drop (k + 1)) L c fs m) = some res := hr
      unfold pe_ca at hr
      obtain ⟨mm, hm, hr⟩ := pe_Oi hr
      obtain ⟨p, hp, hr⟩ := pe_Oi hr
      obtain ⟨ar, r⟩ := p
      obtain ⟨t1, hr⟩ := pe_Bi hr
      obtain ⟨t2, hr⟩ := pe_Bi hr
      obtain ⟨t3, hr⟩ := pe_Bi hr
      obtain ⟨t4, hr⟩ := pe_Bi hr
      obtain ⟨q2, hz, m1, m2, hck⟩ := pe_ck_of hq hm
      obtain ⟨p1, p2, p3⟩ := pe_sp_of hp
      rw [List.append_nil] at p2
      obtain ⟨hsp, hrt⟩ := pe_cc_np h1 (X := X) (pc := pc) (k := k) (N := N) (sl := sl) (ks := ks) (lv := rn_kp ks lv) (st := st.map (pe_dv σ)) (hh := h) (rt := q.2.2.2.1)
      have has : ((st.map (pe_dv σ)).take (q2.2.2.2.2.2.1 + (bif b then 1 else 0))).reverse = ar.map (pe_dv σ) := by
        rw [← m1, p2, List.map_reverse, List.map_take]
      have hre : (st.map (pe_dv σ)).drop (q2.2.2.2.2.2.1 + (bif b then 1 else 0)) = r.map (pe_dv σ) := by
        rw [← m1, p3, List.map_drop]
      have hck2 : (Nat.ble (q2.2.2.2.2.2.2.1 + 1) q.2.2.2.2.2.2.1 && Nat.ble (19 + q2.2.2.1 + q2.2.2.2.2.2.2.2.1) q.2.2.2.2.2.2.2.1 && Nat.ble (q2.2.2.2.2.2.1 + (bif b then 1 else 0)) (st.map (pe_dv σ)).length && Nat.ble (rn_cs (r.map (pe_dv σ))) 8 && Nat.ble (rn_cs (ar.map (pe_dv σ))) q2.2.2.1) = true := by
        rw [hck, Bool.true_and, Bool.and_eq_true, Bool.and_eq_true]
        refine ⟨⟨Nat.ble_eq.mpr (by rw [List.length_map, ← m1]; exact p1), Nat.ble_eq.mpr ?_⟩, Nat.ble_eq.mpr ?_⟩
        · exact Nat.le_trans pe_csum_le (Nat.le_of_ble_eq_true t1)
        · rw [← m2]; exact Nat.le_trans pe_csum_le (Nat.le_of_ble_eq_true t2)
      have hrc : b = true → rn_rc h cl (ar.map (pe_dv σ)) = true := by
        intro hb
        subst hb
        obtain ⟨g1, g2, g3⟩ := pe_rc_of hq he h1
        exact pe_c1_of hn hH g1 ⟨g2, g3⟩ t4 rfl
      have hr : pe_wa w m ar c (fun vs c2 => pe_at stops f y ((pe_tb y).drop (k + 1)) (pe_kp ks L) (vs ++ r) c2 fs) (pe_at stops f m (pe_tb m) (pe_ar 0 ar) [] c ((y, (pe_tb y).drop (k + 1), pe_kp ks L, r) :: fs)) = some res := hr
      have hplain : pe_at stops f m (pe_tb m) (pe_ar 0 ar) [] c ((y, (pe_tb y).drop (k + 1), pe_kp ks L, r) :: fs) = some res → pe_fin σ n B h0 X N sl (pe_Q X N sl as y k lv (st.map (pe_dv σ)) h) res := by
        intro hr
        have hF2 : pe_FM σ ((y, (pe_tb y).drop (k + 1), pe_kp ks L, r) :: fs) ((y, k + 1, rn_kp ks lv, r.map (pe_dv σ)) :: as) := ⟨rfl, rfl, hLk, rfl, hF⟩
        have hh := pe_nx_ok hf (stops := stops) (y := m) (k := 0) (st := []) (pe_RL_ar (σ := σ) 0 t3) hH hF2 (show pe_nx stops f m ((pe_tb m).drop 0) _ _ [] c = some res from hr)
        refine pe_fin_m (fun out g => ?_) hh
        obtain ⟨v, h1', g1, g2⟩ := g
        exact pe_Q_ec hq he hsp hrt h1 hz has hre hck2 hrc g1 g2
      unfold pe_wa at hr
      rcases pe_Bo hr with ⟨w1, hr⟩ | ⟨-, hr⟩
      · rcases pe_Bo hr with ⟨w2, hr⟩ | ⟨-, hr⟩
        · rcases pe_Bo hr with ⟨w3, hr3⟩ | ⟨-, hr⟩
          · have w1 : m = w.1 := pe_beq w1
            subst w1
            obtain ⟨v, h2, g1, g2, g3⟩ := hw ar c h ⟨q2, hz⟩ w2 w3 hH
            have hh := pe_nx_ok hf (stops := stops) (y := y) (k := k + 1) (lv := rn_kp ks lv) (st := w.2.2.2.1 ++ r) hLk g3 hF hr3
            refine pe_fin_m (fun out g => ?_) hh
            rw [List.map_append, g2] at g
            exact pe_Q_ec hq he hsp hrt h1 hz has hre hck2 hrc g1 g
          · exact hplain hr
        · exact hplain hr
      · exact hplain hr
    · obtain ⟨vs, hv, hr⟩ := pe_Oi (show @Option.rec (List Nat) (fun _ => pe_T) none (pe_s2 (pe_at stops f) c fs) (pe_rt (pe_rk y i) st) = some res from hr)
      obtain ⟨v, e1, e2, e3⟩ := pe_rt_of (σ := σ) hq hv
      have hrv : rn_rv X y (k, lv, st.map (pe_dv σ), N, sl, h) (v, N, sl, h) := rn_er hq he (e3 X pc k N sl ks ax (rn_kp ks lv) (st.map (pe_dv σ)) h).2 e1
      cases fs with
      | nil =>
        cases as with
        | cons a as => exact absurd hF (fun q => q)
        | nil =>
          have hr : some (.inr (.inr (vs, c))) = some res := hr
          cases hr
          exact ⟨v, h, e2, hH, hrv⟩
      | cons g gs =>
        cases as with
        | nil => exact absurd hF (fun q => q)
        | cons a as =>
          obtain ⟨y2, suf2, L2, st2⟩ := g
          obtain ⟨ya, ka, la, sa⟩ := a
          obtain ⟨b1, b2, b3, b4, b5⟩ := hF
          simp only at b1 b2 b3 b4 b5
          subst b1 b2 b4
          have hr : pe_nx stops f ya ((pe_tb ya).drop ka) gs L2 (vs ++ st2) c = some res := hr
          refine pe_fin_m (fun out g => ?_) (pe_nx_ok hf b3 hH b5 hr)
          rw [List.map_append, e2] at g
          exact ⟨v, h, hrv, g⟩
theorem pe_sN_ok (hn : pe_nn n) {w : pe_W} (hw : pe_Wok σ n B h0 X N sl w) {stops : List Nat} : ∀ k, pe_good σ n B h0 X N sl (pe_sN n w stops k)
  | 0 => fun y L st c fs res k lv h as hL hH hF hr => by
    have hr : some (.inl (y, (pe_tb y).drop k, L, st, c, fs)) = some res := hr
    cases hr
    exact pe_fin_s hL hH hF
  | k + 1 => pe_s1_ok hn hw (pe_sN_ok hn hw k)
theorem pe_ru_ok (hn : pe_nn n) {w : pe_W} (hw : pe_Wok σ n B h0 X N sl w) {stops : List Nat} : ∀ (d y : Nat) (L : Nat) (st : List Nat) (c : Nat) (fs : List pe_G) (res : pe_R) (k : Nat) (lv : rn_L) (h : rn_H) (as : List pe_AF), pe_RL σ L lv → pe_HR n c B h0 h → pe_FM σ fs as → pe_ru n w stops d (y, (pe_tb y).drop k, L, st, c, fs) = some res → pe_fin σ n B h0 X N sl (pe_Q X N sl as y k lv (st.map (pe_dv σ)) h) res
  | 0, y, L, st, c, fs, res, k, lv, h, as, hL, hH, hF, hr => pe_sN_ok hn hw 32 y L st c fs res k lv h as hL hH hF hr
  | d + 1, y, L, st, c, fs, res, k, lv, h, as, hL, hH, hF, hr => by
    obtain ⟨r, h1, hr⟩ := pe_Oi (show @Option.rec pe_R (fun _ => pe_T) none (fun r => @Sum.rec pe_C (pe_C ⊕ (List Nat × Nat)) (fun _ => pe_T) (pe_ru n w stops d) (fun x => some (.inr x)) r) (pe_ru n w stops d (y, (pe_tb y).drop k, L, st, c, fs)) = some res from hr)
    have ih := pe_ru_ok hn hw (stops := stops) d y L st c fs r k lv h as hL hH hF h1
    cases r with
    | inr x =>
      have hr : some (.inr x) = some res := hr
      cases hr
      exact ih
    | inl s =>
      obtain ⟨y2, suf2, L2, st2, c2, fs2⟩ := s
      obtain ⟨k2, lv2, h2, as2, rfl, a, b, d2, e⟩ := ih
      exact pe_fin_m e (pe_ru_ok hn hw d y2 L2 st2 c2 fs2 res k2 lv2 h2 as2 a b d2 hr)
end RUN2
