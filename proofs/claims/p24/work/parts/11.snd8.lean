set_option maxHeartbeats 8000000 in
theorem rn_snd {X : rn_X} {ms : Nat → Option rn_M} (hms : ∀ (y : Nat) (q : rn_M), ms y = some q → rn_oM ms q = true) {D : va_G} {cA : Nat → ClassId} {b : Nat} : ∀ (f y k : Nat) (lv : rn_L) (st : List Value) (N sl : Nat) (h : rn_H) (v : Option Value) (N1 sl1 : Nat) (h1 : rn_H), rn_x X rn_dv ms f y (k, lv, st, N, sl, h) = some (v, N1, sl1, h1) →
    ∀ (q : rn_M), ms y = some q → ∀ {p : Program} {l : Launch} {e : Env} {R : Room} {s : State} {m : MethodId} {args : Array Value} {below : List Frame} {meth : Method} {c : Code} {Q : State → Prop},
    p.tables.exec = Jvm.exec → c.code = q.2.1 → c.maxLocals = q.2.2.1 → (∀ w ∈ rn_gw, w.before args s = true) → s.vm.findClass q.1.cls = some m.cls → (q.1.name = "<init>" → meth.name = "<init>") → rn_Kn D cA s → va_X b X.1 X.2 s s.heap → b < s.heap.size → q.2.2.2.2.2.2.1 ≤ R.frames → q.2.2.2.2.2.2.2.1 ≤ R.locals →
    ∀ {ad : Nat → Nat} {A : Nat → Prop} {H : Heap} {locs : List Loc} {ls : Array Slot} {cells slots : Nat}, va_P D rn_cls (rn_wl cA ad N h) H → va_D A (rn_wl cA ad N h) → va_S A s.heap H locs → (∀ q, s.heap.size ≤ q → A q) → ¬ A b → ad 1000000 = b → lv_has ls q.2.2.1 (rn_vl ad lv) → rn_cl1 N lv → rn_cs1 N st → rn_hc N h → cells + (N1 - N) ≤ R.cells → slots + (sl1 - sl) ≤ R.slots →
    (∀ (ad2 : Nat → Nat) (H1 : Heap) (locs1 : List Loc) (ls1 : Array Slot) (e1 : rn_I) (st1 : List Value), rn_ag N ad ad2 → va_P D rn_cls (rn_wl cA ad2 N1 h1) H1 → va_D A (rn_wl cA ad2 N1 h1) → va_S A s.heap H1 locs1 → rn_hc N1 h1 → rn_cs1 N1 st1 → rn_rt e1.2.1 q.2.2.2.1 st1 = some v → decode q.2.1 e1.1 = .ok (e1.2.1, 1) → W p l e R s m args below meth c H1 locs1 (cells + (N1 - N)) (slots + (sl1 - sl)) Q (F0 m e1.1 ls1 (st1.map (rn_vv ad2)))) →
    ∀ e0 : rn_I, q.2.2.2.2.1[k]? = some e0 → W p l e R s m args below meth c H locs cells slots Q (F0 m e0.1 ls (st.map (rn_vv ad))) := by
  intro f
  induction f with
  | zero => intro y k lv st N sl h v N1 sl1 h1 hr; cases hr
  | succ f ih =>
    intro y k lv st N sl h v N1 sl1 h1 hr q hq p l e R s m args below meth c Q hx hb hml hts hown hini hKn hX hbl hfr hlo ad A H locs ls cells slots hP hD hS hA hbA hab hl hcl hcs hh hce hsl kret e0 he0
    obtain ⟨nm, bc, mL, rt, T, np, fr, lo, ini⟩ := q
    simp only at hb hml hown hini hfr hlo hl kret he0
    have hmono := rn_x_mono _ _ _ _ _ _ _ _ _ _ _ _ hr
    unfold rn_x at hr
    rw [hq] at hr
    simp only at hr
    rw [he0] at hr
    simp only at hr
    have hMq := hms y _ hq
    unfold rn_oM at hMq
    simp only [Bool.and_eq_true] at hMq
    obtain ⟨⟨⟨hT, hM2⟩, hM3⟩, hM4⟩ := hMq
    have hE := rn_oT_at T 0 k e0 hT he0
    rw [Nat.zero_add] at hE
    unfold rn_oE at hE
    simp only [Bool.and_eq_true] at hE
    obtain ⟨⟨⟨⟨⟨⟨⟨hdc, hnx⟩, hoP⟩, hoL⟩, hoB⟩, hoW⟩, hoN⟩, hoC⟩ := hE
    obtain ⟨len, hd, hlen⟩ := rn_dc_some hdc
    have hini2 : Nat.beq ini 1 = true → meth.name = "<init>" := fun g => by
      rw [g] at hM2
      simp only [Bool.not_true, Bool.false_or, decide_eq_true_eq] at hM2
      exact hini hM2
    obtain ⟨pc, i, kp, ax⟩ := e0
    simp only at hr hd hlen hnx hoP hoL hoB hoW hoN hoC hdc ⊢
    have hl2 : lv_has ls mL (rn_vl ad (rn_kp kp lv)) := rn_vl_sub hl (fun q hq => rn_kp_sub hq)
    have hcl2 : rn_cl1 N (rn_kp kp lv) := fun q hq => hcl q (rn_kp_sub hq)
    have hlsz : ls.size = mL := hl.1
    have next : rn_nn i = false → ∃ e1, T[k + 1]? = some e1 ∧ e1.1 = pc + rn_ln i := fun g => by
      rw [g, Bool.false_or] at hnx
      obtain ⟨e1, h3, h4⟩ := rn_at_some hnx
      exact ⟨e1, h3, by omega⟩
    split at hr
    · next s2 hs =>
      unfold rn_sp at hs
      simp only at hs
      split at hs
      · next st1 hp =>
        cases hs
        have hnn : rn_nn i = false := by cases i <;> first | rfl | (cases hp; done)
        have hsw : rn_sw i = false := by cases i <;> first | rfl | (cases hp; done)
        obtain ⟨e1, he1, hpc1⟩ := next hnn
        have := hlen hsw
        subst this
        refine rn_p_ok hx hb (hml.trans hlsz.symm) hts hown hKn.1 hP hS hX hbl hbA hab hl2 hcl2 hcs hh hfr hlo (by omega) (by omega) hoP hd hp (fun hcs1 => ?_)
        rw [← hpc1]
        exact ih y _ _ _ _ _ _ _ _ _ _ hr _ hq hx hb hml hts hown hini hKn hX hbl hfr hlo hP hD hS hA hbA hab hl2 hcl2 hcs1 hh hce hsl kret e1 he1
      · split at hs
        · next hp0 k1 st1 hp =>
          cases hs
          refine rn_b_ok (T := T) (k := k + 1) (k1 := k1) (st1 := st1) hx hb hcs (fun g => ?_) hoB hd (fun g => hlen (by cases i <;> first | rfl | (cases g; done))) hp (fun hcs1 e1 he1 => ih y _ _ _ _ _ _ _ _ _ _ hr _ hq hx hb hml hts hown hini hKn hX hbl hfr hlo hP hD hS hA hbA hab hl2 hcl2 hcs1 hh hce hsl kret e1 he1)
          simp only [Bool.or_eq_true] at hnx
          rcases hnx with g2 | g2
          · exfalso
            cases ax with
            | nil => cases hp
            | cons t ts => cases i <;> first | (cases g; done) | (cases g2; done) | (cases hp; done)
          · exact g2
        · next hp0 hb0 =>
          split at hs
          · next lv1 st1 hp =>
            cases hs
            have hnn : rn_nn i = false := by cases i <;> first | rfl | (cases hp; done)
            have hsw : rn_sw i = false := by cases i <;> first | rfl | (cases hp; done)
            obtain ⟨e1, he1, hpc1⟩ := next hnn
            have := hlen hsw
            subst this
            refine rn_l_ok hx hb hl2 hcl2 hcs hoL hd hp (fun ls2 g1 g2 g3 => ?_)
            rw [← hpc1]
            exact ih y _ _ _ _ _ _ _ _ _ _ hr _ hq hx hb hml hts hown hini hKn hX hbl hfr hlo hP hD hS hA hbA hab g1 g2 g3 hh hce hsl kret e1 he1
          · split at hs
            · next st1 h2 hp =>
              cases hs
              have hnn : rn_nn i = false := by cases i <;> first | rfl | (cases hp; done)
              have hsw : rn_sw i = false := by cases i <;> first | rfl | (cases hp; done)
              obtain ⟨e1, he1, hpc1⟩ := next hnn
              have := hlen hsw
              subst this
              refine rn_w_ok hx hb (hml.trans hlsz.symm) hts hown hini2 hKn.1 hP hD hS hcs hh hfr hlo hoW hd hp (fun H1 locs1 g1 g2 g3 g4 g5 => ?_)
              rw [← hpc1]
              exact ih y _ _ _ _ _ _ _ _ _ _ hr _ hq hx hb hml hts hown hini hKn hX hbl hfr hlo g1 g2 g3 hA hbA hab hl2 hcl2 g5 g4 hce hsl kret e1 he1
            · split at hs
              · next st1 z n hp =>
                split at hs
                · next hN =>
                  cases hs
                  have hN := Nat.le_of_ble_eq_true hN
                  have hnn : rn_nn i = false := by cases i <;> first | rfl | (cases hp; done)
                  have hsw : rn_sw i = false := by cases i <;> first | rfl | (cases hp; done)
                  obtain ⟨e1, he1, hpc1⟩ := next hnn
                  have := hlen hsw
                  subst this
                  have hm2 := rn_x_mono _ _ _ _ _ _ _ _ _ _ _ _ hr
                  refine rn_a_ok hx hb hts hown hKn hP hD hS hA hl2 hcl2 hcs hh hN (by omega) (by omega) hoN hd hp (fun ad2 H1 g0 g1 g2 g3 g4 g5 g6 g7 => ?_)
                  rw [← hpc1]
                  refine ih y _ _ _ _ _ _ _ _ _ _ hr _ hq hx hb hml hts hown hini hKn hX hbl hfr hlo g1 g2 g3 hA hbA ?_ g5 g6 g7 g4 (by omega) (by omega) (fun ad3 H2 locs2 ls2 e2 st2 k0 k1 k2 k3 k4 k5 k6 k7 => ?_) e1 he1
                  · rw [g0 1000000 (Or.inr rfl)]; exact hab
                  · have := kret ad3 H2 locs2 ls2 e2 st2 (fun j hj => (k0 j (by omega)).trans (g0 j hj)) k1 k2 k3 k4 k5 k6 k7
                    rw [show cells + 1 + (N1 - (N + 1)) = cells + (N1 - N) by omega, show slots + n + (sl1 - (sl + n)) = slots + (sl1 - sl) by omega]
                    exact this
                · cases hs
              · cases hs
    · next hs =>
      split at hr
      · next v2 hrt =>
        cases hr
        obtain ⟨r1, r2⟩ := rn_rt_len hrt
        have := hlen r1
        subst this
        rw [r2] at hd
        have := kret ad H locs ls (pc, i, kp, ax) st (fun _ _ => rfl) hP hD hS hh hcs hrt hd
        simpa using this
      · split at hr
        · cases hr
        · next z bb ci hcc =>
          split at hr
          · cases hr
          · next nm2 b2 mL2 rt2 T2 n2 fr2 lo2 ini2 hz =>
            split at hr
            · cases hr
            · next hck =>
              simp only [Bool.and_eq_true] at hck
              obtain ⟨⟨⟨⟨⟨c1, c2⟩, c3⟩, c4⟩, c6⟩, c5⟩ := hck
              have c6 := Nat.le_of_ble_eq_true c6
              have c1 := Nat.le_of_ble_eq_true c1
              have c2 := Nat.le_of_ble_eq_true c2
              have c3 := Nat.le_of_ble_eq_true c3
              have c4 := Nat.le_of_ble_eq_true c4
              split at hr
              · cases hr
              · next v2 N2 sl2 h2 hzr =>
                have hnn : rn_nn i = false := by cases i <;> first | rfl | (cases hcc; done)
                have hsw : rn_sw i = false := by cases i <;> first | rfl | (cases hcc; done)
                have hl3 : rn_ln i = 3 := by cases i <;> first | rfl | (cases hcc; done)
                obtain ⟨e1, he1, hpc1⟩ := next hnn
                have := hlen hsw
                subst this
                rw [hl3] at hd hpc1
                have hm1 := rn_x_mono _ _ _ _ _ _ _ _ _ _ _ _ hzr
                have hm2 := rn_x_mono _ _ _ _ _ _ _ _ _ _ _ _ hr
                generalize hkk : (n2 + bif bb then 1 else 0) = kk at *
                have hcsd : rn_cs1 N (st.drop kk) := fun w hw => hcs w (List.mem_of_mem_drop hw)
                have hcst : rn_cs1 N (st.take kk).reverse := fun w hw => hcs w (List.mem_of_mem_take (List.mem_reverse.mp hw))
                have hM : rn_met l (nm2, b2, mL2, rt2, T2, n2, fr2, lo2, ini2) D cA b X ad N sl N2 sl2 h h2 (st.take kk).reverse v2 H.size := by
                  have hMz := hms z _ hz
                  unfold rn_oM at hMz
                  simp only [Bool.and_eq_true] at hMz
                  refine Met.ofW (cc := b2) (maxL := mL2) (ret := rt2) hMz.1.2 rfl ?_
                  intro p' e' s' m' args' below' meth' c' s₁' B hml' hv'
                  obtain ⟨rfl, v1, v2', v3, v4, v5, v6, v7⟩ := hv'
                  have hts' := atoms_spec (ws := rn_ws (nm2, b2, mL2, rt2, T2, n2, fr2, lo2, ini2)) B.pre
                  have hown' : s'.vm.findClass nm2.cls = some m'.cls := findClass_of_methodNamed B.named
                  have hr' := B.returns
                  have hlocks' := B.notSynchronized
                  have hlen0 : (lg_sl (((st.take kk).reverse).map (rn_vv ad))).length ≤ mL2 := by
                    rw [rn_sl_len, rn_cs_rev]
                    exact c6
                  have hl' := lv_entry (((st.take kk).reverse).map (rn_vv ad)) (n := mL2) hlen0
                  rw [lg_entry_eq]
                  rw [rn_vl_args] at hl'
                  have hT0 : ∃ e00, T2[0]? = some e00 ∧ e00.1 = 0 := by
                    obtain ⟨e00, g1, g2⟩ := rn_at_some hMz.2
                    exact ⟨e00, g1, by omega⟩
                  obtain ⟨e00, he00, hpc0⟩ := hT0
                  have hDs : va_D (va_A (rn_wl cA ad N h) H.size) (rn_wl cA ad N h) := hD.self
                  have hgo := ih z 0 (lv_args 0 (st.take kk).reverse) [] N sl h v2 N2 sl2 h2 hzr _ hz (p := p') (l := l) (e := e') (R := (headSpec (rn_ws (nm2, b2, mL2, rt2, T2, n2, fr2, lo2, ini2)) (rn_rm (nm2, b2, mL2, rt2, T2, n2, fr2, lo2, ini2) (N2 - N) (sl2 - sl))).room) (s := s') (m := m') (args := ((st.take kk).reverse.map (rn_vv ad)).toArray) (below := below') (meth := meth') (c := c') (Q := MQ below' (rn_Qc D cA ad N N2 h2 v2 (va_A (rn_wl cA ad N h) H.size)) ((st.take kk).reverse.map (rn_vv ad)).toArray s' (N2 - N) (sl2 - sl) (va_A (rn_wl cA ad N h) H.size)) B.exec B.bytes hml' (fun w hw => hts' w (List.mem_cons_of_mem _ hw)) hown' (fun g => (name_of_methodNamed B.named B.method).1.trans g) v4 v5 (by rw [v1]; exact v6) (Nat.le_refl _) (Nat.le_refl _) (ad := ad) (A := va_A (rn_wl cA ad N h) H.size) (H := s'.heap) (locs := []) (cells := 0) (slots := 0) v2' hDs va_S.rf (fun q0 hq0 => Or.inr (by rw [← v1]; exact hq0)) ?_ hab hl' (rn_cl1_args _ _ hcst) (fun w hw => by cases hw) hh (by show 0 + (N2 - N) ≤ N2 - N; omega) (by show 0 + (sl2 - sl) ≤ sl2 - sl; omega) ?_ e00 he00
                  · rw [hpc0] at hgo
                    exact hgo
                  · rintro (⟨k9, e9, hk9⟩ | hk9)
                    · obtain ⟨hk1, hk2⟩ := rn_wl_some hk9
                      cases hk2
                      exact v7 k9 hk1 rfl
                    · omega
                  · intro ad2 H1 locs1 ls1 e2 st2 k0 k1 k2 k3 k4 k5 k6 k7
                    rw [Nat.zero_add, Nat.zero_add]
                    exact rn_fin_ok B.exec B.bytes hr' hlocks' k6 k7 k3.2.2 (fun t ht hW => ⟨⟨ad2, k0, rfl, by rw [ht]; exact k1, k2, k4, rn_rt_cv k6 k5⟩, va_S.F k3 ht⟩)
                refine rn_c_ok (v := v2) (N1 := N2) (sl1 := sl2) (h1 := h2) (sl := sl) hx hb hml hlsz hts hown hKn hP hD hS hA hX hbl hbA hcs hh (as := (st.take kk).reverse) (rest := st.drop kk) (by rw [List.reverse_reverse, List.take_append_drop]) (by simp; omega) ?_ c4 (by show fr2 + 1 ≤ R.frames; omega) (by show 19 + mL2 + lo2 ≤ R.locals; omega) (by omega) (by omega) hcc hz hoC hd hM (fun ad2 H1 locs1 g0 g1 g2 g3 g4 g5 => ?_)
                · intro hbb
                  subst hbb
                  simp only [Bool.not_true, Bool.false_or] at c5
                  rw [← hkk]
                  exact c5
                · rw [← hpc1]
                  rw [← rn_vs_ag g0 hcsd]
                  have e9 : (v2.map (rn_vv ad2)).toList ++ (st.drop kk).map (rn_vv ad2) = (v2.toList ++ st.drop kk).map (rn_vv ad2) := by cases v2 <;> rfl
                  rw [e9]
                  refine ih y _ _ _ _ _ _ _ _ _ _ hr _ hq hx hb hml hts hown hini hKn hX hbl hfr hlo g1 g2 g5 hA hbA ?_ (by rw [rn_vl_ag g0 hcl2]; exact hl2) (rn_cl1_up hm1.1 hcl2) ?_ g3 (by omega) (by omega) (fun ad3 H2 locs2 ls2 e2 st2 k0 k1 k2 k3 k4 k5 k6 k7 => ?_) e1 he1
                  · rw [g0 1000000 (Or.inr rfl)]; exact hab
                  · intro w hw
                    rcases List.mem_append.mp hw with hw | hw
                    · exact g4 w (by cases v2 with
                        | none => cases hw
                        | some x => rw [Option.toList_some, List.mem_singleton] at hw; rw [hw])
                    · exact rn_cs1_up hm1.1 hcsd w hw
                  · have := kret ad3 H2 locs2 ls2 e2 st2 (fun j hj => (k0 j (by omega)).trans (g0 j hj)) k1 k2 k3 k4 k5 k6 k7
                    rw [show cells + (N2 - N) + (N1 - N2) = cells + (N1 - N) by omega, show slots + (sl2 - sl) + (sl1 - sl2) = slots + (sl1 - sl) by omega]
                    exact this
