/-! calls -/
def rn_ws (q : rn_M) : List Cond := Cond.code q.1 q.2.1 q.2.2.1 q.2.2.2.1 :: rn_gw
def rn_rm (q : rn_M) (mc ms : Nat) : Room := { frames := q.2.2.2.2.2.2.1, cells := mc, slots := ms, locals := q.2.2.2.2.2.2.2.1 }
def rn_Pc (D : va_G) (cA : Nat → ClassId) (b : Nat) (X : rn_X) (ad : Nat → Nat) (N : Nat) (h : rn_H) (as : List Value) (sz : Nat) : Array Value → State → Prop := fun v U =>
  v = (as.map (rn_vv ad)).toArray ∧ U.heap.size = sz ∧ va_P D rn_cls (rn_wl cA ad N h) U.heap ∧ va_D (fun _ => True) (rn_wl cA ad N h) ∧ rn_Kn D cA U ∧ va_X b X.1 X.2 U U.heap ∧ b < sz ∧ ∀ k, k < N → ad k ≠ b
def rn_Qc (D : va_G) (cA : Nat → ClassId) (ad : Nat → Nat) (N N1 : Nat) (h1 : rn_H) (v : Option Value) (A : Nat → Prop) : Array Value → State → Outcome → State → Prop := fun _ st o t =>
  (∃ ad2 : Nat → Nat, rn_ag N ad ad2 ∧ o = .returned (v.map (rn_vv ad2)) ∧ va_P D rn_cls (rn_wl cA ad2 N1 h1) t.heap ∧ va_D A (rn_wl cA ad2 N1 h1) ∧ rn_hc N1 h1 ∧ ∀ w, v = some w → rn_cv N1 w = true) ∧ va_F A st t
def rn_met (l : Launch) (q : rn_M) (D : va_G) (cA : Nat → ClassId) (b : Nat) (X : rn_X) (ad : Nat → Nat) (N sl N1 sl1 : Nat) (h h1 : rn_H) (as : List Value) (v : Option Value) (sz : Nat) : Prop :=
  Met l q.1 (rn_ws q) (rn_rm q (N1 - N) (sl1 - sl)) (rn_Pc D cA b X ad N h as sz) (rn_Qc D cA ad N N1 h1 v (va_A (rn_wl cA ad N h) sz)) (N1 - N) (sl1 - sl) (va_A (rn_wl cA ad N h) sz)
def rn_oCm (nm : MethodName) (n : Nat) : Bool := plainName nm.cls && decide (nm.cls ≠ "java/lang/invoke/MethodHandle") && decide (nm.cls ≠ "java/lang/invoke/VarHandle") && decide ((parseMethodDescriptor nm.desc).map (fun d => d.parameters.length) = some n)
def rn_isC (c : Nat) (C : String) : Bool := match rn_cls[c]? with
  | some q => decide (q.1 = C)
  | none => false
def rn_oC1 (own : String) (i : Instr) (c : Nat) (ws : List Nat) (k : Nat) (q : rn_M) : Bool := rn_oCm q.1 q.2.2.2.2.2.1 && (match i, k, ws with
  | .invokevirtual idx, 0, [w1, w2, w3, w4, w5] => decide (lw_tbl[w1]? = some (.methodLink own idx q.1)) && decide (lw_tbl[w2]? = some (.instanceMethod q.1)) && decide (lw_tbl[w3]? = some (.selects q.1.cls q.1 q.1)) && decide (lw_tbl[w4]? = some (.initialized q.1.cls)) && decide (lw_tbl[w5]? = some (.code q.1 q.2.1 q.2.2.1 q.2.2.2.1)) && rn_isC c q.1.cls
  | .invokestatic idx, 0, [w1, w2, _, w4, w5] => decide (lw_tbl[w1]? = some (.methodLink own idx q.1)) && decide (lw_tbl[w2]? = some (.static q.1)) && decide (lw_tbl[w4]? = some (.initialized q.1.cls)) && decide (lw_tbl[w5]? = some (.code q.1 q.2.1 q.2.2.1 q.2.2.2.1))
  | .invokestatic idx, 4, [j, w2, _, w4, w5] => decide ((rn_nest[j]?).map (fun x => (x.1, x.2.1, x.2.2.1)) = some (own, idx, q.1)) && decide (lw_tbl[w2]? = some (.static q.1)) && decide (lw_tbl[w4]? = some (.initialized q.1.cls)) && decide (lw_tbl[w5]? = some (.code q.1 q.2.1 q.2.2.1 q.2.2.2.1))
  | .invokespecial idx, 0, [w1, w2, _, w4, w5] => decide (lw_tbl[w1]? = some (.methodLink own idx q.1)) && decide (lw_tbl[w2]? = some (.instanceMethod q.1)) && decide (lw_tbl[w4]? = some (.initialized q.1.cls)) && decide (lw_tbl[w5]? = some (.code q.1 q.2.1 q.2.2.1 q.2.2.2.1)) && decide (q.1.name = "<init>") && decide (q.2.2.2.1 = none)
  | .invokespecial idx, 4, [j, w2, _, w4, w5] => decide ((rn_nest[j]?).map (fun x => (x.1, x.2.1, x.2.2.1)) = some (own, idx, q.1)) && decide (lw_tbl[w2]? = some (.instanceMethod q.1)) && decide (lw_tbl[w4]? = some (.initialized q.1.cls)) && decide (lw_tbl[w5]? = some (.code q.1 q.2.1 q.2.2.1 q.2.2.2.1)) && decide (q.1.name = "<init>") && decide (q.2.2.2.1 = none)
  | _, _, _ => false)
def rn_oC (ms : Nat → Option rn_M) (own : String) (i : Instr) (ax : List Nat) : Bool := match rn_cc i ax with
  | none => true
  | some _ => match ax with
    | k :: z :: c :: ws => match ms z with
      | some q => rn_oC1 own i c ws k q
      | none => false
    | _ => false
theorem rn_gi {q : rn_M} {w : Nat} (h : lw_tbl[w]? = some (.code q.1 q.2.1 q.2.2.1 q.2.2.2.1)) : GoodIn rn_gw (rn_ws q) := by
  intro x hx
  have : x ∈ rn_gw := by
    rcases List.mem_cons.mp hx with rfl | hx
    · exact rn_gm h rfl
    · exact hx
  exact ⟨this, good_of_word (List.mem_filter.mp this).2⟩
theorem rn_nest_at {own : String} {idx j : Nat} {nm : MethodName} {D : va_G} {cA : Nat → ClassId} {s : State} (hKn : rn_Kn D cA s) (h : (rn_nest[j]?).map (fun x => (x.1, x.2.1, x.2.2.1)) = some (own, idx, nm)) : ∃ host : String, va_Nw (.methodLinkNest own idx nm host) s := by
  cases hx : rn_nest[j]? with
  | none => rw [hx] at h; cases h
  | some x =>
    rw [hx] at h
    cases h
    exact ⟨x.2.2.2, hKn.2.1 x (List.mem_of_getElem? hx)⟩
theorem rn_Pc_blind {D : va_G} {cA : Nat → ClassId} {b : Nat} {X : rn_X} {ad : Nat → Nat} {N : Nat} {h : rn_H} {as : List Value} {sz : Nat} : FrameBlind (rn_Pc D cA b X ad N h as sz) := by
  intro a U g mk q
  obtain ⟨q1, q2, q3, q4, q5, q6, q7, q8⟩ := q
  exact ⟨q1, q2, q3, q4, rn_Kn.same rfl q5, va_X.moved (u := U) (U := U.calling g mk a) (Vm.Alike.refl U.vm) q6, q7, q8⟩
section RN5
variable {p : Program} {l : Launch} {e : Env} {R : Room} {s : State} {m : MethodId} {args : Array Value} {below : List Frame} {meth : Method} {c : Code} {H : Heap} {locs : List Loc} {cells slots : Nat} {Q : State → Prop}
variable {cc : ByteArray} {pc n nL : Nat} {ls : Array Slot} {D : va_G} {cA : Nat → ClassId} {ad : Nat → Nat} {N N1 sl sl1 : Nat} {h h1 : rn_H} {A : Nat → Prop} {H0 : Heap} {lv : rn_L} {st as rest : List Value} {own : String} {fr lo b : Nat} {X : rn_X} {v : Option Value}
theorem rn_call {st0 rest0 : List Value} {a : Array Value} {A1 : Nat → Prop} {mc ms : Nat} (hr : va_Run p l e R s m args below meth c H locs cells slots mc ms (F0 m pc ls st0) rest0 (rn_Qc D cA ad N N1 h1 v A1 a) A1) (hS : va_S A H0 H locs) (hf : ∀ q, A1 q → A q)
    (kk : ∀ (ad2 : Nat → Nat) (H1 : Heap) (locs1 : List Loc), rn_ag N ad ad2 → va_P D rn_cls (rn_wl cA ad2 N1 h1) H1 → va_D A (rn_wl cA ad2 N1 h1) → rn_hc N1 h1 → (∀ w, v = some w → rn_cv N1 w = true) → va_S A H0 H1 locs1 → W p l e R s m args below meth c H1 locs1 (cells + mc) (slots + ms) Q (F0 m (pc + 3) ls ((v.map (rn_vv ad2)).toList ++ rest0))) : W p l e R s m args below meth c H locs cells slots Q (F0 m pc ls st0) := by
  intro T hT X
  obtain ⟨v2, st₀, t, T', L, h0, X', hL, e1, e2, ⟨⟨ad2, hag, hv, hP1, hD1, hh1, hv1⟩, hz, hk⟩, st⟩ := hr T hT X
  cases hv
  rw [h0] at hz hk
  obtain ⟨t2, a1, b1⟩ := kk ad2 T'.heap (locs ++ L) hag (by rw [e1]; exact hP1) (hD1.weaken (fun _ q _ hq => hf q.1 hq)) hh1 hv1
    ⟨Nat.le_trans hS.1 (by rw [e1]; exact hz), fun q g1 g2 => by rw [e1, hk q (Nat.lt_of_lt_of_le g1 hS.1) (fun z => g2 (hf q z))]; exact hS.2.1 q g1 g2, fun q hq => by
      rcases List.mem_append.mp hq with g | g
      · exact hS.2.2 q g
      · exact hf _ (hL q g)⟩ T' rfl X'
  exact ⟨t2, st t2 a1, b1⟩
set_option maxHeartbeats 4000000 in
theorem rn_c_ok {ms : Nat → Option rn_M} {i : Instr} {ax : List Nat} {z ci : Nat} {bb : Bool} {q : rn_M} (hx : p.tables.exec = Jvm.exec) (hb : c.code = cc) (hml : c.maxLocals = nL) (hlsz : ls.size = nL) (hts : ∀ w ∈ rn_gw, w.before args s = true) (hown : s.vm.findClass own = some m.cls)
    (hKn : rn_Kn D cA s) (hP : va_P D rn_cls (rn_wl cA ad N h) H) (hD : va_D A (rn_wl cA ad N h)) (hS : va_S A s.heap H locs) (hA : ∀ q, s.heap.size ≤ q → A q) (hX : va_X b X.1 X.2 s s.heap) (hbl : b < s.heap.size) (hbA : ¬ A b)
    (hcs : rn_cs1 N st) (hh : rn_hc N h) (hst : st = as.reverse ++ rest) (hlen : as.length = q.2.2.2.2.2.1 + (bif bb then 1 else 0)) (hrc : bb = true → rn_rc h ci as = true) (h8 : rn_cs rest ≤ 8)
    (hfr : q.2.2.2.2.2.2.1 + 1 ≤ R.frames) (hlo : 19 + q.2.2.1 + q.2.2.2.2.2.2.2.1 ≤ R.locals) (hce : cells + (N1 - N) ≤ R.cells) (hsl : slots + (sl1 - sl) ≤ R.slots)
    (hcc : rn_cc i ax = some (z, bb, ci)) (hq : ms z = some q) (hok : rn_oC ms own i ax = true) (hd : decode cc pc = .ok (i, 3))
    (hM : rn_met l q D cA b X ad N sl N1 sl1 h h1 as v H.size)
    (kk : ∀ (ad2 : Nat → Nat) (H1 : Heap) (locs1 : List Loc), rn_ag N ad ad2 → va_P D rn_cls (rn_wl cA ad2 N1 h1) H1 → va_D A (rn_wl cA ad2 N1 h1) → rn_hc N1 h1 → (∀ w, v = some w → rn_cv N1 w = true) → va_S A s.heap H1 locs1 → W p l e R s m args below meth c H1 locs1 (cells + (N1 - N)) (slots + (sl1 - sl)) Q (F0 m (pc + 3) ls ((v.map (rn_vv ad2)).toList ++ rest.map (rn_vv ad)))) :
    W p l e R s m args below meth c H locs cells slots Q (F0 m pc ls (st.map (rn_vv ad))) := by
  have hab : ∀ k, k < N → ad k ≠ b := fun k hk hb1 => hbA (by
    have := hD.2 k _ (rn_wl_get hk)
    rw [← hb1]
    exact this)
  have hpre : ∀ U : State, U.heap = H → s.WarmedH U.vm → rn_Pc D cA b X ad N h as H.size (as.map (rn_vv ad)).toArray U := fun U hU hW =>
    ⟨rfl, by rw [hU], by rw [hU]; exact hP, hD.weaken (fun _ _ _ _ => trivial), hKn.warm hW, by
      rw [hU]
      exact va_X.moved hW.alike (hX.kept (hS.2.1 b hbl hbA)), Nat.lt_of_lt_of_le hbl hS.1, hab⟩
  have hfree : ∀ x, va_A (rn_wl cA ad N h) H.size x → A x := by
    intro x hx1
    rcases hx1 with ⟨k, e1, hk⟩ | hx1
    · exact hD.2 k _ hk
    · exact hA x (Nat.le_trans hS.1 hx1)
  have hfin : ∀ {rest0 st0 : List Value} {a : Array Value}, rest0 = rest.map (rn_vv ad) → va_Run p l e R s m args below meth c H locs cells slots (N1 - N) (sl1 - sl) (F0 m pc ls st0) rest0 (rn_Qc D cA ad N N1 h1 v (va_A (rn_wl cA ad N h) H.size) a) (va_A (rn_wl cA ad N h) H.size) → W p l e R s m args below meth c H locs cells slots Q (F0 m pc ls st0) := by
    intro rest0 st0 a hre hr
    subst hre
    exact rn_call hr hS hfree kk
  have h8' : 2 * (F0 m pc ls (st.map (rn_vv ad))).monitorRoom + ((rest.map (rn_vv ad)).map fun v => v.category).sum ≤ 8 := lv_room (by rw [rn_cs_map]; exact h8)
  have hS5 : CallFix p m c cc nL s args rn_gw own := ⟨hx, hb, hml, hown, hts⟩
  unfold rn_oC at hok
  rw [hcc] at hok
  simp only at hok
  cases ax with
  | nil => cases i <;> cases hcc
  | cons k ax =>
  cases ax with
  | nil => cases hok
  | cons z2 ax =>
  cases ax with
  | nil => cases hok
  | cons c2 ws =>
  simp only at hok
  have hz : z2 = z ∧ c2 = ci := by
    unfold rn_cc at hcc
    split at hcc <;> first | (cases hcc; done) | (split at hcc <;> first | (cases hcc; done) | (rename_i heq; cases heq; cases hcc; exact ⟨rfl, rfl⟩))
  obtain ⟨rfl, rfl⟩ := hz
  rw [hq] at hok
  simp only at hok
  unfold rn_oC1 at hok
  rw [Bool.and_eq_true] at hok
  obtain ⟨hm, hok⟩ := hok
  unfold rn_oCm at hm
  simp only [Bool.and_eq_true, decide_eq_true_eq] at hm
  obtain ⟨⟨⟨m1, m2⟩, m3⟩, m4⟩ := hm
  have hstk : bb = true → ∃ (q0 : Nat) (fs : List Value) (as1 : List Value), as = .ref q0 :: as1 ∧ h q0 = .inr (c2, fs) ∧ st.map (rn_vv ad) = (as1.map (rn_vv ad)).reverse ++ .ref (ad q0) :: rest.map (rn_vv ad) := by
    intro hbb
    have h1 := hrc hbb
    unfold rn_rc at h1
    split at h1
    · next q0 as1 =>
      split at h1
      · next c1 fs hq0 =>
        have := Nat.eq_of_beq_eq_true h1
        subst this
        exact ⟨q0, fs, as1, rfl, hq0, by rw [hst]; simp [rn_vv]⟩
      · cases h1
    · cases h1
  have hstk2 : st.map (rn_vv ad) = (as.map (rn_vv ad)).reverse ++ rest.map (rn_vv ad) := by rw [hst]; simp
  split at hok
  · next idx w1 w2 w3 w4 w5 =>
    simp only [Bool.and_eq_true, decide_eq_true_eq] at hok
    obtain ⟨⟨⟨⟨⟨o1, o2⟩, o3⟩, o4⟩, o5⟩, o6⟩ := hok
    cases hcc
    obtain ⟨q0, fs, as1, rfl, hq0, hst1⟩ := hstk rfl
    unfold rn_isC at o6
    split at o6
    · next q1 hc1 =>
      have o6 := of_decide_eq_true o6
      have hq0N : q0 < N := rn_lt (r := []) (fun w hw => by
        rw [List.mem_singleton] at hw
        subst hw
        exact hcs _ (by rw [hst]; simp)) hh (by rw [hq0]; intro z; cases z; exact absurd rfl (rn_c999 hc1))
      have hcb : CallB R s args own idx q.1 q.2.1 q.2.2.1 q.2.2.2.1 (rn_ws q) (rn_rm q (N1 - N) (sl1 - sl)) (N1 - N) (sl1 - sl) q.2.2.2.2.2.1 := callB_of _ hts (rn_gi o5) rfl rfl rfl (rn_hw hts o4 rfl) (rn_hw hts o1 rfl) ⟨m2, m3, m4⟩ ⟨hfr, by show 8 + (q.2.2.1 + 11) + q.2.2.2.2.2.2.2.1 ≤ R.locals; omega⟩
      refine hfin rfl (a := (Value.ref (ad q0) :: as1.map (rn_vv ad)).toArray) (va_runV (C := q.1.cls) (b := ad q0) (As := as1.map (rn_vv ad)) hS5 hM ⟨hcb, rn_hw hts o2 rfl, rn_hw hts o3 rfl⟩ ⟨rn_Pc_blind, ?_, hpre⟩ rfl (by simpa using hlen) hlsz hst1 h8' hd ⟨hce, hsl⟩)
      have := va_recv hKn.1 hP hc1 (rn_wl_get hq0N |>.trans (by rw [hq0]; rfl))
      rw [o6] at this
      exact this
    · cases o6
  · next idx w1 w2 _ w4 w5 =>
    simp only [Bool.and_eq_true, decide_eq_true_eq] at hok
    obtain ⟨⟨⟨o1, o2⟩, o4⟩, o5⟩ := hok
    cases hcc
    have hcb : CallB R s args own idx q.1 q.2.1 q.2.2.1 q.2.2.2.1 (rn_ws q) (rn_rm q (N1 - N) (sl1 - sl)) (N1 - N) (sl1 - sl) q.2.2.2.2.2.1 := callB_of _ hts (rn_gi o5) rfl rfl rfl (rn_hw hts o4 rfl) (rn_hw hts o1 rfl) ⟨m2, m3, m4⟩ ⟨hfr, by show 8 + (q.2.2.1 + 11) + q.2.2.2.2.2.2.2.1 ≤ R.locals; omega⟩
    exact hfin rfl (a := (as.map (rn_vv ad)).toArray) (va_runS (As := as.map (rn_vv ad)) hS5 hM ⟨hcb, rn_hw hts o2 rfl⟩ ⟨rn_Pc_blind, hpre⟩ rfl (by simpa using hlen) hlsz hstk2 h8' hd ⟨hce, hsl⟩)
  · next idx j w2 _ w4 w5 =>
    simp only [Bool.and_eq_true, decide_eq_true_eq] at hok
    obtain ⟨⟨⟨o1, o2⟩, o4⟩, o5⟩ := hok
    cases hcc
    obtain ⟨host, hn⟩ := rn_nest_at hKn o1
    have hcb : va_CN R s args own idx q.1 host q.2.1 q.2.2.1 q.2.2.2.1 (rn_ws q) (rn_rm q (N1 - N) (sl1 - sl)) (N1 - N) (sl1 - sl) q.2.2.2.2.2.1 := va_cnB _ hts (rn_gi o5) rfl rfl rfl hn (rn_hw hts o4 rfl) ⟨m2, m3, m4⟩ ⟨hfr, by show 8 + (q.2.2.1 + 11) + q.2.2.2.2.2.2.2.1 ≤ R.locals; omega⟩
    exact hfin rfl (a := (as.map (rn_vv ad)).toArray) (va_runSN (As := as.map (rn_vv ad)) hS5 hM ⟨hcb, rn_hw hts o2 rfl, trivial⟩ ⟨rn_Pc_blind, hpre⟩ rfl (by simpa using hlen) hlsz hstk2 h8' hd ⟨hce, hsl⟩)
  · next idx w1 w2 _ w4 w5 =>
    simp only [Bool.and_eq_true, decide_eq_true_eq] at hok
    obtain ⟨⟨⟨⟨⟨o1, o2⟩, o4⟩, o5⟩, o6⟩, o7⟩ := hok
    cases hcc
    obtain ⟨q0, fs, as1, rfl, hq0, hst1⟩ := hstk rfl
    have hcb : CallB R s args own idx q.1 q.2.1 q.2.2.1 q.2.2.2.1 (rn_ws q) (rn_rm q (N1 - N) (sl1 - sl)) (N1 - N) (sl1 - sl) q.2.2.2.2.2.1 := callB_of _ hts (rn_gi o5) rfl rfl rfl (rn_hw hts o4 rfl) (rn_hw hts o1 rfl) ⟨m2, m3, m4⟩ ⟨hfr, by show 8 + (q.2.2.1 + 11) + q.2.2.2.2.2.2.2.1 ≤ R.locals; omega⟩
    rw [o7] at hcb
    exact hfin rfl (a := (Value.ref (ad q0) :: as1.map (rn_vv ad)).toArray) (va_runI (b := ad q0) (As := as1.map (rn_vv ad)) hS5 hM ⟨hcb, o6, rn_hw hts o2 rfl⟩ ⟨rn_Pc_blind, hpre⟩ rfl (by simpa using hlen) hlsz hst1 h8' hd ⟨hce, hsl⟩)
  · next idx j w2 _ w4 w5 =>
    simp only [Bool.and_eq_true, decide_eq_true_eq] at hok
    obtain ⟨⟨⟨⟨⟨o1, o2⟩, o4⟩, o5⟩, o6⟩, o7⟩ := hok
    cases hcc
    obtain ⟨q0, fs, as1, rfl, hq0, hst1⟩ := hstk rfl
    obtain ⟨host, hn⟩ := rn_nest_at hKn o1
    have hcb : va_CN R s args own idx q.1 host q.2.1 q.2.2.1 q.2.2.2.1 (rn_ws q) (rn_rm q (N1 - N) (sl1 - sl)) (N1 - N) (sl1 - sl) q.2.2.2.2.2.1 := va_cnB _ hts (rn_gi o5) rfl rfl rfl hn (rn_hw hts o4 rfl) ⟨m2, m3, m4⟩ ⟨hfr, by show 8 + (q.2.2.1 + 11) + q.2.2.2.2.2.2.2.1 ≤ R.locals; omega⟩
    rw [o7] at hcb
    exact hfin rfl (a := (Value.ref (ad q0) :: as1.map (rn_vv ad)).toArray) (va_runIN (b := ad q0) (As := as1.map (rn_vv ad)) hS5 hM ⟨hcb, o6, rn_hw hts o2 rfl⟩ ⟨rn_Pc_blind, hpre⟩ rfl (by simpa using hlen) hlsz hst1 h8' hd ⟨hce, hsl⟩)
  · cases hok
end RN5
