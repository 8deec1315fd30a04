/-! from the abstract entries to the cells: numbers become addresses -/
def rn_vv (ad : Nat → Nat) (v : Value) : Value := match v with
  | .ref a => .ref (ad a)
  | v => v
def rn_ev (cA : Nat → ClassId) (ad : Nat → Nat) (e : rn_E) : va_E := match e with
  | .inl (t, n, .inr (.inr (.inr (.inr f)))) => .inl (cA t, n, .inr (.inr (.inr (.inr (fun i => (f i).map ad)))))
  | .inl (t, a) => .inl (cA t, a)
  | .inr (c, fs) => .inr (c, fs.map (rn_vv ad))
def rn_wl (cA : Nat → ClassId) (ad : Nat → Nat) (N : Nat) (h : rn_H) : va_W := (List.range N).map (fun k => (ad k, rn_ev cA ad (h k)))
def rn_cE (N : Nat) (e : rn_E) : Prop := match e with
  | .inl (_, _, .inr (.inr (.inr (.inr f)))) => ∀ i a : Nat, f i = some a → a < N
  | .inl _ => True
  | .inr (_, fs) => ∀ v ∈ fs, rn_cv N v = true
def rn_hc (N : Nat) (h : rn_H) : Prop := (∀ k, k < N → rn_cE N (h k)) ∧ h 1000000 = .inr (999999, []) ∧ N ≤ 1000000
def rn_cs1 (N : Nat) (st : List Value) : Prop := ∀ v ∈ st, rn_cv N v = true
def rn_cl1 (N : Nat) (lv : rn_L) : Prop := ∀ q ∈ lv, rn_cv N q.2 = true
def rn_ag (N : Nat) (ad ad2 : Nat → Nat) : Prop := ∀ k, k < N ∨ k = 1000000 → ad2 k = ad k
theorem rn_cv_ref {N a : Nat} : rn_cv N (.ref a) = true ↔ a < N ∨ a = 1000000 := by
  simp [rn_cv]
theorem rn_vv_ag {N : Nat} {ad ad2 : Nat → Nat} (h : rn_ag N ad ad2) {v : Value} (hv : rn_cv N v = true) : rn_vv ad2 v = rn_vv ad v := by
  cases v <;> simp only [rn_vv]
  rename_i a
  rw [h a (rn_cv_ref.mp hv)]
theorem rn_vs_ag {N : Nat} {ad ad2 : Nat → Nat} (h : rn_ag N ad ad2) {st : List Value} (hv : rn_cs1 N st) : st.map (rn_vv ad2) = st.map (rn_vv ad) :=
  List.map_congr_left fun v q => rn_vv_ag h (hv v q)
theorem rn_ev_ag {N : Nat} {cA : Nat → ClassId} {ad ad2 : Nat → Nat} (h : rn_ag N ad ad2) {e : rn_E} (he : rn_cE N e) : rn_ev cA ad2 e = rn_ev cA ad e := by
  rcases e with ⟨t, n, f | f | f | f | f⟩ | ⟨c, fs⟩
  · rfl
  · rfl
  · rfl
  · rfl
  · have e1 : (fun i => (f i).map ad2) = (fun i => (f i).map ad) := by
      funext i
      cases hf : f i with
      | none => rfl
      | some a => simp [h a (Or.inl (he i a hf))]
    simp only [rn_ev, e1]
  · have e1 : fs.map (rn_vv ad2) = fs.map (rn_vv ad) := rn_vs_ag h he
    simp only [rn_ev, e1]
theorem rn_wl_get {cA : Nat → ClassId} {ad : Nat → Nat} {N k : Nat} {h : rn_H} (hk : k < N) : (rn_wl cA ad N h)[k]? = some (ad k, rn_ev cA ad (h k)) := by
  simp [rn_wl, hk]
theorem rn_wl_some {cA : Nat → ClassId} {ad : Nat → Nat} {N k : Nat} {h : rn_H} {q : Nat × va_E} (hq : (rn_wl cA ad N h)[k]? = some q) : k < N ∧ q = (ad k, rn_ev cA ad (h k)) := by
  by_cases hk : k < N
  · rw [rn_wl_get hk] at hq
    exact ⟨hk, (Option.some.inj hq).symm⟩
  · rw [List.getElem?_eq_none (by simp [rn_wl]; omega)] at hq
    cases hq
theorem rn_up_s {h : rn_H} {q : Nat} {e : rn_E} : rn_up h q e q = e := by simp [rn_up]
theorem rn_up_n {h : rn_H} {q j : Nat} {e : rn_E} (hj : j ≠ q) : rn_up h q e j = h j := by
  have : Nat.beq j q = false := by
    cases hb : Nat.beq j q with
    | false => rfl
    | true => exact absurd (Nat.eq_of_beq_eq_true hb) hj
  simp only [rn_up, this]
theorem rn_wl_set {cA : Nat → ClassId} {ad : Nat → Nat} {N q : Nat} {h : rn_H} {e : rn_E} {x : va_E} (hx : rn_ev cA ad e = x) : (rn_wl cA ad N h).set q (ad q, x) = rn_wl cA ad N (rn_up h q e) := by
  subst hx
  refine List.ext_getElem? fun k => ?_
  by_cases hk : k < N
  · by_cases hq : k = q
    · subst hq
      rw [List.getElem?_set_self (by simp [rn_wl]; exact hk), rn_wl_get hk, rn_up_s]
    · rw [List.getElem?_set_ne (Ne.symm hq), rn_wl_get hk, rn_wl_get hk, rn_up_n hq]
  · rw [List.getElem?_eq_none (by simp [rn_wl]; omega), List.getElem?_eq_none (by simp [rn_wl]; omega)]
theorem rn_wl_ag {cA : Nat → ClassId} {N : Nat} {ad ad2 : Nat → Nat} {h : rn_H} (hA : rn_ag N ad ad2) (hc : rn_hc N h) : rn_wl cA ad2 N h = rn_wl cA ad N h := by
  refine List.map_congr_left fun k hk => ?_
  have hk := List.mem_range.mp hk
  rw [hA k (Or.inl hk), rn_ev_ag hA (hc.1 k hk)]
theorem rn_ag_up {N q : Nat} {ad : Nat → Nat} (hN : N < 1000000) : rn_ag N ad (va_up ad N q) := by
  intro k hk
  simp only [va_up]
  rw [if_neg]
  omega
theorem rn_wl_push {cA : Nat → ClassId} {N q : Nat} {ad : Nat → Nat} {h : rn_H} {e : rn_E} {x : va_E} (hN : N < 1000000) (hc : rn_hc N h) (hx : rn_ev cA (va_up ad N q) e = x) : rn_wl cA ad N h ++ [(q, x)] = rn_wl cA (va_up ad N q) (N + 1) (rn_up h N e) := by
  subst hx
  rw [← rn_wl_ag (rn_ag_up (q := q) hN) hc]
  unfold rn_wl
  rw [List.range_succ, List.map_append]
  congr 1
  · refine List.map_congr_left fun k hk => ?_
    have hk := List.mem_range.mp hk
    rw [rn_up_n (by omega)]
  · simp [va_up, rn_up_s]
/-! what the machine knows of classes in a state -/
def rn_tys (cA : Nat → ClassId) : List (ClassId × FieldType) := (List.range rn_ft.length).map (fun t => (cA t, rn_ft.getD t .int))
theorem rn_tys_get {cA : Nat → ClassId} {t : Nat} {ty : FieldType} (h : rn_ft[t]? = some ty) : (rn_tys cA)[t]? = some (cA t, ty) := by
  have ht : t < rn_ft.length := (List.getElem?_eq_some_iff.mp h).1
  simp only [rn_tys, List.getElem?_map, List.getElem?_range ht, Option.map_some]
  rw [List.getD_eq_getElem?_getD, h]
  rfl
def rn_Kn (D : va_G) (cA : Nat → ClassId) (U : State) : Prop := va_K D rn_cls (rn_tys cA) U ∧ (∀ w ∈ rn_nest, va_Nw (.methodLinkNest w.1 w.2.1 w.2.2.1 w.2.2.2) U) ∧ ∀ C : String, FieldType.object C ∈ rn_ft → va_AO C U
theorem rn_Kn.warm {D : va_G} {cA : Nat → ClassId} {s U : State} (hW : s.WarmedH U.vm) (h : rn_Kn D cA s) : rn_Kn D cA U :=
  ⟨va_K.moved hW.alike h.1, fun w hw => va_Nw.warmM hW (h.2.1 w hw), fun C hC => va_AO.moved hW.alike (h.2.2 C hC)⟩
theorem rn_Kn.same {D : va_G} {cA : Nat → ClassId} {s U : State} (hW : s.vm = U.vm) (h : rn_Kn D cA s) : rn_Kn D cA U :=
  ⟨va_K.moved (by rw [← hW]; exact Vm.Alike.refl _) h.1, fun w hw => va_Nw.same rfl hW (h.2.1 w hw), fun C hC => va_AO.moved (by rw [← hW]; exact Vm.Alike.refl _) (h.2.2 C hC)⟩
theorem rn_hw {args : Array Value} {s : State} {i : Nat} {c : Cond} (hts : ∀ w ∈ rn_gw, w.before args s = true) (h : lw_tbl[i]? = some c) (hg : goodWord c = true) : c.before args s = true :=
  hts c (List.mem_filter.mpr ⟨List.mem_of_getElem? h, hg⟩)
theorem rn_gm {i : Nat} {c : Cond} (h : lw_tbl[i]? = some c) (hg : goodWord c = true) : c ∈ rn_gw := List.mem_filter.mpr ⟨List.mem_of_getElem? h, hg⟩
/-! locals -/
def rn_vl (ad : Nat → Nat) (lv : rn_L) : List (Nat × Value) := lv.map (fun q => (q.1, rn_vv ad q.2))
theorem rn_lk_some {i : Nat} {v : Value} : ∀ {lv : rn_L}, rn_lk i lv = some v → (i, v) ∈ lv
  | [], h => by cases h
  | (j, w) :: t, h => by
    unfold rn_lk at h
    split at h
    · next hb =>
      have := Nat.eq_of_beq_eq_true hb
      subst this
      cases h
      exact List.mem_cons_self
    · exact List.mem_cons_of_mem _ (rn_lk_some h)
theorem rn_pk_sub {lv : rn_L} : ∀ {ks : List Nat} {q : Nat × Value}, q ∈ rn_pk lv ks → q ∈ lv
  | [], q, h => by cases h
  | i :: t, q, h => by
    unfold rn_pk at h
    split at h
    · next v hv =>
      rcases List.mem_cons.mp h with rfl | h
      · exact rn_lk_some hv
      · exact rn_pk_sub h
    · exact rn_pk_sub h
theorem rn_kp_sub {ks : List Nat} {lv : rn_L} {q : Nat × Value} (h : q ∈ rn_kp ks lv) : q ∈ lv := by
  cases ks with
  | nil => exact h
  | cons i t => exact rn_pk_sub h
theorem rn_vl_sub {ad : Nat → Nat} {ls : Array Slot} {n : Nat} {lv lv2 : rn_L} (h : lv_has ls n (rn_vl ad lv)) (hs : ∀ q ∈ lv2, q ∈ lv) : lv_has ls n (rn_vl ad lv2) := by
  refine ⟨h.1, h.2.1, fun q hq => ?_⟩
  obtain ⟨x, hx, rfl⟩ := List.mem_map.mp hq
  exact h.2.2 _ (List.mem_map.mpr ⟨x, hs x hx, rfl⟩)
theorem rn_vl_at {ad : Nat → Nat} {ls : Array Slot} {n i : Nat} {lv : rn_L} {v : Value} (h : lv_has ls n (rn_vl ad lv)) (hk : rn_lk i lv = some v) : ls[i]? = some (.val (rn_vv ad v)) :=
  h.2.2 (i, rn_vv ad v) (List.mem_map.mpr ⟨(i, v), rn_lk_some hk, rfl⟩)
theorem rn_vl_ag {N : Nat} {ad ad2 : Nat → Nat} (h : rn_ag N ad ad2) {lv : rn_L} (hv : rn_cl1 N lv) : rn_vl ad2 lv = rn_vl ad lv :=
  List.map_congr_left fun q hq => by rw [rn_vv_ag h (hv q hq)]
theorem rn_vv_cat {ad : Nat → Nat} {v : Value} : (rn_vv ad v).category = v.category := by cases v <;> rfl
theorem rn_cs_map {ad : Nat → Nat} (st : List Value) : ((st.map (rn_vv ad)).map fun v => v.category).sum = rn_cs st := by
  unfold rn_cs
  rw [List.map_map]
  congr 1
  exact List.map_congr_left fun v _ => rn_vv_cat
theorem rn_fl_map {ad : Nat → Nat} {i : Nat} {lv : rn_L} : (rn_vl ad lv).filter (fun q => !(q.1 == i) && !(q.1 + 1 == i && q.2.category == 2)) = rn_vl ad (rn_fl i lv) := by
  unfold rn_vl rn_fl
  rw [List.filter_map]
  congr 1
  refine List.filter_congr fun q _ => ?_
  simp only [Function.comp, rn_vv_cat]
theorem rn_fm_map {ad : Nat → Nat} {i : Nat} {lv : rn_L} : (rn_vl ad lv).filter (fun q => !(q.1 == i) && (!(q.1 == i + 1) && !(q.1 + 1 == i && q.2.category == 2))) = rn_vl ad (rn_fm i lv) := by
  unfold rn_vl rn_fm
  rw [List.filter_map]
  congr 1
  refine List.filter_congr fun q _ => ?_
  simp only [Function.comp, rn_vv_cat]
theorem rn_cl1_cons {N i : Nat} {v : Value} {lv : rn_L} (hv : rn_cv N v = true) (h : rn_cl1 N lv) : rn_cl1 N ((i, v) :: rn_fl i lv) := by
  intro q hq
  rcases List.mem_cons.mp hq with rfl | hq
  · exact hv
  · exact h q (List.mem_filter.mp hq).1
theorem rn_cl1_consm {N i : Nat} {v : Value} {lv : rn_L} (hv : rn_cv N v = true) (h : rn_cl1 N lv) : rn_cl1 N ((i, v) :: rn_fm i lv) := by
  intro q hq
  rcases List.mem_cons.mp hq with rfl | hq
  · exact hv
  · exact h q (List.mem_filter.mp hq).1
theorem rn_vl_args {ad : Nat → Nat} : ∀ (as : List Value) (i : Nat), lv_args i (as.map (rn_vv ad)) = rn_vl ad (lv_args i as)
  | [], i => rfl
  | v :: t, i => by
    simp only [List.map_cons, lv_args, rn_vl, rn_vv_cat]
    rw [rn_vl_args t]
    rfl
theorem rn_cl1_args {N : Nat} : ∀ (as : List Value) (i : Nat), rn_cs1 N as → rn_cl1 N (lv_args i as)
  | [], i, h => by intro q hq; cases hq
  | v :: t, i, h => by
    intro q hq
    simp only [lv_args] at hq
    rcases List.mem_cons.mp hq with rfl | hq
    · exact h v List.mem_cons_self
    · exact rn_cl1_args t _ (fun w hw => h w (List.mem_cons_of_mem _ hw)) q hq
