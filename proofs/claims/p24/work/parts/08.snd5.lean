/-! one step that makes an entry -/
def rn_nr (v : Value) : Bool := match v with
  | .ref _ => false
  | _ => true
def rn_oNe (own : String) (idx c n w1 w2 w3 : Nat) : Bool := match rn_cls[c]? with
  | some q => Nat.beq n q.2.2 && decide (lw_tbl[w1]? = some (.classLink own idx q.1)) && decide (lw_tbl[w2]? = some (.instantiable q.1 q.2.2)) && decide (lw_tbl[w3]? = some (.initialized q.1)) && (rn_dv c).all rn_nr
  | none => false
theorem rn_oNe_some {own : String} {idx c n w1 w2 w3 : Nat} (h : rn_oNe own idx c n w1 w2 w3 = true) : ∃ q : vw_C, rn_cls[c]? = some q ∧ n = q.2.2 ∧ lw_tbl[w1]? = some (.classLink own idx q.1) ∧ lw_tbl[w2]? = some (.instantiable q.1 q.2.2) ∧ lw_tbl[w3]? = some (.initialized q.1) ∧ ∀ v ∈ rn_dv c, rn_nr v = true := by
  unfold rn_oNe at h
  split at h
  · next q hq =>
    simp only [Bool.and_eq_true, decide_eq_true_eq] at h
    obtain ⟨⟨⟨⟨o1, o2⟩, o3⟩, o4⟩, o5⟩ := h
    exact ⟨q, hq, Nat.eq_of_beq_eq_true o1, o2, o3, o4, List.all_eq_true.mp o5⟩
  · cases h
def rn_oNa (a : ArrayType) (t w : Nat) : Bool := match t with
  | 0 => decide (newarray.typeOf a = .int) && decide (lw_tbl[w]? = some (.arrayClass .int))
  | 1 => decide (newarray.typeOf a = .long) && decide (lw_tbl[w]? = some (.arrayClass .long))
  | 2 => decide (newarray.typeOf a = .boolean) && decide (lw_tbl[w]? = some (.arrayClass .boolean))
  | _ => false
theorem rn_oNa_some {a : ArrayType} {t w : Nat} (h : rn_oNa a t w = true) : (t = 0 ∧ newarray.typeOf a = .int ∧ lw_tbl[w]? = some (.arrayClass .int)) ∨ (t = 1 ∧ newarray.typeOf a = .long ∧ lw_tbl[w]? = some (.arrayClass .long)) ∨ (t = 2 ∧ newarray.typeOf a = .boolean ∧ lw_tbl[w]? = some (.arrayClass .boolean)) := by
  unfold rn_oNa at h
  split at h
  · simp only [Bool.and_eq_true, decide_eq_true_eq] at h
    exact Or.inl ⟨rfl, h⟩
  · simp only [Bool.and_eq_true, decide_eq_true_eq] at h
    exact Or.inr (Or.inl ⟨rfl, h⟩)
  · simp only [Bool.and_eq_true, decide_eq_true_eq] at h
    exact Or.inr (Or.inr ⟨rfl, h⟩)
  · cases h
def rn_oNq (own : String) (idx t c w : Nat) : Bool := match rn_cls[c]? with
  | some q => Nat.ble 3 t && decide (rn_ft[t]? = some (.object q.1)) && decide (lw_tbl[w]? = some (.classLink own idx q.1))
  | none => false
theorem rn_oNq_some {own : String} {idx t c w : Nat} (h : rn_oNq own idx t c w = true) : ∃ (q : vw_C) (t3 : Nat), t = t3 + 3 ∧ rn_ft[t]? = some (.object q.1) ∧ lw_tbl[w]? = some (.classLink own idx q.1) := by
  unfold rn_oNq at h
  split at h
  · next q hq =>
    simp only [Bool.and_eq_true, decide_eq_true_eq] at h
    exact ⟨q, t - 3, by have := Nat.le_of_ble_eq_true h.1.1; omega, h.1.2, h.2⟩
  · cases h
def rn_oN (own : String) (i : Instr) (ax : List Nat) : Bool := match i with
  | .new idx => match ax with
    | [c, n, w1, w2, w3] => rn_oNe own idx c n w1 w2 w3
    | _ => false
  | .newarray a => match ax with
    | [t, w] => rn_oNa a t w
    | _ => false
  | .anewarray idx => match ax with
    | [t, c, w] => rn_oNq own idx t c w
    | _ => false
  | _ => true
theorem rn_vv_nr {ad : Nat → Nat} {v : Value} (h : rn_nr v = true) : rn_vv ad v = v := by
  cases v <;> first | rfl | (cases h)
theorem rn_cv_nr {N : Nat} {v : Value} (h : rn_nr v = true) : rn_cv N v = true := by
  cases v <;> first | rfl | (cases h)
theorem rn_cv_up {N N1 : Nat} {v : Value} (hN : N ≤ N1) (h : rn_cv N v = true) : rn_cv N1 v = true := by
  cases v <;> first | rfl | skip
  rename_i a
  rcases rn_cv_ref.mp h with g | g
  · exact rn_cv_ref.mpr (Or.inl (by omega))
  · exact rn_cv_ref.mpr (Or.inr g)
theorem rn_cE_up {N N1 : Nat} {e : rn_E} (hN : N ≤ N1) (h : rn_cE N e) : rn_cE N1 e := by
  rcases e with ⟨t, n, f | f | f | f | f⟩ | ⟨c, fs⟩
  · trivial
  · trivial
  · trivial
  · trivial
  · exact fun i a ha => Nat.lt_of_lt_of_le (h i a ha) hN
  · exact fun v hv => rn_cv_up hN (h v hv)
theorem rn_cs1_up {N N1 : Nat} {st : List Value} (hN : N ≤ N1) (h : rn_cs1 N st) : rn_cs1 N1 st := fun v hv => rn_cv_up hN (h v hv)
theorem rn_cl1_up {N N1 : Nat} {lv : rn_L} (hN : N ≤ N1) (h : rn_cl1 N lv) : rn_cl1 N1 lv := fun v hv => rn_cv_up hN (h v hv)
theorem rn_hc_push {N : Nat} {h : rn_H} {e : rn_E} (hh : rn_hc N h) (hN : N < 1000000) (he : rn_cE (N + 1) e) : rn_hc (N + 1) (rn_up h N e) := by
  refine ⟨fun k hk => ?_, ?_, hN⟩
  · by_cases h1 : k = N
    · subst h1; rw [rn_up_s]; exact he
    · rw [rn_up_n h1]; exact rn_cE_up (Nat.le_succ N) (hh.1 k (by omega))
  · rw [rn_up_n (by omega)]
    exact hh.2.1
theorem rn_RA {U : State} {c1 c2 : ClassId} {ty : FieldType} (h1 : va_RA U c1 ty) (h2 : va_RA U c2 ty) : c1 = c2 := by
  cases ty with
  | object C =>
    obtain ⟨_, _, _, _, _, a⟩ := h1
    obtain ⟨_, _, _, _, _, b⟩ := h2
    exact Option.some.inj (a.symm.trans b)
  | _ => exact Option.some.inj ((show U.vm.findClass _ = some c1 from h1).symm.trans h2)
theorem rn_last {D : va_G} {cl : List vw_C} {tys : List (ClassId × FieldType)} {c1 c2 : ClassId} {ty : FieldType} {t : Nat} {U : State} (hK : va_K D cl (tys ++ [(c1, ty)]) U) (ht : tys[t]? = some (c2, ty)) : c1 = c2 := by
  have h1 := (hK.2 tys.length (c1, ty) (by simp)).2
  have hl : t < tys.length := (List.getElem?_eq_some_iff.mp ht).1
  have h2 := (hK.2 t (c2, ty) (by rw [List.getElem?_append_left hl]; exact ht)).2
  exact rn_RA h1 h2
section RN4
variable {p : Program} {l : Launch} {e : Env} {R : Room} {s : State} {m : MethodId} {args : Array Value} {below : List Frame} {meth : Method} {c : Code} {H : Heap} {locs : List Loc} {cells slots : Nat} {Q : State → Prop}
variable {cc : ByteArray} {pc n nL : Nat} {ls : Array Slot} {D : va_G} {cA : Nat → ClassId} {ad : Nat → Nat} {N : Nat} {h : rn_H} {A : Nat → Prop} {H0 : Heap} {lv : rn_L} {st : List Value} {own : String} {fr lo : Nat}
set_option maxHeartbeats 4000000 in
theorem rn_a_ok {i : Instr} {ax : List Nat} {st1 : List Value} {z : rn_E} {k : Nat} (hx : p.tables.exec = Jvm.exec) (hb : c.code = cc) (hts : ∀ w ∈ rn_gw, w.before args s = true) (hown : s.vm.findClass own = some m.cls)
    (hKn : rn_Kn D cA s) (hP : va_P D rn_cls (rn_wl cA ad N h) H) (hD : va_D A (rn_wl cA ad N h)) (hS : va_S A H0 H locs) (hA : ∀ q, H0.size ≤ q → A q)
    (hl : lv_has ls nL (rn_vl ad lv)) (hcl : rn_cl1 N lv) (hcs : rn_cs1 N st) (hh : rn_hc N h) (hN : N < 1000000) (hce : cells + 1 ≤ R.cells) (hsl : slots + k ≤ R.slots)
    (hok : rn_oN own i ax = true) (hd : decode cc pc = .ok (i, rn_ln i)) (hp : rn_a rn_dv i ax st = some (st1, z, k))
    (kk : ∀ (ad2 : Nat → Nat) (H1 : Heap), rn_ag N ad ad2 → va_P D rn_cls (rn_wl cA ad2 (N + 1) (rn_up h N z)) H1 → va_D A (rn_wl cA ad2 (N + 1) (rn_up h N z)) → va_S A H0 H1 locs → rn_hc (N + 1) (rn_up h N z) → lv_has ls nL (rn_vl ad2 lv) → rn_cl1 (N + 1) lv → rn_cs1 (N + 1) (.ref N :: st1) → W p l e R s m args below meth c H1 locs (cells + 1) (slots + k) Q (F0 m (pc + rn_ln i) ls ((.ref N :: st1).map (rn_vv ad2)))) :
    W p l e R s m args below meth c H locs cells slots Q (F0 m pc ls (st.map (rn_vv ad))) := by
  have fin : ∀ (q : Nat) (H1 : Heap) (x : va_E), rn_ev cA (va_up ad N q) z = x → rn_cE (N + 1) z → rn_cs1 N st1 → va_P D rn_cls (rn_wl cA ad N h ++ [(q, x)]) H1 → va_D A (rn_wl cA ad N h ++ [(q, x)]) → va_S A H0 H1 locs → W p l e R s m args below meth c H1 locs (cells + 1) (slots + k) Q (F0 m (pc + rn_ln i) ls (.ref q :: st1.map (rn_vv ad))) := by
    intro q H1 x hxz hz hst g1 g2 g3
    have hag : rn_ag N ad (va_up ad N q) := rn_ag_up hN
    rw [rn_wl_push hN hh hxz] at g1 g2
    have := kk (va_up ad N q) H1 hag g1 g2 g3 (rn_hc_push hh hN hz) (by rw [rn_vl_ag hag hcl]; exact hl) (rn_cl1_up (Nat.le_succ N) hcl) (rn_cs_c (rn_cv_ref.mpr (Or.inl (Nat.lt_succ_self N))) (rn_cs1_up (Nat.le_succ N) hst))
    rw [List.map_cons, rn_vs_ag hag hst] at this
    have e1 : rn_vv (va_up ad N q) (.ref N) = .ref q := by simp [rn_vv, va_up]
    rw [e1] at this
    exact this
  cases i
  all_goals (try (exact absurd (show (none : Option (List Value × rn_E × Nat)) = some (st1, z, k) from hp) (fun q => by cases q)))
  case new idx =>
    simp only [rn_a, rn_oN] at hp hok
    split at hp
    · cases hp
      next ci w1 w2 w3 =>
      obtain ⟨q1, hc1, rfl, o2, o3, o4, hnr⟩ := rn_oNe_some hok
      have hcf := rn_cf_all _ q1 hc1
      refine va_new (C := q1.1) (T := q1.2.1) (N := q1.2.2) hx hb hts hcf.1 (rn_fty ci) hcf.2.1 hown (rn_hw hts o2 rfl) (rn_hw hts o3 rfl) (rn_hw hts o4 rfl) hKn.1 hP hD hS hA hc1 (fs := rn_dv ci) hcf.2.2.2 hce hsl hd (fun q H1 g1 g2 g3 => fin q H1 _ ?_ (fun v hv => rn_cv_nr (hnr v hv)) hcs g1 g2 g3)
      show Sum.inr (ci, (rn_dv ci).map (rn_vv (va_up ad N q))) = Sum.inr (ci, rn_dv ci)
      have e9 : (rn_dv ci).map (rn_vv (va_up ad N q)) = (rn_dv ci).map id := List.map_congr_left fun v hv => rn_vv_nr (hnr v hv)
      rw [e9, List.map_id]
    · cases hp
  case newarray a =>
    simp only [rn_a, rn_oN] at hp hok
    split at hp
    · split at hp
      · next t w x r =>
        split at hp
        · cases hp
        · next hno =>
          cases hp
          have n1 : ¬ x < 0 := fun z => hno (Or.inl z)
          have n2 : x.toNatClampNeg ≤ 1000000 := Nat.le_of_not_lt fun z => hno (Or.inr z)
          rcases rn_oNa_some hok with ⟨rfl, o1, o2⟩ | ⟨rfl, o1, o2⟩ | ⟨rfl, o1, o2⟩
          · refine va_newa (ty := .int) (a0 := (x.toNatClampNeg, .inl (fun _ => 0))) hx hb (by rw [o1]; exact rn_hw hts o2 rfl) o1 hKn.1 hP hD hS hA (fun cA => by first | rfl | (simp [vp_cell, defaultValue]; done)) n1 rfl (by have : componentBytes FieldType.int = 4 := rfl; rw [this]; omega) hce hsl hd (fun q c2 H1 g0 g1 g2 g3 => ?_)
            have hc2 : c2 = cA 0 := rn_last g0 (rn_tys_get rfl)
            subst hc2
            exact fin q H1 _ rfl trivial (rn_cs_t hcs) g1 g2 g3
          · refine va_newa (ty := .long) (a0 := (x.toNatClampNeg, .inr (.inl (fun _ => 0)))) hx hb (by rw [o1]; exact rn_hw hts o2 rfl) o1 hKn.1 hP hD hS hA (fun cA => by first | rfl | (simp [vp_cell, defaultValue]; done)) n1 rfl (by have : componentBytes FieldType.long = 8 := rfl; rw [this]; omega) hce hsl hd (fun q c2 H1 g0 g1 g2 g3 => ?_)
            have hc2 : c2 = cA 1 := rn_last g0 (rn_tys_get rfl)
            subst hc2
            exact fin q H1 _ rfl trivial (rn_cs_t hcs) g1 g2 g3
          · refine va_newa (ty := .boolean) (a0 := (x.toNatClampNeg, .inl (fun _ => 0))) hx hb (by rw [o1]; exact rn_hw hts o2 rfl) o1 hKn.1 hP hD hS hA (fun cA => by first | rfl | (simp [vp_cell, defaultValue]; done)) n1 rfl (by have : componentBytes FieldType.boolean = 1 := rfl; rw [this]; omega) hce hsl hd (fun q c2 H1 g0 g1 g2 g3 => ?_)
            have hc2 : c2 = cA 2 := rn_last g0 (rn_tys_get rfl)
            subst hc2
            exact fin q H1 _ rfl trivial (rn_cs_t hcs) g1 g2 g3
      · cases hp
    · cases hp
  case anewarray idx =>
    simp only [rn_a, rn_oN] at hp hok
    split at hp
    · split at hp
      · next t ci w x r =>
        split at hp
        · cases hp
        · next hno =>
          cases hp
          have n1 : ¬ x < 0 := fun z => hno (Or.inl z)
          have n2 : x.toNatClampNeg ≤ 1000000 := Nat.le_of_not_lt fun z => hno (Or.inr z)
          obtain ⟨q1, t3, rfl, o2, o3⟩ := rn_oNq_some hok
          refine va_newq (C := q1.1) hx hb hown (rn_hw hts o3 rfl) (hKn.2.2 q1.1 (List.mem_of_getElem? o2)) hKn.1 hP hD hS hA n1 rfl (by omega) hce hsl hd (fun q c2 H1 g0 g1 g2 g3 => ?_)
          have hc2 : c2 = cA (t3 + 3) := rn_last g0 (rn_tys_get o2)
          subst hc2
          exact fin q H1 _ rfl (fun i a ha => by cases ha) (rn_cs_t hcs) g1 g2 g3
      · cases hp
    · cases hp
end RN4
