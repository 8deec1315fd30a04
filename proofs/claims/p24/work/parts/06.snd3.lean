/-! one step of locals, of the place, of the entries -/
def rn_oL (nL : Nat) (i : Instr) (ax : List Nat) : Bool := match i with
  | .istore j => Nat.blt j nL
  | .istore_n j => Nat.blt j nL
  | .lstore j => Nat.blt (j + 1) nL
  | .lstore_n j => Nat.blt (j + 1) nL
  | .astore j => Nat.blt j nL
  | .astore_n j => Nat.blt j nL
  | .iinc j n => Nat.blt j nL && (match ax with
    | [a, b] => decide (Int32.ofInt n = rn_ci a b)
    | _ => false)
  | _ => true
/-- that the table has at a place the pc that stands so far off -/
def rn_at (T : List rn_I) (k : Nat) (z : Int) : Bool := match T[k]? with
  | some e => decide ((e.1 : Int) = z)
  | none => false
theorem rn_at_some {T : List rn_I} {k : Nat} {z : Int} (h : rn_at T k z = true) : ∃ e, T[k]? = some e ∧ (e.1 : Int) = z := by
  unfold rn_at at h
  split at h
  · next e he => exact ⟨e, he, of_decide_eq_true h⟩
  · cases h
def rn_oB (T : List rn_I) (pc : Nat) (i : Instr) (ax : List Nat) : Bool := match ax with
  | [] => true
  | t :: ts => match i with
    | .goto o => rn_at T t (pc + o)
    | .ifCond _ o => rn_at T t (pc + o)
    | .if_icmp _ o => rn_at T t (pc + o)
    | .ifnull o => rn_at T t (pc + o)
    | .ifnonnull o => rn_at T t (pc + o)
    | .tableswitch d lo hi os => rn_at T t (pc + d) && decide (-2147483648 ≤ lo) && decide (hi < 2147483648) && decide (hi - lo + 1 = ts.length) && decide (os.toList.length = ts.length) && (ts.zip os.toList).all (fun q => rn_at T q.1 (pc + q.2))
    | .lookupswitch d ps => rn_at T t (pc + d) && (ps.toList.zip (ps.toList.drop 1)).all (fun (a, next) => a.1 < next.1) && decide (ps.toList.length = ts.length) && (ts.zip ps.toList).all (fun q => rn_at T q.1 (pc + q.2.2)) && ps.toList.all (fun q => decide (-2147483648 ≤ q.1) && decide (q.1 < 2147483648))
    | _ => true
theorem rn_i32 {x : Int32} {z : Int} (h1 : -2147483648 ≤ z) (h2 : z < 2147483648) : x = Int32.ofInt z ↔ x.toInt = z := by
  have e : (Int32.ofInt z).toInt = z := by
    have hs : Int32.size = 4294967296 := rfl
    rw [Int32.toInt_ofInt, hs]
    exact Int.bmod_eq_of_le (by omega) (by omega)
  constructor
  · intro h; rw [h, e]
  · intro h; rw [← Int32.toInt_inj, h, e]
theorem rn_st_spec {x : Int32} {d : Nat} : ∀ (ts : List Nat) (lo : Int), -2147483648 ≤ lo → lo + ts.length ≤ 2147483648 → ((x.toInt < lo ∨ lo + ts.length ≤ x.toInt) ∧ rn_st ts lo x d = d) ∨ (∃ j : Nat, x.toInt = lo + j ∧ ts[j]? = some (rn_st ts lo x d))
  | [], lo, h1, h2 => by
    left
    refine ⟨?_, rfl⟩
    simp only [List.length_nil]
    omega
  | t :: r, lo, h1, h2 => by
    simp only [List.length_cons] at h2
    unfold rn_st
    by_cases hx : x = Int32.ofInt lo
    · right
      refine ⟨0, ?_, ?_⟩
      · rw [(rn_i32 h1 (by omega)).mp hx]; omega
      · rw [if_pos hx]; rfl
    · rw [if_neg hx]
      have hne : x.toInt ≠ lo := fun q => hx ((rn_i32 h1 (by omega)).mpr q)
      rcases rn_st_spec (x := x) (d := d) r (lo + 1) (by omega) (by omega) with ⟨g1, g2⟩ | ⟨j, g1, g2⟩
      · left
        refine ⟨?_, g2⟩
        simp only [List.length_cons]
        omega
      · right
        exact ⟨j + 1, by omega, by rw [List.getElem?_cons_succ]; exact g2⟩
theorem rn_sk_spec {x : Int32} {T : List rn_I} {pc d : Nat} {z : Int} (hd : rn_at T d (pc + z) = true) : ∀ (ps : List (Int × Int)) (ts : List Nat), ps.length = ts.length → (ts.zip ps).all (fun q => rn_at T q.1 (pc + q.2.2)) = true → ps.all (fun q => decide (-2147483648 ≤ q.1) && decide (q.1 < 2147483648)) = true → rn_at T (rn_sk ps ts x d) (pc + Op.lookupswitch.offset ps z x.toInt) = true
  | [], [], _, _, _ => hd
  | [], _ :: _, h, _, _ => by cases h
  | _ :: _, [], h, _, _ => by cases h
  | k :: kr, t :: tr, h, h2, h3 => by
    simp only [List.zip_cons_cons, List.all_cons, Bool.and_eq_true, decide_eq_true_eq] at h2 h3
    have ih := rn_sk_spec (x := x) hd kr tr (by simpa using h) h2.2 (by simpa using h3.2)
    unfold rn_sk
    by_cases hx : x = Int32.ofInt k.1
    · have e := (rn_i32 h3.1.1 h3.1.2).mp hx
      rw [if_pos hx]
      have e2 : Op.lookupswitch.offset (k :: kr) z x.toInt = k.2 := by
        first
          | (unfold Op.lookupswitch.offset; simp [e]; done)
          | (simp [Op.lookupswitch.offset, e]; done)
      rw [e2]
      exact h2.1
    · have e : x.toInt ≠ k.1 := fun q => hx ((rn_i32 h3.1.1 h3.1.2).mpr q)
      rw [if_neg hx]
      have e2 : Op.lookupswitch.offset (k :: kr) z x.toInt = Op.lookupswitch.offset kr z x.toInt := by
        have e' : ¬ k.1 = x.toInt := fun q => e q.symm
        first
          | (unfold Op.lookupswitch.offset; simp [e, e']; done)
          | (simp [Op.lookupswitch.offset, e, e']; done)
      rw [e2]
      exact ih
section RN2
variable {p : Program} {l : Launch} {e : Env} {R : Room} {s : State} {m : MethodId} {args : Array Value} {below : List Frame} {meth : Method} {c : Code} {H : Heap} {locs : List Loc} {cells slots : Nat} {Q : State → Prop}
variable {cc : ByteArray} {pc n nL : Nat} {ls : Array Slot} {D : va_G} {cA : Nat → ClassId} {ad : Nat → Nat} {N : Nat} {h : rn_H} {A : Nat → Prop} {H0 : Heap} {lv : rn_L} {st : List Value} {own : String} {fr lo : Nat}
set_option maxHeartbeats 4000000 in
theorem rn_l_ok {i : Instr} {ax : List Nat} {st1 : List Value} {lv1 : rn_L} (hx : p.tables.exec = Jvm.exec) (hb : c.code = cc)
    (hl : lv_has ls nL (rn_vl ad lv)) (hcl : rn_cl1 N lv) (hcs : rn_cs1 N st)
    (hok : rn_oL nL i ax = true) (hd : decode cc pc = .ok (i, rn_ln i)) (hp : rn_l i ax lv st = some (lv1, st1))
    (kk : ∀ ls2 : Array Slot, lv_has ls2 nL (rn_vl ad lv1) → rn_cl1 N lv1 → rn_cs1 N st1 → W p l e R s m args below meth c H locs cells slots Q (F0 m (pc + rn_ln i) ls2 (st1.map (rn_vv ad)))) :
    W p l e R s m args below meth c H locs cells slots Q (F0 m pc ls (st.map (rn_vv ad))) := by
  cases i
  all_goals (try (exact absurd (show (none : Option (rn_L × List Value)) = some (lv1, st1) from hp) (fun q => by cases q)))
  case istore j =>
    simp only [rn_l] at hp
    split at hp
    · cases hp
      exact lv_istore hx hb hd hl (Nat.le_of_ble_eq_true hok) (by rw [rn_fl_map]; rfl) (fun ls2 h2 => kk ls2 h2 (rn_cl1_cons (rn_cs_h hcs) hcl) (rn_cs_t hcs))
    · cases hp
  case istore_n j =>
    simp only [rn_l] at hp
    split at hp
    · cases hp
      exact lv_istore_n hx hb hd rfl hl (Nat.le_of_ble_eq_true hok) (by rw [rn_fl_map]; rfl) (fun ls2 h2 => kk ls2 h2 (rn_cl1_cons (rn_cs_h hcs) hcl) (rn_cs_t hcs))
    · cases hp
  case lstore j =>
    simp only [rn_l] at hp
    split at hp
    · cases hp
      exact lv_lstore hx hb hd hl (Nat.le_of_ble_eq_true hok) (by rw [rn_fm_map]; rfl) (fun ls2 h2 => kk ls2 h2 (rn_cl1_consm (rn_cs_h hcs) hcl) (rn_cs_t hcs))
    · cases hp
  case lstore_n j =>
    simp only [rn_l] at hp
    split at hp
    · cases hp
      exact lv_lstore_n hx hb hd rfl hl (Nat.le_of_ble_eq_true hok) (by rw [rn_fm_map]; rfl) (fun ls2 h2 => kk ls2 h2 (rn_cl1_consm (rn_cs_h hcs) hcl) (rn_cs_t hcs))
    · cases hp
  case astore j =>
    simp only [rn_l] at hp
    split at hp
    · cases hp
      exact lv_astore hx hb hd hl (Nat.le_of_ble_eq_true hok) (by rw [rn_fl_map]; rfl) (fun ls2 h2 => kk ls2 h2 (rn_cl1_cons (rn_cs_h hcs) hcl) (rn_cs_t hcs))
    · cases hp
  case astore_n j =>
    simp only [rn_l] at hp
    split at hp
    · cases hp
      exact lv_astore_n hx hb hd rfl hl (Nat.le_of_ble_eq_true hok) (by rw [rn_fl_map]; rfl) (fun ls2 h2 => kk ls2 h2 (rn_cl1_cons (rn_cs_h hcs) hcl) (rn_cs_t hcs))
    · cases hp
      exact lv_astore_nN hx hb hd rfl hl (Nat.le_of_ble_eq_true hok) (by rw [rn_fl_map]; rfl) (fun ls2 h2 => kk ls2 h2 (rn_cl1_cons (rn_cs_h hcs) hcl) (rn_cs_t hcs))
    · cases hp
  case iinc j z =>
    simp only [rn_l] at hp
    split at hp
    · split at hp
      · next x hk =>
        cases hp
        simp only [rn_oL, Bool.and_eq_true, decide_eq_true_eq] at hok
        obtain ⟨k, hk2⟩ := List.getElem?_of_mem (List.mem_map.mpr ⟨_, rn_lk_some hk, rfl⟩ : (j, rn_vv ad (.int x)) ∈ rn_vl ad lv)
        exact lv_iinc hx hb hd hl hk2 (by rw [hok.2]) (Nat.le_of_ble_eq_true hok.1) (by rw [rn_fl_map]; rfl) (fun ls2 h2 => kk ls2 h2 (rn_cl1_cons rfl hcl) hcs)
      · cases hp
    · cases hp
set_option maxHeartbeats 4000000 in
theorem rn_b_ok {T : List rn_I} {i : Instr} {ax : List Nat} {k k1 : Nat} {st1 : List Value} (hx : p.tables.exec = Jvm.exec) (hb : c.code = cc) (hcs : rn_cs1 N st)
    (hnx : (match i with
      | .goto _ => false
      | .tableswitch _ _ _ _ => false
      | .lookupswitch _ _ => false
      | _ => true) = true → rn_at T k ((pc : Int) + rn_ln i) = true)
    (hok : rn_oB T pc i ax = true) {len : Nat} (hd : decode cc pc = .ok (i, len)) (hln : (match i with
      | .tableswitch _ _ _ _ => false
      | .lookupswitch _ _ => false
      | _ => true) = true → len = rn_ln i) (hp : rn_b i ax k st = some (k1, st1))
    (kk : rn_cs1 N st1 → ∀ e1 : rn_I, T[k1]? = some e1 → W p l e R s m args below meth c H locs cells slots Q (F0 m e1.1 ls (st1.map (rn_vv ad)))) :
    W p l e R s m args below meth c H locs cells slots Q (F0 m pc ls (st.map (rn_vv ad))) := by
  cases ax with
  | nil => cases hp
  | cons t ts =>
    cases i
    all_goals (try (exact absurd (show (none : Option (Nat × List Value)) = some (k1, st1) from hp) (fun q => by cases q)))
    case goto o =>
      have := hln rfl
      subst this
      cases hp
      obtain ⟨e1, h1, h2⟩ := rn_at_some hok
      exact lv_goto hx hb hd h2.symm (kk hcs e1 h1)
    case ifCond q o =>
      have := hln rfl
      subst this
      obtain ⟨e1, h1, h2⟩ := rn_at_some hok
      obtain ⟨e2, h3, h4⟩ := rn_at_some (hnx rfl)
      have h5 : e2.1 = pc + 3 := by
        have : (e2.1 : Int) = pc + (3 : Nat) := h4
        omega
      have kf : k1 = k → rn_cs1 N st1 → W p l e R s m args below meth c H locs cells slots Q (F0 m (pc + 3) ls (st1.map (rn_vv ad))) := fun q1 q2 => by
        subst q1
        rw [← h5]
        exact kk q2 e2 h3
      have kt : k1 = t → rn_cs1 N st1 → W p l e R s m args below meth c H locs cells slots Q (F0 m e1.1 ls (st1.map (rn_vv ad))) := fun q1 q2 => by
        subst q1
        exact kk q2 e1 h1
      cases q <;> simp only [rn_b] at hp <;> split at hp <;> cases hp
      · exact lv_if_eq hx hb hd h2.symm (fun z => kt (if_pos z) (rn_cs_t hcs)) (fun z => kf (if_neg z) (rn_cs_t hcs))
      · exact lv_if_ne hx hb hd h2.symm (fun z => kt (if_neg z) (rn_cs_t hcs)) (fun z => kf (if_pos z) (rn_cs_t hcs))
      · exact lv_if_lt hx hb hd h2.symm (fun z => kt (if_pos z) (rn_cs_t hcs)) (fun z => kf (if_neg z) (rn_cs_t hcs))
      · exact lv_if_ge hx hb hd h2.symm (fun z => kt (if_pos z) (rn_cs_t hcs)) (fun z => kf (if_neg z) (rn_cs_t hcs))
      · exact lv_if_gt hx hb hd h2.symm (fun z => kt (if_pos z) (rn_cs_t hcs)) (fun z => kf (if_neg z) (rn_cs_t hcs))
      · exact lv_if_le hx hb hd h2.symm (fun z => kt (if_pos z) (rn_cs_t hcs)) (fun z => kf (if_neg z) (rn_cs_t hcs))
    case if_icmp q o =>
      have := hln rfl
      subst this
      obtain ⟨e1, h1, h2⟩ := rn_at_some hok
      obtain ⟨e2, h3, h4⟩ := rn_at_some (hnx rfl)
      have h5 : e2.1 = pc + 3 := by
        have : (e2.1 : Int) = pc + (3 : Nat) := h4
        omega
      have kf : k1 = k → rn_cs1 N st1 → W p l e R s m args below meth c H locs cells slots Q (F0 m (pc + 3) ls (st1.map (rn_vv ad))) := fun q1 q2 => by
        subst q1
        rw [← h5]
        exact kk q2 e2 h3
      have kt : k1 = t → rn_cs1 N st1 → W p l e R s m args below meth c H locs cells slots Q (F0 m e1.1 ls (st1.map (rn_vv ad))) := fun q1 q2 => by
        subst q1
        exact kk q2 e1 h1
      cases q <;> simp only [rn_b] at hp <;> split at hp <;> cases hp
      · exact lv_icmp_eq hx hb hd h2.symm (fun z => kt (if_pos z) (rn_cs_t (rn_cs_t hcs))) (fun z => kf (if_neg z) (rn_cs_t (rn_cs_t hcs)))
      · exact lv_icmp_ne hx hb hd h2.symm (fun z => kt (if_neg z) (rn_cs_t (rn_cs_t hcs))) (fun z => kf (if_pos z) (rn_cs_t (rn_cs_t hcs)))
      · exact lv_icmp_lt hx hb hd h2.symm (fun z => kt (if_pos z) (rn_cs_t (rn_cs_t hcs))) (fun z => kf (if_neg z) (rn_cs_t (rn_cs_t hcs)))
      · exact lv_icmp_ge hx hb hd h2.symm (fun z => kt (if_pos z) (rn_cs_t (rn_cs_t hcs))) (fun z => kf (if_neg z) (rn_cs_t (rn_cs_t hcs)))
      · exact lv_icmp_gt hx hb hd h2.symm (fun z => kt (if_pos z) (rn_cs_t (rn_cs_t hcs))) (fun z => kf (if_neg z) (rn_cs_t (rn_cs_t hcs)))
      · exact lv_icmp_le hx hb hd h2.symm (fun z => kt (if_pos z) (rn_cs_t (rn_cs_t hcs))) (fun z => kf (if_neg z) (rn_cs_t (rn_cs_t hcs)))
    case ifnull o =>
      have := hln rfl
      subst this
      obtain ⟨e1, h1, h2⟩ := rn_at_some hok
      obtain ⟨e2, h3, h4⟩ := rn_at_some (hnx rfl)
      have h5 : e2.1 = pc + 3 := by
        have : (e2.1 : Int) = pc + (3 : Nat) := h4
        omega
      simp only [rn_b] at hp
      split at hp
      · cases hp
        refine lv_ifnull hx hb hd ?_
        rw [← h5]
        exact kk (rn_cs_t hcs) e2 h3
      · cases hp
        exact lv_ifnullN hx hb hd h2.symm (kk (rn_cs_t hcs) e1 h1)
      · cases hp
    case ifnonnull o =>
      have := hln rfl
      subst this
      obtain ⟨e1, h1, h2⟩ := rn_at_some hok
      obtain ⟨e2, h3, h4⟩ := rn_at_some (hnx rfl)
      have h5 : e2.1 = pc + 3 := by
        have : (e2.1 : Int) = pc + (3 : Nat) := h4
        omega
      simp only [rn_b] at hp
      split at hp
      · cases hp
        exact lv_ifnonnull hx hb hd h2.symm (kk (rn_cs_t hcs) e1 h1)
      · cases hp
        refine lv_ifnonnullN hx hb hd ?_
        rw [← h5]
        exact kk (rn_cs_t hcs) e2 h3
      · cases hp
    case tableswitch d lo1 hi os =>
      simp only [rn_b] at hp
      split at hp
      · next x r =>
        cases hp
        simp only [rn_oB, Bool.and_eq_true, decide_eq_true_eq] at hok
        obtain ⟨⟨⟨⟨⟨o1, o2⟩, o3⟩, o4⟩, o5⟩, o6⟩ := hok
        rcases rn_st_spec (x := x) (d := t) ts lo1 o2 (by omega) with ⟨g1, g2⟩ | ⟨j, g1, g2⟩
        · rw [g2] at kk
          obtain ⟨e1, h1, h2⟩ := rn_at_some o1
          exact lv_tableOut hx hb hd (by omega) h2.symm (kk (rn_cs_t hcs) e1 h1)
        · have hj : j < ts.length := (List.getElem?_eq_some_iff.mp g2).1
          have hj2 : j < os.toList.length := by omega
          have hz : (ts.zip os.toList)[j]? = some (rn_st ts lo1 x t, os.toList[j]) := by
            rw [List.getElem?_zip_eq_some]
            exact ⟨g2, List.getElem?_eq_getElem hj2⟩
          have := List.all_eq_true.mp o6 _ (List.mem_of_getElem? hz)
          obtain ⟨e1, h1, h2⟩ := rn_at_some this
          refine lv_tableIn hx hb hd (by omega) (by omega) (off := os.toList[j]) ?_ h2.symm (kk (rn_cs_t hcs) e1 h1)
          rw [show (x.toInt - lo1).toNat = j by omega, ← Array.getElem?_toList, List.getElem?_eq_getElem hj2]
      · cases hp
    case lookupswitch d ps =>
      simp only [rn_b] at hp
      split at hp
      · next x r =>
        cases hp
        simp only [rn_oB, Bool.and_eq_true, decide_eq_true_eq] at hok
        obtain ⟨⟨⟨⟨o1, o2⟩, o3⟩, o4⟩, o5⟩ := hok
        obtain ⟨e1, h1, h2⟩ := rn_at_some (rn_sk_spec (x := x) o1 ps.toList ts o3 o4 o5)
        exact lv_lookup hx hb hd o2 rfl h2.symm (kk (rn_cs_t hcs) e1 h1)
      · cases hp
end RN2
