/-! THE CLAIM OUT OF ONE WALK OF THE LAW'S BODY. Your part is whole_start (and what it stands on); all else here is the same for every law, but numbers. -/
def R_law : String := "RecordNichesLaw"
def lw_P (b : Addr) (xs : List Int32) (args : Array Value) (s : State) : Prop := args = #[.ref b] ∧ s.IntsAt b xs ∧ xs.length ≤ 260 ∧ (Jvm.Cond.and given_1 narrow_1).before args s = true
def lw_Q (_ : Array Value) (s : State) (o : Outcome) (t : State) : Prop := o = .returned (some (.int 1)) ∧ Framed s o t [] 600000 7302250
def lw_Z (below : List Frame) (a : Array Value) (s : State) : State → Prop := fun t => ∃ o, t.status = .running ∧ Ended t below o ∧ lw_Q a s o t
/-- the law's own end, with 1 on the stack, nothing written that was there before, its room as the claim has it -/
theorem lw_ret {p : Program} {l : Launch} {e : Env} {s : State} {m : MethodId} {below : List Frame} {meth : Method} {c : Code} {b : Nat} (hx : p.tables.exec = Jvm.exec) (hb : c.code = code) (hr : meth.sig.returnType = ret) (hlocks : meth.locks = false) {pc : Nat} {H : Heap} {ls : Array Slot} (hdg : decode code pc = .ok (.ireturn, 1)) : W p l e room_1 s m #[Value.ref b] below meth c H [] 600000 7302250 (lw_Z below #[Value.ref b] s) (F0 m pc ls [.int 1]) := by
  intro T hT X
  obtain ⟨fs, hret, hrun, hended, hW, hframe⟩ := X.leave (v := some (.int 1)) (hlocks := hlocks) (fun h => by rw [hr] at h; cases h)
  have hmeth' : T.vm.method? m = some meth := X.method'
  refine ⟨T.setFrames fs, ?_, .returned (some (.int 1)), hrun, hended, rfl, ⟨_, rfl⟩, hW, hframe⟩
  jvm_step X.here [X.here.top, hx, hb, hdg, hmeth', hr, ret, narrow_b1]
  (try refine ⟨rfl, ?_⟩); (try refine ⟨rfl, ?_⟩)
  first | (intro acts; rw [hret _ acts rfl rfl rfl]) | rw [hret _ _ rfl rfl rfl]
  exact Steps.refl _
/-- what holds at the law's entry: the machine, the code, the tables' words (any of lw_tbl by 'hts w (by decide +kernel)'), the script of L ints xs at the cell b, what the Statement gives of the start (any of its parts by flat_of_before) -/
def lw_At (p : Program) (s : State) (m : MethodId) (meth : Method) (c : Code) (b L : Nat) (xs : Nat → Int32) : Prop :=
  p.tables.exec = Jvm.exec ∧ c.code = code ∧ meth.sig.returnType = ret ∧ c.maxLocals = 16 ∧ s.vm.findClass R_law = some m.cls ∧ (∀ w ∈ lw_tbl, w.before #[Value.ref b] s = true) ∧ va_X b L xs s s.heap ∧ b < s.heap.size ∧ meth.locks = false ∧ (Jvm.Cond.and given_1 narrow_1).before #[Value.ref b] s = true
theorem rn_gw_sub : ∀ w ∈ rn_gw, w ∈ lw_tbl := fun w h => (List.mem_filter.mp h).1
theorem rn_is0 : Cond.instantiable RX0 2 ∈ lw_tbl := by decide +kernel
theorem rn_is1 : Cond.instantiable RX1 5 ∈ lw_tbl := by decide +kernel
theorem rn_is3 : Cond.instantiable RX3 18 ∈ lw_tbl := by decide +kernel
theorem rn_is4 : Cond.instantiable RX4 6 ∈ lw_tbl := by decide +kernel
theorem rn_is5 : Cond.instantiable RX5 2 ∈ lw_tbl := by decide +kernel
theorem rn_is6 : Cond.instantiable RX6 2 ∈ lw_tbl := by decide +kernel
theorem rn_is7 : Cond.instantiable RX7 16 ∈ lw_tbl := by decide +kernel
theorem rn_is8 : Cond.instantiable RX8 6 ∈ lw_tbl := by decide +kernel
theorem rn_is : ∀ (c : Nat) (q : vw_C), rn_cls[c]? = some q → ∃ n, Cond.instantiable q.1 n ∈ lw_tbl := by
  intro c q h
  match c, h with
  | 0, h => cases h; exact ⟨_, rn_is0⟩
  | 1, h => cases h; exact ⟨_, rn_is1⟩
  | 2, h => cases h; exact ⟨_, rn_is0⟩
  | 3, h => cases h; exact ⟨_, rn_is3⟩
  | 4, h => cases h; exact ⟨_, rn_is4⟩
  | 5, h => cases h; exact ⟨_, rn_is5⟩
  | 6, h => cases h; exact ⟨_, rn_is6⟩
  | 7, h => cases h; exact ⟨_, rn_is7⟩
  | 8, h => cases h; exact ⟨_, rn_is8⟩
  | 9, h => cases h; exact ⟨_, rn_is0⟩
  | c + 10, h => simp [rn_cls] at h
def rn_fw (ty : FieldType) : Cond := match ty with
  | .object C => .arrayOver (.object C)
  | ty => .arrayClass ty
theorem rn_fw_in : ∀ ty ∈ rn_ft, rn_fw ty ∈ lw_tbl := by decide +kernel
theorem rn_nest_in : ∀ x ∈ rn_nest, Cond.methodLinkNest x.1 x.2.1 x.2.2.1 x.2.2.2 ∈ lw_tbl := by decide +kernel
theorem rn_fk_prim {ty : FieldType} {A : Array Value} {s : State} (hn : ∀ C, ty ≠ .object C) (h : (Cond.arrayClass ty).before A s = true) : ∃ cA : ClassId, ArrOfT s cA ty ∧ va_RA s cA ty := by
  obtain ⟨cA, kA, comp, h1, h2, h3⟩ := Cond.arrayClass_spec h
  refine ⟨cA, fun n z => ⟨fun k h => (by cases h), kA, h2, comp, h3⟩, ?_⟩
  cases ty with
  | object C => exact absurd rfl (hn C)
  | _ => exact h1
theorem rn_fk {s : State} {A : Array Value} (hts : ∀ w ∈ lw_tbl, w.before A s = true) {ty : FieldType} (h : ty ∈ rn_ft) : ∃ cA : ClassId, ArrOfT s cA ty ∧ va_RA s cA ty := by
  have hw := hts _ (rn_fw_in ty h)
  cases ty with
  | object C =>
    obtain ⟨comp, c, k, h1, h2, h3, h4, h5⟩ := Cond.arrayOver_spec hw
    exact ⟨c, fun n z => ⟨fun k h => (by cases h), k, h3, comp, h4⟩, k, comp, h3, h4, h1, h5⟩
  | _ => exact rn_fk_prim (fun C h => by cases h) hw
theorem rn_Kn_of {s : State} {A : Array Value} (hts : ∀ w ∈ lw_tbl, w.before A s = true) : ∃ (D : va_G) (cA : Nat → ClassId), rn_Kn D cA s := by
  have h1 : ∀ c : Nat, ∃ x : ClassId × (Nat → Nat), ∀ q : vw_C, rn_cls[c]? = some q → u_Kn s q.1 q.2.1 q.2.2 x.1 x.2 := by
    intro c
    cases hc : rn_cls[c]? with
    | none => exact ⟨(0, fun _ => 0), fun q h => by cases h⟩
    | some q =>
      obtain ⟨n, hi⟩ := rn_is c q hc
      obtain ⟨cC, iS, hk⟩ := u_known (C := q.1) (T := q.2.1) (N := q.2.2) (n := n) hts (fun w hw => rn_gw_sub w ((rn_cf_all c q hc).1 w hw)) (hts _ hi)
      exact ⟨(cC, iS), fun q2 h => by cases h; exact hk⟩
  have h2 : ∀ t : Nat, ∃ cA : ClassId, ∀ ty, rn_ft[t]? = some ty → ArrOfT s cA ty ∧ va_RA s cA ty := by
    intro t
    cases ht : rn_ft[t]? with
    | none => exact ⟨0, fun q h => by cases h⟩
    | some ty =>
      obtain ⟨cA, h3⟩ := rn_fk hts (List.mem_of_getElem? ht)
      exact ⟨cA, fun q h => by cases h; exact h3⟩
  obtain ⟨f, hf⟩ := Classical.axiomOfChoice h1
  obtain ⟨g, hg⟩ := Classical.axiomOfChoice h2
  refine ⟨(fun c => (f c).1, fun c => (f c).2), g, ⟨fun c q hq => hf c q hq, fun k q hq => ?_⟩, fun x hx => va_Nw.of rfl (hts _ (rn_nest_in x hx)), fun C hC => va_AO.of (hts _ (rn_fw_in _ hC))⟩
  unfold rn_tys at hq
  rw [List.getElem?_map] at hq
  cases hr : (List.range rn_ft.length)[k]? with
  | none => rw [hr] at hq; cases hq
  | some t =>
    rw [hr] at hq
    have ht : t < rn_ft.length := List.mem_range.mp (List.mem_of_getElem? hr)
    cases hq
    refine hg t _ ?_
    show rn_ft[t]? = some (rn_ft.getD t FieldType.int)
    rw [List.getD_eq_getElem?_getD, List.getElem?_eq_getElem ht]
    rfl
def rn_h0 : rn_H := fun _ => .inr (999999, [])
/-- the law, from its entry, out of a run of the abstract machine that answers 1 -/
theorem rn_law {p : Program} {e : Env} {s : State} {m : MethodId} {below : List Frame} {meth : Method} {c : Code} (l : Launch) {b L : Nat} {xs : Nat → Int32} (C0 : lw_At p s m meth c b L xs) {f y : Nat} {q : rn_M} (hy : rn_ms y = some q) (hq1 : q.1.cls = R_law) (hq2 : q.2.1 = code) (hq3 : q.2.2.1 = 16) (hq4 : q.2.2.2.1 = some .boolean) (hq5 : Nat.ble q.2.2.2.2.2.2.1 9 = true) (hq6 : Nat.ble q.2.2.2.2.2.2.2.1 340 = true) (hqn : ¬ q.1.name = "<init>") {N1 sl1 : Nat} {h1 : rn_H} (hr : rn_x (L, xs) rn_dv rn_ms f y (0, [(0, .ref 1000000)], [], 0, 0, rn_h0) = some (some (.int 1), N1, sl1, h1)) (hN : N1 ≤ 600000) (hsl : sl1 ≤ 7302250) : W p l e room_1 s m #[Value.ref b] below meth c s.heap [] 0 0 (lw_Z below #[Value.ref b] s) (entryFrame m ([Value.ref b] : List Value).toArray 16) := by
  obtain ⟨hx, hb, hrt, hml, hown, hts, hX, hbl, hlocks, hgv⟩ := id C0
  obtain ⟨D, cA, hKn⟩ := rn_Kn_of hts
  have hl := lv_entry ([.ref b]) (n := 16) (Nat.le_of_ble_eq_true rfl)
  rw [lg_entry_eq]
  generalize (lg_sl ([.ref b]) ++ List.replicate (16 - (lg_sl ([.ref b])).length) Slot.unset).toArray = ls at hl ⊢
  have hl : lv_has ls q.2.2.1 (rn_vl (fun _ => b) [(0, .ref 1000000)]) := by rw [hq3]; exact hl
  have hM := rn_hms y q hy
  unfold rn_oM at hM
  simp only [Bool.and_eq_true] at hM
  obtain ⟨e0, g1, g2⟩ := rn_at_some hM.2
  have hpc : e0.1 = 0 := by omega
  have hbA : ¬ (fun q : Nat => s.heap.size ≤ q) b := Nat.not_le.mpr hbl
  have hwl : rn_wl cA (fun _ => b) 0 rn_h0 = [] := rfl
  have := rn_snd (X := (L, xs)) rn_hms (D := D) (cA := cA) (b := b) f y 0 _ _ _ _ _ _ _ _ _ hr q hy (p := p) (l := l) (e := e) (R := room_1) (s := s) (m := m) (args := #[Value.ref b]) (below := below) (meth := meth) (c := c) (Q := lw_Z below #[Value.ref b] s) hx (hb.trans hq2.symm) (hml.trans hq3.symm) (fun w hw => hts w (rn_gw_sub w hw)) (by rw [hq1]; exact hown) (fun g => absurd g hqn) hKn hX hbl (Nat.le_of_ble_eq_true hq5) (Nat.le_of_ble_eq_true hq6) (ad := fun _ => b) (A := fun q : Nat => s.heap.size ≤ q) (H := s.heap) (locs := []) (ls := ls) (cells := 0) (slots := 0) (by rw [hwl]; exact fun k q h => by simp at h) (by rw [hwl]; exact ⟨fun i j p q h => by simp at h, fun k q h => by simp at h⟩) va_S.rf (fun _ h => h) hbA rfl hl (fun q hq => by
      rw [List.mem_singleton] at hq
      subst hq
      exact rn_cv_ref.mpr (Or.inr rfl)) (fun w hw => by cases hw) ⟨fun k hk => absurd hk (Nat.not_lt_zero k), rfl, Nat.zero_le _⟩ (by show 0 + (N1 - 0) ≤ 600000; omega) (by show 0 + (sl1 - 0) ≤ 7302250; omega) (fun ad2 H1 locs1 ls1 e1 st1 k0 k1 k2 k3 k4 k5 k6 k7 => by
        rcases rn_rt_inv k6 with ⟨-, -, -, h⟩ | ⟨x, hi, -, rfl, hv⟩ | ⟨x, -, -, -, h⟩ | ⟨x, C, -, -, -, h⟩
        · cases h
        · cases hv
          rw [hi] at k7
          refine va_forget (fun q hq => k3.2.2 q hq) ?_
          refine W.widen (k := 600000) (n := 7302250) (by omega) (by omega) ?_
          rw [hq2] at k7
          exact lw_ret hx hb hrt hlocks k7
        · cases h
        · cases h) e0 g1
  rw [hpc] at this
  exact this

