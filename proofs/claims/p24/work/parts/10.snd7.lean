/-! a run of the abstract machine is a run of the real one -/
def rn_sw (i : Instr) : Bool := match i with
  | .tableswitch _ _ _ _ => true
  | .lookupswitch _ _ => true
  | _ => false
def rn_nn (i : Instr) : Bool := match i with
  | .tableswitch _ _ _ _ => true
  | .lookupswitch _ _ => true
  | .goto _ => true
  | .ireturn => true
  | .lreturn => true
  | .areturn => true
  | .return_ => true
  | _ => false
def rn_dc (b : ByteArray) (pc : Nat) (i : Instr) : Bool := match decode b pc with
  | .ok (j, n) => decide (j = i) && (rn_sw i || Nat.beq n (rn_ln i))
  | _ => false
theorem rn_dc_some {b : ByteArray} {pc : Nat} {i : Instr} (h : rn_dc b pc i = true) : ∃ n, decode b pc = .ok (i, n) ∧ (rn_sw i = false → n = rn_ln i) := by
  unfold rn_dc at h
  split at h
  · next j n hj =>
    simp only [Bool.and_eq_true, decide_eq_true_eq, Bool.or_eq_true] at h
    obtain ⟨rfl, h2⟩ := h
    refine ⟨n, hj, fun q => ?_⟩
    rcases h2 with h2 | h2
    · rw [q] at h2; cases h2
    · exact Nat.eq_of_beq_eq_true h2
  · cases h
/-- what is checked of a place of a method's table -/
def rn_oE (ms : Nat → Option rn_M) (nm : MethodName) (b : ByteArray) (mL : Nat) (T : List rn_I) (fr lo ini : Nat) (k : Nat) (e : rn_I) : Bool :=
  rn_dc b e.1 e.2.1 && (rn_nn e.2.1 || rn_at T (k + 1) ((e.1 : Int) + rn_ln e.2.1)) && rn_oP nm.cls fr lo e.2.1 e.2.2.2 && rn_oL mL e.2.1 e.2.2.2 && rn_oB T e.1 e.2.1 e.2.2.2 && rn_oW nm.cls (Nat.beq ini 1) fr lo e.2.1 e.2.2.2 && rn_oN nm.cls e.2.1 e.2.2.2 && rn_oC ms nm.cls e.2.1 e.2.2.2
def rn_oT (ms : Nat → Option rn_M) (nm : MethodName) (b : ByteArray) (mL : Nat) (T : List rn_I) (fr lo ini : Nat) : Nat → List rn_I → Bool
  | _, [] => true
  | k, e :: r => rn_oE ms nm b mL T fr lo ini k e && rn_oT ms nm b mL T fr lo ini (k + 1) r
theorem rn_oT_app {ms : Nat → Option rn_M} {nm : MethodName} {b : ByteArray} {mL : Nat} {T : List rn_I} {fr lo ini : Nat} : ∀ (r1 r2 : List rn_I) (k : Nat), rn_oT ms nm b mL T fr lo ini k r1 = true → rn_oT ms nm b mL T fr lo ini (k + r1.length) r2 = true → rn_oT ms nm b mL T fr lo ini k (r1 ++ r2) = true
  | [], r2, k, _, h2 => h2
  | e0 :: r1, r2, k, h1, h2 => by
    unfold rn_oT at h1
    rw [Bool.and_eq_true] at h1
    rw [List.cons_append]
    unfold rn_oT
    rw [h1.1, Bool.true_and]
    refine rn_oT_app r1 r2 (k + 1) h1.2 ?_
    rw [show k + 1 + r1.length = k + (e0 :: r1).length by rw [List.length_cons]; omega]
    exact h2
theorem rn_oT_at {ms : Nat → Option rn_M} {nm : MethodName} {b : ByteArray} {mL : Nat} {T : List rn_I} {fr lo ini : Nat} : ∀ (r : List rn_I) (k j : Nat) (e : rn_I), rn_oT ms nm b mL T fr lo ini k r = true → r[j]? = some e → rn_oE ms nm b mL T fr lo ini (k + j) e = true
  | [], k, j, e, h, hj => by cases hj
  | e0 :: r, k, 0, e, h, hj => by
    cases hj
    unfold rn_oT at h
    exact (Bool.and_eq_true _ _ ▸ h).1
  | e0 :: r, k, j + 1, e, h, hj => by
    unfold rn_oT at h
    have := rn_oT_at r (k + 1) j e (Bool.and_eq_true _ _ ▸ h).2 (by simpa using hj)
    rw [show k + (j + 1) = k + 1 + j by omega]
    exact this
/-- a method's own check -/
def rn_oM (ms : Nat → Option rn_M) (q : rn_M) : Bool := rn_oT ms q.1 q.2.1 q.2.2.1 q.2.2.2.2.1 q.2.2.2.2.2.2.1 q.2.2.2.2.2.2.2.1 q.2.2.2.2.2.2.2.2 0 q.2.2.2.2.1 && (!(Nat.beq q.2.2.2.2.2.2.2.2 1) || decide (q.1.name = "<init>")) && plainName q.1.cls && rn_at q.2.2.2.2.1 0 0
/-- how many locals' words the parameters take is within -/
theorem rn_sp_mono {X : rn_X} {dv : Nat → List Value} {e : rn_I} {k k1 : Nat} {lv lv1 : rn_L} {st st1 : List Value} {N N1 sl sl1 : Nat} {h h1 : rn_H} (hs : rn_sp X dv e (k, lv, st, N, sl, h) = some (k1, lv1, st1, N1, sl1, h1)) : N ≤ N1 ∧ sl ≤ sl1 := by
  obtain ⟨pc, i, kp, ax⟩ := e
  unfold rn_sp at hs
  simp only at hs
  split at hs
  · cases hs; exact ⟨Nat.le_refl _, Nat.le_refl _⟩
  · split at hs
    · cases hs; exact ⟨Nat.le_refl _, Nat.le_refl _⟩
    · split at hs
      · cases hs; exact ⟨Nat.le_refl _, Nat.le_refl _⟩
      · split at hs
        · cases hs; exact ⟨Nat.le_refl _, Nat.le_refl _⟩
        · split at hs
          · split at hs
            · cases hs; exact ⟨Nat.le_succ _, Nat.le_add_right _ _⟩
            · cases hs
          · cases hs
theorem rn_x_mono {X : rn_X} {dv : Nat → List Value} {ms : Nat → Option rn_M} : ∀ (f y k : Nat) (lv : rn_L) (st : List Value) (N sl : Nat) (h : rn_H) (v : Option Value) (N1 sl1 : Nat) (h1 : rn_H), rn_x X dv ms f y (k, lv, st, N, sl, h) = some (v, N1, sl1, h1) → N ≤ N1 ∧ sl ≤ sl1 := by
  intro f
  induction f with
  | zero => intro y k lv st N sl h v N1 sl1 h1 hr; cases hr
  | succ f ih =>
    intro y k lv st N sl h v N1 sl1 h1 hr
    unfold rn_x at hr
    split at hr
    · cases hr
    · split at hr
      · cases hr
      · split at hr
        · next s hs =>
          obtain ⟨k2, lv2, st2, N2, sl2, h2⟩ := s
          have a := rn_sp_mono hs
          have b := ih y k2 lv2 st2 N2 sl2 h2 v N1 sl1 h1 hr
          omega
        · split at hr
          · cases hr; exact ⟨Nat.le_refl _, Nat.le_refl _⟩
          · split at hr
            · cases hr
            · split at hr
              · cases hr
              · split at hr
                · cases hr
                · split at hr
                  · cases hr
                  · next v2 N2 sl2 h2 hz =>
                    have a := ih _ _ _ _ _ _ _ _ _ _ _ hz
                    have b := ih _ _ _ _ _ _ _ _ _ _ _ hr
                    omega
theorem rn_rt_len {i : Instr} {rt : Option FieldType} {st : List Value} {v : Option Value} (h : rn_rt i rt st = some v) : rn_sw i = false ∧ rn_ln i = 1 := by
  cases i <;> first | (cases h; done) | exact ⟨rfl, rfl⟩
theorem rn_rt_inv {i : Instr} {rt : Option FieldType} {st : List Value} {v : Option Value} (h : rn_rt i rt st = some v) : (i = .return_ ∧ rt = none ∧ st = [] ∧ v = none) ∨ (∃ x : Int32, i = .ireturn ∧ (rt = some .int ∨ rt = some .boolean ∧ (x = 0 ∨ x = 1)) ∧ st = [.int x] ∧ v = some (.int x)) ∨ (∃ x : Int64, i = .lreturn ∧ rt = some .long ∧ st = [.long x] ∧ v = some (.long x)) ∨ (∃ (x : Nat) (C : String), i = .areturn ∧ rt = some (.object C) ∧ st = [.ref x] ∧ v = some (.ref x)) := by
  cases i <;> first | (cases h; done) | skip
  case return_ =>
    simp only [rn_rt] at h
    split at h
    · cases h; exact Or.inl ⟨rfl, rfl, rfl, rfl⟩
    · cases h
  case ireturn =>
    simp only [rn_rt] at h
    split at h
    · cases h; exact Or.inr (Or.inl ⟨_, rfl, Or.inl rfl, rfl, rfl⟩)
    · split at h
      · next hx => cases h; exact Or.inr (Or.inl ⟨_, rfl, Or.inr ⟨rfl, hx⟩, rfl, rfl⟩)
      · cases h
    · cases h
  case lreturn =>
    simp only [rn_rt] at h
    split at h
    · cases h; exact Or.inr (Or.inr (Or.inl ⟨_, rfl, rfl, rfl, rfl⟩))
    · cases h
  case areturn =>
    simp only [rn_rt] at h
    split at h
    · cases h; exact Or.inr (Or.inr (Or.inr ⟨_, _, rfl, rfl, rfl, rfl⟩))
    · cases h
theorem rn_rt_cv {i : Instr} {rt : Option FieldType} {st : List Value} {v : Option Value} {N : Nat} (h : rn_rt i rt st = some v) (hs : rn_cs1 N st) : ∀ w, v = some w → rn_cv N w = true := by
  rcases rn_rt_inv h with ⟨-, -, rfl, rfl⟩ | ⟨x, -, -, rfl, rfl⟩ | ⟨x, -, -, rfl, rfl⟩ | ⟨x, C, -, -, rfl, rfl⟩
  · intro w hw; cases hw
  · intro w hw; cases hw; rfl
  · intro w hw; cases hw; rfl
  · intro w hw; cases hw; exact hs _ List.mem_cons_self
theorem rn_sl_len {ad : Nat → Nat} : ∀ (as : List Value), (lg_sl (as.map (rn_vv ad))).length = rn_cs as
  | [] => rfl
  | v :: t => by
    have ih := rn_sl_len (ad := ad) t
    unfold lg_sl at ih ⊢
    simp only [List.map_cons, List.flatMap_cons, List.length_append, rn_vv_cat]
    rw [ih]
    rcases lv_cat v with h | h <;> simp [rn_cs, h]
theorem rn_cs_rev (as : List Value) : rn_cs as.reverse = rn_cs as := by
  simp [rn_cs, List.sum_reverse]
section RN6
variable {p : Program} {l : Launch} {e : Env} {R : Room} {s : State} {m : MethodId} {args : Array Value} {below : List Frame} {meth : Method} {c : Code} {H : Heap} {locs : List Loc} {cells slots : Nat}
theorem rn_fin_ok {cc : ByteArray} {i : Instr} {rt : Option FieldType} {st : List Value} {v : Option Value} {ad : Nat → Nat} {pc : Nat} {ls : Array Slot} {Qc : Array Value → State → Outcome → State → Prop} {free : Addr → Prop} (hx : p.tables.exec = Jvm.exec) (hb : c.code = cc) (hr : meth.sig.returnType = rt) (hlocks : meth.locks = false) (h : rn_rt i rt st = some v) (hd : decode cc pc = .ok (i, 1)) (hf : ∀ q ∈ locs, free q.base)
    (hq : ∀ t : State, t.heap = H → s.WarmedH t.vm → Qc args s (.returned (v.map (rn_vv ad))) t) : W p l e R s m args below meth c H locs cells slots (MQ below Qc args s cells slots free) (F0 m pc ls (st.map (rn_vv ad))) := by
  rcases rn_rt_inv h with ⟨rfl, rfl, rfl, rfl⟩ | ⟨x, rfl, hrt, rfl, rfl⟩ | ⟨x, rfl, rfl, rfl, rfl⟩ | ⟨x, C, rfl, rfl, rfl, rfl⟩
  · exact W.vret hx hb hr hq hf hd hlocks
  · rcases hrt with rfl | ⟨rfl, h01⟩
    · exact W.iret hx hb hr hq hf hd hlocks
    · exact W.zret hx hb hr (by rcases h01 with rfl | rfl <;> decide +kernel) hq hf hd hlocks
  · exact W.lret hx hb hr hq hf hd hlocks
  · exact W.aret (v := .ref (ad x)) hx hb hr (Or.inl ⟨C, rfl⟩) (Or.inr ⟨_, rfl⟩) hq hf hd hlocks
end RN6
