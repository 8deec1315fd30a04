/-! the tables' checks, and one step of the stack -/
def rn_ln (i : Instr) : Nat := match i with
  | .ldc _ | .bipush _ | .iload _ | .lload _ | .aload _ | .istore _ | .lstore _ | .astore _ | .newarray _ => 2
  | .sipush _ | .ldc2_w _ | .goto _ | .ifCond _ _ | .if_icmp _ _ | .ifnull _ | .ifnonnull _ | .iinc _ _ | .getfield _ | .putfield _ | .invokestatic _ | .invokevirtual _ | .invokespecial _ | .new _ | .anewarray _ => 3
  | _ => 1
def rn_fd (own : String) (idx c k w : Nat) : Bool := match rn_cls[c]? with
  | some q => Nat.blt k q.2.2 && decide (lw_tbl[w]? = some (.fieldLink own idx q.1 (q.2.1 k).2.1 (q.2.1 k).2.2.1)) && decide ((q.2.1 k).1 = q.1)
  | none => false
def rn_isO (t : Nat) : Bool := match rn_ft[t]? with
  | some (.object _) => true
  | _ => false
theorem rn_isO_some {t : Nat} (h : rn_isO t = true) : ∃ C : String, rn_ft[t]? = some (.object C) := by
  unfold rn_isO at h
  split at h
  · next C hC => exact ⟨C, hC⟩
  · cases h
def rn_oP (own : String) (fr lo : Nat) (i : Instr) (ax : List Nat) : Bool := match i with
  | .iconst n => match ax with
    | [a, b] => decide (Int32.ofInt n = rn_ci a b)
    | _ => false
  | .bipush n => match ax with
    | [a, b] => decide ((Int8.ofInt n).toInt32 = rn_ci a b)
    | _ => false
  | .sipush n => match ax with
    | [a, b] => decide ((Int16.ofInt n).toInt32 = rn_ci a b)
    | _ => false
  | .lconst n => match ax with
    | [a, b] => decide (Int64.ofNat (n : Nat) = rn_cl a b)
    | _ => false
  | .ldc idx => match ax with
    | [a, b, w] => decide (lw_tbl[w]? = some (.constant own idx (rn_ci a b)))
    | _ => false
  | .ldc2_w idx => match ax with
    | [a, b, w] => decide (lw_tbl[w]? = some (.constantLong own idx (rn_cl a b)))
    | _ => false
  | .getfield idx => match ax with
    | [c, k, w] => rn_fd own idx c k w
    | _ => false
  | .aaload => match ax with
    | [t] => rn_isO t
    | _ => false
  | .invokestatic idx => match ax with
    | [2, w1, w2, w3, w4] => decide (lw_tbl[w1]? = some (.methodLink own idx Lib.Math.max.name)) && decide (lw_tbl[w2]? = some (.static Lib.Math.max.name)) && decide (lw_tbl[w3]? = some (.initialized "java/lang/Math")) && decide (lw_tbl[w4]? = some (.code Lib.Math.max.name Lib.Math.max.code 2 (some .int))) && Nat.ble 1 fr && Nat.ble 21 lo
    | _ => true
  | .invokespecial idx => match ax with
    | [3, w1, w2, w3] => decide (lw_tbl[w1]? = some (.methodLink own idx Lib.objectInit)) && decide (lw_tbl[w2]? = some (.instanceMethod Lib.objectInit)) && decide (lw_tbl[w3]? = some (.code Lib.objectInit ⟨#[0xb1]⟩ 1 none)) && Nat.ble 1 fr && Nat.ble 20 lo
    | _ => true
  | _ => true
theorem rn_ii_inv {f : Int32 → Int32 → Int32} {st st1 : List Value} (h : rn_ii f st = some st1) : ∃ (x y : Int32) (r : List Value), st = .int y :: .int x :: r ∧ st1 = .int (f x y) :: r := by
  unfold rn_ii at h
  split at h
  · cases h; exact ⟨_, _, _, rfl, rfl⟩
  · cases h
theorem rn_id_inv {f : Int32 → Int32 → Int32} {st st1 : List Value} (h : rn_id f st = some st1) : ∃ (x y : Int32) (r : List Value), st = .int y :: .int x :: r ∧ st1 = .int (f x y) :: r ∧ ¬ y = 0 := by
  unfold rn_id at h
  split at h
  · split at h
    · cases h
    · next hy => cases h; exact ⟨_, _, _, rfl, rfl, hy⟩
  · cases h
theorem rn_ll_inv {f : Int64 → Int64 → Int64} {st st1 : List Value} (h : rn_ll f st = some st1) : ∃ (x y : Int64) (r : List Value), st = .long y :: .long x :: r ∧ st1 = .long (f x y) :: r := by
  unfold rn_ll at h
  split at h
  · cases h; exact ⟨_, _, _, rfl, rfl⟩
  · cases h
theorem rn_ld_inv {f : Int64 → Int64 → Int64} {st st1 : List Value} (h : rn_ld f st = some st1) : ∃ (x y : Int64) (r : List Value), st = .long y :: .long x :: r ∧ st1 = .long (f x y) :: r ∧ ¬ y = 0 := by
  unfold rn_ld at h
  split at h
  · split at h
    · cases h
    · next hy => cases h; exact ⟨_, _, _, rfl, rfl, hy⟩
  · cases h
theorem rn_li_inv {j : Nat} {lv : rn_L} {st st1 : List Value} (h : rn_li j lv st = some st1) : ∃ x : Int32, rn_lk j lv = some (.int x) ∧ st1 = .int x :: st := by
  unfold rn_li at h
  split at h
  · next x hx => cases h; exact ⟨x, hx, rfl⟩
  · cases h
theorem rn_lj_inv {j : Nat} {lv : rn_L} {st st1 : List Value} (h : rn_lj j lv st = some st1) : ∃ x : Int64, rn_lk j lv = some (.long x) ∧ st1 = .long x :: st := by
  unfold rn_lj at h
  split at h
  · next x hx => cases h; exact ⟨x, hx, rfl⟩
  · cases h
theorem rn_la_inv {j : Nat} {lv : rn_L} {st st1 : List Value} (h : rn_la j lv st = some st1) : (∃ x : Nat, rn_lk j lv = some (.ref x) ∧ st1 = .ref x :: st) ∨ (rn_lk j lv = some .null ∧ st1 = .null :: st) := by
  unfold rn_la at h
  split at h
  · next x hx => cases h; exact Or.inl ⟨x, hx, rfl⟩
  · next hx => cases h; exact Or.inr ⟨hx, rfl⟩
  · cases h
theorem rn_ai_inv {t : Nat} {h : rn_H} {st st1 : List Value} (e : rn_ai t h st = some st1) : ∃ (i : Int32) (q n : Nat) (f : Nat → Int32) (r : List Value), st = .int i :: .ref q :: r ∧ h q = .inl (t, n, .inl f) ∧ vp_in i n ∧ st1 = .int (f i.toNatClampNeg) :: r := by
  unfold rn_ai at e
  split at e
  · split at e
    · split at e
      · next hq _ hb =>
        have := Nat.eq_of_beq_eq_true hb
        subst this
        split at e
        · cases e
        · next hi => cases e; exact ⟨_, _, _, _, _, rfl, hq, hi, rfl⟩
      · cases e
    · cases e
  · cases e
theorem rn_aj_inv {h : rn_H} {st st1 : List Value} (e : rn_aj h st = some st1) : ∃ (i : Int32) (q n : Nat) (f : Nat → Int64) (r : List Value), st = .int i :: .ref q :: r ∧ h q = .inl (1, n, .inr (.inl f)) ∧ vp_in i n ∧ st1 = .long (f i.toNatClampNeg) :: r := by
  unfold rn_aj at e
  split at e
  · split at e
    · next hq =>
      split at e
      · cases e
      · next hi => cases e; exact ⟨_, _, _, _, _, rfl, hq, hi, rfl⟩
    · cases e
  · cases e
theorem rn_aa_inv {t : Nat} {h : rn_H} {st st1 : List Value} (e : rn_aa t h st = some st1) : ∃ (i : Int32) (q n : Nat) (f : Nat → Option Nat) (r : List Value), st = .int i :: .ref q :: r ∧ h q = .inl (t, n, .inr (.inr (.inr (.inr f)))) ∧ vp_in i n ∧ st1 = va_rf (f i.toNatClampNeg) :: r := by
  unfold rn_aa at e
  split at e
  · split at e
    · split at e
      · next hq _ hb =>
        have := Nat.eq_of_beq_eq_true hb
        subst this
        split at e
        · cases e
        · next hi => cases e; exact ⟨_, _, _, _, _, rfl, hq, hi, rfl⟩
      · cases e
    · cases e
  · cases e
theorem rn_gf_inv {c k : Nat} {h : rn_H} {st st1 : List Value} (e : rn_gf c k h st = some st1) : ∃ (q : Nat) (fs : List Value) (v : Value) (r : List Value), st = .ref q :: r ∧ h q = .inr (c, fs) ∧ fs[k]? = some v ∧ st1 = v :: r := by
  unfold rn_gf at e
  split at e
  · split at e
    · split at e
      · next hq _ hb =>
        have := Nat.eq_of_beq_eq_true hb
        subst this
        split at e
        · next v hv => cases e; exact ⟨_, _, v, _, rfl, hq, hv, rfl⟩
        · cases e
      · cases e
    · cases e
  · cases e
theorem rn_sl_inv {X : rn_X} {st st1 : List Value} (e : rn_sl X st = some st1) : ∃ (i : Int32) (r : List Value), st = .int i :: .ref 1000000 :: r ∧ vp_in i X.1 ∧ st1 = .int (X.2 i.toNatClampNeg) :: r := by
  unfold rn_sl at e
  split at e
  · split at e
    · cases e
    · next hi => cases e; exact ⟨_, _, rfl, hi, rfl⟩
  · cases e
theorem rn_lt {N q : Nat} {r : List Value} {h : rn_H} (hs : rn_cs1 N (.ref q :: r)) (hh : rn_hc N h) (hn : h q ≠ .inr (999999, [])) : q < N := by
  rcases rn_cv_ref.mp (hs _ List.mem_cons_self) with g | g
  · exact g
  · exact absurd (by rw [g]; exact hh.2.1) hn
theorem rn_cs_c {N : Nat} {v : Value} {r : List Value} (hv : rn_cv N v = true) (h : rn_cs1 N r) : rn_cs1 N (v :: r) := fun w hw => (List.mem_cons.mp hw).elim (fun e => e ▸ hv) (h w)
theorem rn_cs_t {N : Nat} {v : Value} {r : List Value} (h : rn_cs1 N (v :: r)) : rn_cs1 N r := fun w hw => h w (List.mem_cons_of_mem _ hw)
theorem rn_cs_h {N : Nat} {v : Value} {r : List Value} (h : rn_cs1 N (v :: r)) : rn_cv N v = true := h v List.mem_cons_self
theorem rn_lk_cv {N i : Nat} {v : Value} {lv : rn_L} (h : rn_cl1 N lv) (hk : rn_lk i lv = some v) : rn_cv N v = true := h (i, v) (rn_lk_some hk)
section RN1
variable {p : Program} {l : Launch} {e : Env} {R : Room} {s : State} {m : MethodId} {args : Array Value} {below : List Frame} {meth : Method} {c : Code} {H : Heap} {locs : List Loc} {cells slots : Nat} {Q : State → Prop}
variable {cc : ByteArray} {pc n nL : Nat} {ls : Array Slot} {D : va_G} {cA : Nat → ClassId} {ad : Nat → Nat} {N : Nat} {h : rn_H} {A : Nat → Prop} {H0 : Heap} {lv : rn_L} {st : List Value} {b : Nat} {X : rn_X} {own : String} {fr lo : Nat}
theorem rn_oF {idx ci k w : Nat} (hc : rn_fd own idx ci k w = true) : ∃ q : vw_C, rn_cls[ci]? = some q ∧ k < q.2.2 ∧ lw_tbl[w]? = some (.fieldLink own idx q.1 (q.2.1 k).2.1 (q.2.1 k).2.2.1) ∧ (q.2.1 k).1 = q.1 := by
  unfold rn_fd at hc
  split at hc
  · next q hq =>
    simp only [Bool.and_eq_true, decide_eq_true_eq] at hc
    exact ⟨q, hq, Nat.le_of_ble_eq_true hc.1.1, hc.1.2, hc.2⟩
  · cases hc
set_option maxHeartbeats 4000000 in
theorem rn_p_ok {i : Instr} {ax : List Nat} {st1 : List Value} (hx : p.tables.exec = Jvm.exec) (hb : c.code = cc) (hml : c.maxLocals = ls.size) (hts : ∀ w ∈ rn_gw, w.before args s = true) (hown : s.vm.findClass own = some m.cls)
    (hK : va_K D rn_cls (rn_tys cA) s) (hP : va_P D rn_cls (rn_wl cA ad N h) H) (hS : va_S A H0 H locs) (hX : va_X b X.1 X.2 s H0) (hbl : b < H0.size) (hbA : ¬ A b) (hab : ad 1000000 = b)
    (hl : lv_has ls nL (rn_vl ad lv)) (hcl : rn_cl1 N lv) (hcs : rn_cs1 N st) (hh : rn_hc N h) (hfr : fr ≤ R.frames) (hlo : lo ≤ R.locals) (hce : cells ≤ R.cells) (hsl : slots ≤ R.slots)
    (hok : rn_oP own fr lo i ax = true) (hd : decode cc pc = .ok (i, rn_ln i)) (hp : rn_p X i ax lv st h = some st1)
    (kk : rn_cs1 N st1 → W p l e R s m args below meth c H locs cells slots Q (F0 m (pc + rn_ln i) ls (st1.map (rn_vv ad)))) :
    W p l e R s m args below meth c H locs cells slots Q (F0 m pc ls (st.map (rn_vv ad))) := by
  cases i
  all_goals (try (exact absurd (show (none : Option (List Value)) = some st1 from hp) (fun q => by cases q)))
  case iconst z =>
    simp only [rn_p, rn_oP] at hp hok
    split at hp
    · cases hp
      exact lv_iconst hx hb hd (of_decide_eq_true hok) (kk (rn_cs_c rfl hcs))
    · cases hp
  case bipush z =>
    simp only [rn_p, rn_oP] at hp hok
    split at hp
    · cases hp
      exact lv_bipush hx hb hd (of_decide_eq_true hok) (kk (rn_cs_c rfl hcs))
    · cases hp
  case sipush z =>
    simp only [rn_p, rn_oP] at hp hok
    split at hp
    · cases hp
      exact lv_sipush hx hb hd (of_decide_eq_true hok) (kk (rn_cs_c rfl hcs))
    · cases hp
  case lconst z =>
    simp only [rn_p, rn_oP] at hp hok
    split at hp
    · cases hp
      exact lv_lconst hx hb hd (of_decide_eq_true hok) (kk (rn_cs_c rfl hcs))
    · cases hp
  case ldc z =>
    simp only [rn_p, rn_oP] at hp hok
    split at hp
    · cases hp
      exact lv_ldc hx hb hown (rn_hw hts (of_decide_eq_true hok) rfl) hd (kk (rn_cs_c rfl hcs))
    · cases hp
  case ldc2_w z =>
    simp only [rn_p, rn_oP] at hp hok
    split at hp
    · cases hp
      exact lv_ldc2 hx hb hown (rn_hw hts (of_decide_eq_true hok) rfl) hd (kk (rn_cs_c rfl hcs))
    · cases hp
  case aconst_null =>
    cases hp
    exact lv_null hx hb hd (kk (rn_cs_c rfl hcs))
  case iload j =>
    obtain ⟨x, h1, rfl⟩ := rn_li_inv hp
    exact lv_iload hx hb hd (rn_vl_at hl h1) (kk (rn_cs_c rfl hcs))
  case iload_n j =>
    obtain ⟨x, h1, rfl⟩ := rn_li_inv hp
    exact lv_iload_n hx hb hd rfl (rn_vl_at hl h1) (kk (rn_cs_c rfl hcs))
  case lload j =>
    obtain ⟨x, h1, rfl⟩ := rn_lj_inv hp
    exact lv_lload hx hb hd (rn_vl_at hl h1) (kk (rn_cs_c rfl hcs))
  case lload_n j =>
    obtain ⟨x, h1, rfl⟩ := rn_lj_inv hp
    exact lv_lload_n hx hb hd rfl (rn_vl_at hl h1) (kk (rn_cs_c rfl hcs))
  case aload j =>
    rcases rn_la_inv hp with ⟨x, h1, rfl⟩ | ⟨h1, rfl⟩
    · exact lv_aload hx hb hd (rn_vl_at hl h1) (kk (rn_cs_c (rn_lk_cv hcl h1) hcs))
    · exact lv_aloadN hx hb hd (rn_vl_at hl h1) (kk (rn_cs_c (rn_lk_cv hcl h1) hcs))
  case aload_n j =>
    rcases rn_la_inv hp with ⟨x, h1, rfl⟩ | ⟨h1, rfl⟩
    · exact lv_aload_n hx hb hd rfl (rn_vl_at hl h1) (kk (rn_cs_c (rn_lk_cv hcl h1) hcs))
    · exact lv_aload_nN hx hb hd rfl (rn_vl_at hl h1) (kk (rn_cs_c (rn_lk_cv hcl h1) hcs))
  case iadd =>
    obtain ⟨x, y, r, rfl, rfl⟩ := rn_ii_inv hp
    exact lv_iadd hx hb hd (kk (rn_cs_c rfl (rn_cs_t (rn_cs_t hcs))))
  case isub =>
    obtain ⟨x, y, r, rfl, rfl⟩ := rn_ii_inv hp
    exact lv_isub hx hb hd (kk (rn_cs_c rfl (rn_cs_t (rn_cs_t hcs))))
  case imul =>
    obtain ⟨x, y, r, rfl, rfl⟩ := rn_ii_inv hp
    exact lv_imul hx hb hd (kk (rn_cs_c rfl (rn_cs_t (rn_cs_t hcs))))
  case iand =>
    obtain ⟨x, y, r, rfl, rfl⟩ := rn_ii_inv hp
    exact lv_iand hx hb hd (kk (rn_cs_c rfl (rn_cs_t (rn_cs_t hcs))))
  case ior =>
    obtain ⟨x, y, r, rfl, rfl⟩ := rn_ii_inv hp
    exact lv_ior hx hb hd (kk (rn_cs_c rfl (rn_cs_t (rn_cs_t hcs))))
  case ixor =>
    obtain ⟨x, y, r, rfl, rfl⟩ := rn_ii_inv hp
    exact lv_ixor hx hb hd (kk (rn_cs_c rfl (rn_cs_t (rn_cs_t hcs))))
  case ishl =>
    obtain ⟨x, y, r, rfl, rfl⟩ := rn_ii_inv hp
    exact lv_ishl hx hb hd (kk (rn_cs_c rfl (rn_cs_t (rn_cs_t hcs))))
  case ishr =>
    obtain ⟨x, y, r, rfl, rfl⟩ := rn_ii_inv hp
    exact lv_ishr hx hb hd (kk (rn_cs_c rfl (rn_cs_t (rn_cs_t hcs))))
  case idiv =>
    obtain ⟨x, y, r, rfl, rfl, hy⟩ := rn_id_inv hp
    exact lv_idiv hx hb hd hy (kk (rn_cs_c rfl (rn_cs_t (rn_cs_t hcs))))
  case irem =>
    obtain ⟨x, y, r, rfl, rfl, hy⟩ := rn_id_inv hp
    exact lv_irem hx hb hd hy (kk (rn_cs_c rfl (rn_cs_t (rn_cs_t hcs))))
  case ladd =>
    obtain ⟨x, y, r, rfl, rfl⟩ := rn_ll_inv hp
    exact lv_ladd hx hb hd (kk (rn_cs_c rfl (rn_cs_t (rn_cs_t hcs))))
  case lsub =>
    obtain ⟨x, y, r, rfl, rfl⟩ := rn_ll_inv hp
    exact lv_lsub hx hb hd (kk (rn_cs_c rfl (rn_cs_t (rn_cs_t hcs))))
  case lmul =>
    obtain ⟨x, y, r, rfl, rfl⟩ := rn_ll_inv hp
    exact lv_lmul hx hb hd (kk (rn_cs_c rfl (rn_cs_t (rn_cs_t hcs))))
  case land =>
    obtain ⟨x, y, r, rfl, rfl⟩ := rn_ll_inv hp
    exact lv_land hx hb hd (kk (rn_cs_c rfl (rn_cs_t (rn_cs_t hcs))))
  case lor =>
    obtain ⟨x, y, r, rfl, rfl⟩ := rn_ll_inv hp
    exact lv_lor hx hb hd (kk (rn_cs_c rfl (rn_cs_t (rn_cs_t hcs))))
  case ldiv =>
    obtain ⟨x, y, r, rfl, rfl, hy⟩ := rn_ld_inv hp
    exact lv_ldiv hx hb hd hy (kk (rn_cs_c rfl (rn_cs_t (rn_cs_t hcs))))
  case lrem =>
    obtain ⟨x, y, r, rfl, rfl, hy⟩ := rn_ld_inv hp
    exact lv_lrem hx hb hd hy (kk (rn_cs_c rfl (rn_cs_t (rn_cs_t hcs))))
  case ineg =>
    simp only [rn_p] at hp
    split at hp
    · cases hp
      exact lv_ineg hx hb hd (kk (rn_cs_c rfl (rn_cs_t hcs)))
    · cases hp
  case lshl =>
    simp only [rn_p] at hp
    split at hp
    · cases hp
      exact lv_lshl hx hb hd rfl (kk (rn_cs_c rfl (rn_cs_t (rn_cs_t hcs))))
    · cases hp
  case lshr =>
    simp only [rn_p] at hp
    split at hp
    · cases hp
      exact lv_lshr hx hb hd rfl (kk (rn_cs_c rfl (rn_cs_t (rn_cs_t hcs))))
    · cases hp
  case i2l =>
    simp only [rn_p] at hp
    split at hp
    · cases hp
      exact lv_i2l hx hb hd rfl (kk (rn_cs_c rfl (rn_cs_t hcs)))
    · cases hp
  case l2i =>
    simp only [rn_p] at hp
    split at hp
    · cases hp
      exact lv_l2i hx hb hd rfl (kk (rn_cs_c rfl (rn_cs_t hcs)))
    · cases hp
  case lcmp =>
    simp only [rn_p] at hp
    split at hp
    · cases hp
      exact W.lcmp hx hb hd (kk (rn_cs_c rfl (rn_cs_t (rn_cs_t hcs))))
    · cases hp
  case dup =>
    simp only [rn_p] at hp
    split at hp
    · cases hp
      exact lv_dup hx hb hd rfl (kk (rn_cs_c rfl hcs))
    · cases hp
      exact lv_dup hx hb hd rfl (kk (rn_cs_c (rn_cs_h hcs) hcs))
    · cases hp
  case dup2 =>
    simp only [rn_p] at hp
    split at hp
    · cases hp
      exact lv_dup2_11 hx hb hd rfl rfl (kk (rn_cs_c rfl (rn_cs_c (rn_cs_h (rn_cs_t hcs)) hcs)))
    · cases hp
  case pop =>
    simp only [rn_p] at hp
    split at hp
    · cases hp
      exact lv_pop hx hb hd rfl (kk (rn_cs_t hcs))
    · cases hp
  case getfield z =>
    simp only [rn_p, rn_oP] at hp hok
    split at hp
    · obtain ⟨q, fs, v, r, rfl, hq, hv, rfl⟩ := rn_gf_inv hp
      obtain ⟨q1, hc1, hk1, hw1, hd1⟩ := rn_oF hok
      have hqN : q < N := rn_lt hcs hh (by rw [hq]; intro z; cases z; cases hv)
      have hcf := rn_cf_all _ q1 hc1
      have hcv : rn_cv N v = true := by
        have := hh.1 q hqN
        rw [hq] at this
        exact this v (List.mem_of_getElem? hv)
      exact va_get (C := q1.1) (T := q1.2.1) (N := q1.2.2) hx hb hts hcf.1 hown hK hP q (rn_wl_get hqN |>.trans (by rw [hq]; rfl)) hc1 _ hk1 (rn_hw hts hw1 rfl) (fun x h9 => by rw [hd1] at h9; exact h9) (v := rn_vv ad v) (by rw [List.getElem?_map, hv]; rfl) hd (kk (rn_cs_c hcv (rn_cs_t hcs)))
    · cases hp
  case iaload =>
    simp only [rn_p] at hp
    split at hp
    · obtain ⟨j, q, n, f, r, rfl, hq, hin, rfl⟩ := rn_ai_inv hp
      have hqN : q < N := rn_lt (rn_cs_t hcs) hh (by rw [hq]; intro z; cases z)
      exact va_iald hx hb hK hP q 0 (rn_wl_get hqN |>.trans (by rw [hq]; rfl)) (rn_tys_get rfl) hin hd (kk (rn_cs_c rfl (rn_cs_t (rn_cs_t hcs))))
    · obtain ⟨j, r, rfl, hin, rfl⟩ := rn_sl_inv hp
      show W p l e R s m args below meth c H locs cells slots Q (F0 m pc ls (.int j :: .ref (ad 1000000) :: r.map (rn_vv ad)))
      rw [hab]
      exact va_sld hx hb hX hbl hbA hS hin hd (kk (rn_cs_c rfl (rn_cs_t (rn_cs_t hcs))))
  case baload =>
    obtain ⟨j, q, n, f, r, rfl, hq, hin, rfl⟩ := rn_ai_inv hp
    have hqN : q < N := rn_lt (rn_cs_t hcs) hh (by rw [hq]; intro z; cases z)
    exact va_zald hx hb hK hP q 2 (rn_wl_get hqN |>.trans (by rw [hq]; rfl)) (rn_tys_get rfl) hin hd (kk (rn_cs_c rfl (rn_cs_t (rn_cs_t hcs))))
  case laload =>
    obtain ⟨j, q, n, f, r, rfl, hq, hin, rfl⟩ := rn_aj_inv hp
    have hqN : q < N := rn_lt (rn_cs_t hcs) hh (by rw [hq]; intro z; cases z)
    exact va_lald hx hb hK hP q 1 (rn_wl_get hqN |>.trans (by rw [hq]; rfl)) (rn_tys_get rfl) hin hd (kk (rn_cs_c rfl (rn_cs_t (rn_cs_t hcs))))
  case aaload =>
    simp only [rn_p, rn_oP] at hp hok
    split at hp
    · obtain ⟨j, q, n, f, r, rfl, hq, hin, rfl⟩ := rn_aa_inv hp
      obtain ⟨C, hC⟩ := rn_isO_some hok
      have hqN : q < N := rn_lt (rn_cs_t hcs) hh (by rw [hq]; intro z; cases z)
      have hcv : rn_cv N (va_rf (f j.toNatClampNeg)) = true := by
        cases hf : f j.toNatClampNeg with
        | none => rfl
        | some a =>
          have := hh.1 q hqN
          rw [hq] at this
          exact rn_cv_ref.mpr (Or.inl (this _ _ hf))
      refine va_aldq (C := C) hx hb hK hP q _ (rn_wl_get hqN |>.trans (by rw [hq]; rfl)) (rn_tys_get hC) hin hd ?_
      have e1 : va_rf ((f j.toNatClampNeg).map ad) = rn_vv ad (va_rf (f j.toNatClampNeg)) := by cases f j.toNatClampNeg <;> rfl
      rw [e1]
      exact kk (rn_cs_c hcv (rn_cs_t (rn_cs_t hcs)))
    · cases hp
  case arraylength =>
    simp only [rn_p] at hp
    split at hp
    · cases hp
      next r =>
      show W p l e R s m args below meth c H locs cells slots Q (F0 m pc ls (.ref (ad 1000000) :: r.map (rn_vv ad)))
      rw [hab]
      exact va_slen hx hb hX hbl hbA hS hd (kk (rn_cs_c rfl (rn_cs_t hcs)))
    · cases hp
  case invokestatic z =>
    simp only [rn_p] at hp
    split at hp
    · split at hp
      · next r =>
        split at hp
        · next hr8 =>
          cases hp
          simp only [rn_oP, Bool.and_eq_true, decide_eq_true_eq] at hok
          obtain ⟨⟨⟨⟨⟨o1, o2⟩, o3⟩, o4⟩, o5⟩, o6⟩ := hok
          have o5 := Nat.le_of_ble_eq_true o5
          have o6 := Nat.le_of_ble_eq_true o6
          refine va_mmax hx hb hml hown (rn_hw hts o1 rfl) (rn_hw hts o2 rfl) (rn_hw hts o3 rfl) (rn_hw hts o4 rfl) (by omega) (by rw [rn_cs_map]; omega) hce hsl hd (kk (rn_cs_c rfl (rn_cs_t (rn_cs_t hcs))))
        · cases hp
      · cases hp
    · cases hp
  case invokespecial z =>
    simp only [rn_p] at hp
    split at hp
    · split at hp
      · next r =>
        split at hp
        · next hr8 =>
          cases hp
          simp only [rn_oP, Bool.and_eq_true, decide_eq_true_eq] at hok
          obtain ⟨⟨⟨⟨o1, o2⟩, o3⟩, o5⟩, o6⟩ := hok
          have o5 := Nat.le_of_ble_eq_true o5
          have o6 := Nat.le_of_ble_eq_true o6
          refine W.objInit hx hb hown (rn_hw hts o1 rfl) (rn_hw hts o2 rfl) (rn_hw hts o3 rfl) rfl hml.symm rfl hd (by omega) ?_ ?_
          · have := rn_cs_map (ad := ad) st1
            show 2 * 0 + ((st1.map (rn_vv ad)).map fun v => v.category).sum + 12 ≤ R.locals
            omega
          · exact kk (rn_cs_t hcs)
        · cases hp
      · cases hp
    · cases hp
end RN1
