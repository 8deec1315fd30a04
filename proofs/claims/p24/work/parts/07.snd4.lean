/-! one step that writes entries, and one that makes one -/
def rn_tyk (ty : Nat) (f : FieldType) : Bool := match ty, f with
  | 0, .int => true
  | 1, .boolean => true
  | 2, .object _ => true
  | 2, .array _ => true
  | _, _ => false
theorem rn_tyk_ok {ty : Nat} {f : FieldType} {v : Value} {ad : Nat → Nat} (h1 : rn_tyk ty f = true) (h2 : rn_ty ty v = true) : narrow f (rn_vv ad v) = rn_vv ad v ∧ fits f (rn_vv ad v) = true := by
  unfold rn_tyk at h1
  split at h1
  · cases v <;> first | exact ⟨rfl, rfl⟩ | (cases h2)
  · cases v with
    | int x =>
      simp only [rn_ty, Bool.or_eq_true, decide_eq_true_eq] at h2
      rcases h2 with rfl | rfl
      · exact ⟨show narrow .boolean (.int 0) = .int 0 by decide +kernel, show fits .boolean (.int 0) = true by decide +kernel⟩
      · exact ⟨show narrow .boolean (.int 1) = .int 1 by decide +kernel, show fits .boolean (.int 1) = true by decide +kernel⟩
    | ref a => cases h2
    | null => cases h2
    | _ => cases h2
  · cases v <;> first | exact ⟨rfl, rfl⟩ | (cases h2)
  · cases v <;> first | exact ⟨rfl, rfl⟩ | (cases h2)
  · cases h1
def rn_fin (own : String) (ini : Bool) (c k ty : Nat) : Bool := match rn_cls[c]? with
  | some q => rn_tyk ty (rn_fty c k) && (!(q.2.1 k).2.2.2 || (ini && decide ((q.2.1 k).1 = own)))
  | none => false
def rn_oA (t c : Nat) : Bool := match rn_cls[c]? with
  | some q => decide (rn_ft[t]? = some (.object q.1))
  | none => false
theorem rn_oA_some {t c : Nat} (h : rn_oA t c = true) : ∃ q : vw_C, rn_cls[c]? = some q ∧ rn_ft[t]? = some (.object q.1) := by
  unfold rn_oA at h
  split at h
  · next q hq => exact ⟨q, hq, of_decide_eq_true h⟩
  · cases h
def rn_oW (own : String) (ini : Bool) (fr lo : Nat) (i : Instr) (ax : List Nat) : Bool := match i with
  | .putfield idx => match ax with
    | [c, k, ty, w] => rn_fd own idx c k w && rn_fin own ini c k ty
    | _ => false
  | .aastore => match ax with
    | [t, c] => rn_oA t c
    | _ => false
  | .invokestatic idx => match ax with
    | [1, _, w1, w2, w3, w4] => decide (lw_tbl[w1]? = some (.methodLink own idx arraycopyName)) && decide (lw_tbl[w2]? = some (.native arraycopyName)) && decide (lw_tbl[w3]? = some (.static arraycopyName)) && decide (lw_tbl[w4]? = some (.initialized "java/lang/System")) && Nat.ble 1 fr && Nat.ble 26 lo
    | _ => true
  | _ => true
theorem rn_hc_up {N q : Nat} {h : rn_H} {e : rn_E} (hh : rn_hc N h) (hq : q < N) (he : rn_cE N e) : rn_hc N (rn_up h q e) := by
  refine ⟨fun k hk => ?_, ?_, hh.2.2⟩
  · by_cases h1 : k = q
    · subst h1; rw [rn_up_s]; exact he
    · rw [rn_up_n h1]; exact hh.1 k hk
  · rw [rn_up_n (by have := hh.2.2; omega)]
    exact hh.2.1
theorem rn_c999 {c : Nat} {q : vw_C} (h : rn_cls[c]? = some q) : c ≠ 999999 := by
  have : c < rn_cls.length := (List.getElem?_eq_some_iff.mp h).1
  have e : rn_cls.length ≤ 100 := by decide +kernel
  omega
section RN3
variable {p : Program} {l : Launch} {e : Env} {R : Room} {s : State} {m : MethodId} {args : Array Value} {below : List Frame} {meth : Method} {c : Code} {H : Heap} {locs : List Loc} {cells slots : Nat} {Q : State → Prop}
variable {cc : ByteArray} {pc n nL : Nat} {ls : Array Slot} {D : va_G} {cA : Nat → ClassId} {ad : Nat → Nat} {N : Nat} {h : rn_H} {A : Nat → Prop} {H0 : Heap} {lv : rn_L} {st : List Value} {own : String} {fr lo : Nat}
set_option maxHeartbeats 4000000 in
theorem rn_w_ok {i : Instr} {ax : List Nat} {st1 : List Value} {h1 : rn_H} {ini : Bool} (hx : p.tables.exec = Jvm.exec) (hb : c.code = cc) (hml : c.maxLocals = ls.size) (hts : ∀ w ∈ rn_gw, w.before args s = true) (hown : s.vm.findClass own = some m.cls) (hini : ini = true → meth.name = "<init>")
    (hK : va_K D rn_cls (rn_tys cA) s) (hP : va_P D rn_cls (rn_wl cA ad N h) H) (hD : va_D A (rn_wl cA ad N h)) (hS : va_S A H0 H locs)
    (hcs : rn_cs1 N st) (hh : rn_hc N h) (hfr : fr ≤ R.frames) (hlo : lo ≤ R.locals)
    (hok : rn_oW own ini fr lo i ax = true) (hd : decode cc pc = .ok (i, rn_ln i)) (hp : rn_w i ax st h = some (st1, h1))
    (kk : ∀ (H1 : Heap) (locs1 : List Loc), va_P D rn_cls (rn_wl cA ad N h1) H1 → va_D A (rn_wl cA ad N h1) → va_S A H0 H1 locs1 → rn_hc N h1 → rn_cs1 N st1 → W p l e R s m args below meth c H1 locs1 cells slots Q (F0 m (pc + rn_ln i) ls (st1.map (rn_vv ad)))) :
    W p l e R s m args below meth c H locs cells slots Q (F0 m pc ls (st.map (rn_vv ad))) := by
  cases i
  all_goals (try (exact absurd (show (none : Option (List Value × rn_H)) = some (st1, h1) from hp) (fun q => by cases q)))
  case putfield idx =>
    simp only [rn_w, rn_oW] at hp hok
    split at hp
    · next ci k ty w =>
      split at hp
      · next v q r =>
        split at hp
        · next c1 fs hq =>
          split at hp
          · next hb1 =>
            have := Nat.eq_of_beq_eq_true hb1
            subst this
            split at hp
            · next ht =>
              split at hp
              · next hk =>
                cases hp
                simp only [Bool.and_eq_true] at hok
                obtain ⟨o1, o2⟩ := hok
                obtain ⟨q1, hc1, hk1, hw1, hd1⟩ := rn_oF o1
                have hcf := rn_cf_all _ q1 hc1
                have hk := Nat.le_of_ble_eq_true hk
                have hqN : q < N := rn_lt (rn_cs_t hcs) hh (by rw [hq]; intro z; cases z; exact absurd rfl (rn_c999 hc1))
                unfold rn_fin at o2
                rw [hc1] at o2
                simp only [Bool.and_eq_true, Bool.or_eq_true, Bool.not_eq_true', decide_eq_true_eq] at o2
                obtain ⟨t1, t2⟩ := o2
                obtain ⟨n1, n2⟩ := rn_tyk_ok (ad := ad) t1 ht
                have he : (rn_wl cA ad N h)[q]? = some (ad q, .inr (c1, fs.map (rn_vv ad))) := rn_wl_get hqN |>.trans (by rw [hq]; rfl)
                have hset : (rn_wl cA ad N h).set q (ad q, .inr (c1, (fs.map (rn_vv ad)).set k (rn_vv ad v))) = rn_wl cA ad N (rn_up h q (.inr (c1, fs.set k v))) := rn_wl_set (by simp only [rn_ev, List.map_set])
                have hhc : rn_hc N (rn_up h q (.inr (c1, fs.set k v))) := rn_hc_up hh hqN (fun w hw => by
                  rcases List.mem_or_eq_of_mem_set hw with g | g
                  · have := hh.1 q hqN
                    rw [hq] at this
                    exact this w g
                  · rw [g]; exact rn_cs_h hcs)
                have hl : k < (fs.map (rn_vv ad)).length := by rw [List.length_map]; exact hk
                have kk2 : ∀ (H1 : Heap) (locs1 : List Loc), va_P D rn_cls ((rn_wl cA ad N h).set q (ad q, .inr (c1, (fs.map (rn_vv ad)).set k (rn_vv ad v)))) H1 → va_D A ((rn_wl cA ad N h).set q (ad q, .inr (c1, (fs.map (rn_vv ad)).set k (rn_vv ad v)))) → va_S A H0 H1 locs1 → W p l e R s m args below meth c H1 locs1 cells slots Q (F0 m (pc + 3) ls (st1.map (rn_vv ad))) := by
                  intro H1 locs1 g1 g2 g3
                  rw [hset] at g1 g2
                  exact kk H1 locs1 g1 g2 g3 hhc (rn_cs_t (rn_cs_t hcs))
                rcases t2 with t2 | ⟨t2, t3⟩
                · exact va_put (C := q1.1) (T := q1.2.1) (N := q1.2.2) hx hb hts hcf.1 (rn_fty c1) hcf.2.1 hcf.2.2.1 hown hK hP hD hS q he hc1 k hk1 (rn_hw hts hw1 rfl) (fun x h9 => by rw [hd1] at h9; exact h9) t2 (hcf.2.1 k hk1) n1 n2 hl hd kk2
                · by_cases t4 : (q1.2.1 k).2.2.2 = true
                  · exact va_putF (C := q1.1) (T := q1.2.1) (N := q1.2.2) hx hb hts hcf.1 (rn_fty c1) hcf.2.1 hcf.2.2.1 hown hK hP hD hS q he hc1 k hk1 (rn_hw hts hw1 rfl) (fun x h9 => by rw [hd1] at h9; exact h9) t4 (hini t2) t3 (hcf.2.1 k hk1) n1 n2 hl hd kk2
                  · exact va_put (C := q1.1) (T := q1.2.1) (N := q1.2.2) hx hb hts hcf.1 (rn_fty c1) hcf.2.1 hcf.2.2.1 hown hK hP hD hS q he hc1 k hk1 (rn_hw hts hw1 rfl) (fun x h9 => by rw [hd1] at h9; exact h9) (by simpa using t4) (hcf.2.1 k hk1) n1 n2 hl hd kk2
              · cases hp
            · cases hp
          · cases hp
        · cases hp
      · cases hp
    · cases hp
  case iastore =>
    simp only [rn_w] at hp
    split at hp
    · next x j q r =>
      split at hp
      · next n f hq =>
        split at hp
        · cases hp
        · next hin =>
          cases hp
          have hqN : q < N := rn_lt (rn_cs_t (rn_cs_t hcs)) hh (by rw [hq]; intro z; cases z)
          refine va_iast hx hb hK hP hD hS q 0 (rn_wl_get hqN |>.trans (by rw [hq]; rfl)) (rn_tys_get rfl) hin hd (fun H1 locs1 g1 g2 g3 => ?_)
          rw [rn_wl_set (e := .inl (0, n, .inl (upd f j.toNatClampNeg x))) (x := .inl (cA 0, n, .inl (upd f j.toNatClampNeg x))) rfl] at g1 g2
          exact kk H1 locs1 g1 g2 g3 (rn_hc_up hh hqN trivial) (rn_cs_t (rn_cs_t (rn_cs_t hcs)))
      · cases hp
    · cases hp
  case bastore =>
    simp only [rn_w] at hp
    split at hp
    · next x j q r =>
      split at hp
      · next n f hq =>
        split at hp
        · cases hp
        · next hin =>
          split at hp
          · next h01 =>
            cases hp
            have hqN : q < N := rn_lt (rn_cs_t (rn_cs_t hcs)) hh (by rw [hq]; intro z; cases z)
            have hnar : vp_nar .boolean x = x := by rcases h01 with rfl | rfl <;> decide +kernel
            refine va_zast hx hb hK hP hD hS q 2 (rn_wl_get hqN |>.trans (by rw [hq]; rfl)) (rn_tys_get rfl) hin hd (fun H1 locs1 g1 g2 g3 => ?_)
            rw [hnar] at g1 g2
            rw [rn_wl_set (e := .inl (2, n, .inl (upd f j.toNatClampNeg x))) (x := .inl (cA 2, n, .inl (upd f j.toNatClampNeg x))) rfl] at g1 g2
            exact kk H1 locs1 g1 g2 g3 (rn_hc_up hh hqN trivial) (rn_cs_t (rn_cs_t (rn_cs_t hcs)))
          · cases hp
      · cases hp
    · cases hp
  case lastore =>
    simp only [rn_w] at hp
    split at hp
    · next x j q r =>
      split at hp
      · next n f hq =>
        split at hp
        · cases hp
        · next hin =>
          cases hp
          have hqN : q < N := rn_lt (rn_cs_t (rn_cs_t hcs)) hh (by rw [hq]; intro z; cases z)
          refine va_last hx hb hK hP hD hS q 1 (rn_wl_get hqN |>.trans (by rw [hq]; rfl)) (rn_tys_get rfl) hin hd (fun H1 locs1 g1 g2 g3 => ?_)
          rw [rn_wl_set (e := .inl (1, n, .inr (.inl (vp_updL f j.toNatClampNeg x)))) (x := .inl (cA 1, n, .inr (.inl (vp_updL f j.toNatClampNeg x)))) rfl] at g1 g2
          exact kk H1 locs1 g1 g2 g3 (rn_hc_up hh hqN trivial) (rn_cs_t (rn_cs_t (rn_cs_t hcs)))
      · cases hp
    · cases hp
  case aastore =>
    simp only [rn_w, rn_oW] at hp hok
    split at hp
    · next t ci =>
      split at hp
      · next v j q r =>
        split at hp
        · next t1 n f hq =>
          split at hp
          · next hb1 =>
            have := Nat.eq_of_beq_eq_true hb1
            subst this
            split at hp
            · next c1 vs hv =>
              split at hp
              · next hb2 =>
                have := Nat.eq_of_beq_eq_true hb2
                subst this
                split at hp
                · cases hp
                · next hin =>
                  cases hp
                  obtain ⟨q1, hc1, ht1⟩ := rn_oA_some hok
                  have hqN : q < N := rn_lt (rn_cs_t (rn_cs_t hcs)) hh (by rw [hq]; intro z; cases z)
                  have hvN : v < N := rn_lt hcs hh (by rw [hv]; intro z; cases z; exact absurd rfl (rn_c999 hc1))
                  refine va_astq (r := q1) hx hb hK hP hD hS q _ v c1 (rn_wl_get hqN |>.trans (by rw [hq]; rfl)) (rn_tys_get ht1) (rn_wl_get hvN |>.trans (by rw [hv]; rfl)) hc1 hin hd (fun H1 locs1 g1 g2 g3 => ?_)
                  have e1 : va_up (fun i => (f i).map ad) j.toNatClampNeg (some (ad v)) = fun i => (va_up f j.toNatClampNeg (some v) i).map ad := by
                    funext i
                    simp only [va_up]
                    split <;> rfl
                  rw [e1] at g1 g2
                  rw [rn_wl_set (e := .inl (t1, n, .inr (.inr (.inr (.inr (va_up f j.toNatClampNeg (some v))))))) (x := .inl (cA t1, n, .inr (.inr (.inr (.inr (fun i => (va_up f j.toNatClampNeg (some v) i).map ad)))))) rfl] at g1 g2
                  refine kk H1 locs1 g1 g2 g3 (rn_hc_up hh hqN (fun i a ha => ?_)) (rn_cs_t (rn_cs_t (rn_cs_t hcs)))
                  simp only [va_up] at ha
                  split at ha
                  · cases ha; exact hvN
                  · have := hh.1 q hqN
                    rw [hq] at this
                    exact this i a ha
              · cases hp
            · cases hp
          · cases hp
        · cases hp
      · cases hp
    · cases hp
  case invokestatic idx =>
    simp only [rn_w, rn_oW] at hp hok
    split at hp
    · next t w1 w2 w3 w4 =>
      simp only [Bool.and_eq_true, decide_eq_true_eq] at hok
      obtain ⟨⟨⟨⟨⟨o1, o2⟩, o3⟩, o4⟩, o5⟩, o6⟩ := hok
      have o5 := Nat.le_of_ble_eq_true o5
      have o6 := Nat.le_of_ble_eq_true o6
      have hnw : nativeFrameWords "java/lang/System" "arraycopy" 5 = 7 := by decide +kernel
      split at hp
      · next n dp a sp a0 r =>
        split at hp
        · cases hp
        · next hno =>
          have n1 : ¬ sp < 0 := fun z => hno (Or.inl z)
          have n2 : ¬ dp < 0 := fun z => hno (Or.inr (Or.inl z))
          have n3 : ¬ n < 0 := fun z => hno (Or.inr (Or.inr (Or.inl z)))
          have n4 : rn_cs r ≤ 8 := Nat.le_of_not_lt fun z => hno (Or.inr (Or.inr (Or.inr z)))
          split at hp
          · split at hp
            · next n0 f n1' g hq0 hq1 =>
              split at hp
              · next hbd =>
                cases hp
                have hq0N : a0 < N := rn_lt (rn_cs_t (rn_cs_t (rn_cs_t (rn_cs_t hcs)))) hh (by rw [hq0]; intro z; cases z)
                have hq1N : a < N := rn_lt (rn_cs_t (rn_cs_t hcs)) hh (by rw [hq1]; intro z; cases z)
                refine va_copyi hx hb hml hown (rn_hw hts o1 rfl) (rn_hw hts o2 rfl) (rn_hw hts o3 rfl) (rn_hw hts o4 rfl) hK hP hD hS a0 a 0 0 (rn_wl_get hq0N |>.trans (by rw [hq0]; rfl)) (rn_wl_get hq1N |>.trans (by rw [hq1]; rfl)) (rn_tys_get rfl) (rn_tys_get rfl) rfl n1 n2 n3 hbd.1 hbd.2 (fun _ _ => rfl) (by omega) (by rw [rn_cs_map, hnw]; omega) hd (fun H1 locs1 g1 g2 g3 => ?_)
                rw [rn_wl_set (e := .inl (0, n1', .inl (va_cpy f g sp.toNatClampNeg dp.toNatClampNeg n.toNatClampNeg))) (x := .inl (cA 0, n1', .inl (va_cpy f g sp.toNatClampNeg dp.toNatClampNeg n.toNatClampNeg))) rfl] at g1 g2
                exact kk H1 locs1 g1 g2 g3 (rn_hc_up hh hq1N trivial) (rn_cs_t (rn_cs_t (rn_cs_t (rn_cs_t (rn_cs_t hcs)))))
              · cases hp
            · cases hp
          · split at hp
            · next n0 f n1' g hq0 hq1 =>
              split at hp
              · next hbd =>
                cases hp
                have hq0N : a0 < N := rn_lt (rn_cs_t (rn_cs_t (rn_cs_t (rn_cs_t hcs)))) hh (by rw [hq0]; intro z; cases z)
                have hq1N : a < N := rn_lt (rn_cs_t (rn_cs_t hcs)) hh (by rw [hq1]; intro z; cases z)
                refine va_copyl hx hb hml hown (rn_hw hts o1 rfl) (rn_hw hts o2 rfl) (rn_hw hts o3 rfl) (rn_hw hts o4 rfl) hK hP hD hS a0 a 1 1 (rn_wl_get hq0N |>.trans (by rw [hq0]; rfl)) (rn_wl_get hq1N |>.trans (by rw [hq1]; rfl)) (rn_tys_get rfl) (rn_tys_get rfl) rfl n1 n2 n3 hbd.1 hbd.2 (fun _ _ => rfl) (by omega) (by rw [rn_cs_map, hnw]; omega) hd (fun H1 locs1 g1 g2 g3 => ?_)
                rw [rn_wl_set (e := .inl (1, n1', .inr (.inl (va_cpy f g sp.toNatClampNeg dp.toNatClampNeg n.toNatClampNeg)))) (x := .inl (cA 1, n1', .inr (.inl (va_cpy f g sp.toNatClampNeg dp.toNatClampNeg n.toNatClampNeg)))) rfl] at g1 g2
                exact kk H1 locs1 g1 g2 g3 (rn_hc_up hh hq1N trivial) (rn_cs_t (rn_cs_t (rn_cs_t (rn_cs_t (rn_cs_t hcs)))))
              · cases hp
            · cases hp
          · cases hp
      · cases hp
    · cases hp
end RN3
