/-! the law's cells; its places -/
def σ0 : Nat → Value := fun _ => .null
def clA (X : rn_X) (k : Nat) : Nat := if X.1 = 0 then k * 37 + 5 else ((X.2 (k % X.1) >>> (nI (k % 7) &&& 31)) &&& (4194303 : Int32)).toUInt32.toNat
def clN (X : rn_X) (k n : Nat) : Nat := clA X k % n
theorem cl_and (y : Int32) : (y &&& (4194303 : Int32)).toUInt32.toNat ≤ 4194303 := by
  show (y.toBitVec &&& (4194303 : Int32).toBitVec).toNat ≤ 4194303
  rw [BitVec.toNat_and]
  exact Nat.and_le_right
theorem clA_lt {X : rn_X} {k : Nat} (hk : k < 1000) : clA X k < 2 ^ 31 := by
  unfold clA
  split
  · omega
  · have := cl_and (X.2 (k % X.1) >>> (nI (k % 7) &&& 31))
    omega
theorem clN_lt {X : rn_X} {k n : Nat} (hn : 0 < n) : clN X k n < n := Nat.mod_lt _ hn
theorem cl_E {X : rn_X} (hX : X.1 ≤ 260) {k n N sl : Nat} {h : rn_H} (hk : k < 1000) (hn : 0 < n) (hn2 : n < 1000) : rn_rv X 77 (0, lv_args 0 [.ref 1000000, .int (nI k), .int (nI n)], [], N, sl, h) (some (.int (nI (clN X k n))), N, sl, h) := by
  have qm := rn_m77
  show rn_rv X 77 (0, [(0, .ref 1000000), (1, .int (nI k)), (2, .int (nI n))], [], N, sl, h) _
  have hend : ∀ a : Nat, a < 2 ^ 31 → rn_rv X 77 (21, [(0, .ref 1000000), (1, .int (nI k)), (2, .int (nI n))], [.int (nI a)], N, sl, h) (some (.int (nI (a % n))), N, sl, h) := by
    intro a ha
    refine rn_eg qm 1 (s2 := (22, [(2, .int (nI n))], [.int (nI n), .int (nI a)], N, sl, h)) rfl ?_
    refine rn_e1 qm (s2 := (23, [(2, .int (nI n))], [.int (nI a - nI a / nI n * nI n)], N, sl, h)) (rn_g_irem rfl rfl (nI_ne0 hn (by omega))) ?_
    rw [pk_rem ha hn (by omega)]
    exact rn_er qm rfl rfl rfl
  refine rn_eg qm 3 (s2 := ((if nI X.1 = 0 then 3 else 9), [(0, .ref 1000000), (1, .int (nI k)), (2, .int (nI n))], [], N, sl, h)) rfl ?_
  by_cases h0 : X.1 = 0
  · have e : clN X k n = (k * 37 + 5) % n := by unfold clN clA; rw [if_pos h0]
    rw [e, if_pos (by rw [h0]; rfl)]
    refine rn_eg qm 6 (s2 := (21, [(0, .ref 1000000), (1, .int (nI k)), (2, .int (nI n))], [.int (nI k * nI 37 + nI 5)], N, sl, h)) rfl ?_
    rw [pk_mul, nI_add]
    exact hend _ (by omega)
  · have e : clN X k n = ((X.2 (k % X.1) >>> (nI (k % 7) &&& 31)) &&& (4194303 : Int32)).toUInt32.toNat % n := by unfold clN clA; rw [if_neg h0]
    rw [e, if_neg (nI_ne0 (by omega) (by omega))]
    refine rn_eg qm 4 (s2 := (13, [(0, .ref 1000000), (1, .int (nI k)), (2, .int (nI n))], [.int (nI X.1), .int (nI k), .ref 1000000], N, sl, h)) rfl ?_
    refine rn_e1 qm (s2 := (14, [(0, .ref 1000000), (1, .int (nI k)), (2, .int (nI n))], [.int (nI k - nI k / nI X.1 * nI X.1), .ref 1000000], N, sl, h)) (rn_g_irem rfl rfl (nI_ne0 (by omega) (by omega))) ?_
    rw [pk_rem (by omega) (by omega) (by omega)]
    have hm : k % X.1 < X.1 := Nat.mod_lt _ (by omega)
    have hc : (nI (k % X.1)).toNatClampNeg = k % X.1 := nI_clamp (by omega)
    refine rn_e1 qm (s2 := (15, [(0, .ref 1000000), (1, .int (nI k)), (2, .int (nI n))], [.int (X.2 (nI (k % X.1)).toNatClampNeg)], N, sl, h)) (rn_g_sald rfl rfl (fun g => ?_)) ?_
    · rcases g with g | g
      · exact nI_pos (by omega) g
      · rw [hc] at g; omega
    rw [hc]
    refine rn_eg qm 2 (s2 := (17, [(0, .ref 1000000), (1, .int (nI k)), (2, .int (nI n))], [.int (nI 7), .int (nI k), .int (X.2 (k % X.1))], N, sl, h)) rfl ?_
    refine rn_e1 qm (s2 := (18, [(0, .ref 1000000), (1, .int (nI k)), (2, .int (nI n))], [.int (nI k - nI k / nI 7 * nI 7), .int (X.2 (k % X.1))], N, sl, h)) (rn_g_irem rfl rfl (nI_ne0 (by omega) (by omega))) ?_
    rw [pk_rem (by omega) (by omega) (by omega)]
    refine rn_eg qm 3 (s2 := (21, [(0, .ref 1000000), (1, .int (nI k)), (2, .int (nI n))], [.int ((X.2 (k % X.1) >>> (nI (k % 7) &&& 31)) &&& (4194303 : Int32))], N, sl, h)) rfl ?_
    have hz : (X.2 (k % X.1) >>> (nI (k % 7) &&& 31)) &&& (4194303 : Int32) = nI ((X.2 (k % X.1) >>> (nI (k % 7) &&& 31)) &&& (4194303 : Int32)).toUInt32.toNat := pe_n32.symm
    have hl := cl_and (X.2 (k % X.1) >>> (nI (k % 7) &&& 31))
    rw [hz]
    have := hend _ (show ((X.2 (k % X.1) >>> (nI (k % 7) &&& 31)) &&& (4194303 : Int32)).toUInt32.toNat < 2 ^ 31 by omega)
    rw [← hz] at this ⊢
    exact this
/-- from that place of the law it comes to its end with true -/
def pe_En (X : rn_X) (n N sl K L : Nat) (st : List Nat) (S : rn_T) : Prop := ∀ (lv : rn_L) (h : rn_H), pe_RL σ0 L lv → (∀ q, q < n → h q = rn_en S q) → ∃ h1, rn_rv X 81 (K, lv, st.map (pe_dv σ0), N, sl, h) (some (.int 1), 320, 7476, h1)
noncomputable def pe_lp (l : List (Nat × Nat)) : Nat := @List.rec (Nat × Nat) (fun _ => Nat) 0 (fun p _ s => pe_ls s p.1 p.2) l
noncomputable def pe_lc (L : Nat) (l : List (Nat × Nat)) : Bool := @List.rec (Nat × Nat) (fun _ => Bool) true (fun p _ b => pe_if (Nat.beq (pe_lg L p.1) p.2) b false) l
theorem pe_lc_ok {L : Nat} : ∀ {l : List (Nat × Nat)}, pe_lc L l = true → ∀ j, pe_lg (pe_lp l) j ≠ 0 → pe_lg (pe_lp l) j = pe_lg L j
  | [], _, j, hj => absurd pe_lg_0 hj
  | p :: l, h, j, hj => by
    have h : pe_if (Nat.beq (pe_lg L p.1) p.2) (pe_lc L l) false = true := h
    rw [pe_if_eq] at h
    by_cases h1 : Nat.beq (pe_lg L p.1) p.2 = true
    · rw [if_pos h1] at h
      have h1 := pe_beq h1
      have e : pe_lp (p :: l) = pe_ls (pe_lp l) p.1 p.2 := rfl
      rw [e, pe_lg_ls (by rw [← h1]; exact pe_lg_lt)] at hj ⊢
      by_cases g : j = p.1
      · rw [if_pos g, g, h1]
      · rw [if_neg g] at hj ⊢
        exact pe_lc_ok h j hj
    · rw [if_neg h1] at h; cases h
/-- a run of the law from a place to a place, and what is asked of the heap there -/
noncomputable def pe_ts (n : Nat) (w : pe_W) (stops : List Nat) (D K L : Nat) (st : List Nat) (d K2 : Nat) (L2 : List (Nat × Nat)) (st2 : List Nat) (chk : Nat → Bool) : Bool := match pe_ru n w stops D (81, (pe_tb 81).drop K, L, st, d, []) with
  | some (.inr (.inl (y, suf, L3, st3, c3, fs))) => Nat.beq y 81 && (Nat.beq suf.length (1251 - K2) && (pe_lc L3 L2 && (pe_le st3 st2 && (fs.isEmpty && chk c3))))
  | _ => false
theorem pe_len : (pe_tb 81).length = 1251 := by decide +kernel
theorem pe_seg {X : rn_X} {n N sl K L d K2 D : Nat} {w : pe_W} {stops st st2 : List Nat} {L2 : List (Nat × Nat)} {chk : Nat → Bool} {S : rn_T} (hn : pe_nn n) (hw : ∀ (B : rn_T) (h0 : rn_H), pe_Wok σ0 n B h0 X N sl w) (h : pe_ts n w stops D K L st d K2 L2 st2 chk = true) (hK : K2 < 1251) (hag : pe_ag d S) : ∃ c, chk c = true ∧ (pe_En X n N sl K2 (pe_lp L2) st2 (pe_TT c S) → pe_En X n N sl K L st S) := by
  unfold pe_ts at h
  split at h
  · next y suf L3 st3 c3 fs hr =>
    simp only [Bool.and_eq_true] at h
    obtain ⟨h1, h2, h3, h4, h5, h6⟩ := h
    refine ⟨c3, h6, fun hE lv hh hL hH => ?_⟩
    have hH2 : pe_HR n d S hh hh := ⟨fun q hq => by rw [show pe_TT d S = S from hag]; exact hH q hq, fun _ _ => rfl⟩
    obtain ⟨k2, lv2, h2', as2, e1, e2, e3, e4, e5⟩ := pe_ru_ok (X := X) (N := N) (sl := sl) (as := []) hn (hw S hh) D 81 L st d [] _ K lv hh hL hH2 trivial hr
    have hy : y = 81 := pe_beq h1
    subst hy
    have hfs : fs = [] := by
      cases fs with
      | nil => rfl
      | cons a b => cases h5
    subst hfs
    cases as2 with
    | cons a b => exact absurd e4 (fun q => q)
    | nil =>
      have hlen := pe_beq h2
      rw [e1, List.length_drop, pe_len] at hlen
      have hk : k2 = K2 := by omega
      subst hk
      have hst := pe_le_of h4
      subst hst
      have hRL : pe_RL σ0 (pe_lp L2) lv2 := fun j hj => by
        have := pe_lc_ok h3 j hj
        rw [this]
        exact e2 j (by rw [← this]; exact hj)
      obtain ⟨hf, hrun⟩ := hE lv2 h2' hRL e3.1
      exact ⟨hf, e5 _ hrun⟩
  · cases h
/-- the law's end -/
noncomputable def pe_te (w : pe_W) (D K L : Nat) (st : List Nat) (d : Nat) : Bool := match pe_ru 320 w [] D (81, (pe_tb 81).drop K, L, st, d, []) with
  | some (.inr (.inr (vs, _))) => pe_le vs [9]
  | _ => false
theorem pe_seg_end {X : rn_X} {K L d D : Nat} {w : pe_W} {st : List Nat} {S : rn_T} (hw : ∀ (B : rn_T) (h0 : rn_H), pe_Wok σ0 320 B h0 X 320 7476 w) (h : pe_te w D K L st d = true) (hag : pe_ag d S) : pe_En X 320 320 7476 K L st S := by
  unfold pe_te at h
  split at h
  · next vs c hr =>
    intro lv hh hL hH
    have hH2 : pe_HR 320 d S hh hh := ⟨fun q hq => by rw [show pe_TT d S = S from hag]; exact hH q hq, fun _ _ => rfl⟩
    obtain ⟨v, h2, e1, -, e2⟩ := pe_ru_ok (X := X) (N := 320) (sl := 7476) (as := []) (Or.inr rfl) (hw S hh) D 81 L st d [] _ K lv hh hL hH2 trivial hr
    have := pe_le_of h
    subst this
    cases v with
    | none => cases e1
    | some v =>
      cases e1
      exact ⟨h2, e2⟩
  · cases h
theorem cl_tab : ∀ K, K ∈ [8, 175, 327, 516, 727, 777, 884, 892] → (match (pe_tb 81)[K]? with
    | some e => decide (rn_cc e.2.1 e.2.2.2 = some (77, false, 0)) && decide (e.2.2.1 = [])
    | none => false) = true := by decide +kernel
/-- a cell of the script -/
theorem pe_cell {X : rn_X} (hX : X.1 ≤ 260) {n N sl K L k m : Nat} {st : List Nat} {S : rn_T} (hK : K ∈ [8, 175, 327, 516, 727, 777, 884, 892]) (hk : k < 1000) (hm : 0 < m) (hm2 : m < 1000) (hst : pe_csum st ≤ 8) (hE : pe_En X n N sl (K + 1) L ((8 * clN X k m + 1) :: st) S) : pe_En X n N sl K L ((8 * m + 1) :: (8 * k + 1) :: 8000003 :: st) S := by
  intro lv h hL hH
  have ht := cl_tab K hK
  cases he : (pe_tb 81)[K]? with
  | none => rw [he] at ht; cases ht
  | some e =>
    rw [he] at ht
    simp only [Bool.and_eq_true, decide_eq_true_eq] at ht
    obtain ⟨hc, hks⟩ := ht
    have hq : rn_ms 81 = some rn_q81 := rn_m81
    obtain ⟨pc, i, ks, ax⟩ := e
    simp only at hc hks
    subst hks
    obtain ⟨hsp, hrt⟩ := pe_cc_np hc (X := X) (pc := pc) (k := K) (N := N) (sl := sl) (ks := []) (lv := lv) (st := ((8 * m + 1) :: (8 * k + 1) :: 8000003 :: st).map (pe_dv σ0)) (hh := h) (rt := rn_q81.2.2.2.1)
    have em : pe_dv σ0 (8 * m + 1) = .int (nI m) := by rw [pe_dv1 (by omega), pe_dI_eq, show (8 * m + 1) / 8 = m by omega]; rfl
    have ek : pe_dv σ0 (8 * k + 1) = .int (nI k) := by rw [pe_dv1 (by omega), pe_dI_eq, show (8 * k + 1) / 8 = k by omega]; rfl
    have es : pe_dv σ0 8000003 = .ref 1000000 := rfl
    have ec : pe_dv σ0 (8 * clN X k m + 1) = .int (nI (clN X k m)) := by rw [pe_dv1 (by omega), pe_dI_eq, show (8 * clN X k m + 1) / 8 = clN X k m by omega]; rfl
    obtain ⟨h1, hr⟩ := hE lv h hL hH
    rw [List.map_cons, ec] at hr
    refine ⟨h1, ?_⟩
    rw [List.map_cons, List.map_cons, List.map_cons, em, ek, es] at hsp hrt ⊢
    refine rn_ec hq (e := (pc, i, [], ax)) he hsp hrt hc rn_m77 rfl rfl ?_ (fun q => by cases q) (cl_E hX hk hm hm2) hr
    have hcs : Nat.ble (rn_cs (st.map (pe_dv σ0))) 8 = true := Nat.ble_eq.mpr (Nat.le_trans pe_csum_le hst)
    have hlen : Nat.ble 3 (.int (nI m) :: .int (nI k) :: .ref 1000000 :: st.map (pe_dv σ0)).length = true := rfl
    show (_ && _ && Nat.ble 3 _ && Nat.ble (rn_cs (st.map (pe_dv σ0))) 8 && _) = true
    rw [hcs, hlen]
    rfl
