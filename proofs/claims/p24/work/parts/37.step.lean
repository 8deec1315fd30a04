/-! the steps, one by one -/
theorem pe_eI_ok {x : Int32} : pe_eI x % 8 = 1 ∧ pe_eI x / 8 < 4294967296 := by
  rw [pe_eI_eq]
  have : x.toUInt32.toNat < 4294967296 := x.toUInt32.toNat_lt
  omega
theorem pe_dv5 {σ : Nat → Value} {v : Nat} (h1 : v % 8 ≠ 1) (h2 : v % 8 ≠ 2) (h3 : v % 8 ≠ 3) (h5 : v % 8 ≠ 5) : pe_dv σ v = .null := by
  unfold pe_dv
  rcases (show v % 8 = 0 ∨ v % 8 = 4 ∨ v % 8 = 6 ∨ v % 8 = 7 by omega) with h | h | h | h <;> rw [h] <;> rfl
theorem pe_cat1 {σ : Nat → Value} {v : Nat} (h2 : v % 8 ≠ 2) (h5 : v % 8 ≠ 5) : (pe_dv σ v).category = 1 := by
  by_cases h1 : v % 8 = 1
  · rw [pe_dv1 h1]; rfl
  · by_cases h3 : v % 8 = 3
    · rw [pe_dv3 h3]; rfl
    · rw [pe_dv5 h1 h2 h3 h5]; rfl
theorem pe_cat_le {v : Value} : v.category ≤ 2 := by
  cases v <;> first | exact Nat.le_refl 2 | exact (Nat.le_succ 1 : 1 ≤ 2)
theorem pe_ct_eq {v : Nat} : pe_ct v = if v % 8 = 2 then 2 else if v % 8 = 5 then 9 else 1 := by
  unfold pe_ct pe_if
  by_cases h : v % 8 = 2
  · rw [if_pos h, show Nat.beq (Nat.mod v 8) 2 = true from by rw [show Nat.mod v 8 = 2 from h]; rfl]
  · rw [if_neg h, show Nat.beq (Nat.mod v 8) 2 = false from by rw [← Bool.not_eq_true, Nat.beq_eq]; exact h]
    by_cases h5 : v % 8 = 5
    · rw [if_pos h5, show Nat.beq (Nat.mod v 8) 5 = true from by rw [show Nat.mod v 8 = 5 from h5]; rfl]
    · rw [if_neg h5, show Nat.beq (Nat.mod v 8) 5 = false from by rw [← Bool.not_eq_true, Nat.beq_eq]; exact h5]
theorem pe_ct_ge {σ : Nat → Value} {v : Nat} : (pe_dv σ v).category ≤ pe_ct v := by
  rw [pe_ct_eq]
  by_cases h2 : v % 8 = 2
  · rw [if_pos h2]; exact pe_cat_le
  · rw [if_neg h2]
    by_cases h5 : v % 8 = 5
    · rw [if_pos h5]; exact Nat.le_trans pe_cat_le (by decide)
    · rw [if_neg h5, pe_cat1 h2 h5]; exact Nat.le_refl _
theorem pe_csum_le {σ : Nat → Value} {st : List Nat} : rn_cs (st.map (pe_dv σ)) ≤ pe_csum st := pe_csum_ok st (fun v _ => pe_ct_ge)
theorem pe_fc_k {c k : Nat} (h : pe_fc c k ≠ 0) : c < 10 ∧ k < 18 := by
  refine ⟨Nat.lt_of_not_le fun g => h (pe_fc_hi g), Nat.lt_of_not_le fun g => h ?_⟩
  by_cases hc : c < 10
  · unfold pe_fc
    have : (pe_ft.getD c []).length ≤ 18 := (by decide +kernel : ∀ c, c < 10 → (pe_ft.getD c []).length ≤ 18) c hc
    rw [List.getD_eq_getElem?_getD (l := pe_ft.getD c []), List.getElem?_eq_none (by omega)]
    rfl
  · exact pe_fc_hi (by omega)
theorem pe_ob_bl {n cl k x : Nat} (hn : pe_nn n) (h : pe_q n cl x = true) (hf : pe_fc cl k ≠ 0) : k < pe_bl (x / 8) := by
  obtain ⟨a1, a2, a3, a4⟩ := pe_q_of hn h
  obtain ⟨b1, b2⟩ := pe_fc_k hf
  rcases a4 with g | g
  · exact pe_bl_ob _ g (by omega) k b2 (by rw [a3]; exact hf)
  · exfalso
    have : x / 8 < 320 := pe_tA hn h
    have := (by decide +kernel : ∀ q, q < 320 → 318 ≤ q → rn_kd q = 10) _ this g
    omega
section ST
variable {σ : Nat → Value} {X : rn_X} {n c : Nat} {B : rn_T} {h0 h : rn_H} {L : Nat} {lv : rn_L} {st : List Nat} {N : pe_N} {J : pe_J} {res : pe_R}
theorem pe_li_ok {j : Nat} (hL : pe_RL σ L lv) (t : Nat.beq (Nat.mod (pe_lg L j) 8) 1 = true) : rn_li j lv (st.map (pe_dv σ)) = some ((pe_lg L j :: st).map (pe_dv σ)) := by
  have t : pe_lg L j % 8 = 1 := pe_beq t
  unfold rn_li
  rw [hL j (by omega), List.map_cons, pe_dv1 t]
theorem pe_lj_ok {j : Nat} (hL : pe_RL σ L lv) (t : Nat.beq (Nat.mod (pe_lg L j) 8) 2 = true) : rn_lj j lv (st.map (pe_dv σ)) = some ((pe_lg L j :: st).map (pe_dv σ)) := by
  have t : pe_lg L j % 8 = 2 := pe_beq t
  unfold rn_lj
  rw [hL j (by omega), List.map_cons, pe_dv2 t]
theorem pe_la_ok {j : Nat} (hL : pe_RL σ L lv) (t : pe_a (pe_lg L j) = true) : rn_la j lv (st.map (pe_dv σ)) = some ((pe_lg L j :: st).map (pe_dv σ)) := by
  unfold rn_la
  rcases pe_a_of t with t | t
  · rw [hL j (by omega), List.map_cons, pe_dv3 t]
  · rw [hL j (by omega), List.map_cons, pe_dv4 t]
theorem pe_k2r {g : Nat → Nat → Nat} {f : Int32 → Int32 → Int32} (hf : ∀ x y, (x % 8 = 1 ∧ x / 8 < 4294967296) → (y % 8 = 1 ∧ y / 8 < 4294967296) → pe_dv σ (g x y) = .int (f (pe_dI x) (pe_dI y))) (hs : pe_k2 g L st c N J = some res) : ∃ st2, rn_ii f (st.map (pe_dv σ)) = some (st2.map (pe_dv σ)) ∧ N L st2 c = some res := by
  obtain ⟨y, x, r, rfl, t, h1⟩ := pe_k2_i hs
  obtain ⟨hx, hy⟩ := pe_ii_of t
  refine ⟨_, ?_, h1⟩
  rw [List.map_cons, List.map_cons, List.map_cons, pe_dv1 hx.1, pe_dv1 hy.1, hf x y hx hy]
  rfl
theorem pe_kj2r {g : Nat → Nat → Nat} {f : Int64 → Int64 → Int64} (hf : ∀ x y, pe_dv σ (g x y) = .long (f (pe_dJ x) (pe_dJ y))) (hs : pe_kj2 g L st c N J = some res) : ∃ st2, rn_ll f (st.map (pe_dv σ)) = some (st2.map (pe_dv σ)) ∧ N L st2 c = some res := by
  obtain ⟨y, x, r, rfl, t, t2, h1⟩ := pe_kj2_i hs
  have hx := (pe_j_of t).1
  have hy := (pe_j_of t2).1
  refine ⟨_, ?_, h1⟩
  rw [List.map_cons, List.map_cons, List.map_cons, pe_dv2 hx, pe_dv2 hy, hf x y]
  rfl
theorem pe_gf_ok {cl k : Nat} {g : pe_K} (hn : pe_nn n) (hH : pe_HR n c B h0 h) (hg : pe_gf n cl k = some g) (hs : g L st c N J = some res) : ∃ st2, rn_gf cl k h (st.map (pe_dv σ)) = some (st2.map (pe_dv σ)) ∧ N L st2 c = some res := by
  unfold pe_gf at hg
  split at hg
  · cases hg
  · next hf =>
    cases hg
    obtain ⟨x, r, rfl, t1, t2, h1⟩ := pe_kgi_i hs
    obtain ⟨a1, a2, a3, -⟩ := pe_q_of hn t1
    have hb := pe_ob_bl hn t1 (by rw [hf]; decide)
    have hc := pe_cl_in (c := c) hb
    have t2 : pe_cl c (x / 8) k % 8 = 1 := by rw [← hc]; exact pe_beq t2
    refine ⟨_, ?_, h1⟩
    obtain ⟨fs, e1, e2, -, -⟩ := pe_fi cl k hf (x / 8) (rn_ln_ (x / 8)) (rI (pe_TT c B) (x / 8)) (rA (pe_TT c B) (x / 8)) (rL (pe_TT c B) (x / 8)) (rR (pe_TT c B) (x / 8)) (rP (pe_TT c B) (x / 8))
    have e : h (x / 8) = .inr (cl, fs) := by rw [pe_en hH a2, a3]; exact e1
    rw [List.map_cons, List.map_cons, pe_dv3 a1]
    show _ = some (pe_dv σ (pe_cg c (Nat.add (pe_bs (x / 8)) k)) :: _)
    rw [hc, pe_dv1 t2, ← pe_rI (B := B) (by rw [a3]; exact hf) t2]
    unfold rn_gf
    simp only [e, Nat.beq_refl, e2]
  · next hf =>
    cases hg
    obtain ⟨x, r, rfl, t1, t2, h1⟩ := pe_kgr_i hs
    obtain ⟨a1, a2, a3, -⟩ := pe_q_of hn t1
    have hb := pe_ob_bl hn t1 (by rw [hf]; decide)
    have hc := pe_cl_in (c := c) hb
    refine ⟨_, ?_, h1⟩
    obtain ⟨rfl, rfl, fs, e1, e2, -, -⟩ := pe_fr2 cl k hf (x / 8) (rn_ln_ (x / 8)) (rI (pe_TT c B) (x / 8)) (rA (pe_TT c B) (x / 8)) (rL (pe_TT c B) (x / 8)) (rR (pe_TT c B) (x / 8)) (rP (pe_TT c B) (x / 8))
    have e : h (x / 8) = .inr (3, fs) := by rw [pe_en hH a2, a3]; exact e1
    have t2 : pe_a (pe_cl c (x / 8) 2) = true := by rw [← hc]; exact t2
    have h5 : pe_cl c (x / 8) 2 ≠ 0 := by rcases pe_a_of t2 with g | g <;> omega
    rw [List.map_cons, List.map_cons, pe_dv3 a1]
    show _ = some (pe_dv σ (pe_cg c (Nat.add (pe_bs (x / 8)) 2)) :: _)
    rw [hc, ← pe_drv t2, ← pe_rR (B := B) a3 h5]
    unfold rn_gf
    simp only [e, e2]
  · next o hf =>
    cases hg
    obtain ⟨x, r, rfl, t1, h1⟩ := pe_kgc_i hs
    obtain ⟨a1, a2, a3, -⟩ := pe_q_of hn t1
    refine ⟨_, ?_, h1⟩
    obtain ⟨fs, e1, e2⟩ := pe_fo cl k o hf (x / 8) (rn_ln_ (x / 8)) (rI (pe_TT c B) (x / 8)) (rA (pe_TT c B) (x / 8)) (rL (pe_TT c B) (x / 8)) (rR (pe_TT c B) (x / 8)) (rP (pe_TT c B) (x / 8))
    have e : h (x / 8) = .inr (cl, fs) := by rw [pe_en hH a2, a3]; exact e1
    rw [List.map_cons, List.map_cons, pe_dv3 a1]
    show _ = some (pe_dv σ (x + 8 * o) :: _)
    rw [pe_dv3 (by omega), show (x + 8 * o) / 8 = x / 8 + o by omega]
    unfold rn_gf
    simp only [e, Nat.beq_refl, e2]
set_option maxHeartbeats 4000000 in
theorem pe_p_ok {i : Instr} {ax : List Nat} {g : pe_K} (hn : pe_nn n) (hL : pe_RL σ L lv) (hH : pe_HR n c B h0 h) (hg : pe_p n i ax = some g) (hs : g L st c N J = some res) : ∃ st2, rn_p X i ax lv (st.map (pe_dv σ)) h = some (st2.map (pe_dv σ)) ∧ N L st2 c = some res := by
  cases i
  all_goals (try (exact absurd (show (none : Option pe_K) = some g from hg) (fun q => by cases q)))
  case iconst z =>
    simp only [pe_p] at hg
    split at hg
    · cases hg; exact ⟨_, by rw [List.map_cons, pe_dv_eI]; rfl, pe_kc_i hs⟩
    · cases hg
  case bipush z =>
    simp only [pe_p] at hg
    split at hg
    · cases hg; exact ⟨_, by rw [List.map_cons, pe_dv_eI]; rfl, pe_kc_i hs⟩
    · cases hg
  case sipush z =>
    simp only [pe_p] at hg
    split at hg
    · cases hg; exact ⟨_, by rw [List.map_cons, pe_dv_eI]; rfl, pe_kc_i hs⟩
    · cases hg
  case lconst z =>
    simp only [pe_p] at hg
    split at hg
    · cases hg; exact ⟨_, by rw [List.map_cons, pe_dv_eJ]; rfl, pe_kc_i hs⟩
    · cases hg
  case ldc2_w z =>
    simp only [pe_p] at hg
    split at hg
    · cases hg; exact ⟨_, by rw [List.map_cons, pe_dv_eJ]; rfl, pe_kc_i hs⟩
    · cases hg
  case aconst_null =>
    cases hg; exact ⟨_, rfl, pe_kc_i hs⟩
  case iload j => cases hg; obtain ⟨t, h1⟩ := pe_kl_i hs; exact ⟨_, pe_li_ok hL t, h1⟩
  case iload_n j => cases hg; obtain ⟨t, h1⟩ := pe_kl_i hs; exact ⟨_, pe_li_ok hL t, h1⟩
  case lload j => cases hg; obtain ⟨t, h1⟩ := pe_kl_i hs; exact ⟨_, pe_lj_ok hL t, h1⟩
  case lload_n j => cases hg; obtain ⟨t, h1⟩ := pe_kl_i hs; exact ⟨_, pe_lj_ok hL t, h1⟩
  case aload j => cases hg; obtain ⟨t, h1⟩ := pe_ka_i hs; exact ⟨_, pe_la_ok hL t, h1⟩
  case aload_n j => cases hg; obtain ⟨t, h1⟩ := pe_ka_i hs; exact ⟨_, pe_la_ok hL t, h1⟩
  case iadd => cases hg; exact pe_k2r (fun x y hx hy => pe_iadd hx hy) hs
  case isub => cases hg; exact pe_k2r (fun x y hx hy => pe_isub hx hy) hs
  case imul => cases hg; exact pe_k2r (fun x y hx hy => pe_dv_eI) hs
  case iand => cases hg; exact pe_k2r (fun x y hx hy => pe_dv_eI) hs
  case ior => cases hg; exact pe_k2r (fun x y hx hy => pe_dv_eI) hs
  case ishr => cases hg; exact pe_k2r (fun x y hx hy => pe_dv_eI) hs
  case idiv =>
    cases hg
    obtain ⟨y, x, r, rfl, t, t2, h1⟩ := pe_kd_i hs
    obtain ⟨hx, hy⟩ := pe_ii_of t
    have hz : ¬ pe_dI y = 0 := pe_nF (pe_beq_of hy pe_ok1) t2
    refine ⟨_, ?_, h1⟩
    rw [List.map_cons, List.map_cons, List.map_cons, pe_dv1 hx.1, pe_dv1 hy.1, pe_dv_eI]
    exact if_neg hz
  case lor => cases hg; exact pe_kj2r (fun x y => pe_dv_eJ) hs
  case ineg =>
    cases hg
    obtain ⟨x, r, rfl, t, h1⟩ := pe_k1_i hs
    exact ⟨_, by rw [List.map_cons, List.map_cons, pe_dv1 (pe_i_of t).1, pe_dv_eI]; rfl, h1⟩
  case lshl =>
    cases hg
    obtain ⟨y, x, r, rfl, t, t2, h1⟩ := pe_kji_i hs
    exact ⟨_, by rw [List.map_cons, List.map_cons, List.map_cons, pe_dv2 (pe_j_of t).1, pe_dv1 (pe_i_of t2).1, pe_dv_eJ]; rfl, h1⟩
  case lshr =>
    cases hg
    obtain ⟨y, x, r, rfl, t, t2, h1⟩ := pe_kji_i hs
    exact ⟨_, by rw [List.map_cons, List.map_cons, List.map_cons, pe_dv2 (pe_j_of t).1, pe_dv1 (pe_i_of t2).1, pe_dv_eJ]; rfl, h1⟩
  case i2l =>
    cases hg
    obtain ⟨x, r, rfl, t, h1⟩ := pe_k1_i hs
    exact ⟨_, by rw [List.map_cons, List.map_cons, pe_dv1 (pe_i_of t).1, pe_dv_eJ]; rfl, h1⟩
  case l2i =>
    cases hg
    obtain ⟨x, r, rfl, t, h1⟩ := pe_kj1_i hs
    exact ⟨_, by rw [List.map_cons, List.map_cons, pe_dv2 (pe_j_of t).1, pe_dv_eI]; rfl, h1⟩
  case lcmp =>
    cases hg
    obtain ⟨y, x, r, rfl, t, t2, h1⟩ := pe_kj2_i hs
    exact ⟨_, by rw [List.map_cons, List.map_cons, List.map_cons, pe_dv2 (pe_j_of t).1, pe_dv2 (pe_j_of t2).1, pe_dv_eI]; rfl, h1⟩
  case dup =>
    cases hg
    obtain ⟨x, r, rfl, h1⟩ := pe_kdup_i hs
    rcases h1 with ⟨t, h1⟩ | ⟨-, t, h1⟩
    · exact ⟨_, by rw [List.map_cons, List.map_cons, List.map_cons, pe_dv1 (pe_beq t)]; rfl, h1⟩
    · exact ⟨_, by rw [List.map_cons, List.map_cons, List.map_cons, pe_dv3 (pe_beq t)]; rfl, h1⟩
  case dup2 =>
    cases hg
    obtain ⟨x, q, r, rfl, t, t2, h1⟩ := pe_kdup2_i hs
    exact ⟨_, by rw [List.map_cons, List.map_cons, List.map_cons, List.map_cons, List.map_cons, List.map_cons, pe_dv1 (pe_beq t), pe_dv3 (pe_beq t2)]; rfl, h1⟩
  case pop =>
    cases hg
    obtain ⟨x, r, rfl, t, h1⟩ := pe_kpop_i hs
    exact ⟨_, by rw [List.map_cons, pe_dv1 (pe_beq t)]; rfl, h1⟩
  case getfield z =>
    simp only [pe_p] at hg
    split at hg
    · exact pe_gf_ok hn hH hg hs
    · cases hg
  case iaload =>
    simp only [pe_p] at hg
    split at hg
    · cases hg
      obtain ⟨i, x, r, rfl, t1, t2, t3, t4, h1⟩ := pe_kal_i hs
      exact ⟨_, pe_al10 hn hH t1 t2 t3 t4, h1⟩
    · cases hg
  case baload =>
    cases hg
    obtain ⟨i, x, r, rfl, t1, t2, t3, t4, h1⟩ := pe_kal_i hs
    exact ⟨_, pe_al12 hn hH t1 t2 t3 t4, h1⟩
  case laload =>
    cases hg
    obtain ⟨i, x, r, rfl, t1, t2, t3, t4, h1⟩ := pe_kal_i hs
    exact ⟨_, pe_al11 hn hH t1 t2 t3 t4, h1⟩
  case aaload =>
    simp only [pe_p] at hg
    split at hg
    · split at hg
      · cases hg
        obtain ⟨i, x, r, rfl, t1, t2, t3, h1⟩ := pe_kac_i hs
        exact ⟨_, pe_acr hn hH (by decide) (fun _ _ _ _ _ _ _ => rfl) t1 t2 t3, h1⟩
      · cases hg
        obtain ⟨i, x, r, rfl, t1, t2, t3, h1⟩ := pe_kac_i hs
        exact ⟨_, pe_acr hn hH (by decide) (fun _ _ _ _ _ _ _ => rfl) t1 t2 t3, h1⟩
      · cases hg
        obtain ⟨i, x, r, rfl, h1⟩ := pe_kor_i hs
        rcases h1 with ⟨-, h1⟩ | ⟨-, h1⟩
        · obtain ⟨i2, x2, r2, e, t1, t2, t3, t4, h1⟩ := pe_kar_i h1
          cases e
          exact ⟨_, pe_al14 hn hH t1 t2 t3 t4, h1⟩
        · obtain ⟨i2, x2, r2, e, t1, t2, t3, h1⟩ := pe_kac_i h1
          cases e
          exact ⟨_, pe_acr hn hH (by decide) (fun _ _ _ _ _ _ _ => rfl) t1 t2 t3, h1⟩
      · cases hg
    · cases hg
  case invokestatic z =>
    simp only [pe_p] at hg
    split at hg
    · cases hg
      obtain ⟨y, x, r, rfl, h1⟩ := pe_kmax_i hs
      rcases h1 with ⟨t, t2, t3, h1⟩ | ⟨t, t2, t3, h1⟩
      · obtain ⟨hx, hy⟩ := pe_ii_of t
        refine ⟨_, ?_, h1⟩
        rw [List.map_cons, List.map_cons, List.map_cons, pe_dv1 hx.1, pe_dv1 hy.1]
        have := Nat.le_trans (pe_csum_le (σ := σ) (st := r)) (Nat.le_of_ble_eq_true t2)
        refine (if_pos this).trans ?_
        rw [if_pos ((pe_lti_of hx hy).mp t3)]
      · obtain ⟨hx, hy⟩ := pe_ii_of t
        refine ⟨_, ?_, h1⟩
        rw [List.map_cons, List.map_cons, pe_dv1 hx.1, pe_dv1 hy.1]
        have := Nat.le_trans (pe_csum_le (σ := σ) (st := r)) (Nat.le_of_ble_eq_true t2)
        refine (if_pos this).trans ?_
        rw [if_neg (pe_nF (pe_lti_of hx hy) t3)]
    · cases hg
end ST
