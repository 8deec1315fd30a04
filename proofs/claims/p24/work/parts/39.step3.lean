/-! writes -/
theorem pe_HR_up {n c c2 q : Nat} {B : rn_T} {h0 h : rn_H} {e : rn_E} (hH : pe_HR n c B h0 h) (hq : q < n) (he : rn_en (pe_TT c2 B) q = e) (ho : ∀ j, j ≠ q → rn_en (pe_TT c2 B) j = rn_en (pe_TT c B) j) : pe_HR n c2 B h0 (rn_up h q e) := by
  refine ⟨fun j hj => ?_, fun j hj => ?_⟩
  · by_cases g : j = q
    · subst g; rw [rn_up_s, he]
    · rw [rn_up_n g, ho j g]; exact hH.1 j hj
  · rw [rn_up_n (by omega)]; exact hH.2 j hj
theorem pe_01_v {x : Nat} (h : pe_01 x = true) : x % 8 = 1 ∧ x ≠ 0 ∧ (pe_dI x = 0 ∨ pe_dI x = 1) := by
  rcases pe_01_of h with rfl | rfl
  · exact ⟨rfl, by decide, Or.inl rfl⟩
  · exact ⟨rfl, by decide, Or.inr rfl⟩
section ST3
variable {σ : Nat → Value} {n c : Nat} {B : rn_T} {h0 h : rn_H} {L : Nat} {st : List Nat} {N : pe_N} {J : pe_J} {res : pe_R}
theorem pe_v36 {v : Nat} (h : Nat.beq (Nat.div v 68719476736) 0 = true) : v < 68719476736 := by
  have h2 : v / 68719476736 = 0 := pe_beq h
  omega
/-- a write into a field -/
def pe_wok (σ : Nat → Value) (n : Nat) (B : rn_T) (h0 : rn_H) (L : Nat) (N : pe_N) (res : pe_R) (o : Option (List Value × rn_H)) : Prop := ∃ (st2 : List Nat) (c2 : Nat) (h2 : rn_H), o = some (st2.map (pe_dv σ), h2) ∧ pe_HR n c2 B h0 h2 ∧ N L st2 c2 = some res
theorem pe_pfI {cl k ty w z : Nat} {ok : Nat → Bool} (hn : pe_nn n) (hH : pe_HR n c B h0 h) (hf : pe_fc cl k = 1) (hok : ∀ v, ok v = true → v % 8 = 1 ∧ v ≠ 0 ∧ rn_ty ty (.int (pe_dI v)) = true) (hs : pe_kpf n cl k ok L st c N J = some res) : pe_wok σ n B h0 L N res (rn_w (.putfield z) [cl, k, ty, w] (st.map (pe_dv σ)) h) := by
  obtain ⟨v, x, r, rfl, t1, t2, t3, h1⟩ := pe_kpf_i hs
  obtain ⟨a1, a2, a3, -⟩ := pe_q_of hn t2
  obtain ⟨v1, v0, vt⟩ := hok v t1
  have hb := pe_ob_bl hn t2 (by rw [hf]; decide)
  have hT := pe_wI (B := B) (c := c) (pe_tA hn t2) hb (pe_v36 t3) v0 (by rw [a3]; exact hf)
  obtain ⟨fs, e1, -, e3, e4⟩ := pe_fi cl k hf (x / 8) (rn_ln_ (x / 8)) (rI (pe_TT c B) (x / 8)) (rA (pe_TT c B) (x / 8)) (rL (pe_TT c B) (x / 8)) (rR (pe_TT c B) (x / 8)) (rP (pe_TT c B) (x / 8))
  have e : h (x / 8) = .inr (cl, fs) := by rw [pe_en hH a2, a3]; exact e1
  refine ⟨r, _, rn_up h (x / 8) (.inr (cl, fs.set k (.int (pe_dI v)))), ?_, ?_, h1⟩
  · rw [List.map_cons, List.map_cons, pe_dv1 v1, pe_dv3 a1]
    unfold rn_w
    simp only [e, Nat.beq_refl, vt, e3]
  · show pe_HR n (pe_cs c (pe_bs (x / 8) + k) v) B h0 _
    refine pe_HR_up hH a2 ?_ (fun j hj => ?_)
    · rw [hT, rn_en_sI, a3]; exact e4 _
    · rw [hT, rn_en_wI hj]
theorem pe_pfR {cl k w z : Nat} (hn : pe_nn n) (hH : pe_HR n c B h0 h) (hf : pe_fc cl k = 2) (hs : pe_kpf n cl k pe_a L st c N J = some res) : pe_wok σ n B h0 L N res (rn_w (.putfield z) [cl, k, 2, w] (st.map (pe_dv σ)) h) := by
  obtain ⟨v, x, r, rfl, t1, t2, t3, h1⟩ := pe_kpf_i hs
  obtain ⟨a1, a2, a3, -⟩ := pe_q_of hn t2
  have hb := pe_ob_bl hn t2 (by rw [hf]; decide)
  obtain ⟨rfl, rfl, fs, e1, -, e3, e4⟩ := pe_fr2 cl k hf (x / 8) (rn_ln_ (x / 8)) (rI (pe_TT c B) (x / 8)) (rA (pe_TT c B) (x / 8)) (rL (pe_TT c B) (x / 8)) (rR (pe_TT c B) (x / 8)) (rP (pe_TT c B) (x / 8))
  have v0 : v ≠ 0 := by rcases pe_a_of t1 with g | g <;> omega
  have hT := pe_wR (B := B) (c := c) (pe_tA hn t2) hb (pe_v36 t3) v0 a3 rfl
  have e : h (x / 8) = .inr (3, fs) := by rw [pe_en hH a2, a3]; exact e1
  have vt : rn_ty 2 (pe_dv σ v) = true := by
    rcases pe_a_of t1 with g | g
    · rw [pe_dv3 g]; rfl
    · rw [pe_dv4 g]; rfl
  refine ⟨r, _, rn_up h (x / 8) (.inr (3, fs.set 2 (va_rf (pe_dr v)))), ?_, ?_, h1⟩
  · rw [List.map_cons, List.map_cons, pe_dv3 a1, pe_drv (σ := σ) t1]
    unfold rn_w
    simp only [e, vt, e3]
  · show pe_HR n (pe_cs c (pe_bs (x / 8) + 2) v) B h0 _
    refine pe_HR_up hH a2 ?_ (fun j hj => ?_)
    · rw [hT, rn_en_sR (k := 0), a3]; exact e4 _
    · rw [hT, rn_en_wR (k := 0) hj]
theorem pe_aw10 (hn : pe_nn n) (hH : pe_HR n c B h0 h) (hs : pe_kaw n 10 pe_i L st c N J = some res) : pe_wok σ n B h0 L N res (rn_w .iastore [] (st.map (pe_dv σ)) h) := by
  obtain ⟨v, i, x, r, rfl, t1, t2, t3, t4, t5, h1⟩ := pe_kaw_i hs
  obtain ⟨a1, a2, a3, -⟩ := pe_q_of hn t2
  have v1 := (pe_i_of t1).1
  have b2 : i % 8 = 1 := pe_beq t3
  have b3 : i / 8 < pe_bl (x / 8) := Nat.le_of_ble_eq_true t4
  obtain ⟨g1, g2⟩ := pe_ob (pe_tA hn t2) (Or.inl a3) b2 b3
  have hT := pe_wA (B := B) (c := c) (pe_tA hn t2) b3 (pe_v36 t5) (by omega) (Or.inl a3)
  have e : h (x / 8) = .inl (0, rn_ln_ (x / 8), .inl (rA (pe_TT c B) (x / 8))) := by rw [pe_en hH a2, a3]; rfl
  refine ⟨r, _, rn_up h (x / 8) (.inl (0, rn_ln_ (x / 8), .inl (upd (rA (pe_TT c B) (x / 8)) (i / 8) (pe_dI v)))), ?_, ?_, h1⟩
  · rw [List.map_cons, List.map_cons, List.map_cons, pe_dv1 v1, pe_dv1 b2, pe_dv3 a1]
    unfold rn_w
    simp only [e]
    rw [if_neg g1, g2]
  · show pe_HR n (pe_cs c (pe_bs (x / 8) + i / 8) v) B h0 _
    refine pe_HR_up hH a2 ?_ (fun j hj => ?_)
    · rw [hT, rn_en_sA, a3]; rfl
    · rw [hT, rn_en_wA hj]
theorem pe_aw12 (hn : pe_nn n) (hH : pe_HR n c B h0 h) (hs : pe_kaw n 12 pe_01 L st c N J = some res) : pe_wok σ n B h0 L N res (rn_w .bastore [] (st.map (pe_dv σ)) h) := by
  obtain ⟨v, i, x, r, rfl, t1, t2, t3, t4, t5, h1⟩ := pe_kaw_i hs
  obtain ⟨a1, a2, a3, -⟩ := pe_q_of hn t2
  obtain ⟨v1, v0, v01⟩ := pe_01_v t1
  have b2 : i % 8 = 1 := pe_beq t3
  have b3 : i / 8 < pe_bl (x / 8) := Nat.le_of_ble_eq_true t4
  obtain ⟨g1, g2⟩ := pe_ob (pe_tA hn t2) (Or.inr (Or.inr (Or.inl a3))) b2 b3
  have hT := pe_wA (B := B) (c := c) (pe_tA hn t2) b3 (pe_v36 t5) (by omega) (Or.inr a3)
  have e : h (x / 8) = .inl (2, rn_ln_ (x / 8), .inl (rA (pe_TT c B) (x / 8))) := by rw [pe_en hH a2, a3]; rfl
  refine ⟨r, _, rn_up h (x / 8) (.inl (2, rn_ln_ (x / 8), .inl (upd (rA (pe_TT c B) (x / 8)) (i / 8) (pe_dI v)))), ?_, ?_, h1⟩
  · rw [List.map_cons, List.map_cons, List.map_cons, pe_dv1 v1, pe_dv1 b2, pe_dv3 a1]
    unfold rn_w
    simp only [e]
    rw [if_neg g1, if_pos v01, g2]
  · show pe_HR n (pe_cs c (pe_bs (x / 8) + i / 8) v) B h0 _
    refine pe_HR_up hH a2 ?_ (fun j hj => ?_)
    · rw [hT, rn_en_sA, a3]; rfl
    · rw [hT, rn_en_wA hj]
theorem pe_aw11 (hn : pe_nn n) (hH : pe_HR n c B h0 h) (hs : pe_kaw n 11 pe_j L st c N J = some res) : pe_wok σ n B h0 L N res (rn_w .lastore [] (st.map (pe_dv σ)) h) := by
  obtain ⟨v, i, x, r, rfl, t1, t2, t3, t4, t5, h1⟩ := pe_kaw_i hs
  obtain ⟨a1, a2, a3, -⟩ := pe_q_of hn t2
  have v1 := (pe_j_of t1).1
  have b2 : i % 8 = 1 := pe_beq t3
  have b3 : i / 8 < pe_bl (x / 8) := Nat.le_of_ble_eq_true t4
  obtain ⟨g1, g2⟩ := pe_ob (pe_tA hn t2) (Or.inr (Or.inl a3)) b2 b3
  have hT := pe_wL (B := B) (c := c) (pe_tA hn t2) b3 (pe_v36 t5) (by omega) a3
  have e : h (x / 8) = .inl (1, rn_ln_ (x / 8), .inr (.inl (rL (pe_TT c B) (x / 8)))) := by rw [pe_en hH a2, a3]; rfl
  refine ⟨r, _, rn_up h (x / 8) (.inl (1, rn_ln_ (x / 8), .inr (.inl (vp_updL (rL (pe_TT c B) (x / 8)) (i / 8) (pe_dJ v))))), ?_, ?_, h1⟩
  · rw [List.map_cons, List.map_cons, List.map_cons, pe_dv2 v1, pe_dv1 b2, pe_dv3 a1]
    unfold rn_w
    simp only [e]
    rw [if_neg g1, g2]
  · show pe_HR n (pe_cs c (pe_bs (x / 8) + i / 8) v) B h0 _
    refine pe_HR_up hH a2 ?_ (fun j hj => ?_)
    · rw [hT, rn_en_sL, a3]; rfl
    · rw [hT, rn_en_wL hj]
theorem pe_aw14 (hn : pe_nn n) (hH : pe_HR n c B h0 h) (hs : pe_kaw n 14 (pe_q n 3) L st c N J = some res) : pe_wok σ n B h0 L N res (rn_w .aastore [4, 3] (st.map (pe_dv σ)) h) := by
  obtain ⟨v, i, x, r, rfl, t1, t2, t3, t4, t5, h1⟩ := pe_kaw_i hs
  obtain ⟨a1, a2, a3, -⟩ := pe_q_of hn t2
  obtain ⟨v1, v2, v3, -⟩ := pe_q_of hn t1
  have b2 : i % 8 = 1 := pe_beq t3
  have b3 : i / 8 < pe_bl (x / 8) := Nat.le_of_ble_eq_true t4
  obtain ⟨g1, g2⟩ := pe_ob (pe_tA hn t2) (Or.inr (Or.inr (Or.inr a3))) b2 b3
  have hT := pe_wP (B := B) (c := c) (pe_tA hn t2) b3 (pe_v36 t5) (by omega) a3
  have e : h (x / 8) = .inl (4, rn_ln_ (x / 8), .inr (.inr (.inr (.inr (rP (pe_TT c B) (x / 8)))))) := by rw [pe_en hH a2, a3]; rfl
  have ev : ∃ fs, h (v / 8) = .inr (3, fs) := by rw [pe_en hH v2, v3]; exact ⟨_, rfl⟩
  obtain ⟨fs, ev⟩ := ev
  refine ⟨r, _, rn_up h (x / 8) (.inl (4, rn_ln_ (x / 8), .inr (.inr (.inr (.inr (va_up (rP (pe_TT c B) (x / 8)) (i / 8) (some (v / 8)))))))), ?_, ?_, h1⟩
  · rw [List.map_cons, List.map_cons, List.map_cons, pe_dv3 v1, pe_dv1 b2, pe_dv3 a1]
    unfold rn_w
    simp only [e, ev]
    rw [if_neg g1, g2]
  · show pe_HR n (pe_cs c (pe_bs (x / 8) + i / 8) v) B h0 _
    have hd : pe_dr v = some (v / 8) := if_pos v1
    refine pe_HR_up hH a2 ?_ (fun j hj => ?_)
    · rw [hT, rn_en_sP, a3, hd]; rfl
    · rw [hT, rn_en_wP hj]
theorem pe_w_ok {i : Instr} {ax : List Nat} {g : pe_K} (hn : pe_nn n) (hH : pe_HR n c B h0 h) (hg : pe_w n i ax = some g) (hs : g L st c N J = some res) : pe_wok σ n B h0 L N res (rn_w i ax (st.map (pe_dv σ)) h) := by
  cases i
  all_goals (try (exact absurd (show (none : Option pe_K) = some g from hg) (fun q => by cases q)))
  case putfield z =>
    simp only [pe_w] at hg
    split at hg
    · split at hg
      · next hf =>
        split at hg
        · cases hg; exact pe_pfI hn hH hf (fun v hv => ⟨(pe_i_of hv).1, by have := (pe_i_of hv).1; omega, rfl⟩) hs
        · cases hg
          refine pe_pfI hn hH hf (fun v hv => ?_) hs
          obtain ⟨a, b, d⟩ := pe_01_v hv
          refine ⟨a, b, ?_⟩
          rcases d with d | d <;> rw [d] <;> decide
        · cases hg
      · next hf =>
        split at hg
        · cases hg; exact pe_pfR hn hH hf hs
        · cases hg
      · cases hg
    · cases hg
  case iastore => cases hg; exact pe_aw10 hn hH hs
  case bastore => cases hg; exact pe_aw12 hn hH hs
  case lastore => cases hg; exact pe_aw11 hn hH hs
  case aastore =>
    simp only [pe_w] at hg
    split at hg
    · cases hg; exact pe_aw14 hn hH hs
    · cases hg
end ST3
