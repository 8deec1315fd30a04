/-! what is known of counts though they are not known -/
/-- the count of each text is small -/
def pe_cn (S : rn_T) : Prop := ∀ s, s < 8 → ∃ v, v < 9 ∧ rI S (5 + 2 * s) 1 = nI v
def pe_cb1 (z : Bool) (v : Nat) : Bool := (z && Nat.beq v 0) || (Nat.beq (Nat.mod v 8) 1 && Nat.ble v 65)
/-- the counts are small, or not known and untouched -/
def pe_cnb (z : Bool) (c : Nat) : Bool := (List.range 8).all (fun s => pe_cb1 z (pe_cl c (5 + 2 * s) 1))
theorem pe_fct : ∀ s, s < 8 → pe_fc (rn_kd (5 + 2 * s)) 1 = 1 := by decide +kernel
theorem pe_cb_of {v : Nat} {z : Bool} (h : pe_cb1 z v = true) : (z = true ∧ v = 0) ∨ (v % 8 = 1 ∧ v / 8 < 9) := by
  unfold pe_cb1 at h
  rw [Bool.or_eq_true, Bool.and_eq_true, Bool.and_eq_true] at h
  rcases h with ⟨h1, h2⟩ | ⟨h1, h2⟩
  · exact Or.inl ⟨h1, pe_beq h2⟩
  · have h1 : v % 8 = 1 := pe_beq h1
    have h2 := Nat.le_of_ble_eq_true h2
    exact Or.inr ⟨h1, by omega⟩
theorem pe_rI_TT {c q k : Nat} {S : rn_T} (hf : pe_fc (rn_kd q) k = 1) : rI (pe_TT c S) q k = if pe_cl c q k ≠ 0 then pe_dI (pe_cl c q k) else rI S q k := by
  show (if pe_fc (rn_kd q) k = 1 ∧ pe_cl c q k ≠ 0 then pe_dI (pe_cl c q k) else S.1 q k) = _
  by_cases h : pe_cl c q k ≠ 0
  · rw [if_pos h, if_pos ⟨hf, h⟩]
  · rw [if_neg h, if_neg (fun g => h g.2)]; rfl
theorem pe_cn_of {z : Bool} {c : Nat} {S : rn_T} (h : pe_cnb z c = true) (hS : z = true → pe_cn S) : pe_cn (pe_TT c S) := by
  intro s hs
  have h1 : pe_cb1 z (pe_cl c (5 + 2 * s) 1) = true := List.all_eq_true.mp h s (List.mem_range.mpr hs)
  rw [pe_rI_TT (pe_fct s hs)]
  rcases pe_cb_of h1 with ⟨g1, g2⟩ | ⟨g1, g2⟩
  · rw [if_neg (fun g => g g2)]; exact hS g1 s hs
  · rw [if_pos (by omega)]; exact ⟨_, g2, rfl⟩
/-- how many numbers are listed: at most two -/
def pe_ls2 (S : rn_T) : Prop := ∃ v, v < 3 ∧ rI S 1 3 = nI v
def pe_lsb (z : Bool) (c : Nat) : Bool := (z && Nat.beq (pe_cl c 1 3) 0) || (Nat.beq (Nat.mod (pe_cl c 1 3) 8) 1 && Nat.ble (pe_cl c 1 3) 17)
theorem pe_ls_of {z : Bool} {c : Nat} {S : rn_T} (h : pe_lsb z c = true) (hS : z = true → pe_ls2 S) : pe_ls2 (pe_TT c S) := by
  unfold pe_lsb at h
  rw [Bool.or_eq_true, Bool.and_eq_true, Bool.and_eq_true] at h
  unfold pe_ls2
  rw [pe_rI_TT (by decide +kernel)]
  rcases h with ⟨h1, h2⟩ | ⟨h1, h2⟩
  · rw [if_neg (fun g => g (pe_beq h2))]; exact hS h1
  · have h1 : pe_cl c 1 3 % 8 = 1 := pe_beq h1
    have h2 := Nat.le_of_ble_eq_true h2
    rw [if_pos (show pe_cl c 1 3 ≠ 0 by omega)]; exact ⟨pe_cl c 1 3 / 8, by omega, rfl⟩
theorem pe_bln : ∀ s, s < 8 → 1 < pe_bl (5 + 2 * s) := by decide +kernel
/-- the count of a text, taken as known -/
theorem pe_cn_ag {d s : Nat} {S : rn_T} (hs : s < 8) (h : pe_ag d S) (hc : pe_cn S) : ∃ v, v < 9 ∧ pe_ag (pe_cs d (pe_bs (5 + 2 * s) + 1) (8 * v + 1)) S := by
  obtain ⟨v, hv, e⟩ := hc s hs
  exact ⟨v, hv, pe_ag_I h (by omega) (pe_bln s hs) (by omega) (pe_fct s hs) (by rw [e, pe_dI_eq, show (8 * v + 1) / 8 = v by omega]; rfl)⟩
theorem pe_ls_ag {d : Nat} {S : rn_T} (h : pe_ag d S) (hc : pe_ls2 S) : ∃ v, v < 3 ∧ pe_ag (pe_cs d (pe_bs 1 + 3) (8 * v + 1)) S := by
  obtain ⟨v, hv, e⟩ := hc
  exact ⟨v, hv, pe_ag_I h (by omega) (by decide +kernel) (by omega) (by decide +kernel) (by rw [e, pe_dI_eq, show (8 * v + 1) / 8 = v by omega]; rfl)⟩
/-- bytes: each is small -/
def pe_mm (S : rn_T) : Prop := ∀ k, k < 96 → ∃ v, v < 8 ∧ rA S 4 k = nI v
def pe_mb1 (v : Nat) : Bool := Nat.beq v 0 || (Nat.beq (Nat.mod v 8) 1 && Nat.ble v 57)
def pe_mmb (c : Nat) : Bool := (List.range 96).all (fun k => pe_mb1 (pe_cl c 4 k))
theorem pe_rA_TT {c k : Nat} {S : rn_T} : rA (pe_TT c S) 4 k = if pe_cl c 4 k ≠ 0 then pe_dI (pe_cl c 4 k) else rA S 4 k := by
  show (if (rn_kd 4 = 10 ∨ rn_kd 4 = 12) ∧ pe_cl c 4 k ≠ 0 then pe_dI (pe_cl c 4 k) else S.2.1 4 k) = _
  by_cases h : pe_cl c 4 k ≠ 0
  · rw [if_pos h, if_pos ⟨Or.inl rfl, h⟩]
  · rw [if_neg h, if_neg (fun g => h g.2)]; rfl
theorem pe_mm_of {c : Nat} {S : rn_T} (h : pe_mmb c = true) (hS : pe_mm S) : pe_mm (pe_TT c S) := by
  intro k hk
  have h1 : pe_mb1 (pe_cl c 4 k) = true := List.all_eq_true.mp h k (List.mem_range.mpr hk)
  unfold pe_mb1 at h1
  rw [Bool.or_eq_true, Bool.and_eq_true] at h1
  rw [pe_rA_TT]
  rcases h1 with h1 | ⟨h1, h2⟩
  · rw [if_neg (fun g => g (pe_beq h1))]; exact hS k hk
  · have h1 : pe_cl c 4 k % 8 = 1 := pe_beq h1
    have h2 := Nat.le_of_ble_eq_true h2
    rw [if_pos (show pe_cl c 4 k ≠ 0 by omega)]; exact ⟨pe_cl c 4 k / 8, by omega, rfl⟩
theorem pe_bl4 : pe_bl 4 = 96 := by decide +kernel
theorem pe_mA_ag {d k v : Nat} {S : rn_T} (hk : k < 96) (hv : v < 8) (h : pe_ag d S) (e : rA S 4 k = nI v) : pe_ag (pe_cs d (pe_bs 4 + k) (8 * v + 1)) S :=
  pe_ag_A h (by omega) (by rw [pe_bl4]; exact hk) (by omega) rfl (by rw [e, pe_dI_eq, show (8 * v + 1) / 8 = v by omega]; rfl)
/-- a segment that keeps what is known of counts; that tells all of them -/
theorem pe_segC {z : Bool} {X : rn_X} {n N sl K L d d2 K2 D m : Nat} {w : pe_W} {stops st st2 : List Nat} {L2 : List (Nat × Nat)} {S : rn_T} (hn : pe_nn n) (hw : ∀ (B : rn_T) (h0 : rn_H), pe_Wok σ0 n B h0 X N sl w) (h : pe_tm n w stops D m K L st d K2 L2 st2 (fun c => pe_cd d2 c && pe_cnb z c) = true) (hK : K2 < 1251) (hag : pe_ag d S) (hc : z = true → pe_cn S) (hE : ∀ S2, pe_ag d2 S2 → pe_cn S2 → pe_En X n N sl K2 (pe_lp L2) st2 S2) : pe_En X n N sl K L st S := by
  obtain ⟨c, h1, h2⟩ := pe_segm hn hw h hK hag
  rw [Bool.and_eq_true] at h1
  exact h2 (hE _ (pe_cd_ag h1.1) (pe_cn_of h1.2 hc))
/-- behind the small variant -/
def dl1 : List (Nat × Nat × Nat) := [(1, 3, 9), (1, 4, 1), (76, 15, 1), (5, 1, 49), (7, 1, 1), (9, 1, 1), (11, 1, 1), (13, 1, 1), (15, 1, 1), (17, 1, 1), (19, 1, 1)]
def dl3 : List (Nat × Nat × Nat) := [(1, 3, 1), (1, 4, 1), (76, 15, 1), (5, 1, 9), (6, 0, 417)]
def ll3 : List (Nat × Nat) := [(8, 9), (7, 33), (6, 1), (1, 3), (0, 8000003)]
def dl4 : List (Nat × Nat × Nat) := [(1, 3, 1), (1, 4, 1), (76, 15, 1)]
def ll4 : List (Nat × Nat) := [(8, 33), (1, 3), (0, 8000003)]
