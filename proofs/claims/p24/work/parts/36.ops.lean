/-! each step of the machine on numbers is one of the abstract machine -/
def pe_RL (σ : Nat → Value) (L : Nat) (lv : rn_L) : Prop := ∀ j, pe_lg L j ≠ 0 → rn_lk j lv = some (pe_dv σ (pe_lg L j))
theorem pe_ob {q i : Nat} (hq : q < 320) (hk : rn_kd q = 10 ∨ rn_kd q = 11 ∨ rn_kd q = 12 ∨ rn_kd q = 14) (hi : i % 8 = 1) (hb : i / 8 < pe_bl q) : ¬ (pe_dI i < 0 ∨ rn_ln_ q ≤ (pe_dI i).toNatClampNeg) ∧ (pe_dI i).toNatClampNeg = i / 8 := by
  have h1 := pe_bl_ln q hq hk
  have h2 : rn_ln_ q < 1000 := (by decide +kernel : ∀ q, q < 320 → rn_ln_ q < 1000) q hq
  have h3 : i / 8 < 2 ^ 31 := by omega
  have h4 : (pe_dI i).toNatClampNeg = i / 8 := nI_clamp h3
  refine ⟨fun g => ?_, h4⟩
  rcases g with g | g
  · exact nI_pos h3 g
  · omega
theorem pe_en {n c q : Nat} {B : rn_T} {h0 h : rn_H} (hH : pe_HR n c B h0 h) (hq : q < n) : h q = rn_e0 (rn_kd q) q (rn_ln_ q) (rI (pe_TT c B) q) (rA (pe_TT c B) q) (rL (pe_TT c B) q) (rR (pe_TT c B) q) (rP (pe_TT c B) q) := hH.1 q hq
theorem pe_tA {n kd x : Nat} (hn : pe_nn n) (h : pe_q n kd x = true) : x / 8 < 320 := by
  have := (pe_q_of hn h).2.1
  rcases hn with rfl | rfl <;> omega
section OPS
variable {σ : Nat → Value} {X : rn_X} {n c : Nat} {B : rn_T} {h0 h : rn_H} {L : Nat} {lv : rn_L} {st : List Nat} {N : pe_N} {J : pe_J} {res : pe_R}
theorem pe_al10 {i x : Nat} {r : List Nat} (hn : pe_nn n) (hH : pe_HR n c B h0 h) (h1 : pe_q n 10 x = true) (h2 : Nat.beq (Nat.mod i 8) 1 = true) (h3 : Nat.ble (Nat.succ (Nat.div i 8)) (pe_bl (Nat.div x 8)) = true) (h4 : Nat.beq (Nat.mod (pe_cg c (Nat.add (pe_bs (Nat.div x 8)) (Nat.div i 8))) 8) 1 = true) : rn_ai 0 h ((i :: x :: r).map (pe_dv σ)) = some ((pe_cg c (Nat.add (pe_bs (Nat.div x 8)) (Nat.div i 8)) :: r).map (pe_dv σ)) := by
  obtain ⟨a1, a2, a3, -⟩ := pe_q_of hn h1
  have b2 : i % 8 = 1 := pe_beq h2
  have b3 : i / 8 < pe_bl (x / 8) := Nat.le_of_ble_eq_true h3
  have hc := pe_cl_in (c := c) b3
  have b4 : pe_cl c (x / 8) (i / 8) % 8 = 1 := by rw [← hc]; exact pe_beq h4
  obtain ⟨g1, g2⟩ := pe_ob (pe_tA hn h1) (Or.inl a3) b2 b3
  have e : h (x / 8) = .inl (0, rn_ln_ (x / 8), .inl (rA (pe_TT c B) (x / 8))) := by rw [pe_en hH a2, a3]; rfl
  rw [List.map_cons, List.map_cons, List.map_cons, pe_dv1 b2, pe_dv3 a1]
  show _ = some (pe_dv σ (pe_cg c (Nat.add (pe_bs (x / 8)) (i / 8))) :: _)
  rw [hc, pe_dv1 b4, ← pe_rA (B := B) (Or.inl a3) b4]
  unfold rn_ai
  simp only [e]
  rw [if_neg g1, g2]
theorem pe_al12 {i x : Nat} {r : List Nat} (hn : pe_nn n) (hH : pe_HR n c B h0 h) (h1 : pe_q n 12 x = true) (h2 : Nat.beq (Nat.mod i 8) 1 = true) (h3 : Nat.ble (Nat.succ (Nat.div i 8)) (pe_bl (Nat.div x 8)) = true) (h4 : Nat.beq (Nat.mod (pe_cg c (Nat.add (pe_bs (Nat.div x 8)) (Nat.div i 8))) 8) 1 = true) : rn_ai 2 h ((i :: x :: r).map (pe_dv σ)) = some ((pe_cg c (Nat.add (pe_bs (Nat.div x 8)) (Nat.div i 8)) :: r).map (pe_dv σ)) := by
  obtain ⟨a1, a2, a3, -⟩ := pe_q_of hn h1
  have b2 : i % 8 = 1 := pe_beq h2
  have b3 : i / 8 < pe_bl (x / 8) := Nat.le_of_ble_eq_true h3
  have hc := pe_cl_in (c := c) b3
  have b4 : pe_cl c (x / 8) (i / 8) % 8 = 1 := by rw [← hc]; exact pe_beq h4
  obtain ⟨g1, g2⟩ := pe_ob (pe_tA hn h1) (Or.inr (Or.inr (Or.inl a3))) b2 b3
  have e : h (x / 8) = .inl (2, rn_ln_ (x / 8), .inl (rA (pe_TT c B) (x / 8))) := by rw [pe_en hH a2, a3]; rfl
  rw [List.map_cons, List.map_cons, List.map_cons, pe_dv1 b2, pe_dv3 a1]
  show _ = some (pe_dv σ (pe_cg c (Nat.add (pe_bs (x / 8)) (i / 8))) :: _)
  rw [hc, pe_dv1 b4, ← pe_rA (B := B) (Or.inr a3) b4]
  unfold rn_ai
  simp only [e]
  rw [if_neg g1, g2]
theorem pe_al11 {i x : Nat} {r : List Nat} (hn : pe_nn n) (hH : pe_HR n c B h0 h) (h1 : pe_q n 11 x = true) (h2 : Nat.beq (Nat.mod i 8) 1 = true) (h3 : Nat.ble (Nat.succ (Nat.div i 8)) (pe_bl (Nat.div x 8)) = true) (h4 : Nat.beq (Nat.mod (pe_cg c (Nat.add (pe_bs (Nat.div x 8)) (Nat.div i 8))) 8) 2 = true) : rn_aj h ((i :: x :: r).map (pe_dv σ)) = some ((pe_cg c (Nat.add (pe_bs (Nat.div x 8)) (Nat.div i 8)) :: r).map (pe_dv σ)) := by
  obtain ⟨a1, a2, a3, -⟩ := pe_q_of hn h1
  have b2 : i % 8 = 1 := pe_beq h2
  have b3 : i / 8 < pe_bl (x / 8) := Nat.le_of_ble_eq_true h3
  have hc := pe_cl_in (c := c) b3
  have b4 : pe_cl c (x / 8) (i / 8) % 8 = 2 := by rw [← hc]; exact pe_beq h4
  obtain ⟨g1, g2⟩ := pe_ob (pe_tA hn h1) (Or.inr (Or.inl a3)) b2 b3
  have e : h (x / 8) = .inl (1, rn_ln_ (x / 8), .inr (.inl (rL (pe_TT c B) (x / 8)))) := by rw [pe_en hH a2, a3]; rfl
  rw [List.map_cons, List.map_cons, List.map_cons, pe_dv1 b2, pe_dv3 a1]
  show _ = some (pe_dv σ (pe_cg c (Nat.add (pe_bs (x / 8)) (i / 8))) :: _)
  rw [hc, pe_dv2 b4, ← pe_rL (B := B) a3 b4]
  unfold rn_aj
  simp only [e]
  rw [if_neg g1, g2]
theorem pe_al14 {i x : Nat} {r : List Nat} (hn : pe_nn n) (hH : pe_HR n c B h0 h) (h1 : pe_q n 14 x = true) (h2 : Nat.beq (Nat.mod i 8) 1 = true) (h3 : Nat.ble (Nat.succ (Nat.div i 8)) (pe_bl (Nat.div x 8)) = true) (h4 : pe_a (pe_cg c (Nat.add (pe_bs (Nat.div x 8)) (Nat.div i 8))) = true) : rn_aa 4 h ((i :: x :: r).map (pe_dv σ)) = some ((pe_cg c (Nat.add (pe_bs (Nat.div x 8)) (Nat.div i 8)) :: r).map (pe_dv σ)) := by
  obtain ⟨a1, a2, a3, -⟩ := pe_q_of hn h1
  have b2 : i % 8 = 1 := pe_beq h2
  have b3 : i / 8 < pe_bl (x / 8) := Nat.le_of_ble_eq_true h3
  have hc := pe_cl_in (c := c) b3
  have h4 : pe_a (pe_cl c (x / 8) (i / 8)) = true := by rw [← hc]; exact h4
  have h5 : pe_cl c (x / 8) (i / 8) ≠ 0 := by rcases pe_a_of h4 with g | g <;> omega
  obtain ⟨g1, g2⟩ := pe_ob (pe_tA hn h1) (Or.inr (Or.inr (Or.inr a3))) b2 b3
  have e : h (x / 8) = .inl (4, rn_ln_ (x / 8), .inr (.inr (.inr (.inr (rP (pe_TT c B) (x / 8)))))) := by rw [pe_en hH a2, a3]; rfl
  rw [List.map_cons, List.map_cons, List.map_cons, pe_dv1 b2, pe_dv3 a1]
  show _ = some (pe_dv σ (pe_cg c (Nat.add (pe_bs (x / 8)) (i / 8))) :: _)
  rw [hc, ← pe_drv h4, ← pe_rP (B := B) a3 h5]
  unfold rn_aa
  simp only [e]
  rw [if_neg g1, g2]
theorem pe_acr {i x kd m d s t : Nat} {r : List Nat} (hn : pe_nn n) (hH : pe_HR n c B h0 h) (hm : m < 1000) (he : ∀ q l I A LL R P, rn_e0 kd q l I A LL R P = .inl (t, m, .inr (.inr (.inr (.inr (rn_cr m (q + d) s)))))) (h1 : pe_q n kd x = true) (h2 : Nat.beq (Nat.mod i 8) 1 = true) (h3 : Nat.ble (Nat.succ (Nat.div i 8)) m = true) : rn_aa t h ((i :: x :: r).map (pe_dv σ)) = some ((Nat.add (Nat.mul 8 (Nat.add (Nat.add (Nat.div x 8) d) (Nat.mul s (Nat.div i 8)))) 3 :: r).map (pe_dv σ)) := by
  obtain ⟨a1, a2, a3, -⟩ := pe_q_of hn h1
  have b2 : i % 8 = 1 := pe_beq h2
  have b3 : i / 8 < m := Nat.le_of_ble_eq_true h3
  have h3 : i / 8 < 2 ^ 31 := by omega
  have h4 : (pe_dI i).toNatClampNeg = i / 8 := nI_clamp h3
  have e : h (x / 8) = .inl (t, m, .inr (.inr (.inr (.inr (rn_cr m (x / 8 + d) s))))) := by rw [pe_en hH a2, a3]; exact he _ _ _ _ _ _ _
  have g1 : ¬ (pe_dI i < 0 ∨ m ≤ (pe_dI i).toNatClampNeg) := fun g => by
    rcases g with g | g
    · exact nI_pos h3 g
    · omega
  rw [List.map_cons, List.map_cons, List.map_cons, pe_dv1 b2, pe_dv3 a1]
  show _ = some (pe_dv σ (8 * (x / 8 + d + s * (i / 8)) + 3) :: _)
  rw [pe_dv3 (by omega), show (8 * (x / 8 + d + s * (i / 8)) + 3) / 8 = x / 8 + d + s * (i / 8) by omega]
  unfold rn_aa
  simp only [e]
  rw [show Nat.beq t t = true from Nat.beq_refl t]
  simp only
  rw [if_neg g1, h4, rn_cr_at b3]
  rfl
theorem pe_csum_ok : ∀ st : List Nat, (∀ v ∈ st, (pe_dv σ v).category ≤ pe_ct v) → rn_cs (st.map (pe_dv σ)) ≤ pe_csum st
  | [], _ => Nat.le_refl _
  | v :: r, hv => by
    have h1 := pe_csum_ok r (fun w hw => hv w (List.mem_cons_of_mem _ hw))
    have h2 := hv v List.mem_cons_self
    unfold rn_cs at h1 ⊢
    rw [List.map_cons, List.map_cons, List.sum_cons]
    show _ ≤ pe_ct v + pe_csum r
    omega
end OPS
