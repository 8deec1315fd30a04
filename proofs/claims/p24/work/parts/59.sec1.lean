/-! the small variant, each byte of it -/
noncomputable def s1_p (n : Nat) : Nat := pe_pt [(76, 15, 1), (1, 4, 1), (5, 1, 49), (6, 0, 729), (6, 1, 809), (6, 2, Nat.add 385 (Nat.mul 8 n)), (6, 3, 385), (6, 4, 385), (6, 5, 745)]
/-- at the v-th byte -/
noncomputable def s1_d (n v : Nat) : Nat := pe_pt ([(4, 5, Nat.sub (Nat.add 1 (Nat.mul 8 v)) 8), (6, 0, 729), (6, 1, 809), (6, 2, Nat.add 385 (Nat.mul 8 n)), (6, 3, 385), (6, 4, 385), (6, 5, 745)] ++ dl1)
noncomputable def s1_l (n v : Nat) : List (Nat × Nat) := (4, Nat.add 1 (Nat.mul 8 v)) :: (3, Nat.add 17 (Nat.mul 8 n)) :: (2, Nat.add 1 (Nat.mul 8 n)) :: lwl
noncomputable def s1_w (n : Nat) : pe_W := pe_me 318 19 [3, 1, 34359738361] (s1_p n)
theorem s1_a : pe_tm 318 pe_w0 [13] 3 0 4 (pe_lp lwl) [] (pe_pt dl0) 8 lwl [57, 1, 8000003, 25] (pe_cd (pe_pt dl0)) = true := by decide +kernel
noncomputable def s1_b (r : Nat) : Bool := pe_tm 318 (s1_w (Nat.add 3 r)) [115] 8 64 9 (pe_lp lwl) [Nat.add 1 (Nat.mul 8 r), 25] (pe_pt dl0) 68 (s1_l (Nat.add 3 r) 64) [] (pe_cd (s1_d (Nat.add 3 r) 64))
noncomputable def s1_c (r v : Nat) : Bool := pe_tm 318 (s1_w (Nat.add 3 r)) [115] 6 63 68 (pe_lp (s1_l (Nat.add 3 r) v)) [] (s1_d (Nat.add 3 r) v) 68 (s1_l (Nat.add 3 r) (Nat.add v 64)) [] (pe_cd (s1_d (Nat.add 3 r) (Nat.add v 64)))
noncomputable def s1_e (r : Nat) : Bool := pe_tm 318 (s1_w (Nat.add 3 r)) [115, 299] 6 64 68 (pe_lp (s1_l (Nat.add 3 r) 192)) [] (s1_d (Nat.add 3 r) 192) 175 ((4, 9) :: lwl) [49, 9, 8000003, 9] (pe_cd (pe_pt dl1))
theorem s1_b0 : s1_b 0 = true := by decide +kernel
theorem s1_c0 : s1_c 0 64 = true := by decide +kernel
theorem s1_d0 : s1_c 0 128 = true := by decide +kernel
theorem s1_e0 : s1_e 0 = true := by decide +kernel
theorem s1_b1 : s1_b 1 = true := by decide +kernel
theorem s1_c1 : s1_c 1 64 = true := by decide +kernel
theorem s1_d1 : s1_c 1 128 = true := by decide +kernel
theorem s1_e1 : s1_e 1 = true := by decide +kernel
theorem s1_b2 : s1_b 2 = true := by decide +kernel
theorem s1_c2 : s1_c 2 64 = true := by decide +kernel
theorem s1_d2 : s1_c 2 128 = true := by decide +kernel
theorem s1_e2 : s1_e 2 = true := by decide +kernel
theorem s1_b3 : s1_b 3 = true := by decide +kernel
theorem s1_c3 : s1_c 3 64 = true := by decide +kernel
theorem s1_d3 : s1_c 3 128 = true := by decide +kernel
theorem s1_e3 : s1_e 3 = true := by decide +kernel
theorem s1_b4 : s1_b 4 = true := by decide +kernel
theorem s1_c4 : s1_c 4 64 = true := by decide +kernel
theorem s1_d4 : s1_c 4 128 = true := by decide +kernel
theorem s1_e4 : s1_e 4 = true := by decide +kernel
theorem s1_b5 : s1_b 5 = true := by decide +kernel
theorem s1_c5 : s1_c 5 64 = true := by decide +kernel
theorem s1_d5 : s1_c 5 128 = true := by decide +kernel
theorem s1_e5 : s1_e 5 = true := by decide +kernel
theorem s1_b6 : s1_b 6 = true := by decide +kernel
theorem s1_c6 : s1_c 6 64 = true := by decide +kernel
theorem s1_d6 : s1_c 6 128 = true := by decide +kernel
theorem s1_e6 : s1_e 6 = true := by decide +kernel
theorem s1_bA (r : Nat) (h : r < 7) : s1_b r = true := by
  match r, h with
  | 0, _ => exact s1_b0
  | 1, _ => exact s1_b1
  | 2, _ => exact s1_b2
  | 3, _ => exact s1_b3
  | 4, _ => exact s1_b4
  | 5, _ => exact s1_b5
  | 6, _ => exact s1_b6
  | r + 7, h => omega
theorem s1_cA (r : Nat) (h : r < 7) : s1_c r 64 = true := by
  match r, h with
  | 0, _ => exact s1_c0
  | 1, _ => exact s1_c1
  | 2, _ => exact s1_c2
  | 3, _ => exact s1_c3
  | 4, _ => exact s1_c4
  | 5, _ => exact s1_c5
  | 6, _ => exact s1_c6
  | r + 7, h => omega
theorem s1_dA (r : Nat) (h : r < 7) : s1_c r 128 = true := by
  match r, h with
  | 0, _ => exact s1_d0
  | 1, _ => exact s1_d1
  | 2, _ => exact s1_d2
  | 3, _ => exact s1_d3
  | 4, _ => exact s1_d4
  | 5, _ => exact s1_d5
  | 6, _ => exact s1_d6
  | r + 7, h => omega
theorem s1_eA (r : Nat) (h : r < 7) : s1_e r = true := by
  match r, h with
  | 0, _ => exact s1_e0
  | 1, _ => exact s1_e1
  | 2, _ => exact s1_e2
  | 3, _ => exact s1_e3
  | 4, _ => exact s1_e4
  | 5, _ => exact s1_e5
  | 6, _ => exact s1_e6
  | r + 7, h => omega
theorem s1_ok {X : rn_X} (hX : X.1 ≤ 260) (hE : ∀ S, pe_ag (pe_pt dl1) S → pe_En X 318 318 7456 175 (pe_lp ((4, 9) :: lwl)) [49, 9, 8000003, 9] S) : pe_En X 318 318 7456 4 (pe_lp lwl) [] rn_S0 := by
  refine pe_seg0 pe_n1 pe_w0k s1_a (by decide) dl0_ag (fun S2 h2 => ?_)
  refine pe_cell hX (by decide) (k := 0) (m := 7) (by decide) (by decide) (by decide) (by decide) ?_
  have hr : clN X 0 7 < 7 := clN_lt (by decide)
  generalize clN X 0 7 = r at hr
  rw [show 8 * r + 1 = Nat.add 1 (Nat.mul 8 r) from Nat.add_comm _ _]
  have hw : ∀ (B : rn_T) (h0 : rn_H), pe_Wok σ0 318 B h0 X 318 7456 (s1_w (Nat.add 3 r)) := fun B h0 => pe_me_ok pe_n1 _ _ _
  refine pe_seg0 pe_n1 hw (s1_bA r hr) (by decide) h2 (fun S3 h3 => ?_)
  refine pe_seg0 pe_n1 hw (s1_cA r hr) (by decide) h3 (fun S4 h4 => ?_)
  refine pe_seg0 pe_n1 hw (s1_dA r hr) (by decide) h4 (fun S5 h5 => ?_)
  exact pe_seg0 pe_n1 hw (s1_eA r hr) (by decide) h5 hE
