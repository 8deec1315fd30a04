/-! 70: one part more on both sides -/
theorem pf_len {T : rn_TR} {F0 F : List rn_FT} {p : Option Nat} (h : PF T F0 p F) : F.length = F0.length ∧ (fl F).length ≤ (fl F0).length := by
  rcases h with ⟨rfl, -, rfl, -⟩ | ⟨nd, sh, a, l, q, bi, F2, rfl, rfl, -⟩
  · exact ⟨rfl, Nat.le_refl _⟩
  · refine ⟨rfl, ?_⟩
    show (l.map _ ++ fl F2).length ≤ ((a :: l).map _ ++ fl F2).length
    simp only [List.length_append, List.length_map, List.length_cons]
    omega
theorem pf_mem {A : rn_AT} {N : Nat → Prop} {EE : Nat → Nat → Nat} {n : Nat} {T : rn_TR} {F0 F : List rn_FT} {p : Option Nat} (h : PF T F0 p F) (hF : GFs A N EE n T F0) : ∀ f, f ∈ F → f.1 < tN T := by
  rcases h with ⟨rfl, -, rfl, -⟩ | ⟨nd, sh, a, l, q, bi, F2, rfl, rfl, -⟩
  · intro f hf; exact absurd hf (by simp)
  · intro f hf
    rcases List.mem_cons.mp hf with rfl | hf
    · exact GFs_all hF (nd, sh, a :: l, q, bi) (by simp)
    · exact GFs_all hF f (by simp [hf])
theorem kn_ok {c : Nat → Nat} {o : Nat → Bool} {s p e : Nat} {E : Nat → Nat} (h : TM c o s E p e) (hc : ¬ (c p = 120 ∨ isL (c p))) : kO (c p) ≤ 6 ∧ (kO (c p) = 1 → nO (c p) (c (p + 1)) = 1 ∨ nO (c p) (c (p + 1)) = 2 ∨ nO (c p) (c (p + 1)) = 4) ∧ (kO (c p) = 3 → 2 ≤ nO (c p) (c (p + 1)) ∧ nO (c p) (c (p + 1)) ≤ 9) ∧ (¬ (c p = 40 ∨ c p = 91) → kO (c p) ≤ 4) ∧ (c p = 40 ∨ c p = 91 → 5 ≤ kO (c p)) := by
  rcases TM_n h hc with h | ⟨h, h2, h3, h4⟩ | ⟨l, q, h, _⟩
  · rcases h with h | h | h | h | h | h <;> rw [h] <;> simp [kO, nO]
  · rw [h]
    simp [kO, nO]
    omega
  · rcases h with ⟨h, -⟩ | ⟨h, -⟩ <;> rw [h] <;> simp [kO]
theorem cb_eL {S S2 : rn_T} {A : rn_AT} {X X2 : Nat → rn_IT} {n g n2 g2 : Nat} {T : rn_TR} {F : List rn_FT} {t : rn_IT} (h : CB S A X n g T F) (he : eL S S2) (hc : CL S2 A X2 n2 g2 t) : CB S2 A X2 n2 g2 T F := by
  obtain ⟨h1, h2, h3, h4, h5, h6⟩ := h
  obtain ⟨c1, c2, c3, c4⟩ := hc
  refine ⟨c1, c2, c3, sb_eq h4 (fun q j hq => he.1 q j (by omega)) he.2.2.2.1 (fun q hq => by rw [he.2.2.2.2]), fd_eq h5 (fun k hk => ?_), (he.1 66 15 (by omega)).trans h6⟩
  rw [he.2.2.2.2, he.2.1 73 (by omega), he.2.1 74 (by omega), he.2.1 75 (by omega)]
  exact ⟨rfl, rfl, rfl, rfl⟩
theorem eqM_t {M M2 M3 : rn_T} (h : eqM M M2) (h2 : eqM M2 M3) : eqM M M3 := ⟨eq_t h.1 h2.1, h2.2.1.trans h.2.1, h2.2.2.trans h.2.2⟩
theorem ma_grow {A : rn_AT} {N : Nat → Prop} {EE : Nat → Nat → Nat} {X : Nat → rn_IT} {n g : Nat} {t : rn_IT} {p : Option Nat} {T : rn_TR} {F0 F : List rn_FT} {S M : rn_T} (ho : OKA A) (hw : WX A N EE) (hS : CB S A X n g T F) (hi : IS S t) (hM : RQ M A X n g ((t, p) :: fl F)) (hT : MB M T) (hx : GX A N EE X n) (ht : GI A N EE n t) (hn : n ≤ g + 1) (hg : g ≤ 500) (hW : TW T) (hF : GFs A N EE n T F0) (hd : GD T F0) (hp : PF T F0 p F) (hN : tN T ≤ 100) : ∃ (S2 : rn_T) (bb : Bool), f159 S 1 (p.map fun q => 76 + 2 * q) = some (bb, S2) ∧ (EqT (fun q => q < 66 ∨ 276 ≤ q) S S2 ∧ rI S2 76 15 = nI 0) ∧ (bb = false → ∃ (j : Nat) (M2 : rn_T), (∀ fuR, f56_L26 (fuR + j) M f56_J40 = some (false, M2)) ∧ eqM M M2 ∧ j ≤ 504 - g) ∧ (bb = true → ∃ (M2 : rn_T) (T2 : rn_TR) (F2 : List rn_FT) (X2 : Nat → rn_IT) (n2 g2 : Nat), (∀ fuR kk, f56_L26 (fuR + ((g2 - g) + 1)) M kk = f56_L26 fuR M2 kk) ∧ eqM M M2 ∧ CB S2 A X2 n2 g2 T2 F2 ∧ RQ M2 A X2 n2 g2 (fl F2) ∧ MB M2 T2 ∧ GX A N EE X2 n2 ∧ n2 ≤ g2 + 1 ∧ g2 ≤ 500 ∧ TW T2 ∧ GFs A N EE n2 T2 F2 ∧ GD T2 F2 ∧ tN T2 = tN T + 1 ∧ tN T < 100 ∧ F2.length ≤ F.length + 1 ∧ g ≤ g2) := by
  have hlen := GFs_len hF (GFs_all hF)
  have hfl := GFs_fl hF
  obtain ⟨hl1, hl2⟩ := pf_len hp
  obtain ⟨S1, b1, e1, e2, e3, e4⟩ := ma_lets (pn := tN T) (p := p) (L := fl F) (k := fun S18 => some (false, S18)) ho hw (by omega) hN (500 - g) g 0 n rn_FU X t S M (by omega) (Nat.zero_le g) (by unfold rn_FU; omega) hn ⟨hS.1, hS.2.1, hS.2.2.1, hi⟩ hM hx ht hT.1
  have e0 : f160 S 1 = some (b1, S1) := e1
  have hee := eL_E e2
  have h0 : rI S1 76 15 = nI 0 := (e2.1 76 15 (by omega)).trans hS.2.2.2.1.2.2
  rw [f159_eq, e0, Option.bind_some]
  cases b1 with
  | false =>
    obtain ⟨j, M2, j1, j2, j3, j4⟩ := e3 rfl
    exact ⟨S1, false, rfl, ⟨hee, h0⟩, fun _ => ⟨j, M2, fun fuR => (j1 fuR _).trans j2, eX_M j3, by omega⟩, fun hh => by cases hh⟩
  | true =>
    obtain ⟨M1, t2, X2, n2, g2, k1, k2, k3, k4, k5, k6, k7, k8, k9, k10, k11⟩ := e4 rfl
    have hS1 := cb_eL hS e2 k3
    have hT1 : MB M1 T := mb_eq hT (k2.2 10 (by omega) (by omega) (by omega)) (fun q h1 h2 => (k2.1 q (by omega)).2.1)
    obtain ⟨u1, u2, ⟨e, u3, u4⟩, u5, u6⟩ := k6
    have hpp := pf_pp hp hF
    have hF1 := GFs_eq k7 (Nat.le_refl _) hF (fun f _ _ => ⟨rfl, rfl⟩)
    obtain ⟨n1, n2', n3, n4, n5⟩ := kn_ok u3 k11
    have hW2 := tw_add (k := kO (aC A t2.1 t2.2.1)) (o := nO (aC A t2.1 t2.2.1) (aC A t2.1 (t2.2.1 + 1))) hW hpp n1 n2' n3
    obtain ⟨a1, a2⟩ := pf_add (k := kO (aC A t2.1 t2.2.1)) (o := nO (aC A t2.1 t2.2.1) (aC A t2.1 (t2.2.1 + 1))) hp hF k7 hd
    have hmem := pf_mem hp hF
    -- the frames and what is to do behind it
    have hch : ∃ F2 : List rn_FT, ((¬ (aC A t2.1 t2.2.1 = 40 ∨ aC A t2.1 t2.2.1 = 91) ∧ F2 = F) ∨ ((aC A t2.1 t2.2.1 = 40 ∨ aC A t2.1 t2.2.1 = 91) ∧ ∃ l q, l.headD q = t2.2.1 + 1 ∧ F2 = (tN T, t2.1, l, q, t2.2.2) :: F)) ∧ ((¬ (aC A t2.1 t2.2.1 = 40 ∨ aC A t2.1 t2.2.1 = 91) ∧ fl F2 = fl F) ∨ ((aC A t2.1 t2.2.1 = 40 ∨ aC A t2.1 t2.2.1 = 91) ∧ ∃ l q, q < aN A t2.1 ∧ (aC A t2.1 q = 41 ∨ aC A t2.1 q = 93) ∧ LQ (TM (aC A t2.1) (aO A) t2.1 (EE t2.1)) l q ∧ 1 ≤ l.length ∧ l.length ≤ 6 ∧ l.headD q = t2.2.1 + 1 ∧ fl F2 = l.map (fun a => ((t2.1, a, t2.2.2), some (tN T))) ++ fl F)) ∧ GFs A N EE n2 (addP T (kO (aC A t2.1 t2.2.1)) (nO (aC A t2.1 t2.2.1) (aC A t2.1 (t2.2.1 + 1))) p) F2 ∧ GD (addP T (kO (aC A t2.1 t2.2.1)) (nO (aC A t2.1 t2.2.1) (aC A t2.1 (t2.2.1 + 1))) p) F2 ∧ F2.length ≤ F.length + 1 := by
      by_cases c : aC A t2.1 t2.2.1 = 40 ∨ aC A t2.1 t2.2.1 = 91
      · have hnew : ∃ (l : List Nat) (q : Nat), (aC A t2.1 t2.2.1 = 40 ∧ aC A t2.1 q = 41 ∨ aC A t2.1 t2.2.1 = 91 ∧ aC A t2.1 q = 93) ∧ 1 ≤ l.length ∧ l.length ≤ 6 ∧ LQ (TM (aC A t2.1) (aO A) t2.1 (EE t2.1)) l q ∧ l.headD q = t2.2.1 + 1 ∧ e = q + 1 := by
          rcases TM_n u3 k11 with h | h | h
          · omega
          · omega
          · exact h
        obtain ⟨l, q, q1, q2, q3, q4, q5, q6⟩ := hnew
        refine ⟨(tN T, t2.1, l, q, t2.2.2) :: F, .inr ⟨c, l, q, q5, rfl⟩, .inr ⟨c, l, q, by omega, by omega, q4, q2, q3, q5, rfl⟩, ⟨⟨u1, u2, show q < aN A t2.1 by omega, show aC A t2.1 q = 41 ∨ aC A t2.1 q = 93 by omega, q4, u5, u6, show tN T < tN T + 1 by omega, ?_, ?_, ?_⟩, hmem, a1⟩, ?_, Nat.le_refl _⟩
        · show 5 ≤ tK (addP _ _ _ _) (tN T)
          rw [ad_K, if_pos rfl]; exact n5 c
        · show 1 ≤ tC (addP _ _ _ _) (tN T) + l.length
          rw [ad_C, if_pos rfl]; omega
        · show tC (addP _ _ _ _) (tN T) + l.length ≤ 6
          rw [ad_C, if_pos rfl]; omega
        · intro i hi5 hk5
          rw [ad_N] at hi5
          by_cases ei : i = tN T
          · exact .inr ⟨_, List.mem_cons_self, ei.symm⟩
          · rw [ad_K, if_neg ei] at hk5
            rcases a2 i (by omega) hk5 with h | ⟨f, hf, h⟩
            · exact .inl h
            · exact .inr ⟨f, List.mem_cons_of_mem _ hf, h⟩
      · refine ⟨F, .inl ⟨c, rfl⟩, .inl ⟨c, rfl⟩, a1, ?_, Nat.le_succ _⟩
        intro i hi5 hk5
        rw [ad_N] at hi5
        by_cases ei : i = tN T
        · rw [ad_K, if_pos ei] at hk5
          have := n4 c
          omega
        · rw [ad_K, if_neg ei] at hk5
          exact a2 i (by omega) hk5
    obtain ⟨F2, c1, c2, c3, c4, c5⟩ := hch
    obtain ⟨M2, r1, r2, r3, r4⟩ := rf_add (E := EE t2.1) ho k4 hT1 (by omega) k10 u1 u3 u4 hW hpp (by omega) k11 (fl F2) c2
    have hst : ∀ fuR kk, f56_L26 (fuR + ((g2 - g) + 1)) M kk = f56_L26 fuR M2 kk := by
      intro fuR kk
      rw [show fuR + ((g2 - g) + 1) = (fuR + 1) + (g2 - g) by omega, k1, rf_step k4.2.2.2.2 (by omega) hT1.1 hN k4.2.2.1 k10 r1]
    by_cases hN2 : tN T < 100
    · obtain ⟨S2, s1, s2, s3⟩ := cl_add (E := EE t2.1) ho hS1 k3.2.2.2 u1 u3 u4 hW hpp hN2 (by omega) k11 F2 c1
      rw [if_pos rfl]
      exact ⟨S2, true, s1, ⟨eq_t hee s2, s3.2.2.2.1.2.2⟩, fun hh => (by cases hh), fun _ => ⟨M2, _, F2, X2, n2, g2, hst, eqM_t (eX_M k2) r2, s3, r3, r4, k5, k8, k10, hW2, c3, c4, rfl, hN2, c5, k9⟩⟩
    · have h100 : tN T = 100 := by omega
      have hgq : gq S1 (p.map fun q => 76 + 2 * q) = some (false, S1) := by
        unfold gq
        rw [if_neg (by rw [hS1.2.2.2.1.1, h100]; decide)]
      rw [if_pos rfl]
      have hlen2 := GFs_fl c3
      have hN3 : rI M2 318 10 = nI 101 := by rw [r4.1, ad_N, h100]
      refine ⟨S1, false, hgq, ⟨hee, h0⟩, fun _ => ⟨(g2 - g) + 2, M2, fun fuR => ?_, eqM_t (eX_M k2) r2, by omega⟩, fun hh => by cases hh⟩
      rw [show fuR + ((g2 - g) + 2) = (fuR + 1) + ((g2 - g) + 1) by omega, hst, rf_stop r3.2.2.2.2 (by omega) hN3 (by omega) r3.2.2.1 (by omega) (.inr (.inl rfl)), rf_end r3.2.2.2.2 (by omega) hN3 (by omega) r3.2.2.1 (by omega)]
      have : decide ((fl F2).length = 0 ∧ 101 ≤ 100 ∧ g2 ≤ 500) = false := by rw [decide_eq_false_iff_not]; omega
      rw [this]
