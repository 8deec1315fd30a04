/-! 97: the law -/
theorem law_go {S M : rn_T} {x y : Option (Int32 × rn_T)} (hg : Go S M x y) {k : rn_T → rn_T → Option (Bool × rn_T × rn_T)} (hk : ∀ S2 M2, Inv S2 M2 → ∃ R, k S2 M2 = some (true, R)) : ∃ R, (Option.bind x fun p => Option.bind y fun q => if p.1 = q.1 then k p.2 q.2 else some (false, (p.2, q.2))) = some (true, R) := by
  obtain ⟨r, S2, M2, h1, h2, h3⟩ := hg
  obtain ⟨R, hR⟩ := hk S2 M2 h3
  refine ⟨R, ?_⟩
  rw [h1, h2, Option.bind_some, Option.bind_some, if_pos rfl]
  exact hR
theorem law_eq {x y : Option Int32} (hg : ∃ r, x = some r ∧ y = some r) {A B : Option (Bool × rn_T × rn_T)} (hk : ∃ R, A = some (true, R)) : ∃ R, (Option.bind x fun p => Option.bind y fun q => if p = q then A else B) = some (true, R) := by
  obtain ⟨r, h1, h2⟩ := hg
  obtain ⟨R, hR⟩ := hk
  refine ⟨R, ?_⟩
  rw [h1, h2, Option.bind_some, Option.bind_some, if_pos rfl]
  exact hR
theorem law_lg {x y : Option Int64} (hg : ∃ r, x = some r ∧ y = some r) {A B : Option (Bool × rn_T × rn_T)} (hk : ∃ R, A = some (true, R)) : ∃ R, (Option.bind x fun p => Option.bind y fun q => if lg_cmp p q = 0 then A else B) = some (true, R) := by
  obtain ⟨r, h1, h2⟩ := hg
  obtain ⟨R, hR⟩ := hk
  have h0 : lg_cmp r r = 0 := by
    unfold lg_cmp
    rw [if_neg (by rw [gt_iff_lt, Int64.lt_iff_toInt_lt]; omega), if_pos rfl]
  refine ⟨R, ?_⟩
  rw [h1, h2, Option.bind_some, Option.bind_some, if_pos h0]
  exact hR
def A00 : rn_AT := (fun _ _ => 0, fun _ => 0, fun _ => 0, 0, fun _ => 0, 0)
theorem inv_0 : Inv rn_S0 rn_S0 := by
  refine ⟨A00, ⟨fun _ _ => rfl, fun _ _ _ _ => rfl, fun _ _ => rfl, rfl, fun _ _ => rfl, rfl⟩, ⟨fun _ _ => rfl, fun _ _ _ _ => rfl, fun _ _ => rfl, rfl, fun _ _ => rfl, rfl⟩, ⟨fun _ _ => Nat.zero_le _, fun _ _ _ _ => Nat.zero_le _, fun _ _ i hi => absurd hi (Nat.not_lt_zero i), Nat.zero_le _, fun _ _ => Nat.zero_le _, fun _ _ => by show (0 : Nat) < 256; omega, by show (0 : Nat) < 2; omega⟩, ⟨fun _ => A00, fun _ => 0, fun k hk => ⟨(show (0 : Nat) < 2 by omega), rfl, rfl, fun hx => absurd (show (0 : Nat) = 1 from hx) (by omega)⟩⟩, rfl, rfl⟩
set_option maxHeartbeats 4000000 in
theorem law_loop {X : rn_X} (hL : X.1 ≤ 2560) {k : rn_T → rn_T → Option (Bool × rn_T × rn_T)} (hk : ∀ S M, ∃ R, k S M = some (true, R)) : ∀ d v fu S M, X.1 < v + 5 + 5 * d → d < fu → v ≤ 3000 → Inv S M → ∃ R, f165_L10 X fu S M (nI v) k = some (true, R) := by
  have hlt : ∀ v, v ≤ 3000 → (((Int32.ofNat X.1) - (5 : Int32)) < nI v ↔ X.1 < v + 5) := by
    intro v hv
    have h1 : ((Int32.ofNat X.1) - (5 : Int32)).toInt = (X.1 : Int) - 5 := pk_sub_toInt (a := X.1) (b := 5) (by omega) (by omega)
    rw [Int32.lt_iff_toInt_lt, h1, nI_toInt (by omega)]
    omega
  intro d
  induction d with
  | zero =>
    intro v fu S M h1 h2 h3 h
    obtain ⟨G, rfl⟩ : ∃ G, fu = G + 1 := ⟨fu - 1, by omega⟩
    rw [f165_L10, if_pos ((hlt v h3).mpr (by omega))]
    exact hk S M
  | succ d ih =>
    intro v fu S M h1 h2 h3 h
    obtain ⟨G, rfl⟩ : ∃ G, fu = G + 1 := ⟨fu - 1, by omega⟩
    by_cases c : X.1 < v + 5
    · rw [f165_L10, if_pos ((hlt v h3).mpr c)]
      exact hk S M
    have hst : ∀ S2 M2, Inv S2 M2 → ∃ R, f165_L10 X G S2 M2 (nI v + (5 : Int32)) k = some (true, R) := by
      intro S2 M2 h2'
      have e5 : nI v + (5 : Int32) = nI (v + 5) := by rw [nI_lit]; exact nI_add _ _
      rw [e5]
      exact ih (v + 5) G S2 M2 (by omega) (by omega) (by omega) h2'
    have o0 : ¬ rn_ob (nI v) X.1 := ob_F (by omega) (by omega)
    have o1 : ¬ rn_ob (nI v + (1 : Int32)) X.1 := by
      rw [show nI v + (1 : Int32) = nI (v + 1) from nI_add v 1]; exact ob_F (by omega) (by omega)
    have o2 : ¬ rn_ob (nI v + (2 : Int32)) X.1 := by
      rw [show nI v + (2 : Int32) = nI (v + 2) from nI_add v 2]; exact ob_F (by omega) (by omega)
    have o3 : ¬ rn_ob (nI v + (3 : Int32)) X.1 := by
      rw [show nI v + (3 : Int32) = nI (v + 3) from nI_add v 3]; exact ob_F (by omega) (by omega)
    have o4 : ¬ rn_ob (nI v + (4 : Int32)) X.1 := by
      rw [show nI v + (4 : Int32) = nI (v + 4) from nI_add v 4]; exact ob_F (by omega) (by omega)
    rw [f165_L10, if_neg (fun hx => c ((hlt v h3).mp hx)), if_neg o0]
    by_cases c0 : ((X.2 (Int32.toNatClampNeg (nI v))) &&& (31 : Int32)) = (0 : Int32)
    · rw [if_pos c0, if_neg o1, if_neg o2]
      exact law_go (k := fun S2 M2 => f165_L10 X G S2 M2 (nI v + (5 : Int32)) k) (go_say h _ _) hst
    rw [if_neg c0]
    by_cases c1 : ((X.2 (Int32.toNatClampNeg (nI v))) &&& (31 : Int32)) = (1 : Int32)
    · rw [if_pos c1, if_neg o1]
      exact law_go (k := fun S2 M2 => f165_L10 X G S2 M2 (nI v + (5 : Int32)) k) (go_wipe h _) hst
    rw [if_neg c1]
    by_cases c2 : ((X.2 (Int32.toNatClampNeg (nI v))) &&& (31 : Int32)) = (2 : Int32)
    · rw [if_pos c2, if_neg o1]
      exact law_go (k := fun S2 M2 => f165_L10 X G S2 M2 (nI v + (5 : Int32)) k) (go_fault h _) hst
    rw [if_neg c2]
    by_cases c3 : ((X.2 (Int32.toNatClampNeg (nI v))) &&& (31 : Int32)) = (3 : Int32)
    · rw [if_pos c3, if_neg o1]
      exact law_go (k := fun S2 M2 => f165_L10 X G S2 M2 (nI v + (5 : Int32)) k) (go_way h _) hst
    rw [if_neg c3]
    by_cases c4 : ((X.2 (Int32.toNatClampNeg (nI v))) &&& (31 : Int32)) = (4 : Int32)
    · rw [if_pos c4, if_neg o1, if_neg o2, if_neg o3]
      exact law_go (k := fun S2 M2 => f165_L10 X G S2 M2 (nI v + (5 : Int32)) k) (go_layout h _ _ _) hst
    rw [if_neg c4]
    by_cases c5 : ((X.2 (Int32.toNatClampNeg (nI v))) &&& (31 : Int32)) = (5 : Int32)
    · rw [if_pos c5, if_neg o1, if_neg o2, if_neg o3, if_neg o4]
      exact law_go (k := fun S2 M2 => f165_L10 X G S2 M2 (nI v + (5 : Int32)) k) (go_term h _ _ _ _) hst
    rw [if_neg c5]
    by_cases c6 : ((X.2 (Int32.toNatClampNeg (nI v))) &&& (31 : Int32)) = (6 : Int32)
    · rw [if_pos c6, if_neg o1, if_neg o2, if_neg o3]
      exact law_go (k := fun S2 M2 => f165_L10 X G S2 M2 (nI v + (5 : Int32)) k) (go_variant h _ _ _) hst
    rw [if_neg c6]
    by_cases c7 : ((X.2 (Int32.toNatClampNeg (nI v))) &&& (31 : Int32)) = (7 : Int32)
    · rw [if_pos c7, if_neg o1, if_neg o2, if_neg o3]
      exact law_go (k := fun S2 M2 => f165_L10 X G S2 M2 (nI v + (5 : Int32)) k) (go_pattern h _ _ _) hst
    rw [if_neg c7]
    by_cases c8 : ((X.2 (Int32.toNatClampNeg (nI v))) &&& (31 : Int32)) = (8 : Int32)
    · rw [if_pos c8, if_neg o1, if_neg o2]
      exact law_go (k := fun S2 M2 => f165_L10 X G S2 M2 (nI v + (5 : Int32)) k) (go_least h _ _) hst
    rw [if_neg c8]
    by_cases c9 : ((X.2 (Int32.toNatClampNeg (nI v))) &&& (31 : Int32)) = (9 : Int32)
    · rw [if_pos c9, if_neg o1, if_neg o2]
      exact law_go (k := fun S2 M2 => f165_L10 X G S2 M2 (nI v + (5 : Int32)) k) (go_idle h _ _) hst
    rw [if_neg c9]
    by_cases c10 : ((X.2 (Int32.toNatClampNeg (nI v))) &&& (31 : Int32)) = (10 : Int32)
    · rw [if_pos c10, if_neg o1, if_neg o2]
      exact law_go (k := fun S2 M2 => f165_L10 X G S2 M2 (nI v + (5 : Int32)) k) (go_give h _) hst
    rw [if_neg c10]
    by_cases c11 : ((X.2 (Int32.toNatClampNeg (nI v))) &&& (31 : Int32)) = (11 : Int32)
    · rw [if_pos c11]
      exact law_go (k := fun S2 M2 => f165_L10 X G S2 M2 (nI v + (5 : Int32)) k) (go_drop h) hst
    rw [if_neg c11]
    by_cases c12 : ((X.2 (Int32.toNatClampNeg (nI v))) &&& (31 : Int32)) = (12 : Int32)
    · rw [if_pos c12, if_neg o1]
      exact law_lg (go_given h _) (hst S M h)
    rw [if_neg c12]
    by_cases c13 : ((X.2 (Int32.toNatClampNeg (nI v))) &&& (31 : Int32)) = (13 : Int32)
    · rw [if_pos c13, if_neg o1, if_neg o2, if_neg o3]
      exact law_go (k := fun S2 M2 => f165_L10 X G S2 M2 (nI v + (5 : Int32)) k) (go_write h _ _ _) hst
    rw [if_neg c13]
    by_cases c14 : ((X.2 (Int32.toNatClampNeg (nI v))) &&& (31 : Int32)) = (14 : Int32)
    · rw [if_pos c14, if_neg o1, if_neg o2, if_neg o3]
      exact law_go (k := fun S2 M2 => f165_L10 X G S2 M2 (nI v + (5 : Int32)) k) (go_read h _ _ _) hst
    rw [if_neg c14]
    by_cases c15 : ((X.2 (Int32.toNatClampNeg (nI v))) &&& (31 : Int32)) = (15 : Int32)
    · rw [if_pos c15, if_neg o1, if_neg o2, if_neg o3]
      exact law_go (k := fun S2 M2 => f165_L10 X G S2 M2 (nI v + (5 : Int32)) k) (go_which h _ _ _) hst
    rw [if_neg c15]
    by_cases c16 : ((X.2 (Int32.toNatClampNeg (nI v))) &&& (31 : Int32)) = (16 : Int32)
    · rw [if_pos c16, if_neg o1, if_neg o2]
      exact law_go (k := fun S2 M2 => f165_L10 X G S2 M2 (nI v + (5 : Int32)) k) (go_poke h _ _) hst
    rw [if_neg c16]
    by_cases c17 : ((X.2 (Int32.toNatClampNeg (nI v))) &&& (31 : Int32)) = (17 : Int32)
    · rw [if_pos c17, if_neg o1]
      exact law_eq (go_peek h _) (hst S M h)
    rw [if_neg c17]
    by_cases c18 : ((X.2 (Int32.toNatClampNeg (nI v))) &&& (31 : Int32)) = (18 : Int32)
    · rw [if_pos c18, if_neg o1]
      exact law_go (k := fun S2 M2 => f165_L10 X G S2 M2 (nI v + (5 : Int32)) k) (go_image h _) hst
    rw [if_neg c18]
    by_cases c19 : ((X.2 (Int32.toNatClampNeg (nI v))) &&& (31 : Int32)) = (19 : Int32)
    · rw [if_pos c19, if_neg o1]
      exact law_go (k := fun S2 M2 => f165_L10 X G S2 M2 (nI v + (5 : Int32)) k) (go_restore h _) hst
    rw [if_neg c19]
    by_cases c20 : ((X.2 (Int32.toNatClampNeg (nI v))) &&& (31 : Int32)) = (20 : Int32)
    · rw [if_pos c20, if_neg o1]
      exact law_eq (go_told h _) (hst S M h)
    rw [if_neg c20]
    exact hst S M h
theorem rn_pure {X : rn_X} (hL : X.1 ≤ 2560) : ∃ R, f165 X rn_S0 rn_S0 = some (true, R) := by
  unfold f165
  exact law_loop hL (k := fun S127 M127 => some (true, (S127, M127))) (fun S M => ⟨(S, M), rfl⟩) 600 0 rn_FU rn_S0 rn_S0 (by omega) (by unfold rn_FU; omega) (by omega) inv_0
