/-! what agreeing means; the law's start; its two arrays -/
theorem pe_ag_iff {d : Nat} {S : rn_T} : pe_ag d S ↔ (∀ q k, pe_fc (rn_kd q) k = 1 → pe_cl d q k ≠ 0 → rI S q k = pe_dI (pe_cl d q k)) ∧ (∀ q k, (rn_kd q = 10 ∨ rn_kd q = 12) → pe_cl d q k ≠ 0 → rA S q k = pe_dI (pe_cl d q k)) ∧ (∀ q k, rn_kd q = 11 → pe_cl d q k ≠ 0 → rL S q k = pe_dJ (pe_cl d q k)) ∧ (∀ q, rn_kd q = 3 → pe_cl d q 2 ≠ 0 → rR S q = pe_dr (pe_cl d q 2)) ∧ (∀ q k, rn_kd q = 14 → pe_cl d q k ≠ 0 → rP S q k = pe_dr (pe_cl d q k)) := by
  constructor
  · intro h
    have e : S = pe_TT d S := h.symm
    refine ⟨fun q k a b => ?_, fun q k a b => ?_, fun q k a b => ?_, fun q a b => ?_, fun q k a b => ?_⟩
    · exact (congrFun (congrFun (congrArg (fun T : rn_T => T.1) e) q) k).trans (if_pos ⟨a, b⟩)
    · exact (congrFun (congrFun (congrArg (fun T : rn_T => T.2.1) e) q) k).trans (if_pos ⟨a, b⟩)
    · exact (congrFun (congrFun (congrArg (fun T : rn_T => T.2.2.1) e) q) k).trans (if_pos ⟨a, b⟩)
    · exact (congrFun (congrArg (fun T : rn_T => T.2.2.2.1) e) q).trans (if_pos ⟨a, b⟩)
    · exact (congrFun (congrFun (congrArg (fun T : rn_T => T.2.2.2.2) e) q) k).trans (if_pos ⟨a, b⟩)
  · rintro ⟨h1, h2, h3, h4, h5⟩
    unfold pe_ag pe_TT
    refine Prod.ext (funext fun q => funext fun k => ?_) (Prod.ext (funext fun q => funext fun k => ?_) (Prod.ext (funext fun q => funext fun k => ?_) (Prod.ext (funext fun q => ?_) (funext fun q => funext fun k => ?_))))
    · dsimp only
      split
      · next g => exact (h1 q k g.1 g.2).symm
      · rfl
    · dsimp only
      split
      · next g => exact (h2 q k g.1 g.2).symm
      · rfl
    · dsimp only
      split
      · next g => exact (h3 q k g.1 g.2).symm
      · rfl
    · dsimp only
      split
      · next g => exact (h4 q g.1 g.2).symm
      · rfl
    · dsimp only
      split
      · next g => exact (h5 q k g.1 g.2).symm
      · rfl
noncomputable def pe_pt (l : List (Nat × Nat × Nat)) : Nat := @List.rec (Nat × Nat × Nat) (fun _ => Nat) 0 (fun p _ s => pe_cs s (Nat.add (pe_bs p.1) p.2.1) p.2.2) l
/-- a count, a number of the list, a byte known besides -/
theorem pe_ag_I {d q k v : Nat} {S : rn_T} (h : pe_ag d S) (hq : q < 320) (hk : k < pe_bl q) (hv : v < 68719476736) (hf : pe_fc (rn_kd q) k = 1) (hs : rI S q k = pe_dI v) : pe_ag (pe_cs d (pe_bs q + k) v) S := by
  obtain ⟨h1, h2, h3, h4, h5⟩ := pe_ag_iff.mp h
  have hd : rn_kd q < 10 := Nat.lt_of_not_le fun g => by rw [pe_fc_hi g] at hf; cases hf
  refine pe_ag_iff.mpr ⟨fun q2 k2 a b => ?_, fun q2 k2 a b => ?_, fun q2 k2 a b => ?_, fun q2 a b => ?_, fun q2 k2 a b => ?_⟩
  · rw [pe_cl_cs hq hk hv] at b ⊢
    by_cases e : q2 = q ∧ k2 = k
    · rw [if_pos e, e.1, e.2]; exact hs
    · rw [if_neg e] at b ⊢; exact h1 q2 k2 a b
  · rw [pe_cl_cs hq hk hv, if_neg (fun e : q2 = q ∧ k2 = k => by rw [e.1] at a; omega)] at b ⊢; exact h2 q2 k2 a b
  · rw [pe_cl_cs hq hk hv, if_neg (fun e : q2 = q ∧ k2 = k => by rw [e.1] at a; omega)] at b ⊢; exact h3 q2 k2 a b
  · rw [pe_cl_cs hq hk hv, if_neg (fun e : q2 = q ∧ 2 = k => by rw [← e.1, a, ← e.2] at hf; cases hf)] at b ⊢; exact h4 q2 a b
  · rw [pe_cl_cs hq hk hv, if_neg (fun e : q2 = q ∧ k2 = k => by rw [e.1] at a; omega)] at b ⊢; exact h5 q2 k2 a b
theorem pe_ag_A {d q k v : Nat} {S : rn_T} (h : pe_ag d S) (hq : q < 320) (hk : k < pe_bl q) (hv : v < 68719476736) (hf : rn_kd q = 10) (hs : rA S q k = pe_dI v) : pe_ag (pe_cs d (pe_bs q + k) v) S := by
  obtain ⟨h1, h2, h3, h4, h5⟩ := pe_ag_iff.mp h
  refine pe_ag_iff.mpr ⟨fun q2 k2 a b => ?_, fun q2 k2 a b => ?_, fun q2 k2 a b => ?_, fun q2 a b => ?_, fun q2 k2 a b => ?_⟩
  · rw [pe_cl_cs hq hk hv, if_neg (fun e : q2 = q ∧ k2 = k => by rw [e.1, hf, pe_fc_hi (by omega)] at a; cases a)] at b ⊢; exact h1 q2 k2 a b
  · rw [pe_cl_cs hq hk hv] at b ⊢
    by_cases e : q2 = q ∧ k2 = k
    · rw [if_pos e, e.1, e.2]; exact hs
    · rw [if_neg e] at b ⊢; exact h2 q2 k2 a b
  · rw [pe_cl_cs hq hk hv, if_neg (fun e : q2 = q ∧ k2 = k => by rw [e.1] at a; omega)] at b ⊢; exact h3 q2 k2 a b
  · rw [pe_cl_cs hq hk hv, if_neg (fun e : q2 = q ∧ 2 = k => by rw [e.1] at a; omega)] at b ⊢; exact h4 q2 a b
  · rw [pe_cl_cs hq hk hv, if_neg (fun e : q2 = q ∧ k2 = k => by rw [e.1] at a; omega)] at b ⊢; exact h5 q2 k2 a b
/-- all that is zero at first, as far as it is wanted -/
def dl0 : List (Nat × Nat × Nat) := [(1, 3, 1), (1, 4, 1), (76, 15, 1), (4, 5, 1), (5, 1, 1), (7, 1, 1), (9, 1, 1), (11, 1, 1), (13, 1, 1), (15, 1, 1), (17, 1, 1), (19, 1, 1)]
theorem dl0_cl1 : ∀ q, q < 320 → ∀ k, k < 100 → pe_cl (pe_pt dl0) q k = 0 ∨ pe_cl (pe_pt dl0) q k = 1 := by decide +kernel
theorem pe_bl_100 {q : Nat} : pe_bl q ≤ 100 := by
  rcases Nat.lt_or_ge q 320 with h | h
  · exact (by decide +kernel : ∀ q, q < 320 → pe_bl q ≤ 100) q h
  · rw [pe_bl_0 h]; omega
theorem dl0_cl {q k : Nat} (h : pe_cl (pe_pt dl0) q k ≠ 0) : pe_cl (pe_pt dl0) q k = 1 := by
  have hk : k < pe_bl q := Nat.lt_of_not_le fun g => h (if_neg (by omega))
  have hq : q < 320 := Nat.lt_of_not_le fun g => by rw [pe_bl_0 g] at hk; omega
  rcases dl0_cl1 q hq k (by have := pe_bl_100 (q := q); omega) with g | g
  · exact absurd g h
  · exact g
theorem dl0_ag : pe_ag (pe_pt dl0) rn_S0 := by
  refine pe_ag_iff.mpr ⟨fun q k _ b => ?_, fun q k _ b => ?_, fun q k _ b => ?_, fun q _ b => ?_, fun q k _ b => ?_⟩ <;> rw [dl0_cl b] <;> rfl
theorem pe_RL_lp {σ : Nat → Value} {lv : rn_L} : ∀ {l : List (Nat × Nat)}, (∀ p ∈ l, p.2 < 4722366482869645213696 ∧ rn_lk p.1 lv = some (pe_dv σ p.2)) → pe_RL σ (pe_lp l) lv
  | [], _ => fun j hj => absurd pe_lg_0 hj
  | p :: l, h => by
    intro j hj
    obtain ⟨h1, h2⟩ := h p List.mem_cons_self
    have e : pe_lp (p :: l) = pe_ls (pe_lp l) p.1 p.2 := rfl
    rw [e, pe_lg_ls h1] at hj ⊢
    by_cases g : j = p.1
    · rw [if_pos g, g]; exact h2
    · rw [if_neg g] at hj ⊢
      exact pe_RL_lp (fun p hp => h p (List.mem_cons_of_mem _ hp)) j hj
set_option maxRecDepth 100000 in
theorem rn_start {X : rn_X} {out : Option Value × Nat × Nat × rn_H} (hn : rn_rv X 81 (4, [(1, .ref 0), (0, .ref 1000000)], [], 318, 6 + 7450, rn_blk 0 318 rn_h0) out) : rn_rv X 81 (0, [(0, .ref 1000000)], [], 0, 0, rn_h0) out := by
  have qm := rn_m81
  refine rn_eg qm 2 (s2 := (2, [(0, .ref 1000000)], [.ref 0, .ref 0], 1, 6, rn_up rn_h0 0 (.inr (8, rn_dv 8)))) rfl ?_
  refine rn_ec qm rfl rfl rfl rfl rn_m0 rfl rfl rfl (fun _ => rn_rc_of rn_up_s) CBtop ?_
  refine rn_eg qm 1 (s2 := (4, [(1, .ref 0), (0, .ref 1000000)], [], 318, 6 + 7450, rn_blk 0 318 rn_h0)) rfl ?_
  exact hn
def lwl : List (Nat × Nat) := [(1, 3), (0, 8000003)]
theorem pe_from {X : rn_X} (h : pe_En X 318 318 7456 4 (pe_lp lwl) [] rn_S0) : ∃ (f : Nat) (h1 : rn_H), rn_x X rn_dv rn_ms f 81 (0, [(0, .ref 1000000)], [], 0, 0, rn_h0) = some (some (.int 1), 320, 7476, h1) := by
  obtain ⟨h1, hr⟩ := h [(1, .ref 0), (0, .ref 1000000)] (rn_blk 0 318 rn_h0) (pe_RL_lp (fun p hp => by
    rcases List.mem_cons.mp hp with e | hp
    · subst e; exact ⟨by decide, rfl⟩
    · rcases List.mem_cons.mp hp with e | hp
      · subst e; exact ⟨by decide, rfl⟩
      · exact absurd hp List.not_mem_nil)) (fun q hq => rn_blk_in ⟨Nat.zero_le _, by omega⟩)
  obtain ⟨f, hf⟩ := rn_start hr
  exact ⟨f, h1, hf⟩
/-- with the law's two arrays -/
def pe_nw (S : rn_T) : rn_T := wAc (wAc S 318 (fun _ => 0)) 319 (fun _ => 0)
theorem pe_nw_ag {d : Nat} {S : rn_T} (h : pe_ag d S) (h1 : ∀ k, k < 100 → pe_cl d 318 k = 0 ∧ pe_cl d 319 k = 0) : pe_ag d (pe_nw S) := by
  obtain ⟨a1, a2, a3, a4, a5⟩ := pe_ag_iff.mp h
  refine pe_ag_iff.mpr ⟨a1, fun q k a b => ?_, a3, a4, a5⟩
  have hk : k < pe_bl q := Nat.lt_of_not_le fun g => b (if_neg (by omega))
  have hk2 : k < 100 := by have := pe_bl_100 (q := q); omega
  by_cases e : q = 318
  · rw [e] at b; exact absurd (h1 k hk2).1 b
  · by_cases e2 : q = 319
    · rw [e2] at b; exact absurd (h1 k hk2).2 b
    · rw [← a2 q k a b]
      unfold pe_nw wAc rA
      simp only
      rw [rn_vn e2, rn_vn e]
theorem pe_alloc {X : rn_X} {S : rn_T} (hE : pe_En X 320 320 7476 480 (pe_lp ((8, 2547) :: lwl)) [2555] (pe_nw S)) : pe_En X 318 318 7456 476 (pe_lp lwl) [65] S := by
  intro lv h hL hH
  have qm := rn_m81
  have hlv : pe_RL σ0 (pe_lp ((8, 2547) :: lwl)) ((8, .ref 318) :: rn_fl 8 lv) := pe_RL_st (w := .ref 318) hL (by decide +kernel) (by decide) rfl
  have hh : ∀ q, q < 320 → rn_up (rn_up h 318 (rn_z 0 8)) 319 (rn_z 0 12) q = rn_en (pe_nw S) q := by
    intro q hq
    by_cases e2 : q = 319
    · subst e2
      rw [rn_up_s]
      unfold pe_nw
      rw [rn_en_sAc (k := 0)]
      rfl
    · rw [rn_up_n e2]
      by_cases e : q = 318
      · subst e
        rw [rn_up_s]
        unfold pe_nw
        rw [rn_en_wAc (k := 0) (by decide), rn_en_sAc (k := 0)]
        rfl
      · rw [rn_up_n e]
        unfold pe_nw
        rw [rn_en_wAc (k := 0) e2, rn_en_wAc (k := 0) e]
        exact hH q (by omega)
  obtain ⟨h1, hr⟩ := hE _ _ hlv hh
  refine ⟨h1, ?_⟩
  refine rn_e1 qm (s2 := (477, lv, [.ref 318], 319, 7456 + 8, rn_up h 318 (rn_z 0 8))) (rn_g_newa (N := 318) (t := 0) (n := (8 : Int32)) rfl rfl rfl (by decide)) ?_
  refine rn_eg qm 2 (s2 := (479, (8, .ref 318) :: rn_fl 8 lv, [.int 12], 319, 7456 + 8, rn_up h 318 (rn_z 0 8))) rfl ?_
  refine rn_e1 qm (s2 := (480, (8, .ref 318) :: rn_fl 8 lv, [.ref 319], 320, 7456 + 8 + 12, rn_up (rn_up h 318 (rn_z 0 8)) 319 (rn_z 0 12))) (rn_g_newa (N := 319) (t := 0) (n := (12 : Int32)) rfl rfl rfl (by decide)) ?_
  exact hr
