/-! 61: endOf tells where a term ends -/
theorem end_tms {R : Nat → Nat → Prop} {M : rn_T} {x : Int32} {n D : Nat} (hR : ∀ p e, R p e → p < e) (h : ∀ p e, R p e → e ≤ 40 → D ≤ p → ∃ j, j ≤ e - p ∧ ∀ g k, f49_L6 x (g + j) M (nI p) (nI n) (nI D) k = f49_L6 x g M (nI e) (nI n) (nI D) k) : ∀ {kk p q}, tms R kk p q → q ≤ 40 → D ≤ p → ∃ j, j ≤ q - p ∧ ∀ g k, f49_L6 x (g + j) M (nI p) (nI n) (nI D) k = f49_L6 x g M (nI q) (nI n) (nI D) k := by
  intro kk
  induction kk with
  | zero =>
    intro p q ht hq hD
    have : p = q := ht
    subst this
    exact ⟨0, by omega, fun g k => rfl⟩
  | succ kk ih =>
    rintro p q ⟨m, h1, h2⟩ hq hD
    have hpm := hR p m h1
    have hmq := tms_lt hR h2
    obtain ⟨j1, a1, a2⟩ := h p m h1 (by omega) hD
    obtain ⟨j2, b1, b2⟩ := ih h2 hq (by omega)
    refine ⟨j2 + j1, by omega, fun g k => ?_⟩
    rw [← Nat.add_assoc, a2, b2]
theorem end_tm {M : rn_T} {A : rn_AT} {s : Nat} {E : Nat → Nat} (h : PM M A) (ho : OKA A) (hs : s < 8) : ∀ {d p e}, tm (aC A s) (aO A) s E d p e → e ≤ 40 → ∀ n D, 0 < n → n < 100 → D ≤ p → ∃ j, j ≤ e - p ∧ ∀ g k, f49_L6 (nI s) (g + j) M (nI p) (nI n) (nI D) k = f49_L6 (nI s) g M (nI e) (nI (if D = 0 then n - 1 else n)) (nI D) k := by
  intro d
  induction d with
  | zero => intro p e ht; exact ht.elim
  | succ d ih =>
    intro p e ht he n D hn hn2 hD
    have hlt := tm_lt ht
    obtain ⟨h0, ht⟩ := ht
    have st : ∀ g k, (aC A s p = 41 ∨ aC A s p = 93 → 0 < D) → _ := fun g k hh => ma_estep (g := g) (k := k) (n := n) (D := D) h ho hs (show p < 40 by omega) hn hn2 (by omega) hh
    rcases ht with ⟨h1, h2⟩ | ⟨h1, h2, h3, h4⟩ | ⟨h1, h2, h3, h4⟩ | ⟨h1, h2, h3, h4⟩ | ⟨kk, q, h1, h2, h3, h4, h5⟩
    · unfold isP at h1
      refine ⟨1, by omega, fun g k => ?_⟩
      rw [st g k (by omega)]
      have hd : dstep (aC A s p) D = D := by unfold dstep; rw [if_neg (by omega), if_neg (by omega)]
      have hm : mstep A (aC A s p) = false := by unfold mstep; rw [decide_eq_false (by omega)]; rfl
      unfold nstep
      rw [hd, hm, if_neg (show ¬ aC A s p = 101 by omega), h2]
      simp only [and_true]
    · refine ⟨1, by omega, fun g k => ?_⟩
      rw [st g k (by omega)]
      have hd : dstep (aC A s p) D = D := by unfold dstep; rw [if_neg (by omega), if_neg (by omega)]
      have hm : mstep A (aC A s p) = false := by unfold mstep; rw [decide_eq_false (by omega)]; rfl
      unfold nstep
      rw [hd, hm, if_pos h1, h4]
      simp only [and_true]
    · have hL : 65 ≤ aC A s p ∧ aC A s p < 73 := h1
      refine ⟨1, by omega, fun g k => ?_⟩
      rw [st g k (by omega)]
      have hd : dstep (aC A s p) D = D := by unfold dstep; rw [if_neg (by omega), if_neg (by omega)]
      have hm : mstep A (aC A s p) = false := by unfold mstep; rw [h3, Bool.and_false]
      unfold nstep
      rw [hd, hm, if_neg (show ¬ aC A s p = 101 by omega), h4]
      simp only [and_true]
    · have hL : 65 ≤ aC A s p ∧ aC A s p < 73 := h1
      have hlt2 := tm_lt h4
      obtain ⟨j, a1, a2⟩ := ih h4 he n D hn hn2 (by omega)
      refine ⟨j + 1, by omega, fun g k => ?_⟩
      rw [← Nat.add_assoc, st (g + j) k (by omega)]
      have hd : dstep (aC A s p) D = D := by unfold dstep; rw [if_neg (by omega), if_neg (by omega)]
      have hm : mstep A (aC A s p) = true := by unfold mstep; rw [decide_eq_true hL, h3]; rfl
      unfold nstep
      rw [hd, hm, if_neg (show ¬ aC A s p = 101 by omega), if_neg (show ¬ (D = 0 ∧ true = false) from fun hx => Bool.noConfusion hx.2), a2]
    · have hq := tms_lt (fun _ _ => tm_lt) h4
      obtain ⟨j, a1, a2⟩ := end_tms (x := nI s) (M := M) (n := n) (D := D + 1) (fun _ _ => tm_lt) (fun a b hab hb hD2 => by
        obtain ⟨j, c1, c2⟩ := ih hab hb n (D + 1) hn hn2 hD2
        refine ⟨j, c1, fun g k => ?_⟩
        rw [c2, if_neg (show ¬ D + 1 = 0 by omega)]) h4 (by omega) (by omega)
      refine ⟨1 + (j + 1), by omega, fun g k => ?_⟩
      rw [← Nat.add_assoc, ← Nat.add_assoc, st (g + 1 + j) k (by omega)]
      have hd : dstep (aC A s p) D = D + 1 := by unfold dstep; rw [if_pos (by omega)]
      unfold nstep
      rw [hd, if_neg (show ¬ aC A s p = 101 by omega), if_neg (show ¬ (D + 1 = 0 ∧ mstep A (aC A s p) = false) by omega), a2]
      rw [ma_estep h ho hs (show q < 40 by omega) hn hn2 (show D + 1 < 100 by omega) (fun _ => by omega)]
      have hd2 : dstep (aC A s q) (D + 1) = D := by unfold dstep; rw [if_neg (by omega), if_pos (by omega)]; rfl
      have hm : mstep A (aC A s q) = false := by unfold mstep; rw [decide_eq_false (by omega)]; rfl
      unfold nstep
      rw [hd2, hm, if_neg (show ¬ aC A s q = 101 by omega), h5]
      simp only [and_true]
theorem ma_f49 {M : rn_T} {A : rn_AT} {s p e : Nat} {E : Nat → Nat} (h : PM M A) (ho : OKA A) (hs : s < 8) (ht : TM (aC A s) (aO A) s E p e) (he : e ≤ 40) : f49 M (nI s) (nI p) = some (nI e) := by
  obtain ⟨d, ht⟩ := ht
  obtain ⟨j, a1, a2⟩ := end_tm h ho hs ht he 1 0 (by omega) (by omega) (by omega)
  have hlt := tm_lt ht
  unfold f49
  have := a2 (rn_FU - j) (fun M17 w17_3 => some w17_3)
  rw [show rn_FU - j + j = rn_FU from by unfold rn_FU; omega] at this
  refine (show _ = _ from this).trans ?_
  obtain ⟨g, hg⟩ : ∃ g, rn_FU - j = g + 1 := ⟨rn_FU - j - 1, by unfold rn_FU; omega⟩
  rw [hg, if_pos rfl, f49_L6, if_pos (by decide)]
