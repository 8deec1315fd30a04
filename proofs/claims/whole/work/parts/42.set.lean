/-! 42: one thing changed on both sides -/
def sC (A : rn_AT) (s i v : Nat) : rn_AT := (fun s2 i2 => if s2 = s ∧ i2 = i then v else aC A s2 i2, A.2)
def sN (A : rn_AT) (s v : Nat) : rn_AT := (A.1, fun s2 => if s2 = s then v else aN A s2, A.2.2)
def sL (A : rn_AT) (i v : Nat) : rn_AT := (A.1, A.2.1, fun i2 => if i2 = i then v else aL A i2, A.2.2.2)
def sK (A : rn_AT) (v : Nat) : rn_AT := (A.1, A.2.1, A.2.2.1, v, A.2.2.2.2)
def sM (A : rn_AT) (i v : Nat) : rn_AT := (A.1, A.2.1, A.2.2.1, A.2.2.2.1, fun i2 => if i2 = i then v else aM A i2, A.2.2.2.2.2)
def sW (A : rn_AT) (v : Nat) : rn_AT := (A.1, A.2.1, A.2.2.1, A.2.2.2.1, A.2.2.2.2.1, v)
theorem ps_C {S : rn_T} {A : rn_AT} {s i v : Nat} (h : PS S A) (hs : s < 8) : PS (wA S (6 + 2 * s) i (nI v)) (sC A s i v) := by
  obtain ⟨h1, h2, h3, h4, h5, h6⟩ := h
  refine ⟨h1, fun s2 hs2 i2 hi2 => ?_, h3, h4, fun i2 hi2 => ?_, h6⟩
  · by_cases e : s2 = s ∧ i2 = i
    · obtain ⟨rfl, rfl⟩ := e
      rw [ra_A]; simp only [sC, aC, and_self, if_true]
    · rw [ra_An (by omega), h2 s2 hs2 i2 hi2]; simp only [sC, aC, if_neg e]
  · rw [ra_An (by omega)]; exact h5 i2 hi2
theorem ps_N {S : rn_T} {A : rn_AT} {s v : Nat} (h : PS S A) (hs : s < 8) : PS (wI S (5 + 2 * s) 1 (nI v)) (sN A s v) := by
  obtain ⟨h1, h2, h3, h4, h5, h6⟩ := h
  refine ⟨fun s2 hs2 => ?_, h2, h3, ?_, h5, ?_⟩
  · by_cases e : s2 = s
    · subst e
      rw [ra_I]; simp only [sN, aN, if_true]
    · rw [ra_In (by omega), h1 s2 hs2]; simp only [sN, aN, if_neg e]
  · rw [ra_In (by omega)]; exact h4
  · rw [ra_In (by omega)]; exact h6
theorem ps_L {S : rn_T} {A : rn_AT} {i v : Nat} (h : PS S A) : PS (wL S 3 i (lN v)) (sL A i v) := by
  obtain ⟨h1, h2, h3, h4, h5, h6⟩ := h
  refine ⟨h1, h2, fun i2 hi2 => ?_, h4, h5, h6⟩
  by_cases e : i2 = i
  · subst e
    rw [ra_L]; simp only [sL, aL, if_true]
  · rw [ra_Ln (by omega), h3 i2 hi2]; simp only [sL, aL, if_neg e]
theorem ps_K {S : rn_T} {A : rn_AT} {v : Nat} (h : PS S A) : PS (wI S 1 3 (nI v)) (sK A v) := by
  obtain ⟨h1, h2, h3, h4, h5, h6⟩ := h
  refine ⟨fun s2 hs2 => ?_, h2, h3, ra_I, h5, ?_⟩
  · rw [ra_In (by omega)]; exact h1 s2 hs2
  · rw [ra_In (by omega)]; exact h6
theorem ps_M {S : rn_T} {A : rn_AT} {i v : Nat} (h : PS S A) : PS (wA S 4 i (nI v)) (sM A i v) := by
  obtain ⟨h1, h2, h3, h4, h5, h6⟩ := h
  refine ⟨h1, fun s2 hs2 i2 hi2 => ?_, h3, h4, fun i2 hi2 => ?_, h6⟩
  · rw [ra_An (by omega)]; exact h2 s2 hs2 i2 hi2
  · by_cases e : i2 = i
    · subst e
      rw [ra_A]; simp only [sM, aM, if_true]
    · rw [ra_An (by omega), h5 i2 hi2]; simp only [sM, aM, if_neg e]
theorem ps_W {S : rn_T} {A : rn_AT} {v : Nat} (h : PS S A) : PS (wI S 1 4 (nI v)) (sW A v) := by
  obtain ⟨h1, h2, h3, h4, h5, h6⟩ := h
  refine ⟨fun s2 hs2 => ?_, h2, h3, ?_, h5, ra_I⟩
  · rw [ra_In (by omega)]; exact h1 s2 hs2
  · rw [ra_In (by omega)]; exact h4
theorem pm_C {M : rn_T} {A : rn_AT} {s i v : Nat} (h : PM M A) (hi : i < 40) : PM (wA M 319 (40 * s + i) (nI v)) (sC A s i v) := by
  obtain ⟨h1, h2, h3, h4, h5, h6⟩ := h
  refine ⟨fun s2 hs2 => ?_, fun s2 hs2 i2 hi2 => ?_, h3, h4, fun i2 hi2 => ?_, h6⟩
  · rw [ra_An (by omega)]; exact h1 s2 hs2
  · by_cases e : s2 = s ∧ i2 = i
    · obtain ⟨rfl, rfl⟩ := e
      rw [ra_A]; simp only [sC, aC, and_self, if_true]
    · rw [ra_An (by omega), h2 s2 hs2 i2 hi2]; simp only [sC, aC, if_neg e]
  · rw [ra_An (by omega)]; exact h5 i2 hi2
theorem pm_N {M : rn_T} {A : rn_AT} {s v : Nat} (h : PM M A) : PM (wA M 320 s (nI v)) (sN A s v) := by
  obtain ⟨h1, h2, h3, h4, h5, h6⟩ := h
  refine ⟨fun s2 hs2 => ?_, fun s2 hs2 i2 hi2 => ?_, h3, h4, fun i2 hi2 => ?_, h6⟩
  · by_cases e : s2 = s
    · subst e
      rw [ra_A]; simp only [sN, aN, if_true]
    · rw [ra_An (by omega), h1 s2 hs2]; simp only [sN, aN, if_neg e]
  · rw [ra_An (by omega)]; exact h2 s2 hs2 i2 hi2
  · rw [ra_An (by omega)]; exact h5 i2 hi2
theorem pm_L {M : rn_T} {A : rn_AT} {i v : Nat} (h : PM M A) : PM (wL M 345 i (lN v)) (sL A i v) := by
  obtain ⟨h1, h2, h3, h4, h5, h6⟩ := h
  refine ⟨h1, h2, fun i2 hi2 => ?_, h4, h5, h6⟩
  by_cases e : i2 = i
  · subst e
    rw [ra_L]; simp only [sL, aL, if_true]
  · rw [ra_Ln (by omega), h3 i2 hi2]; simp only [sL, aL, if_neg e]
theorem pm_K {M : rn_T} {A : rn_AT} {v : Nat} (h : PM M A) : PM (wI M 318 33 (nI v)) (sK A v) := by
  obtain ⟨h1, h2, h3, h4, h5, h6⟩ := h
  exact ⟨h1, h2, h3, ra_I, h5, by rw [ra_In (by omega)]; exact h6⟩
theorem pm_M {M : rn_T} {A : rn_AT} {i v : Nat} (h : PM M A) : PM (wA M 346 i (nI v)) (sM A i v) := by
  obtain ⟨h1, h2, h3, h4, h5, h6⟩ := h
  refine ⟨fun s2 hs2 => ?_, fun s2 hs2 i2 hi2 => ?_, h3, h4, fun i2 hi2 => ?_, h6⟩
  · rw [ra_An (by omega)]; exact h1 s2 hs2
  · rw [ra_An (by omega)]; exact h2 s2 hs2 i2 hi2
  · by_cases e : i2 = i
    · subst e
      rw [ra_A]; simp only [sM, aM, if_true]
    · rw [ra_An (by omega), h5 i2 hi2]; simp only [sM, aM, if_neg e]
theorem pm_W {M : rn_T} {A : rn_AT} {v : Nat} (h : PM M A) : PM (wI M 318 2 (nI v)) (sW A v) := by
  obtain ⟨h1, h2, h3, h4, h5, h6⟩ := h
  exact ⟨h1, h2, h3, by rw [ra_In (by omega)]; exact h4, h5, ra_I⟩
theorem ok_C {A : rn_AT} {s i v : Nat} (h : OKA A) (h1 : 33 ≤ v) (h2 : v ≤ 126) : OKA (sC A s i v) := by
  obtain ⟨k1, k2, k3, k4⟩ := h
  refine ⟨k1, fun s2 hs2 i2 hi2 => ?_, fun s2 hs2 i2 hi2 => ?_, k4⟩
  · have := k2 s2 hs2 i2 hi2
    simp only [sC, aC] at this ⊢
    split <;> omega
  · have := k3 s2 hs2 i2 hi2
    simp only [sC, aC] at this ⊢
    split <;> omega
theorem ok_N {A : rn_AT} {s v : Nat} (h : OKA A) (h1 : v ≤ 40) (h2 : s < 8 → ∀ i, i < v → 33 ≤ aC A s i) : OKA (sN A s v) := by
  obtain ⟨k1, k2, k3, k4⟩ := h
  refine ⟨fun s2 hs2 => ?_, k2, fun s2 hs2 i2 hi2 => ?_, k4⟩
  · have := k1 s2 hs2
    simp only [sN, aN] at this ⊢
    split <;> omega
  · by_cases e : s2 = s
    · subst e
      simp only [sN, aN, if_true] at hi2
      exact h2 hs2 i2 hi2
    · simp only [sN, aN, if_neg e] at hi2
      exact k3 s2 hs2 i2 hi2
theorem ok_L {A : rn_AT} {i v : Nat} (h : OKA A) (h1 : v ≤ 4294967295) : OKA (sL A i v) := by
  obtain ⟨k1, k2, k3, k4, k5, k6⟩ := h
  refine ⟨k1, k2, k3, k4, fun i2 hi2 => ?_, k6⟩
  have := k5 i2 hi2
  simp only [sL, aL] at this ⊢
  split <;> omega
theorem ok_K {A : rn_AT} {v : Nat} (h : OKA A) (h1 : v ≤ 60) : OKA (sK A v) := by
  obtain ⟨k1, k2, k3, k4, k5, k6⟩ := h
  exact ⟨k1, k2, k3, h1, k5, k6⟩
theorem ok_M {A : rn_AT} {i v : Nat} (h : OKA A) (h1 : v < 256) : OKA (sM A i v) := by
  obtain ⟨k1, k2, k3, k4, k5, k6, k7⟩ := h
  refine ⟨k1, k2, k3, k4, k5, fun i2 hi2 => ?_, k7⟩
  have := k6 i2 hi2
  simp only [sM, aM] at this ⊢
  split <;> omega
theorem ok_W {A : rn_AT} {v : Nat} (h : OKA A) (h1 : v < 2) : OKA (sW A v) := by
  obtain ⟨k1, k2, k3, k4, k5, k6, k7⟩ := h
  exact ⟨k1, k2, k3, k4, k5, k6, h1⟩
