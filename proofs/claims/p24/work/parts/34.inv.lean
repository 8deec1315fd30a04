/-! what a step that goes on tells -/
theorem pe_Bi {b : Bool} {t : pe_T} {r : pe_R} (h : @Bool.rec (fun _ => pe_T) none t b = some r) : b = true ∧ t = some r := by
  cases b with
  | false => cases h
  | true => exact ⟨rfl, h⟩
theorem pe_Bn {b : Bool} {f : pe_T} {r : pe_R} (h : @Bool.rec (fun _ => pe_T) f none b = some r) : b = false ∧ f = some r := by
  cases b with
  | false => exact ⟨rfl, h⟩
  | true => cases h
theorem pe_Bo {b : Bool} {t f : pe_T} {r : pe_R} (h : @Bool.rec (fun _ => pe_T) f t b = some r) : (b = true ∧ t = some r) ∨ (b = false ∧ f = some r) := by
  cases b with
  | false => exact Or.inr ⟨rfl, h⟩
  | true => exact Or.inl ⟨rfl, h⟩
theorem pe_Li {st : List Nat} {k : Nat → List Nat → pe_T} {r : pe_R} (h : @List.rec Nat (fun _ => pe_T) none (fun x s _ => k x s) st = some r) : ∃ x s, st = x :: s ∧ k x s = some r := by
  cases st with
  | nil => cases h
  | cons x s => exact ⟨x, s, rfl, h⟩
theorem pe_kc_i {v : Nat} {L : Nat} {st : List Nat} {c : Nat} {N : pe_N} {J : pe_J} {res : pe_R} (h : pe_kc v L st c N J = some res) : (N L (v :: st) c) = some res := by
  exact h
theorem pe_kl_i {t : Nat} {j : Nat} {L : Nat} {st : List Nat} {c : Nat} {N : pe_N} {J : pe_J} {res : pe_R} (h : pe_kl t j L st c N J = some res) : Nat.beq (Nat.mod (pe_lg L j) 8) t = true ∧ (N L ((pe_lg L j) :: st) c) = some res := by
  obtain ⟨b1, h⟩ := pe_Bi h
  exact ⟨b1, h⟩
theorem pe_ka_i {j : Nat} {L : Nat} {st : List Nat} {c : Nat} {N : pe_N} {J : pe_J} {res : pe_R} (h : pe_ka j L st c N J = some res) : pe_a (pe_lg L j) = true ∧ (N L ((pe_lg L j) :: st) c) = some res := by
  obtain ⟨b1, h⟩ := pe_Bi h
  exact ⟨b1, h⟩
theorem pe_k2_i {g : Nat → Nat → Nat} {L : Nat} {st : List Nat} {c : Nat} {N : pe_N} {J : pe_J} {res : pe_R} (h : pe_k2 g L st c N J = some res) : ∃ y x r, st = y :: x :: r ∧ (pe_ii x y = true ∧ (N L (g x y :: r) c) = some res) := by
  obtain ⟨y, r, rfl, h⟩ := pe_Li h
  obtain ⟨x, r, rfl, h⟩ := pe_Li h
  obtain ⟨b1, h⟩ := pe_Bi h
  exact ⟨y, x, r, rfl, ⟨b1, h⟩⟩
theorem pe_kj2_i {g : Nat → Nat → Nat} {L : Nat} {st : List Nat} {c : Nat} {N : pe_N} {J : pe_J} {res : pe_R} (h : pe_kj2 g L st c N J = some res) : ∃ y x r, st = y :: x :: r ∧ (pe_j x = true ∧ pe_j y = true ∧ (N L (g x y :: r) c) = some res) := by
  obtain ⟨y, r, rfl, h⟩ := pe_Li h
  obtain ⟨x, r, rfl, h⟩ := pe_Li h
  obtain ⟨b1, h⟩ := pe_Bi h
  obtain ⟨b2, h⟩ := pe_Bi h
  exact ⟨y, x, r, rfl, ⟨b1, b2, h⟩⟩
theorem pe_kji_i {g : Nat → Nat → Nat} {L : Nat} {st : List Nat} {c : Nat} {N : pe_N} {J : pe_J} {res : pe_R} (h : pe_kji g L st c N J = some res) : ∃ y x r, st = y :: x :: r ∧ (pe_j x = true ∧ pe_i y = true ∧ (N L (g x y :: r) c) = some res) := by
  obtain ⟨y, r, rfl, h⟩ := pe_Li h
  obtain ⟨x, r, rfl, h⟩ := pe_Li h
  obtain ⟨b1, h⟩ := pe_Bi h
  obtain ⟨b2, h⟩ := pe_Bi h
  exact ⟨y, x, r, rfl, ⟨b1, b2, h⟩⟩
theorem pe_k1_i {g1 : Nat → Nat} {L : Nat} {st : List Nat} {c : Nat} {N : pe_N} {J : pe_J} {res : pe_R} (h : pe_k1 g1 L st c N J = some res) : ∃ x r, st = x :: r ∧ (pe_i x = true ∧ (N L (g1 x :: r) c) = some res) := by
  obtain ⟨x, r, rfl, h⟩ := pe_Li h
  obtain ⟨b1, h⟩ := pe_Bi h
  exact ⟨x, r, rfl, ⟨b1, h⟩⟩
theorem pe_kj1_i {g1 : Nat → Nat} {L : Nat} {st : List Nat} {c : Nat} {N : pe_N} {J : pe_J} {res : pe_R} (h : pe_kj1 g1 L st c N J = some res) : ∃ x r, st = x :: r ∧ (pe_j x = true ∧ (N L (g1 x :: r) c) = some res) := by
  obtain ⟨x, r, rfl, h⟩ := pe_Li h
  obtain ⟨b1, h⟩ := pe_Bi h
  exact ⟨x, r, rfl, ⟨b1, h⟩⟩
theorem pe_kd_i {g : Nat → Nat → Nat} {L : Nat} {st : List Nat} {c : Nat} {N : pe_N} {J : pe_J} {res : pe_R} (h : pe_kd g L st c N J = some res) : ∃ y x r, st = y :: x :: r ∧ (pe_ii x y = true ∧ Nat.beq y 1 = false ∧ (N L (g x y :: r) c) = some res) := by
  obtain ⟨y, r, rfl, h⟩ := pe_Li h
  obtain ⟨x, r, rfl, h⟩ := pe_Li h
  obtain ⟨b1, h⟩ := pe_Bi h
  obtain ⟨b2, h⟩ := pe_Bn h
  exact ⟨y, x, r, rfl, ⟨b1, b2, h⟩⟩
theorem pe_kdup_i  {L : Nat} {st : List Nat} {c : Nat} {N : pe_N} {J : pe_J} {res : pe_R} (h : pe_kdup L st c N J = some res) : ∃ x r, st = x :: r ∧ ((Nat.beq (Nat.mod x 8) 1 = true ∧ (N L (x :: x :: r) c) = some res) ∨ (Nat.beq (Nat.mod x 8) 1 = false ∧ Nat.beq (Nat.mod x 8) 3 = true ∧ (N L (x :: x :: r) c) = some res)) := by
  obtain ⟨x, r, rfl, h⟩ := pe_Li h
  rcases pe_Bo h with ⟨b1, h⟩ | ⟨b1, h⟩
  · exact ⟨x, r, rfl, Or.inl ⟨b1, h⟩⟩
  · obtain ⟨b2, h⟩ := pe_Bi h
    exact ⟨x, r, rfl, Or.inr (⟨b1, b2, h⟩)⟩
theorem pe_kdup2_i  {L : Nat} {st : List Nat} {c : Nat} {N : pe_N} {J : pe_J} {res : pe_R} (h : pe_kdup2 L st c N J = some res) : ∃ x q r, st = x :: q :: r ∧ (Nat.beq (Nat.mod x 8) 1 = true ∧ Nat.beq (Nat.mod q 8) 3 = true ∧ (N L (x :: q :: x :: q :: r) c) = some res) := by
  obtain ⟨x, r, rfl, h⟩ := pe_Li h
  obtain ⟨q, r, rfl, h⟩ := pe_Li h
  obtain ⟨b1, h⟩ := pe_Bi h
  obtain ⟨b2, h⟩ := pe_Bi h
  exact ⟨x, q, r, rfl, ⟨b1, b2, h⟩⟩
theorem pe_kpop_i  {L : Nat} {st : List Nat} {c : Nat} {N : pe_N} {J : pe_J} {res : pe_R} (h : pe_kpop L st c N J = some res) : ∃ x r, st = x :: r ∧ (Nat.beq (Nat.mod x 8) 1 = true ∧ (N L r c) = some res) := by
  obtain ⟨x, r, rfl, h⟩ := pe_Li h
  obtain ⟨b1, h⟩ := pe_Bi h
  exact ⟨x, r, rfl, ⟨b1, h⟩⟩
theorem pe_kgi_i {n : Nat} {m : Nat} {k : Nat} {L : Nat} {st : List Nat} {c : Nat} {N : pe_N} {J : pe_J} {res : pe_R} (h : pe_kgi n m k L st c N J = some res) : ∃ x r, st = x :: r ∧ (pe_q n m x = true ∧ Nat.beq (Nat.mod (pe_cg c (Nat.add (pe_bs (Nat.div x 8)) k)) 8) 1 = true ∧ (N L ((pe_cg c (Nat.add (pe_bs (Nat.div x 8)) k)) :: r) c) = some res) := by
  obtain ⟨x, r, rfl, h⟩ := pe_Li h
  obtain ⟨b1, h⟩ := pe_Bi h
  obtain ⟨b2, h⟩ := pe_Bi h
  exact ⟨x, r, rfl, ⟨b1, b2, h⟩⟩
theorem pe_kgr_i {n : Nat} {m : Nat} {k : Nat} {L : Nat} {st : List Nat} {c : Nat} {N : pe_N} {J : pe_J} {res : pe_R} (h : pe_kgr n m k L st c N J = some res) : ∃ x r, st = x :: r ∧ (pe_q n m x = true ∧ pe_a (pe_cg c (Nat.add (pe_bs (Nat.div x 8)) k)) = true ∧ (N L ((pe_cg c (Nat.add (pe_bs (Nat.div x 8)) k)) :: r) c) = some res) := by
  obtain ⟨x, r, rfl, h⟩ := pe_Li h
  obtain ⟨b1, h⟩ := pe_Bi h
  obtain ⟨b2, h⟩ := pe_Bi h
  exact ⟨x, r, rfl, ⟨b1, b2, h⟩⟩
theorem pe_kgc_i {n : Nat} {m : Nat} {o : Nat} {L : Nat} {st : List Nat} {c : Nat} {N : pe_N} {J : pe_J} {res : pe_R} (h : pe_kgc n m o L st c N J = some res) : ∃ x r, st = x :: r ∧ (pe_q n m x = true ∧ (N L (Nat.add x (Nat.mul 8 o) :: r) c) = some res) := by
  obtain ⟨x, r, rfl, h⟩ := pe_Li h
  obtain ⟨b1, h⟩ := pe_Bi h
  exact ⟨x, r, rfl, ⟨b1, h⟩⟩
theorem pe_kal_i {n : Nat} {m : Nat} {t : Nat} {L : Nat} {st : List Nat} {c : Nat} {N : pe_N} {J : pe_J} {res : pe_R} (h : pe_kal n m t L st c N J = some res) : ∃ i x r, st = i :: x :: r ∧ (pe_q n m x = true ∧ Nat.beq (Nat.mod i 8) 1 = true ∧ Nat.ble (Nat.succ (Nat.div i 8)) (pe_bl (Nat.div x 8)) = true ∧ Nat.beq (Nat.mod (pe_cg c (Nat.add (pe_bs (Nat.div x 8)) (Nat.div i 8))) 8) t = true ∧ (N L ((pe_cg c (Nat.add (pe_bs (Nat.div x 8)) (Nat.div i 8))) :: r) c) = some res) := by
  obtain ⟨i, r, rfl, h⟩ := pe_Li h
  obtain ⟨x, r, rfl, h⟩ := pe_Li h
  obtain ⟨b1, h⟩ := pe_Bi h
  obtain ⟨b2, h⟩ := pe_Bi h
  obtain ⟨b3, h⟩ := pe_Bi h
  obtain ⟨b4, h⟩ := pe_Bi h
  exact ⟨i, x, r, rfl, ⟨b1, b2, b3, b4, h⟩⟩
theorem pe_kar_i {n : Nat} {m : Nat} {L : Nat} {st : List Nat} {c : Nat} {N : pe_N} {J : pe_J} {res : pe_R} (h : pe_kar n m L st c N J = some res) : ∃ i x r, st = i :: x :: r ∧ (pe_q n m x = true ∧ Nat.beq (Nat.mod i 8) 1 = true ∧ Nat.ble (Nat.succ (Nat.div i 8)) (pe_bl (Nat.div x 8)) = true ∧ pe_a (pe_cg c (Nat.add (pe_bs (Nat.div x 8)) (Nat.div i 8))) = true ∧ (N L ((pe_cg c (Nat.add (pe_bs (Nat.div x 8)) (Nat.div i 8))) :: r) c) = some res) := by
  obtain ⟨i, r, rfl, h⟩ := pe_Li h
  obtain ⟨x, r, rfl, h⟩ := pe_Li h
  obtain ⟨b1, h⟩ := pe_Bi h
  obtain ⟨b2, h⟩ := pe_Bi h
  obtain ⟨b3, h⟩ := pe_Bi h
  obtain ⟨b4, h⟩ := pe_Bi h
  exact ⟨i, x, r, rfl, ⟨b1, b2, b3, b4, h⟩⟩
theorem pe_kac_i {n : Nat} {m : Nat} {w : Nat} {d : Nat} {s : Nat} {L : Nat} {st : List Nat} {c : Nat} {N : pe_N} {J : pe_J} {res : pe_R} (h : pe_kac n m w d s L st c N J = some res) : ∃ i x r, st = i :: x :: r ∧ (pe_q n m x = true ∧ Nat.beq (Nat.mod i 8) 1 = true ∧ Nat.ble (Nat.succ (Nat.div i 8)) w = true ∧ (N L (Nat.add (Nat.mul 8 (Nat.add (Nat.add (Nat.div x 8) d) (Nat.mul s (Nat.div i 8)))) 3 :: r) c) = some res) := by
  obtain ⟨i, r, rfl, h⟩ := pe_Li h
  obtain ⟨x, r, rfl, h⟩ := pe_Li h
  obtain ⟨b1, h⟩ := pe_Bi h
  obtain ⟨b2, h⟩ := pe_Bi h
  obtain ⟨b3, h⟩ := pe_Bi h
  exact ⟨i, x, r, rfl, ⟨b1, b2, b3, h⟩⟩
theorem pe_kor_i {f : pe_K} {u : pe_K} {n : Nat} {m : Nat} {L : Nat} {st : List Nat} {c : Nat} {N : pe_N} {J : pe_J} {res : pe_R} (h : pe_kor f u n m L st c N J = some res) : ∃ i x r, st = i :: x :: r ∧ ((pe_q n m x = true ∧ (f L st c N J) = some res) ∨ (pe_q n m x = false ∧ (u L st c N J) = some res)) := by
  obtain ⟨i, r, rfl, h⟩ := pe_Li h
  obtain ⟨x, r, rfl, h⟩ := pe_Li h
  rcases pe_Bo h with ⟨b1, h⟩ | ⟨b1, h⟩
  · exact ⟨i, x, r, rfl, Or.inl ⟨b1, h⟩⟩
  · exact ⟨i, x, r, rfl, Or.inr (⟨b1, h⟩)⟩
theorem pe_kmax_i  {L : Nat} {st : List Nat} {c : Nat} {N : pe_N} {J : pe_J} {res : pe_R} (h : pe_kmax L st c N J = some res) : ∃ y x r, st = y :: x :: r ∧ ((pe_ii x y = true ∧ Nat.ble (pe_csum r) 8 = true ∧ pe_lti x y = true ∧ (N L (y :: r) c) = some res) ∨ (pe_ii x y = true ∧ Nat.ble (pe_csum r) 8 = true ∧ pe_lti x y = false ∧ (N L (x :: r) c) = some res)) := by
  obtain ⟨y, r, rfl, h⟩ := pe_Li h
  obtain ⟨x, r, rfl, h⟩ := pe_Li h
  obtain ⟨b1, h⟩ := pe_Bi h
  obtain ⟨b2, h⟩ := pe_Bi h
  generalize hz : pe_lti x y = z at h
  cases z with
  | true => exact ⟨y, x, r, rfl, Or.inl ⟨b1, b2, hz, h⟩⟩
  | false => exact ⟨y, x, r, rfl, Or.inr ⟨b1, b2, hz, h⟩⟩
theorem pe_kgo_i {t : Nat} {L : Nat} {st : List Nat} {c : Nat} {N : pe_N} {J : pe_J} {res : pe_R} (h : pe_kgo t L st c N J = some res) : (J t L st c) = some res := by
  exact h
theorem pe_kb1_i {b : Nat → Bool} {t : Nat} {L : Nat} {st : List Nat} {c : Nat} {N : pe_N} {J : pe_J} {res : pe_R} (h : pe_kb1 b t L st c N J = some res) : ∃ x r, st = x :: r ∧ ((pe_i x = true ∧ b x = true ∧ (J t L r c) = some res) ∨ (pe_i x = true ∧ b x = false ∧ (N L r c) = some res)) := by
  obtain ⟨x, r, rfl, h⟩ := pe_Li h
  obtain ⟨b1, h⟩ := pe_Bi h
  rcases pe_Bo h with ⟨b2, h⟩ | ⟨b2, h⟩
  · exact ⟨x, r, rfl, Or.inl ⟨b1, b2, h⟩⟩
  · exact ⟨x, r, rfl, Or.inr (⟨b1, b2, h⟩)⟩
theorem pe_kn1_i {b : Nat → Bool} {t : Nat} {L : Nat} {st : List Nat} {c : Nat} {N : pe_N} {J : pe_J} {res : pe_R} (h : pe_kn1 b t L st c N J = some res) : ∃ x r, st = x :: r ∧ ((pe_i x = true ∧ b x = true ∧ (N L r c) = some res) ∨ (pe_i x = true ∧ b x = false ∧ (J t L r c) = some res)) := by
  obtain ⟨x, r, rfl, h⟩ := pe_Li h
  obtain ⟨b1, h⟩ := pe_Bi h
  rcases pe_Bo h with ⟨b2, h⟩ | ⟨b2, h⟩
  · exact ⟨x, r, rfl, Or.inl ⟨b1, b2, h⟩⟩
  · exact ⟨x, r, rfl, Or.inr (⟨b1, b2, h⟩)⟩
theorem pe_kb2_i {b2 : Nat → Nat → Bool} {t : Nat} {L : Nat} {st : List Nat} {c : Nat} {N : pe_N} {J : pe_J} {res : pe_R} (h : pe_kb2 b2 t L st c N J = some res) : ∃ y x r, st = y :: x :: r ∧ ((pe_ii x y = true ∧ b2 x y = true ∧ (J t L r c) = some res) ∨ (pe_ii x y = true ∧ b2 x y = false ∧ (N L r c) = some res)) := by
  obtain ⟨y, r, rfl, h⟩ := pe_Li h
  obtain ⟨x, r, rfl, h⟩ := pe_Li h
  obtain ⟨b1, h⟩ := pe_Bi h
  rcases pe_Bo h with ⟨b2, h⟩ | ⟨b2, h⟩
  · exact ⟨y, x, r, rfl, Or.inl ⟨b1, b2, h⟩⟩
  · exact ⟨y, x, r, rfl, Or.inr (⟨b1, b2, h⟩)⟩
theorem pe_kn2_i {b2 : Nat → Nat → Bool} {t : Nat} {L : Nat} {st : List Nat} {c : Nat} {N : pe_N} {J : pe_J} {res : pe_R} (h : pe_kn2 b2 t L st c N J = some res) : ∃ y x r, st = y :: x :: r ∧ ((pe_ii x y = true ∧ b2 x y = true ∧ (N L r c) = some res) ∨ (pe_ii x y = true ∧ b2 x y = false ∧ (J t L r c) = some res)) := by
  obtain ⟨y, r, rfl, h⟩ := pe_Li h
  obtain ⟨x, r, rfl, h⟩ := pe_Li h
  obtain ⟨b1, h⟩ := pe_Bi h
  rcases pe_Bo h with ⟨b2, h⟩ | ⟨b2, h⟩
  · exact ⟨y, x, r, rfl, Or.inl ⟨b1, b2, h⟩⟩
  · exact ⟨y, x, r, rfl, Or.inr (⟨b1, b2, h⟩)⟩
theorem pe_knu_i {t : Nat} {L : Nat} {st : List Nat} {c : Nat} {N : pe_N} {J : pe_J} {res : pe_R} (h : pe_knu t L st c N J = some res) : ∃ x r, st = x :: r ∧ ((Nat.beq (Nat.mod x 8) 3 = true ∧ (N L r c) = some res) ∨ (Nat.beq (Nat.mod x 8) 3 = false ∧ Nat.beq (Nat.mod x 8) 4 = true ∧ (J t L r c) = some res)) := by
  obtain ⟨x, r, rfl, h⟩ := pe_Li h
  rcases pe_Bo h with ⟨b1, h⟩ | ⟨b1, h⟩
  · exact ⟨x, r, rfl, Or.inl ⟨b1, h⟩⟩
  · obtain ⟨b2, h⟩ := pe_Bi h
    exact ⟨x, r, rfl, Or.inr (⟨b1, b2, h⟩)⟩
theorem pe_knn_i {t : Nat} {L : Nat} {st : List Nat} {c : Nat} {N : pe_N} {J : pe_J} {res : pe_R} (h : pe_knn t L st c N J = some res) : ∃ x r, st = x :: r ∧ ((Nat.beq (Nat.mod x 8) 3 = true ∧ (J t L r c) = some res) ∨ (Nat.beq (Nat.mod x 8) 3 = false ∧ Nat.beq (Nat.mod x 8) 4 = true ∧ (N L r c) = some res)) := by
  obtain ⟨x, r, rfl, h⟩ := pe_Li h
  rcases pe_Bo h with ⟨b1, h⟩ | ⟨b1, h⟩
  · exact ⟨x, r, rfl, Or.inl ⟨b1, h⟩⟩
  · obtain ⟨b2, h⟩ := pe_Bi h
    exact ⟨x, r, rfl, Or.inr (⟨b1, b2, h⟩)⟩
theorem pe_ksw_i {g1 : Nat → Nat} {L : Nat} {st : List Nat} {c : Nat} {N : pe_N} {J : pe_J} {res : pe_R} (h : pe_ksw g1 L st c N J = some res) : ∃ x r, st = x :: r ∧ (pe_i x = true ∧ (J (g1 x) L r c) = some res) := by
  obtain ⟨x, r, rfl, h⟩ := pe_Li h
  obtain ⟨b1, h⟩ := pe_Bi h
  exact ⟨x, r, rfl, ⟨b1, h⟩⟩
theorem pe_kst_i {t : Nat} {j : Nat} {L : Nat} {st : List Nat} {c : Nat} {N : pe_N} {J : pe_J} {res : pe_R} (h : pe_kst t j L st c N J = some res) : ∃ v r, st = v :: r ∧ (pe_tS v t = true ∧ pe_fr L j = false ∧ (N (pe_ls L j v) r c) = some res) := by
  obtain ⟨v, r, rfl, h⟩ := pe_Li h
  obtain ⟨b1, h⟩ := pe_Bi h
  obtain ⟨b2, h⟩ := pe_Bn h
  exact ⟨v, r, rfl, ⟨b1, b2, h⟩⟩
theorem pe_ksl_i {j : Nat} {L : Nat} {st : List Nat} {c : Nat} {N : pe_N} {J : pe_J} {res : pe_R} (h : pe_ksl j L st c N J = some res) : ∃ v r, st = v :: r ∧ (pe_tS v 2 = true ∧ pe_fr L j = false ∧ (N (pe_ls (pe_ls L (Nat.succ j) 0) j v) r c) = some res) := by
  obtain ⟨v, r, rfl, h⟩ := pe_Li h
  obtain ⟨b1, h⟩ := pe_Bi h
  obtain ⟨b2, h⟩ := pe_Bn h
  exact ⟨v, r, rfl, ⟨b1, b2, h⟩⟩
theorem pe_ksa_i {j : Nat} {L : Nat} {st : List Nat} {c : Nat} {N : pe_N} {J : pe_J} {res : pe_R} (h : pe_ksa j L st c N J = some res) : ∃ v r, st = v :: r ∧ ((pe_tS v 3 = true ∧ pe_fr L j = false ∧ (N (pe_ls L j v) r c) = some res) ∨ (pe_tS v 3 = false ∧ pe_tS v 4 = true ∧ pe_fr L j = false ∧ (N (pe_ls L j v) r c) = some res)) := by
  obtain ⟨v, r, rfl, h⟩ := pe_Li h
  rcases pe_Bo h with ⟨b1, h⟩ | ⟨b1, h⟩
  · obtain ⟨b2, h⟩ := pe_Bn h
    exact ⟨v, r, rfl, Or.inl ⟨b1, b2, h⟩⟩
  · obtain ⟨b2, h⟩ := pe_Bi h
    obtain ⟨b3, h⟩ := pe_Bn h
    exact ⟨v, r, rfl, Or.inr (⟨b1, b2, b3, h⟩)⟩
theorem pe_kin_i {j : Nat} {d : Nat} {L : Nat} {st : List Nat} {c : Nat} {N : pe_N} {J : pe_J} {res : pe_R} (h : pe_kin j d L st c N J = some res) : pe_i (pe_lg L j) = true ∧ pe_fr L j = false ∧ (N (pe_ls L j (Nat.mod (Nat.sub (Nat.add (pe_lg L j) d) 1) 34359738368)) st c) = some res := by
  obtain ⟨b1, h⟩ := pe_Bi h
  obtain ⟨b2, h⟩ := pe_Bn h
  exact ⟨b1, b2, h⟩
theorem pe_kpf_i {n : Nat} {m : Nat} {k : Nat} {ok : Nat → Bool} {L : Nat} {st : List Nat} {c : Nat} {N : pe_N} {J : pe_J} {res : pe_R} (h : pe_kpf n m k ok L st c N J = some res) : ∃ v x r, st = v :: x :: r ∧ (ok v = true ∧ pe_q n m x = true ∧ Nat.beq (Nat.div v 68719476736) 0 = true ∧ (N L r (pe_cs c (Nat.add (pe_bs (Nat.div x 8)) k) v)) = some res) := by
  obtain ⟨v, r, rfl, h⟩ := pe_Li h
  obtain ⟨x, r, rfl, h⟩ := pe_Li h
  obtain ⟨b1, h⟩ := pe_Bi h
  obtain ⟨b2, h⟩ := pe_Bi h
  obtain ⟨b3, h⟩ := pe_Bi h
  exact ⟨v, x, r, rfl, ⟨b1, b2, b3, h⟩⟩
theorem pe_kaw_i {n : Nat} {m : Nat} {ok : Nat → Bool} {L : Nat} {st : List Nat} {c : Nat} {N : pe_N} {J : pe_J} {res : pe_R} (h : pe_kaw n m ok L st c N J = some res) : ∃ v i x r, st = v :: i :: x :: r ∧ (ok v = true ∧ pe_q n m x = true ∧ Nat.beq (Nat.mod i 8) 1 = true ∧ Nat.ble (Nat.succ (Nat.div i 8)) (pe_bl (Nat.div x 8)) = true ∧ Nat.beq (Nat.div v 68719476736) 0 = true ∧ (N L r (pe_cs c (Nat.add (pe_bs (Nat.div x 8)) (Nat.div i 8)) v)) = some res) := by
  obtain ⟨v, r, rfl, h⟩ := pe_Li h
  obtain ⟨i, r, rfl, h⟩ := pe_Li h
  obtain ⟨x, r, rfl, h⟩ := pe_Li h
  obtain ⟨b1, h⟩ := pe_Bi h
  obtain ⟨b2, h⟩ := pe_Bi h
  obtain ⟨b3, h⟩ := pe_Bi h
  obtain ⟨b4, h⟩ := pe_Bi h
  obtain ⟨b5, h⟩ := pe_Bi h
  exact ⟨v, i, x, r, rfl, ⟨b1, b2, b3, b4, b5, h⟩⟩
