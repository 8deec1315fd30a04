/-! branches, locals, writes -/
section ST2
variable {σ : Nat → Value} {X : rn_X} {n c : Nat} {B : rn_T} {h0 h : rn_H} {L : Nat} {lv : rn_L} {st : List Nat} {N : pe_N} {J : pe_J} {res : pe_R}
/-- where it goes on, of both -/
def pe_go (σ : Nat → Value) (N : pe_N) (J : pe_J) (L c : Nat) (res : pe_R) (k : Nat) (o : Option (Nat × List Value)) : Prop := ∃ (st2 : List Nat) (j : Nat), o = some (j, st2.map (pe_dv σ)) ∧ ((N L st2 c = some res ∧ j = k) ∨ (∃ t, J t L st2 c = some res ∧ j = t))
theorem pe_b1r {b : Nat → Bool} {t k : Nat} {P : Int32 → Prop} [DecidablePred P] (hb : ∀ x, (x % 8 = 1 ∧ x / 8 < 4294967296) → (b x = true ↔ P (pe_dI x))) (hs : pe_kb1 b t L st c N J = some res) : ∃ (x : Nat) (r : List Nat), st.map (pe_dv σ) = .int (pe_dI x) :: r.map (pe_dv σ) ∧ pe_go σ N J L c res k (some (if P (pe_dI x) then t else k, r.map (pe_dv σ))) := by
  obtain ⟨x, r, rfl, h1⟩ := pe_kb1_i hs
  rcases h1 with ⟨t1, t2, h1⟩ | ⟨t1, t2, h1⟩
  · have hx := pe_i_of t1
    refine ⟨x, r, by rw [List.map_cons, pe_dv1 hx.1], r, _, rfl, Or.inr ⟨t, h1, if_pos ((hb x hx).mp t2)⟩⟩
  · have hx := pe_i_of t1
    refine ⟨x, r, by rw [List.map_cons, pe_dv1 hx.1], r, _, rfl, Or.inl ⟨h1, if_neg (pe_nF (hb x hx) t2)⟩⟩
theorem pe_n1r {b : Nat → Bool} {t k : Nat} {P : Int32 → Prop} [DecidablePred P] (hb : ∀ x, (x % 8 = 1 ∧ x / 8 < 4294967296) → (b x = true ↔ P (pe_dI x))) (hs : pe_kn1 b t L st c N J = some res) : ∃ (x : Nat) (r : List Nat), st.map (pe_dv σ) = .int (pe_dI x) :: r.map (pe_dv σ) ∧ pe_go σ N J L c res k (some (if P (pe_dI x) then k else t, r.map (pe_dv σ))) := by
  obtain ⟨x, r, rfl, h1⟩ := pe_kn1_i hs
  rcases h1 with ⟨t1, t2, h1⟩ | ⟨t1, t2, h1⟩
  · have hx := pe_i_of t1
    refine ⟨x, r, by rw [List.map_cons, pe_dv1 hx.1], r, _, rfl, Or.inl ⟨h1, if_pos ((hb x hx).mp t2)⟩⟩
  · have hx := pe_i_of t1
    refine ⟨x, r, by rw [List.map_cons, pe_dv1 hx.1], r, _, rfl, Or.inr ⟨t, h1, if_neg (pe_nF (hb x hx) t2)⟩⟩
theorem pe_b2r {b : Nat → Nat → Bool} {t k : Nat} {P : Int32 → Int32 → Prop} [∀ x y, Decidable (P x y)] (hb : ∀ x y, (x % 8 = 1 ∧ x / 8 < 4294967296) → (y % 8 = 1 ∧ y / 8 < 4294967296) → (b x y = true ↔ P (pe_dI x) (pe_dI y))) (hs : pe_kb2 b t L st c N J = some res) : ∃ (x y : Nat) (r : List Nat), st.map (pe_dv σ) = .int (pe_dI y) :: .int (pe_dI x) :: r.map (pe_dv σ) ∧ pe_go σ N J L c res k (some (if P (pe_dI x) (pe_dI y) then t else k, r.map (pe_dv σ))) := by
  obtain ⟨y, x, r, rfl, h1⟩ := pe_kb2_i hs
  rcases h1 with ⟨t1, t2, h1⟩ | ⟨t1, t2, h1⟩
  · obtain ⟨hx, hy⟩ := pe_ii_of t1
    refine ⟨x, y, r, by rw [List.map_cons, List.map_cons, pe_dv1 hx.1, pe_dv1 hy.1], r, _, rfl, Or.inr ⟨t, h1, if_pos ((hb x y hx hy).mp t2)⟩⟩
  · obtain ⟨hx, hy⟩ := pe_ii_of t1
    refine ⟨x, y, r, by rw [List.map_cons, List.map_cons, pe_dv1 hx.1, pe_dv1 hy.1], r, _, rfl, Or.inl ⟨h1, if_neg (pe_nF (hb x y hx hy) t2)⟩⟩
theorem pe_n2r {b : Nat → Nat → Bool} {t k : Nat} {P : Int32 → Int32 → Prop} [∀ x y, Decidable (P x y)] (hb : ∀ x y, (x % 8 = 1 ∧ x / 8 < 4294967296) → (y % 8 = 1 ∧ y / 8 < 4294967296) → (b x y = true ↔ P (pe_dI x) (pe_dI y))) (hs : pe_kn2 b t L st c N J = some res) : ∃ (x y : Nat) (r : List Nat), st.map (pe_dv σ) = .int (pe_dI y) :: .int (pe_dI x) :: r.map (pe_dv σ) ∧ pe_go σ N J L c res k (some (if P (pe_dI x) (pe_dI y) then k else t, r.map (pe_dv σ))) := by
  obtain ⟨y, x, r, rfl, h1⟩ := pe_kn2_i hs
  rcases h1 with ⟨t1, t2, h1⟩ | ⟨t1, t2, h1⟩
  · obtain ⟨hx, hy⟩ := pe_ii_of t1
    refine ⟨x, y, r, by rw [List.map_cons, List.map_cons, pe_dv1 hx.1, pe_dv1 hy.1], r, _, rfl, Or.inl ⟨h1, if_pos ((hb x y hx hy).mp t2)⟩⟩
  · obtain ⟨hx, hy⟩ := pe_ii_of t1
    refine ⟨x, y, r, by rw [List.map_cons, List.map_cons, pe_dv1 hx.1, pe_dv1 hy.1], r, _, rfl, Or.inr ⟨t, h1, if_neg (pe_nF (hb x y hx hy) t2)⟩⟩
theorem pe_if_eq {α : Type} {b : Bool} {t f : α} : pe_if b t f = if b = true then t else f := by cases b <;> rfl
theorem pe_bI {x : Nat} {y : Int32} (hx : x % 8 = 1 ∧ x / 8 < 4294967296) : Nat.beq x (pe_eI y) = true ↔ pe_dI x = y := by
  rw [pe_beq_of hx pe_eI_ok, pe_dI_eI]
theorem pe_sw_ok {x d : Nat} (hx : x % 8 = 1 ∧ x / 8 < 4294967296) : ∀ (ts : List Nat) (lo : Int), pe_sw ts lo x d = rn_st ts lo (pe_dI x) d
  | [], _ => rfl
  | t :: r, lo => by
    show pe_if _ t (pe_sw r (lo + 1) x d) = if _ then t else rn_st r (lo + 1) (pe_dI x) d
    rw [pe_if_eq, pe_sw_ok hx r (lo + 1)]
    by_cases e : pe_dI x = Int32.ofInt lo
    · rw [if_pos ((pe_bI hx).mpr e), if_pos e]
    · rw [if_neg (fun g => e ((pe_bI hx).mp g)), if_neg e]
theorem pe_sk_ok {x d : Nat} (hx : x % 8 = 1 ∧ x / 8 < 4294967296) : ∀ (ks : List (Int × Int)) (ts : List Nat), pe_sk ks ts x d = rn_sk ks ts (pe_dI x) d
  | [], [] => rfl
  | [], _ :: _ => rfl
  | _ :: _, [] => rfl
  | k :: kr, t :: tr => by
    show pe_if _ t (pe_sk kr tr x d) = if _ then t else rn_sk kr tr (pe_dI x) d
    rw [pe_if_eq, pe_sk_ok hx kr tr]
    by_cases e : pe_dI x = Int32.ofInt k.1
    · rw [if_pos ((pe_bI hx).mpr e), if_pos e]
    · rw [if_neg (fun g => e ((pe_bI hx).mp g)), if_neg e]
theorem pe_l1_of {x : Nat} (hx : x % 8 = 1 ∧ x / 8 < 4294967296) : pe_lti x 1 = true ↔ pe_dI x < 0 := pe_lti_of hx pe_ok1
theorem pe_1l_of {x : Nat} (hx : x % 8 = 1 ∧ x / 8 < 4294967296) : pe_lti 1 x = true ↔ 0 < pe_dI x := pe_lti_of pe_ok1 hx
theorem pe_e1_of {x : Nat} (hx : x % 8 = 1 ∧ x / 8 < 4294967296) : pe_lei x 1 = true ↔ pe_dI x ≤ 0 := pe_lei_of hx pe_ok1
theorem pe_1e_of {x : Nat} (hx : x % 8 = 1 ∧ x / 8 < 4294967296) : pe_lei 1 x = true ↔ 0 ≤ pe_dI x := pe_lei_of pe_ok1 hx
theorem pe_b_ok {i : Instr} {ax : List Nat} {g : pe_K} (k : Nat) (hg : pe_b i ax = some g) (hs : g L st c N J = some res) : pe_go σ N J L c res k (rn_b i ax k (st.map (pe_dv σ))) := by
  cases ax with
  | nil => cases hg
  | cons t ts =>
    cases i
    all_goals (try (exact absurd (show (none : Option pe_K) = some g from hg) (fun q => by cases q)))
    case goto z => cases hg; exact ⟨st, t, rfl, Or.inr ⟨t, hs, rfl⟩⟩
    case ifCond cc z =>
      cases cc
      · cases hg
        obtain ⟨x, r, e, h1⟩ := pe_b1r (σ := σ) (k := k) (P := fun x => x = 0) (fun x hx => pe_beq_of hx pe_ok1) hs
        rw [e]; exact h1
      · cases hg
        obtain ⟨x, r, e, h1⟩ := pe_n1r (σ := σ) (k := k) (P := fun x => x = 0) (fun x hx => pe_beq_of hx pe_ok1) hs
        rw [e]; exact h1
      · cases hg
        obtain ⟨x, r, e, h1⟩ := pe_b1r (σ := σ) (k := k) (P := fun x => x < 0) (fun x hx => pe_l1_of hx) hs
        rw [e]; exact h1
      · cases hg
        obtain ⟨x, r, e, h1⟩ := pe_b1r (σ := σ) (k := k) (P := fun x => 0 ≤ x) (fun x hx => pe_1e_of hx) hs
        rw [e]; exact h1
      · cases hg
        obtain ⟨x, r, e, h1⟩ := pe_b1r (σ := σ) (k := k) (P := fun x => 0 < x) (fun x hx => pe_1l_of hx) hs
        rw [e]; exact h1
      · cases hg
        obtain ⟨x, r, e, h1⟩ := pe_b1r (σ := σ) (k := k) (P := fun x => x ≤ 0) (fun x hx => pe_e1_of hx) hs
        rw [e]; exact h1
    case if_icmp cc z =>
      cases cc
      · cases hg
        obtain ⟨x, y, r, e, h1⟩ := pe_b2r (σ := σ) (k := k) (P := fun x y => x = y) (fun x y hx hy => pe_beq_of hx hy) hs
        rw [e]; exact h1
      · cases hg
        obtain ⟨x, y, r, e, h1⟩ := pe_n2r (σ := σ) (k := k) (P := fun x y => x = y) (fun x y hx hy => pe_beq_of hx hy) hs
        rw [e]; exact h1
      · cases hg
        obtain ⟨x, y, r, e, h1⟩ := pe_b2r (σ := σ) (k := k) (P := fun x y => x < y) (fun x y hx hy => pe_lti_of hx hy) hs
        rw [e]; exact h1
      · cases hg
        obtain ⟨x, y, r, e, h1⟩ := pe_b2r (σ := σ) (k := k) (P := fun x y => y ≤ x) (fun x y hx hy => pe_lei_of hy hx) hs
        rw [e]; exact h1
      · cases hg
        obtain ⟨x, y, r, e, h1⟩ := pe_b2r (σ := σ) (k := k) (P := fun x y => y < x) (fun x y hx hy => pe_lti_of hy hx) hs
        rw [e]; exact h1
      · cases hg
        obtain ⟨x, y, r, e, h1⟩ := pe_b2r (σ := σ) (k := k) (P := fun x y => x ≤ y) (fun x y hx hy => pe_lei_of hx hy) hs
        rw [e]; exact h1
    case ifnull z =>
      cases hg
      obtain ⟨x, r, rfl, h1⟩ := pe_knu_i hs
      rcases h1 with ⟨t1, h1⟩ | ⟨-, t1, h1⟩
      · rw [List.map_cons, pe_dv3 (pe_beq t1)]; exact ⟨r, k, rfl, Or.inl ⟨h1, rfl⟩⟩
      · rw [List.map_cons, pe_dv4 (pe_beq t1)]; exact ⟨r, t, rfl, Or.inr ⟨t, h1, rfl⟩⟩
    case ifnonnull z =>
      cases hg
      obtain ⟨x, r, rfl, h1⟩ := pe_knn_i hs
      rcases h1 with ⟨t1, h1⟩ | ⟨-, t1, h1⟩
      · rw [List.map_cons, pe_dv3 (pe_beq t1)]; exact ⟨r, t, rfl, Or.inr ⟨t, h1, rfl⟩⟩
      · rw [List.map_cons, pe_dv4 (pe_beq t1)]; exact ⟨r, k, rfl, Or.inl ⟨h1, rfl⟩⟩
    case tableswitch d lo hi js =>
      cases hg
      obtain ⟨x, r, rfl, t1, h1⟩ := pe_ksw_i hs
      have hx := pe_i_of t1
      rw [List.map_cons, pe_dv1 hx.1]
      exact ⟨r, _, rfl, Or.inr ⟨_, h1, (pe_sw_ok hx ts lo).symm⟩⟩
    case lookupswitch d ps =>
      cases hg
      obtain ⟨x, r, rfl, t1, h1⟩ := pe_ksw_i hs
      have hx := pe_i_of t1
      rw [List.map_cons, pe_dv1 hx.1]
      exact ⟨r, _, rfl, Or.inr ⟨_, h1, (pe_sk_ok hx ps.toList ts).symm⟩⟩
/-! locals -/
theorem pe_lk_c {i j : Nat} {v : Value} {lv : rn_L} : rn_lk i ((j, v) :: lv) = if j = i then some v else rn_lk i lv := by
  show (match Nat.beq j i with | true => some v | false => rn_lk i lv) = _
  by_cases h : j = i
  · subst h; rw [if_pos rfl, Nat.beq_refl]
  · rw [if_neg h, show Nat.beq j i = false from by rw [← Bool.not_eq_true, Nat.beq_eq]; exact h]
theorem pe_lk_f {i : Nat} {w : Value} {p : Nat × Value → Bool} (hp : p (i, w) = true) : ∀ {lv : rn_L}, rn_lk i lv = some w → rn_lk i (lv.filter p) = some w
  | [], h => by cases h
  | (j, v) :: lv, h => by
    rw [pe_lk_c] at h
    by_cases e : j = i
    · subst e
      rw [if_pos rfl] at h
      cases h
      rw [List.filter_cons_of_pos hp, pe_lk_c, if_pos rfl]
    · rw [if_neg e] at h
      have ih := pe_lk_f hp h
      by_cases hj : p (j, v) = true
      · rw [List.filter_cons_of_pos hj, pe_lk_c, if_neg e]; exact ih
      · rw [List.filter_cons_of_neg hj]; exact ih
theorem pe_fr_of {L j i : Nat} (h : pe_fr L j = false) (e : i + 1 = j) : pe_lg L i % 8 ≠ 2 ∧ pe_lg L i % 8 ≠ 5 := by
  subst e
  unfold pe_fr at h
  have h2 : ¬ ((pe_lg L (i + 1 - 1) % 8 * (1 - (1 - (i + 1)))) % 3 = 2) := by
    intro g
    rw [show Nat.mod (Nat.mul (Nat.mod (pe_lg L (Nat.sub (i + 1) 1)) 8) (Nat.sub 1 (Nat.sub 1 (i + 1)))) 3 = 2 from g] at h
    cases h
  rw [show i + 1 - 1 = i by omega, show 1 - (1 - (i + 1)) = 1 by omega, Nat.mul_one] at h2
  omega
theorem pe_RL_st {j v : Nat} {w : Value} (hL : pe_RL σ L lv) (hf : pe_fr L j = false) (hv : v < 4722366482869645213696) (hw : pe_dv σ v = w) : pe_RL σ (pe_ls L j v) ((j, w) :: rn_fl j lv) := by
  intro i hi
  rw [pe_lg_ls hv] at hi ⊢
  rw [pe_lk_c]
  by_cases e : i = j
  · subst e
    rw [if_pos rfl, if_pos rfl, hw]
  · rw [if_neg e] at hi
    rw [if_neg e, if_neg (fun g => e g.symm)]
    refine pe_lk_f ?_ (hL i hi)
    have e1 : (i == j) = false := beq_false_of_ne e
    by_cases e2 : i + 1 = j
    · obtain ⟨a, b⟩ := pe_fr_of hf e2
      simp [e1, pe_cat1 a b]
    · have e3 : (i + 1 == j) = false := beq_false_of_ne e2
      simp [e1, e3]
theorem pe_RL_lst {j v : Nat} {w : Value} (hL : pe_RL σ L lv) (hf : pe_fr L j = false) (hv : v < 4722366482869645213696) (hw : pe_dv σ v = w) : pe_RL σ (pe_ls (pe_ls L (Nat.succ j) 0) j v) ((j, w) :: rn_fm j lv) := by
  intro i hi
  rw [pe_lg_ls hv] at hi ⊢
  rw [pe_lk_c]
  by_cases e : i = j
  · subst e
    rw [if_pos rfl, if_pos rfl, hw]
  · rw [if_neg e, pe_lg_ls (by decide)] at hi
    rw [if_neg e, if_neg (fun g => e g.symm), pe_lg_ls (by decide)]
    by_cases e4 : i = Nat.succ j
    · rw [if_pos e4] at hi; exact absurd rfl hi
    · rw [if_neg e4] at hi ⊢
      refine pe_lk_f ?_ (hL i hi)
      have e1 : (i == j) = false := beq_false_of_ne e
      have e5 : (i == j + 1) = false := beq_false_of_ne e4
      by_cases e2 : i + 1 = j
      · obtain ⟨a, b⟩ := pe_fr_of hf e2
        simp [e1, e5, pe_cat1 a b]
      · have e3 : (i + 1 == j) = false := beq_false_of_ne e2
        simp [e1, e3, e5]
theorem pe_tS_of {v t : Nat} (h : pe_tS v t = true) (ht : t < 8) : v % 8 = t ∧ v < 4722366482869645213696 := by
  have h2 : v % 8 + 8 * (v / 4722366482869645213696) = t := pe_beq h
  omega
theorem pe_l_ok {i : Instr} {ax : List Nat} {g : pe_K} (hL : pe_RL σ L lv) (hg : pe_l i ax = some g) (hs : g L st c N J = some res) : ∃ (L2 : Nat) (lv2 : rn_L) (st2 : List Nat), rn_l i ax lv (st.map (pe_dv σ)) = some (lv2, st2.map (pe_dv σ)) ∧ pe_RL σ L2 lv2 ∧ N L2 st2 c = some res := by
  cases i
  all_goals (try (exact absurd (show (none : Option pe_K) = some g from hg) (fun q => by cases q)))
  case istore j =>
    cases hg
    obtain ⟨v, r, rfl, t1, t2, h1⟩ := pe_kst_i hs
    obtain ⟨a, b⟩ := pe_tS_of t1 (by decide)
    exact ⟨_, _, r, by rw [List.map_cons, pe_dv1 a]; rfl, pe_RL_st hL t2 b (pe_dv1 a), h1⟩
  case istore_n j =>
    cases hg
    obtain ⟨v, r, rfl, t1, t2, h1⟩ := pe_kst_i hs
    obtain ⟨a, b⟩ := pe_tS_of t1 (by decide)
    exact ⟨_, _, r, by rw [List.map_cons, pe_dv1 a]; rfl, pe_RL_st hL t2 b (pe_dv1 a), h1⟩
  case lstore j =>
    cases hg
    obtain ⟨v, r, rfl, t1, t2, h1⟩ := pe_ksl_i hs
    obtain ⟨a, b⟩ := pe_tS_of t1 (by decide)
    exact ⟨_, _, r, by rw [List.map_cons, pe_dv2 a]; rfl, pe_RL_lst hL t2 b (pe_dv2 a), h1⟩
  case lstore_n j =>
    cases hg
    obtain ⟨v, r, rfl, t1, t2, h1⟩ := pe_ksl_i hs
    obtain ⟨a, b⟩ := pe_tS_of t1 (by decide)
    exact ⟨_, _, r, by rw [List.map_cons, pe_dv2 a]; rfl, pe_RL_lst hL t2 b (pe_dv2 a), h1⟩
  case astore j =>
    cases hg
    obtain ⟨v, r, rfl, t1, t2, h1⟩ := pe_kst_i hs
    obtain ⟨a, b⟩ := pe_tS_of t1 (by decide)
    exact ⟨_, _, r, by rw [List.map_cons, pe_dv3 a]; rfl, pe_RL_st hL t2 b (pe_dv3 a), h1⟩
  case astore_n j =>
    cases hg
    obtain ⟨v, r, rfl, h1⟩ := pe_ksa_i hs
    rcases h1 with ⟨t1, t2, h1⟩ | ⟨-, t1, t2, h1⟩
    · obtain ⟨a, b⟩ := pe_tS_of t1 (by decide)
      exact ⟨_, _, r, by rw [List.map_cons, pe_dv3 a]; rfl, pe_RL_st hL t2 b (pe_dv3 a), h1⟩
    · obtain ⟨a, b⟩ := pe_tS_of t1 (by decide)
      exact ⟨_, _, r, by rw [List.map_cons, pe_dv4 a]; rfl, pe_RL_st hL t2 b (pe_dv4 a), h1⟩
  case iinc j d =>
    simp only [pe_l] at hg
    split at hg
    · next a b =>
      cases hg
      obtain ⟨t1, t2, h1⟩ := pe_kin_i hs
      have hx := pe_i_of t1
      refine ⟨_, _, st, ?_, pe_RL_st hL t2 ?_ (pe_iadd hx (pe_eI_ok (x := rn_ci a b))), h1⟩
      · unfold rn_l
        simp only [hL j (show pe_lg L j ≠ 0 by omega), pe_dv1 hx.1, pe_dI_eI]
      · exact Nat.lt_trans (Nat.mod_lt _ (by decide)) (by decide)
    · cases hg
end ST2
