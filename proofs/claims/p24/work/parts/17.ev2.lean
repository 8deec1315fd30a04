/-! more rows for runs -/
section EV2
variable {X : rn_X} {y k N sl : Nat} {q : rn_M} {lv lv2 : rn_L} {st : List Value} {h h2 : rn_H} {out : Option Value × Nat × Nat × rn_H} {T : List rn_I} {pc n : Nat} {kp : List Nat}
theorem rn_kq (hq : rn_ms y = some q) {s s2 : rn_S} {e : rn_I} (he : (rn_tb q)[s.1]? = some e) (hs : (s.1, rn_kp e.2.2.1 s.2.1, s.2.2) = (s2.1, rn_kp e.2.2.1 s2.2.1, s2.2.2)) (hn : rn_rv X y s2 out) : rn_rv X y s out := by
  obtain ⟨f, hf⟩ := hn
  obtain ⟨nm, b, mL, rt, T, n, fr, lo, ini⟩ := q
  obtain ⟨k, lv, st, N, sl, h⟩ := s
  obtain ⟨k2, lv2, st2, N2, sl2, h2⟩ := s2
  simp only [Prod.mk.injEq] at hs
  obtain ⟨rfl, hl, rfl, rfl, rfl, rfl⟩ := hs
  cases f with
  | zero => cases hf
  | succ f =>
    refine ⟨f + 1, ?_⟩
    unfold rn_x at hf ⊢
    rw [hq] at hf ⊢
    simp only at he hf ⊢
    rw [he] at hf ⊢
    simp only at hf ⊢
    rw [hl]
    exact hf
theorem rn_bf {b : Bool} (h : b = false) : ¬ b = true := by rw [h]; exact fun z => by cases z
theorem rn_iteb {b : Bool} {i j : Nat} {r : rn_L × List Value × Nat × Nat × rn_H} (hf : b = false → rn_rv X y (i, r) out) (ht : b = true → rn_rv X y (j, r) out) : rn_rv X y (if rn_bi b = 0 then i else j, r) out := by
  cases b with
  | false => rw [if_pos (show rn_bi false = 0 from rfl)]; exact hf rfl
  | true => rw [if_neg (show ¬ rn_bi true = 0 by decide)]; exact ht rfl
theorem rn_rtb (b : Bool) : rn_rt .ireturn (some .boolean) [.int (rn_bi b)] = some (some (.int (rn_bi b))) := if_pos (rn_bi01 b)
theorem rn_rt1 : rn_rt .ireturn (some .boolean) [.int 1] = some (some (.int (rn_bi true))) := rn_rtb true
theorem rn_rt0 : rn_rt .ireturn (some .boolean) [.int 0] = some (some (.int (rn_bi false))) := rn_rtb false
theorem rn_rtz {x : Int32} (h : x = 0 ∨ x = 1) : rn_rt .ireturn (some .boolean) [.int x] = some (some (.int x)) := if_pos h
theorem rn_bi_dec {x : Int32} (h : x = 0 ∨ x = 1) : rn_bi (decide (x = 1)) = x := by
  rcases h with rfl | rfl <;> rfl
theorem rn_tyb (b : Bool) : rn_ty 1 (.int (rn_bi b)) = true := by cases b <;> decide
theorem rn_ty01 {x : Int32} (h : x = 0 ∨ x = 1) : rn_ty 1 (.int x) = true := by
  rcases h with rfl | rfl <;> decide
theorem rn_g_cpi {w1 w2 w3 w4 idx a a0 n0 n1 m : Nat} {f g : Nat → Int32} {nn : Int32} (he : T[k]? = some (pc, .invokestatic idx, kp, [1, 0, w1, w2, w3, w4])) (hl : rn_kp kp lv = lv2) (hq0 : h a0 = .inl (0, n0, .inl f)) (hq1 : h a = .inl (0, n1, .inl g)) (hcs : Nat.ble (rn_cs st) 8 = true) (hm0 : m ≤ n0) (hm1 : m ≤ n1) (hnn : nn.toNatClampNeg = m) (hn0 : decide (nn < 0) = false) (hh : rn_up h a (.inl (0, n1, .inl (va_cpy f g 0 0 m))) = h2) : rn_g1 X T (k, lv, .int nn :: .int 0 :: .ref a :: .int 0 :: .ref a0 :: st, N, sl, h) = some (k + 1, lv2, st, N, sl, h2) := by
  refine rn_g1_of he hl ?_
  have hc : ¬ ((0 : Int32) < 0 ∨ (0 : Int32) < 0 ∨ nn < 0 ∨ 8 < rn_cs st) := by
    have h1 := Nat.le_of_ble_eq_true hcs
    have h2 := of_decide_eq_false hn0
    rintro (z | z | z | z)
    · exact absurd z (by decide)
    · exact absurd z (by decide)
    · exact h2 z
    · omega
  have hb : (0 : Int32).toNatClampNeg + nn.toNatClampNeg ≤ n0 ∧ (0 : Int32).toNatClampNeg + nn.toNatClampNeg ≤ n1 := by rw [sb_cl0, hnn]; omega
  have : rn_w (.invokestatic idx) [1, 0, w1, w2, w3, w4] (.int nn :: .int 0 :: .ref a :: .int 0 :: .ref a0 :: st) h = some (st, h2) := by
    simp only [rn_w, if_neg hc, hq0, hq1, if_pos hb]
    rw [hnn, sb_cl0, hh]
  simp only [rn_sp]
  rw [show rn_p X (.invokestatic idx) [1, 0, w1, w2, w3, w4] lv2 (.int nn :: .int 0 :: .ref a :: .int 0 :: .ref a0 :: st) h = none from rfl, show rn_b (.invokestatic idx) [1, 0, w1, w2, w3, w4] (k + 1) (.int nn :: .int 0 :: .ref a :: .int 0 :: .ref a0 :: st) = none from rfl, show rn_l (.invokestatic idx) [1, 0, w1, w2, w3, w4] lv2 (.int nn :: .int 0 :: .ref a :: .int 0 :: .ref a0 :: st) = none from rfl]
  simp only [this]
theorem rn_g_cpl {w1 w2 w3 w4 idx a a0 n0 n1 m : Nat} {f g : Nat → Int64} {nn : Int32} (he : T[k]? = some (pc, .invokestatic idx, kp, [1, 1, w1, w2, w3, w4])) (hl : rn_kp kp lv = lv2) (hq0 : h a0 = .inl (1, n0, .inr (.inl f))) (hq1 : h a = .inl (1, n1, .inr (.inl g))) (hcs : Nat.ble (rn_cs st) 8 = true) (hm0 : m ≤ n0) (hm1 : m ≤ n1) (hnn : nn.toNatClampNeg = m) (hn0 : decide (nn < 0) = false) (hh : rn_up h a (.inl (1, n1, .inr (.inl (va_cpy f g 0 0 m)))) = h2) : rn_g1 X T (k, lv, .int nn :: .int 0 :: .ref a :: .int 0 :: .ref a0 :: st, N, sl, h) = some (k + 1, lv2, st, N, sl, h2) := by
  refine rn_g1_of he hl ?_
  have hc : ¬ ((0 : Int32) < 0 ∨ (0 : Int32) < 0 ∨ nn < 0 ∨ 8 < rn_cs st) := by
    have h1 := Nat.le_of_ble_eq_true hcs
    have h2 := of_decide_eq_false hn0
    rintro (z | z | z | z)
    · exact absurd z (by decide)
    · exact absurd z (by decide)
    · exact h2 z
    · omega
  have hb : (0 : Int32).toNatClampNeg + nn.toNatClampNeg ≤ n0 ∧ (0 : Int32).toNatClampNeg + nn.toNatClampNeg ≤ n1 := by rw [sb_cl0, hnn]; omega
  have : rn_w (.invokestatic idx) [1, 1, w1, w2, w3, w4] (.int nn :: .int 0 :: .ref a :: .int 0 :: .ref a0 :: st) h = some (st, h2) := by
    simp only [rn_w, if_neg hc, hq0, hq1, if_pos hb]
    rw [hnn, sb_cl0, hh]
  simp only [rn_sp]
  rw [show rn_p X (.invokestatic idx) [1, 1, w1, w2, w3, w4] lv2 (.int nn :: .int 0 :: .ref a :: .int 0 :: .ref a0 :: st) h = none from rfl, show rn_b (.invokestatic idx) [1, 1, w1, w2, w3, w4] (k + 1) (.int nn :: .int 0 :: .ref a :: .int 0 :: .ref a0 :: st) = none from rfl, show rn_l (.invokestatic idx) [1, 1, w1, w2, w3, w4] lv2 (.int nn :: .int 0 :: .ref a :: .int 0 :: .ref a0 :: st) = none from rfl]
  simp only [this]
end EV2
theorem rn_m0 : rn_ms 0 = some rn_q0 := rfl
theorem rn_m1 : rn_ms 1 = some rn_q1 := rfl
theorem rn_m2 : rn_ms 2 = some rn_q2 := rfl
theorem rn_m3 : rn_ms 3 = some rn_q3 := rfl
theorem rn_m4 : rn_ms 4 = some rn_q4 := rfl
theorem rn_m5 : rn_ms 5 = some rn_q5 := rfl
theorem rn_m6 : rn_ms 6 = some rn_q6 := rfl
theorem rn_m7 : rn_ms 7 = some rn_q7 := rfl
theorem rn_m8 : rn_ms 8 = some rn_q8 := rfl
theorem rn_m9 : rn_ms 9 = some rn_q9 := rfl
theorem rn_m10 : rn_ms 10 = some rn_q10 := rfl
theorem rn_m11 : rn_ms 11 = some rn_q11 := rfl
theorem rn_m12 : rn_ms 12 = some rn_q12 := rfl
theorem rn_m13 : rn_ms 13 = some rn_q13 := rfl
theorem rn_m14 : rn_ms 14 = some rn_q14 := rfl
theorem rn_m15 : rn_ms 15 = some rn_q15 := rfl
theorem rn_m16 : rn_ms 16 = some rn_q16 := rfl
theorem rn_m17 : rn_ms 17 = some rn_q17 := rfl
theorem rn_m18 : rn_ms 18 = some rn_q18 := rfl
theorem rn_m19 : rn_ms 19 = some rn_q19 := rfl
theorem rn_m20 : rn_ms 20 = some rn_q20 := rfl
theorem rn_m21 : rn_ms 21 = some rn_q21 := rfl
theorem rn_m22 : rn_ms 22 = some rn_q22 := rfl
theorem rn_m23 : rn_ms 23 = some rn_q23 := rfl
theorem rn_m24 : rn_ms 24 = some rn_q24 := rfl
theorem rn_m25 : rn_ms 25 = some rn_q25 := rfl
theorem rn_m26 : rn_ms 26 = some rn_q26 := rfl
theorem rn_m27 : rn_ms 27 = some rn_q27 := rfl
theorem rn_m28 : rn_ms 28 = some rn_q28 := rfl
theorem rn_m29 : rn_ms 29 = some rn_q29 := rfl
theorem rn_m30 : rn_ms 30 = some rn_q30 := rfl
theorem rn_m31 : rn_ms 31 = some rn_q31 := rfl
theorem rn_m32 : rn_ms 32 = some rn_q32 := rfl
theorem rn_m33 : rn_ms 33 = some rn_q33 := rfl
theorem rn_m34 : rn_ms 34 = some rn_q34 := rfl
theorem rn_m35 : rn_ms 35 = some rn_q35 := rfl
theorem rn_m36 : rn_ms 36 = some rn_q36 := rfl
theorem rn_m37 : rn_ms 37 = some rn_q37 := rfl
theorem rn_m38 : rn_ms 38 = some rn_q38 := rfl
theorem rn_m39 : rn_ms 39 = some rn_q39 := rfl
theorem rn_m40 : rn_ms 40 = some rn_q40 := rfl
theorem rn_m41 : rn_ms 41 = some rn_q41 := rfl
theorem rn_m42 : rn_ms 42 = some rn_q42 := rfl
theorem rn_m43 : rn_ms 43 = some rn_q43 := rfl
theorem rn_m44 : rn_ms 44 = some rn_q44 := rfl
theorem rn_m45 : rn_ms 45 = some rn_q45 := rfl
theorem rn_m46 : rn_ms 46 = some rn_q46 := rfl
theorem rn_m47 : rn_ms 47 = some rn_q47 := rfl
theorem rn_m48 : rn_ms 48 = some rn_q48 := rfl
theorem rn_m49 : rn_ms 49 = some rn_q49 := rfl
theorem rn_m50 : rn_ms 50 = some rn_q50 := rfl
theorem rn_m51 : rn_ms 51 = some rn_q51 := rfl
theorem rn_m52 : rn_ms 52 = some rn_q52 := rfl
theorem rn_m53 : rn_ms 53 = some rn_q53 := rfl
theorem rn_m54 : rn_ms 54 = some rn_q54 := rfl
theorem rn_m55 : rn_ms 55 = some rn_q55 := rfl
theorem rn_m56 : rn_ms 56 = some rn_q56 := rfl
theorem rn_m57 : rn_ms 57 = some rn_q57 := rfl
theorem rn_m58 : rn_ms 58 = some rn_q58 := rfl
theorem rn_m59 : rn_ms 59 = some rn_q59 := rfl
theorem rn_m60 : rn_ms 60 = some rn_q60 := rfl
theorem rn_m61 : rn_ms 61 = some rn_q61 := rfl
theorem rn_m62 : rn_ms 62 = some rn_q62 := rfl
theorem rn_m63 : rn_ms 63 = some rn_q63 := rfl
theorem rn_m64 : rn_ms 64 = some rn_q64 := rfl
theorem rn_m65 : rn_ms 65 = some rn_q65 := rfl
theorem rn_m66 : rn_ms 66 = some rn_q66 := rfl
theorem rn_m67 : rn_ms 67 = some rn_q67 := rfl
theorem rn_m68 : rn_ms 68 = some rn_q68 := rfl
theorem rn_m69 : rn_ms 69 = some rn_q69 := rfl
theorem rn_m70 : rn_ms 70 = some rn_q70 := rfl
theorem rn_m71 : rn_ms 71 = some rn_q71 := rfl
theorem rn_m72 : rn_ms 72 = some rn_q72 := rfl
theorem rn_m73 : rn_ms 73 = some rn_q73 := rfl
theorem rn_m74 : rn_ms 74 = some rn_q74 := rfl
theorem rn_m75 : rn_ms 75 = some rn_q75 := rfl
theorem rn_m76 : rn_ms 76 = some rn_q76 := rfl
theorem rn_m77 : rn_ms 77 = some rn_q77 := rfl
theorem rn_m78 : rn_ms 78 = some rn_q78 := rfl
theorem rn_m79 : rn_ms 79 = some rn_q79 := rfl
theorem rn_m80 : rn_ms 80 = some rn_q80 := rfl
theorem rn_m81 : rn_ms 81 = some rn_q81 := rfl
