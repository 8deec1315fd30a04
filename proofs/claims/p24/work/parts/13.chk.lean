/-! checks -/
theorem rn_k0 : rn_oM rn_ms rn_q0 = true := by decide +kernel
theorem rn_k1 : rn_oM rn_ms rn_q1 = true := by decide +kernel
theorem rn_k2 : rn_oM rn_ms rn_q2 = true := by decide +kernel
theorem rn_k3 : rn_oM rn_ms rn_q3 = true := by decide +kernel
theorem rn_k4 : rn_oM rn_ms rn_q4 = true := by decide +kernel
theorem rn_k5 : rn_oM rn_ms rn_q5 = true := by decide +kernel
theorem rn_k6 : rn_oM rn_ms rn_q6 = true := by decide +kernel
theorem rn_k7 : rn_oM rn_ms rn_q7 = true := by decide +kernel
theorem rn_k8 : rn_oM rn_ms rn_q8 = true := by decide +kernel
theorem rn_k9 : rn_oM rn_ms rn_q9 = true := by decide +kernel
theorem rn_k10 : rn_oM rn_ms rn_q10 = true := by decide +kernel
theorem rn_k11 : rn_oM rn_ms rn_q11 = true := by decide +kernel
theorem rn_k12 : rn_oM rn_ms rn_q12 = true := by decide +kernel
theorem rn_k13 : rn_oM rn_ms rn_q13 = true := by decide +kernel
theorem rn_k14 : rn_oM rn_ms rn_q14 = true := by decide +kernel
theorem rn_k15 : rn_oM rn_ms rn_q15 = true := by decide +kernel
theorem rn_k16 : rn_oM rn_ms rn_q16 = true := by decide +kernel
theorem rn_k17 : rn_oM rn_ms rn_q17 = true := by decide +kernel
theorem rn_k18 : rn_oM rn_ms rn_q18 = true := by decide +kernel
theorem rn_k19 : rn_oM rn_ms rn_q19 = true := by decide +kernel
theorem rn_k20 : rn_oM rn_ms rn_q20 = true := by decide +kernel
theorem rn_k21 : rn_oM rn_ms rn_q21 = true := by decide +kernel
theorem rn_k22 : rn_oM rn_ms rn_q22 = true := by decide +kernel
theorem rn_k23 : rn_oM rn_ms rn_q23 = true := by decide +kernel
theorem rn_k24 : rn_oM rn_ms rn_q24 = true := by decide +kernel
theorem rn_k25 : rn_oM rn_ms rn_q25 = true := by decide +kernel
theorem rn_k26 : rn_oM rn_ms rn_q26 = true := by decide +kernel
theorem rn_k27 : rn_oM rn_ms rn_q27 = true := by decide +kernel
theorem rn_k28 : rn_oM rn_ms rn_q28 = true := by decide +kernel
theorem rn_k29 : rn_oM rn_ms rn_q29 = true := by decide +kernel
theorem rn_k30 : rn_oM rn_ms rn_q30 = true := by decide +kernel
theorem rn_k31 : rn_oM rn_ms rn_q31 = true := by decide +kernel
theorem rn_k32 : rn_oM rn_ms rn_q32 = true := by decide +kernel
theorem rn_k33 : rn_oM rn_ms rn_q33 = true := by decide +kernel
theorem rn_k34 : rn_oM rn_ms rn_q34 = true := by decide +kernel
theorem rn_k35 : rn_oM rn_ms rn_q35 = true := by decide +kernel
theorem rn_k36 : rn_oM rn_ms rn_q36 = true := by decide +kernel
theorem rn_k37 : rn_oM rn_ms rn_q37 = true := by decide +kernel
theorem rn_k38 : rn_oM rn_ms rn_q38 = true := by decide +kernel
theorem rn_k39 : rn_oM rn_ms rn_q39 = true := by decide +kernel
theorem rn_k40 : rn_oM rn_ms rn_q40 = true := by decide +kernel
theorem rn_k41 : rn_oM rn_ms rn_q41 = true := by decide +kernel
theorem rn_k42 : rn_oM rn_ms rn_q42 = true := by decide +kernel
theorem rn_k43 : rn_oM rn_ms rn_q43 = true := by decide +kernel
theorem rn_k44 : rn_oM rn_ms rn_q44 = true := by decide +kernel
theorem rn_k45 : rn_oM rn_ms rn_q45 = true := by decide +kernel
theorem rn_k46 : rn_oM rn_ms rn_q46 = true := by decide +kernel
theorem rn_k47 : rn_oM rn_ms rn_q47 = true := by decide +kernel
theorem rn_k48 : rn_oM rn_ms rn_q48 = true := by decide +kernel
theorem rn_k49 : rn_oM rn_ms rn_q49 = true := by decide +kernel
theorem rn_k50 : rn_oM rn_ms rn_q50 = true := by decide +kernel
theorem rn_k51 : rn_oM rn_ms rn_q51 = true := by decide +kernel
theorem rn_k52 : rn_oM rn_ms rn_q52 = true := by decide +kernel
theorem rn_k53 : rn_oM rn_ms rn_q53 = true := by decide +kernel
theorem rn_k54 : rn_oM rn_ms rn_q54 = true := by decide +kernel
theorem rn_k55 : rn_oM rn_ms rn_q55 = true := by decide +kernel
theorem rn_k56 : rn_oM rn_ms rn_q56 = true := by decide +kernel
theorem rn_k57 : rn_oM rn_ms rn_q57 = true := by decide +kernel
theorem rn_k58 : rn_oM rn_ms rn_q58 = true := by decide +kernel
theorem rn_k59 : rn_oM rn_ms rn_q59 = true := by decide +kernel
theorem rn_k60 : rn_oM rn_ms rn_q60 = true := by decide +kernel
theorem rn_k61 : rn_oM rn_ms rn_q61 = true := by decide +kernel
theorem rn_k62 : rn_oM rn_ms rn_q62 = true := by decide +kernel
theorem rn_k63 : rn_oM rn_ms rn_q63 = true := by decide +kernel
theorem rn_k64 : rn_oM rn_ms rn_q64 = true := by decide +kernel
theorem rn_k65 : rn_oM rn_ms rn_q65 = true := by decide +kernel
theorem rn_k66 : rn_oM rn_ms rn_q66 = true := by decide +kernel
theorem rn_k67 : rn_oM rn_ms rn_q67 = true := by decide +kernel
theorem rn_k68 : rn_oM rn_ms rn_q68 = true := by decide +kernel
theorem rn_k69 : rn_oM rn_ms rn_q69 = true := by decide +kernel
theorem rn_k70 : rn_oM rn_ms rn_q70 = true := by decide +kernel
theorem rn_k71 : rn_oM rn_ms rn_q71 = true := by decide +kernel
theorem rn_k72 : rn_oM rn_ms rn_q72 = true := by decide +kernel
theorem rn_k73 : rn_oM rn_ms rn_q73 = true := by decide +kernel
theorem rn_k74 : rn_oM rn_ms rn_q74 = true := by decide +kernel
theorem rn_k75 : rn_oM rn_ms rn_q75 = true := by decide +kernel
theorem rn_k76 : rn_oM rn_ms rn_q76 = true := by decide +kernel
theorem rn_k77 : rn_oM rn_ms rn_q77 = true := by decide +kernel
theorem rn_k78 : rn_oM rn_ms rn_q78 = true := by decide +kernel
theorem rn_k79 : rn_oM rn_ms rn_q79 = true := by decide +kernel
theorem rn_k80 : rn_oM rn_ms rn_q80 = true := by decide +kernel
theorem rn_k81_0 : rn_oT rn_ms rn_q81.1 rn_q81.2.1 rn_q81.2.2.1 rn_t81 rn_q81.2.2.2.2.2.2.1 rn_q81.2.2.2.2.2.2.2.1 rn_q81.2.2.2.2.2.2.2.2 0 rn_t81_0 = true := by decide +kernel
theorem rn_k81_1 : rn_oT rn_ms rn_q81.1 rn_q81.2.1 rn_q81.2.2.1 rn_t81 rn_q81.2.2.2.2.2.2.1 rn_q81.2.2.2.2.2.2.2.1 rn_q81.2.2.2.2.2.2.2.2 60 rn_t81_1 = true := by decide +kernel
theorem rn_k81_2 : rn_oT rn_ms rn_q81.1 rn_q81.2.1 rn_q81.2.2.1 rn_t81 rn_q81.2.2.2.2.2.2.1 rn_q81.2.2.2.2.2.2.2.1 rn_q81.2.2.2.2.2.2.2.2 120 rn_t81_2 = true := by decide +kernel
theorem rn_k81_3 : rn_oT rn_ms rn_q81.1 rn_q81.2.1 rn_q81.2.2.1 rn_t81 rn_q81.2.2.2.2.2.2.1 rn_q81.2.2.2.2.2.2.2.1 rn_q81.2.2.2.2.2.2.2.2 180 rn_t81_3 = true := by decide +kernel
theorem rn_k81_4 : rn_oT rn_ms rn_q81.1 rn_q81.2.1 rn_q81.2.2.1 rn_t81 rn_q81.2.2.2.2.2.2.1 rn_q81.2.2.2.2.2.2.2.1 rn_q81.2.2.2.2.2.2.2.2 240 rn_t81_4 = true := by decide +kernel
theorem rn_k81_5 : rn_oT rn_ms rn_q81.1 rn_q81.2.1 rn_q81.2.2.1 rn_t81 rn_q81.2.2.2.2.2.2.1 rn_q81.2.2.2.2.2.2.2.1 rn_q81.2.2.2.2.2.2.2.2 300 rn_t81_5 = true := by decide +kernel
theorem rn_k81_6 : rn_oT rn_ms rn_q81.1 rn_q81.2.1 rn_q81.2.2.1 rn_t81 rn_q81.2.2.2.2.2.2.1 rn_q81.2.2.2.2.2.2.2.1 rn_q81.2.2.2.2.2.2.2.2 360 rn_t81_6 = true := by decide +kernel
theorem rn_k81_7 : rn_oT rn_ms rn_q81.1 rn_q81.2.1 rn_q81.2.2.1 rn_t81 rn_q81.2.2.2.2.2.2.1 rn_q81.2.2.2.2.2.2.2.1 rn_q81.2.2.2.2.2.2.2.2 420 rn_t81_7 = true := by decide +kernel
theorem rn_k81_8 : rn_oT rn_ms rn_q81.1 rn_q81.2.1 rn_q81.2.2.1 rn_t81 rn_q81.2.2.2.2.2.2.1 rn_q81.2.2.2.2.2.2.2.1 rn_q81.2.2.2.2.2.2.2.2 480 rn_t81_8 = true := by decide +kernel
theorem rn_k81_9 : rn_oT rn_ms rn_q81.1 rn_q81.2.1 rn_q81.2.2.1 rn_t81 rn_q81.2.2.2.2.2.2.1 rn_q81.2.2.2.2.2.2.2.1 rn_q81.2.2.2.2.2.2.2.2 540 rn_t81_9 = true := by decide +kernel
theorem rn_k81_10 : rn_oT rn_ms rn_q81.1 rn_q81.2.1 rn_q81.2.2.1 rn_t81 rn_q81.2.2.2.2.2.2.1 rn_q81.2.2.2.2.2.2.2.1 rn_q81.2.2.2.2.2.2.2.2 600 rn_t81_10 = true := by decide +kernel
theorem rn_k81_11 : rn_oT rn_ms rn_q81.1 rn_q81.2.1 rn_q81.2.2.1 rn_t81 rn_q81.2.2.2.2.2.2.1 rn_q81.2.2.2.2.2.2.2.1 rn_q81.2.2.2.2.2.2.2.2 660 rn_t81_11 = true := by decide +kernel
theorem rn_k81_12 : rn_oT rn_ms rn_q81.1 rn_q81.2.1 rn_q81.2.2.1 rn_t81 rn_q81.2.2.2.2.2.2.1 rn_q81.2.2.2.2.2.2.2.1 rn_q81.2.2.2.2.2.2.2.2 720 rn_t81_12 = true := by decide +kernel
theorem rn_k81_13 : rn_oT rn_ms rn_q81.1 rn_q81.2.1 rn_q81.2.2.1 rn_t81 rn_q81.2.2.2.2.2.2.1 rn_q81.2.2.2.2.2.2.2.1 rn_q81.2.2.2.2.2.2.2.2 780 rn_t81_13 = true := by decide +kernel
theorem rn_k81_14 : rn_oT rn_ms rn_q81.1 rn_q81.2.1 rn_q81.2.2.1 rn_t81 rn_q81.2.2.2.2.2.2.1 rn_q81.2.2.2.2.2.2.2.1 rn_q81.2.2.2.2.2.2.2.2 840 rn_t81_14 = true := by decide +kernel
theorem rn_k81_15 : rn_oT rn_ms rn_q81.1 rn_q81.2.1 rn_q81.2.2.1 rn_t81 rn_q81.2.2.2.2.2.2.1 rn_q81.2.2.2.2.2.2.2.1 rn_q81.2.2.2.2.2.2.2.2 900 rn_t81_15 = true := by decide +kernel
theorem rn_k81_16 : rn_oT rn_ms rn_q81.1 rn_q81.2.1 rn_q81.2.2.1 rn_t81 rn_q81.2.2.2.2.2.2.1 rn_q81.2.2.2.2.2.2.2.1 rn_q81.2.2.2.2.2.2.2.2 960 rn_t81_16 = true := by decide +kernel
theorem rn_k81_17 : rn_oT rn_ms rn_q81.1 rn_q81.2.1 rn_q81.2.2.1 rn_t81 rn_q81.2.2.2.2.2.2.1 rn_q81.2.2.2.2.2.2.2.1 rn_q81.2.2.2.2.2.2.2.2 1020 rn_t81_17 = true := by decide +kernel
theorem rn_k81_18 : rn_oT rn_ms rn_q81.1 rn_q81.2.1 rn_q81.2.2.1 rn_t81 rn_q81.2.2.2.2.2.2.1 rn_q81.2.2.2.2.2.2.2.1 rn_q81.2.2.2.2.2.2.2.2 1080 rn_t81_18 = true := by decide +kernel
theorem rn_k81_19 : rn_oT rn_ms rn_q81.1 rn_q81.2.1 rn_q81.2.2.1 rn_t81 rn_q81.2.2.2.2.2.2.1 rn_q81.2.2.2.2.2.2.2.1 rn_q81.2.2.2.2.2.2.2.2 1140 rn_t81_19 = true := by decide +kernel
theorem rn_k81_20 : rn_oT rn_ms rn_q81.1 rn_q81.2.1 rn_q81.2.2.1 rn_t81 rn_q81.2.2.2.2.2.2.1 rn_q81.2.2.2.2.2.2.2.1 rn_q81.2.2.2.2.2.2.2.2 1200 rn_t81_20 = true := by decide +kernel
theorem rn_k81_r : ((!(Nat.beq rn_q81.2.2.2.2.2.2.2.2 1) || decide (rn_q81.1.name = "<init>")) && plainName rn_q81.1.cls && rn_at rn_t81 0 0) = true := by decide +kernel
theorem rn_k81 : rn_oM rn_ms rn_q81 = true := by
  have h : rn_oT rn_ms rn_q81.1 rn_q81.2.1 rn_q81.2.2.1 rn_t81 rn_q81.2.2.2.2.2.2.1 rn_q81.2.2.2.2.2.2.2.1 rn_q81.2.2.2.2.2.2.2.2 0 rn_t81 = true := (rn_oT_app _ _ _ rn_k81_0 (rn_oT_app _ _ _ rn_k81_1 (rn_oT_app _ _ _ rn_k81_2 (rn_oT_app _ _ _ rn_k81_3 (rn_oT_app _ _ _ rn_k81_4 (rn_oT_app _ _ _ rn_k81_5 (rn_oT_app _ _ _ rn_k81_6 (rn_oT_app _ _ _ rn_k81_7 (rn_oT_app _ _ _ rn_k81_8 (rn_oT_app _ _ _ rn_k81_9 (rn_oT_app _ _ _ rn_k81_10 (rn_oT_app _ _ _ rn_k81_11 (rn_oT_app _ _ _ rn_k81_12 (rn_oT_app _ _ _ rn_k81_13 (rn_oT_app _ _ _ rn_k81_14 (rn_oT_app _ _ _ rn_k81_15 (rn_oT_app _ _ _ rn_k81_16 (rn_oT_app _ _ _ rn_k81_17 (rn_oT_app _ _ _ rn_k81_18 (rn_oT_app _ _ _ rn_k81_19 rn_k81_20))))))))))))))))))))
  have h2 := rn_k81_r
  rw [Bool.and_eq_true, Bool.and_eq_true] at h2
  show (rn_oT rn_ms rn_q81.1 rn_q81.2.1 rn_q81.2.2.1 rn_t81 rn_q81.2.2.2.2.2.2.1 rn_q81.2.2.2.2.2.2.2.1 rn_q81.2.2.2.2.2.2.2.2 0 rn_t81 && _ && _ && _) = true
  rw [h, Bool.true_and, Bool.and_eq_true, Bool.and_eq_true]
  exact h2
theorem rn_kk0 : ∀ x ∈ rn_ml0, rn_oM rn_ms x = true := List.forall_mem_cons.mpr ⟨rn_k0, List.forall_mem_cons.mpr ⟨rn_k1, List.forall_mem_cons.mpr ⟨rn_k2, List.forall_mem_cons.mpr ⟨rn_k3, List.forall_mem_cons.mpr ⟨rn_k4, List.forall_mem_cons.mpr ⟨rn_k5, List.forall_mem_cons.mpr ⟨rn_k6, List.forall_mem_cons.mpr ⟨rn_k7, List.forall_mem_cons.mpr ⟨rn_k8, List.forall_mem_cons.mpr ⟨rn_k9, List.forall_mem_cons.mpr ⟨rn_k10, List.forall_mem_cons.mpr ⟨rn_k11, List.forall_mem_cons.mpr ⟨rn_k12, List.forall_mem_cons.mpr ⟨rn_k13, List.forall_mem_cons.mpr ⟨rn_k14, List.forall_mem_cons.mpr ⟨rn_k15, List.forall_mem_cons.mpr ⟨rn_k16, List.forall_mem_cons.mpr ⟨rn_k17, List.forall_mem_cons.mpr ⟨rn_k18, List.forall_mem_cons.mpr ⟨rn_k19, fun _ h => absurd h List.not_mem_nil⟩⟩⟩⟩⟩⟩⟩⟩⟩⟩⟩⟩⟩⟩⟩⟩⟩⟩⟩⟩
theorem rn_kk1 : ∀ x ∈ rn_ml1, rn_oM rn_ms x = true := List.forall_mem_cons.mpr ⟨rn_k20, List.forall_mem_cons.mpr ⟨rn_k21, List.forall_mem_cons.mpr ⟨rn_k22, List.forall_mem_cons.mpr ⟨rn_k23, List.forall_mem_cons.mpr ⟨rn_k24, List.forall_mem_cons.mpr ⟨rn_k25, List.forall_mem_cons.mpr ⟨rn_k26, List.forall_mem_cons.mpr ⟨rn_k27, List.forall_mem_cons.mpr ⟨rn_k28, List.forall_mem_cons.mpr ⟨rn_k29, List.forall_mem_cons.mpr ⟨rn_k30, List.forall_mem_cons.mpr ⟨rn_k31, List.forall_mem_cons.mpr ⟨rn_k32, List.forall_mem_cons.mpr ⟨rn_k33, List.forall_mem_cons.mpr ⟨rn_k34, List.forall_mem_cons.mpr ⟨rn_k35, List.forall_mem_cons.mpr ⟨rn_k36, List.forall_mem_cons.mpr ⟨rn_k37, List.forall_mem_cons.mpr ⟨rn_k38, List.forall_mem_cons.mpr ⟨rn_k39, fun _ h => absurd h List.not_mem_nil⟩⟩⟩⟩⟩⟩⟩⟩⟩⟩⟩⟩⟩⟩⟩⟩⟩⟩⟩⟩
theorem rn_kk2 : ∀ x ∈ rn_ml2, rn_oM rn_ms x = true := List.forall_mem_cons.mpr ⟨rn_k40, List.forall_mem_cons.mpr ⟨rn_k41, List.forall_mem_cons.mpr ⟨rn_k42, List.forall_mem_cons.mpr ⟨rn_k43, List.forall_mem_cons.mpr ⟨rn_k44, List.forall_mem_cons.mpr ⟨rn_k45, List.forall_mem_cons.mpr ⟨rn_k46, List.forall_mem_cons.mpr ⟨rn_k47, List.forall_mem_cons.mpr ⟨rn_k48, List.forall_mem_cons.mpr ⟨rn_k49, List.forall_mem_cons.mpr ⟨rn_k50, List.forall_mem_cons.mpr ⟨rn_k51, List.forall_mem_cons.mpr ⟨rn_k52, List.forall_mem_cons.mpr ⟨rn_k53, List.forall_mem_cons.mpr ⟨rn_k54, List.forall_mem_cons.mpr ⟨rn_k55, List.forall_mem_cons.mpr ⟨rn_k56, List.forall_mem_cons.mpr ⟨rn_k57, List.forall_mem_cons.mpr ⟨rn_k58, List.forall_mem_cons.mpr ⟨rn_k59, fun _ h => absurd h List.not_mem_nil⟩⟩⟩⟩⟩⟩⟩⟩⟩⟩⟩⟩⟩⟩⟩⟩⟩⟩⟩⟩
theorem rn_kk3 : ∀ x ∈ rn_ml3, rn_oM rn_ms x = true := List.forall_mem_cons.mpr ⟨rn_k60, List.forall_mem_cons.mpr ⟨rn_k61, List.forall_mem_cons.mpr ⟨rn_k62, List.forall_mem_cons.mpr ⟨rn_k63, List.forall_mem_cons.mpr ⟨rn_k64, List.forall_mem_cons.mpr ⟨rn_k65, List.forall_mem_cons.mpr ⟨rn_k66, List.forall_mem_cons.mpr ⟨rn_k67, List.forall_mem_cons.mpr ⟨rn_k68, List.forall_mem_cons.mpr ⟨rn_k69, List.forall_mem_cons.mpr ⟨rn_k70, List.forall_mem_cons.mpr ⟨rn_k71, List.forall_mem_cons.mpr ⟨rn_k72, List.forall_mem_cons.mpr ⟨rn_k73, List.forall_mem_cons.mpr ⟨rn_k74, List.forall_mem_cons.mpr ⟨rn_k75, List.forall_mem_cons.mpr ⟨rn_k76, List.forall_mem_cons.mpr ⟨rn_k77, List.forall_mem_cons.mpr ⟨rn_k78, List.forall_mem_cons.mpr ⟨rn_k79, fun _ h => absurd h List.not_mem_nil⟩⟩⟩⟩⟩⟩⟩⟩⟩⟩⟩⟩⟩⟩⟩⟩⟩⟩⟩⟩
theorem rn_kk4 : ∀ x ∈ rn_ml4, rn_oM rn_ms x = true := List.forall_mem_cons.mpr ⟨rn_k80, List.forall_mem_cons.mpr ⟨rn_k81, fun _ h => absurd h List.not_mem_nil⟩⟩
theorem rn_hms : ∀ (y : Nat) (q : rn_M), rn_ms y = some q → rn_oM rn_ms q = true := by
  intro y q h
  have hm : q ∈ rn_ml := List.mem_of_getElem? h
  have hall : ∀ x ∈ rn_ml, rn_oM rn_ms x = true := List.forall_mem_append.mpr ⟨rn_kk0, List.forall_mem_append.mpr ⟨rn_kk1, List.forall_mem_append.mpr ⟨rn_kk2, List.forall_mem_append.mpr ⟨rn_kk3, rn_kk4⟩⟩⟩⟩
  exact hall q hm
