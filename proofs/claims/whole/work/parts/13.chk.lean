/-! checks -/
theorem rn_k0 : rn_oM rn_ms rn_q0 = true := by decide +kernel
theorem rn_k1 : rn_oM rn_ms rn_q1 = true := by decide +kernel
theorem rn_k2 : rn_oM rn_ms rn_q2 = true := by decide +kernel
theorem rn_k3 : rn_oM rn_ms rn_q3 = true := by decide +kernel
theorem rn_k4 : rn_oM rn_ms rn_q4 = true := by decide +kernel
theorem rn_k5 : rn_oM rn_ms rn_q5 = true := by decide +kernel
theorem rn_k6 : rn_oM rn_ms rn_q6 = true := by decide +kernel
theorem rn_k7 : rn_oM rn_ms rn_q7 = true := by decide +kernel
theorem rn_k8 : rn_oM rn_ms rn_q8 = true := by decide +kernel
theorem rn_k9 : rn_oM rn_ms rn_q9 = true := by decide +kernel
theorem rn_k10 : rn_oM rn_ms rn_q10 = true := by decide +kernel
theorem rn_k11 : rn_oM rn_ms rn_q11 = true := by decide +kernel
theorem rn_k12 : rn_oM rn_ms rn_q12 = true := by decide +kernel
theorem rn_k13 : rn_oM rn_ms rn_q13 = true := by decide +kernel
theorem rn_k14 : rn_oM rn_ms rn_q14 = true := by decide +kernel
theorem rn_k15 : rn_oM rn_ms rn_q15 = true := by decide +kernel
theorem rn_k16 : rn_oM rn_ms rn_q16 = true := by decide +kernel
theorem rn_k17 : rn_oM rn_ms rn_q17 = true := by decide +kernel
theorem rn_k18 : rn_oM rn_ms rn_q18 = true := by decide +kernel
theorem rn_k19 : rn_oM rn_ms rn_q19 = true := by decide +kernel
theorem rn_k20 : rn_oM rn_ms rn_q20 = true := by decide +kernel
theorem rn_k21 : rn_oM rn_ms rn_q21 = true := by decide +kernel
theorem rn_k22 : rn_oM rn_ms rn_q22 = true := by decide +kernel
theorem rn_k23 : rn_oM rn_ms rn_q23 = true := by decide +kernel
theorem rn_k24 : rn_oM rn_ms rn_q24 = true := by decide +kernel
theorem rn_k25 : rn_oM rn_ms rn_q25 = true := by decide +kernel
theorem rn_k26 : rn_oM rn_ms rn_q26 = true := by decide +kernel
theorem rn_k27 : rn_oM rn_ms rn_q27 = true := by decide +kernel
theorem rn_k28 : rn_oM rn_ms rn_q28 = true := by decide +kernel
theorem rn_k29 : rn_oM rn_ms rn_q29 = true := by decide +kernel
theorem rn_k30 : rn_oM rn_ms rn_q30 = true := by decide +kernel
theorem rn_k31 : rn_oM rn_ms rn_q31 = true := by decide +kernel
theorem rn_k32 : rn_oM rn_ms rn_q32 = true := by decide +kernel
theorem rn_k33 : rn_oM rn_ms rn_q33 = true := by decide +kernel
theorem rn_k34 : rn_oM rn_ms rn_q34 = true := by decide +kernel
theorem rn_k35 : rn_oM rn_ms rn_q35 = true := by decide +kernel
theorem rn_k36 : rn_oM rn_ms rn_q36 = true := by decide +kernel
theorem rn_k37 : rn_oM rn_ms rn_q37 = true := by decide +kernel
theorem rn_k38 : rn_oM rn_ms rn_q38 = true := by decide +kernel
theorem rn_k39 : rn_oM rn_ms rn_q39 = true := by decide +kernel
theorem rn_k40 : rn_oM rn_ms rn_q40 = true := by decide +kernel
theorem rn_k41 : rn_oM rn_ms rn_q41 = true := by decide +kernel
theorem rn_k42 : rn_oM rn_ms rn_q42 = true := by decide +kernel
theorem rn_k43 : rn_oM rn_ms rn_q43 = true := by decide +kernel
theorem rn_k44 : rn_oM rn_ms rn_q44 = true := by decide +kernel
theorem rn_k45 : rn_oM rn_ms rn_q45 = true := by decide +kernel
theorem rn_k46 : rn_oM rn_ms rn_q46 = true := by decide +kernel
theorem rn_k47 : rn_oM rn_ms rn_q47 = true := by decide +kernel
theorem rn_k48 : rn_oM rn_ms rn_q48 = true := by decide +kernel
theorem rn_k49 : rn_oM rn_ms rn_q49 = true := by decide +kernel
theorem rn_k50 : rn_oM rn_ms rn_q50 = true := by decide +kernel
theorem rn_k51 : rn_oM rn_ms rn_q51 = true := by decide +kernel
theorem rn_k52 : rn_oM rn_ms rn_q52 = true := by decide +kernel
theorem rn_k53 : rn_oM rn_ms rn_q53 = true := by decide +kernel
theorem rn_k54 : rn_oM rn_ms rn_q54 = true := by decide +kernel
theorem rn_k55 : rn_oM rn_ms rn_q55 = true := by decide +kernel
theorem rn_k56 : rn_oM rn_ms rn_q56 = true := by decide +kernel
theorem rn_k57 : rn_oM rn_ms rn_q57 = true := by decide +kernel
theorem rn_k58 : rn_oM rn_ms rn_q58 = true := by decide +kernel
theorem rn_k59 : rn_oM rn_ms rn_q59 = true := by decide +kernel
theorem rn_k60 : rn_oM rn_ms rn_q60 = true := by decide +kernel
theorem rn_k61 : rn_oM rn_ms rn_q61 = true := by decide +kernel
theorem rn_k62 : rn_oM rn_ms rn_q62 = true := by decide +kernel
theorem rn_k63 : rn_oM rn_ms rn_q63 = true := by decide +kernel
theorem rn_k64 : rn_oM rn_ms rn_q64 = true := by decide +kernel
theorem rn_k65 : rn_oM rn_ms rn_q65 = true := by decide +kernel
theorem rn_k66 : rn_oM rn_ms rn_q66 = true := by decide +kernel
theorem rn_k67 : rn_oM rn_ms rn_q67 = true := by decide +kernel
theorem rn_k68 : rn_oM rn_ms rn_q68 = true := by decide +kernel
theorem rn_k69 : rn_oM rn_ms rn_q69 = true := by decide +kernel
theorem rn_k70 : rn_oM rn_ms rn_q70 = true := by decide +kernel
theorem rn_k71 : rn_oM rn_ms rn_q71 = true := by decide +kernel
theorem rn_k72 : rn_oM rn_ms rn_q72 = true := by decide +kernel
theorem rn_k73 : rn_oM rn_ms rn_q73 = true := by decide +kernel
theorem rn_k74 : rn_oM rn_ms rn_q74 = true := by decide +kernel
theorem rn_k75 : rn_oM rn_ms rn_q75 = true := by decide +kernel
theorem rn_k76 : rn_oM rn_ms rn_q76 = true := by decide +kernel
theorem rn_k77 : rn_oM rn_ms rn_q77 = true := by decide +kernel
theorem rn_k78 : rn_oM rn_ms rn_q78 = true := by decide +kernel
theorem rn_k79 : rn_oM rn_ms rn_q79 = true := by decide +kernel
theorem rn_k80 : rn_oM rn_ms rn_q80 = true := by decide +kernel
theorem rn_k81 : rn_oM rn_ms rn_q81 = true := by decide +kernel
theorem rn_k82 : rn_oM rn_ms rn_q82 = true := by decide +kernel
theorem rn_k83 : rn_oM rn_ms rn_q83 = true := by decide +kernel
theorem rn_k84 : rn_oM rn_ms rn_q84 = true := by decide +kernel
theorem rn_k85 : rn_oM rn_ms rn_q85 = true := by decide +kernel
theorem rn_k86 : rn_oM rn_ms rn_q86 = true := by decide +kernel
theorem rn_k87 : rn_oM rn_ms rn_q87 = true := by decide +kernel
theorem rn_k88 : rn_oM rn_ms rn_q88 = true := by decide +kernel
theorem rn_k89 : rn_oM rn_ms rn_q89 = true := by decide +kernel
theorem rn_k90 : rn_oM rn_ms rn_q90 = true := by decide +kernel
theorem rn_k91 : rn_oM rn_ms rn_q91 = true := by decide +kernel
theorem rn_k92 : rn_oM rn_ms rn_q92 = true := by decide +kernel
theorem rn_k93 : rn_oM rn_ms rn_q93 = true := by decide +kernel
theorem rn_k94 : rn_oM rn_ms rn_q94 = true := by decide +kernel
theorem rn_k95 : rn_oM rn_ms rn_q95 = true := by decide +kernel
theorem rn_k96 : rn_oM rn_ms rn_q96 = true := by decide +kernel
theorem rn_k97 : rn_oM rn_ms rn_q97 = true := by decide +kernel
theorem rn_k98 : rn_oM rn_ms rn_q98 = true := by decide +kernel
theorem rn_k99 : rn_oM rn_ms rn_q99 = true := by decide +kernel
theorem rn_k100 : rn_oM rn_ms rn_q100 = true := by decide +kernel
theorem rn_k101 : rn_oM rn_ms rn_q101 = true := by decide +kernel
theorem rn_k102 : rn_oM rn_ms rn_q102 = true := by decide +kernel
theorem rn_k103 : rn_oM rn_ms rn_q103 = true := by decide +kernel
theorem rn_k104 : rn_oM rn_ms rn_q104 = true := by decide +kernel
theorem rn_k105 : rn_oM rn_ms rn_q105 = true := by decide +kernel
theorem rn_k106 : rn_oM rn_ms rn_q106 = true := by decide +kernel
theorem rn_k107 : rn_oM rn_ms rn_q107 = true := by decide +kernel
theorem rn_k108 : rn_oM rn_ms rn_q108 = true := by decide +kernel
theorem rn_k109 : rn_oM rn_ms rn_q109 = true := by decide +kernel
theorem rn_k110 : rn_oM rn_ms rn_q110 = true := by decide +kernel
theorem rn_k111 : rn_oM rn_ms rn_q111 = true := by decide +kernel
theorem rn_k112 : rn_oM rn_ms rn_q112 = true := by decide +kernel
theorem rn_k113 : rn_oM rn_ms rn_q113 = true := by decide +kernel
theorem rn_k114 : rn_oM rn_ms rn_q114 = true := by decide +kernel
theorem rn_k115 : rn_oM rn_ms rn_q115 = true := by decide +kernel
theorem rn_k116 : rn_oM rn_ms rn_q116 = true := by decide +kernel
theorem rn_k117 : rn_oM rn_ms rn_q117 = true := by decide +kernel
theorem rn_k118 : rn_oM rn_ms rn_q118 = true := by decide +kernel
theorem rn_k119 : rn_oM rn_ms rn_q119 = true := by decide +kernel
theorem rn_k120 : rn_oM rn_ms rn_q120 = true := by decide +kernel
theorem rn_k121 : rn_oM rn_ms rn_q121 = true := by decide +kernel
theorem rn_k122 : rn_oM rn_ms rn_q122 = true := by decide +kernel
theorem rn_k123 : rn_oM rn_ms rn_q123 = true := by decide +kernel
theorem rn_k124 : rn_oM rn_ms rn_q124 = true := by decide +kernel
theorem rn_k125 : rn_oM rn_ms rn_q125 = true := by decide +kernel
theorem rn_k126 : rn_oM rn_ms rn_q126 = true := by decide +kernel
theorem rn_k127 : rn_oM rn_ms rn_q127 = true := by decide +kernel
theorem rn_k128 : rn_oM rn_ms rn_q128 = true := by decide +kernel
theorem rn_k129 : rn_oM rn_ms rn_q129 = true := by decide +kernel
theorem rn_k130 : rn_oM rn_ms rn_q130 = true := by decide +kernel
theorem rn_k131 : rn_oM rn_ms rn_q131 = true := by decide +kernel
theorem rn_k132 : rn_oM rn_ms rn_q132 = true := by decide +kernel
theorem rn_k133 : rn_oM rn_ms rn_q133 = true := by decide +kernel
theorem rn_k134 : rn_oM rn_ms rn_q134 = true := by decide +kernel
theorem rn_k135 : rn_oM rn_ms rn_q135 = true := by decide +kernel
theorem rn_k136 : rn_oM rn_ms rn_q136 = true := by decide +kernel
theorem rn_k137 : rn_oM rn_ms rn_q137 = true := by decide +kernel
theorem rn_k138 : rn_oM rn_ms rn_q138 = true := by decide +kernel
theorem rn_k139 : rn_oM rn_ms rn_q139 = true := by decide +kernel
theorem rn_k140 : rn_oM rn_ms rn_q140 = true := by decide +kernel
theorem rn_k141 : rn_oM rn_ms rn_q141 = true := by decide +kernel
theorem rn_k142 : rn_oM rn_ms rn_q142 = true := by decide +kernel
theorem rn_k143 : rn_oM rn_ms rn_q143 = true := by decide +kernel
theorem rn_k144 : rn_oM rn_ms rn_q144 = true := by decide +kernel
theorem rn_k145 : rn_oM rn_ms rn_q145 = true := by decide +kernel
theorem rn_k146 : rn_oM rn_ms rn_q146 = true := by decide +kernel
theorem rn_k147 : rn_oM rn_ms rn_q147 = true := by decide +kernel
theorem rn_k148 : rn_oM rn_ms rn_q148 = true := by decide +kernel
theorem rn_k149 : rn_oM rn_ms rn_q149 = true := by decide +kernel
theorem rn_k150 : rn_oM rn_ms rn_q150 = true := by decide +kernel
theorem rn_k151 : rn_oM rn_ms rn_q151 = true := by decide +kernel
theorem rn_k152 : rn_oM rn_ms rn_q152 = true := by decide +kernel
theorem rn_k153 : rn_oM rn_ms rn_q153 = true := by decide +kernel
theorem rn_k154 : rn_oM rn_ms rn_q154 = true := by decide +kernel
theorem rn_k155 : rn_oM rn_ms rn_q155 = true := by decide +kernel
theorem rn_k156 : rn_oM rn_ms rn_q156 = true := by decide +kernel
theorem rn_k157 : rn_oM rn_ms rn_q157 = true := by decide +kernel
theorem rn_k158 : rn_oM rn_ms rn_q158 = true := by decide +kernel
theorem rn_k159 : rn_oM rn_ms rn_q159 = true := by decide +kernel
theorem rn_k160 : rn_oM rn_ms rn_q160 = true := by decide +kernel
theorem rn_k161 : rn_oM rn_ms rn_q161 = true := by decide +kernel
theorem rn_k162 : rn_oM rn_ms rn_q162 = true := by decide +kernel
theorem rn_k163 : rn_oM rn_ms rn_q163 = true := by decide +kernel
theorem rn_k164 : rn_oM rn_ms rn_q164 = true := by decide +kernel
theorem rn_k165_0 : rn_oT rn_ms rn_q165.1 rn_q165.2.1 rn_q165.2.2.1 rn_t165 rn_q165.2.2.2.2.2.2.1 rn_q165.2.2.2.2.2.2.2.1 rn_q165.2.2.2.2.2.2.2.2 0 rn_t165_0 = true := by decide +kernel
theorem rn_k165_1 : rn_oT rn_ms rn_q165.1 rn_q165.2.1 rn_q165.2.2.1 rn_t165 rn_q165.2.2.2.2.2.2.1 rn_q165.2.2.2.2.2.2.2.1 rn_q165.2.2.2.2.2.2.2.2 60 rn_t165_1 = true := by decide +kernel
theorem rn_k165_2 : rn_oT rn_ms rn_q165.1 rn_q165.2.1 rn_q165.2.2.1 rn_t165 rn_q165.2.2.2.2.2.2.1 rn_q165.2.2.2.2.2.2.2.1 rn_q165.2.2.2.2.2.2.2.2 120 rn_t165_2 = true := by decide +kernel
theorem rn_k165_3 : rn_oT rn_ms rn_q165.1 rn_q165.2.1 rn_q165.2.2.1 rn_t165 rn_q165.2.2.2.2.2.2.1 rn_q165.2.2.2.2.2.2.2.1 rn_q165.2.2.2.2.2.2.2.2 180 rn_t165_3 = true := by decide +kernel
theorem rn_k165_4 : rn_oT rn_ms rn_q165.1 rn_q165.2.1 rn_q165.2.2.1 rn_t165 rn_q165.2.2.2.2.2.2.1 rn_q165.2.2.2.2.2.2.2.1 rn_q165.2.2.2.2.2.2.2.2 240 rn_t165_4 = true := by decide +kernel
theorem rn_k165_5 : rn_oT rn_ms rn_q165.1 rn_q165.2.1 rn_q165.2.2.1 rn_t165 rn_q165.2.2.2.2.2.2.1 rn_q165.2.2.2.2.2.2.2.1 rn_q165.2.2.2.2.2.2.2.2 300 rn_t165_5 = true := by decide +kernel
theorem rn_k165_6 : rn_oT rn_ms rn_q165.1 rn_q165.2.1 rn_q165.2.2.1 rn_t165 rn_q165.2.2.2.2.2.2.1 rn_q165.2.2.2.2.2.2.2.1 rn_q165.2.2.2.2.2.2.2.2 360 rn_t165_6 = true := by decide +kernel
theorem rn_k165_7 : rn_oT rn_ms rn_q165.1 rn_q165.2.1 rn_q165.2.2.1 rn_t165 rn_q165.2.2.2.2.2.2.1 rn_q165.2.2.2.2.2.2.2.1 rn_q165.2.2.2.2.2.2.2.2 420 rn_t165_7 = true := by decide +kernel
theorem rn_k165_8 : rn_oT rn_ms rn_q165.1 rn_q165.2.1 rn_q165.2.2.1 rn_t165 rn_q165.2.2.2.2.2.2.1 rn_q165.2.2.2.2.2.2.2.1 rn_q165.2.2.2.2.2.2.2.2 480 rn_t165_8 = true := by decide +kernel
theorem rn_k165_9 : rn_oT rn_ms rn_q165.1 rn_q165.2.1 rn_q165.2.2.1 rn_t165 rn_q165.2.2.2.2.2.2.1 rn_q165.2.2.2.2.2.2.2.1 rn_q165.2.2.2.2.2.2.2.2 540 rn_t165_9 = true := by decide +kernel
theorem rn_k165_r : ((!(Nat.beq rn_q165.2.2.2.2.2.2.2.2 1) || decide (rn_q165.1.name = "<init>")) && plainName rn_q165.1.cls && rn_at rn_t165 0 0) = true := by decide +kernel
theorem rn_k165 : rn_oM rn_ms rn_q165 = true := by
  have h : rn_oT rn_ms rn_q165.1 rn_q165.2.1 rn_q165.2.2.1 rn_t165 rn_q165.2.2.2.2.2.2.1 rn_q165.2.2.2.2.2.2.2.1 rn_q165.2.2.2.2.2.2.2.2 0 rn_t165 = true := (rn_oT_app _ _ _ rn_k165_0 (rn_oT_app _ _ _ rn_k165_1 (rn_oT_app _ _ _ rn_k165_2 (rn_oT_app _ _ _ rn_k165_3 (rn_oT_app _ _ _ rn_k165_4 (rn_oT_app _ _ _ rn_k165_5 (rn_oT_app _ _ _ rn_k165_6 (rn_oT_app _ _ _ rn_k165_7 (rn_oT_app _ _ _ rn_k165_8 rn_k165_9)))))))))
  have h2 := rn_k165_r
  rw [Bool.and_eq_true, Bool.and_eq_true] at h2
  show (rn_oT rn_ms rn_q165.1 rn_q165.2.1 rn_q165.2.2.1 rn_t165 rn_q165.2.2.2.2.2.2.1 rn_q165.2.2.2.2.2.2.2.1 rn_q165.2.2.2.2.2.2.2.2 0 rn_t165 && _ && _ && _) = true
  rw [h, Bool.true_and, Bool.and_eq_true, Bool.and_eq_true]
  exact h2
theorem rn_kk0 : ∀ x ∈ rn_ml0, rn_oM rn_ms x = true := List.forall_mem_cons.mpr ⟨rn_k0, List.forall_mem_cons.mpr ⟨rn_k1, List.forall_mem_cons.mpr ⟨rn_k2, List.forall_mem_cons.mpr ⟨rn_k3, List.forall_mem_cons.mpr ⟨rn_k4, List.forall_mem_cons.mpr ⟨rn_k5, List.forall_mem_cons.mpr ⟨rn_k6, List.forall_mem_cons.mpr ⟨rn_k7, List.forall_mem_cons.mpr ⟨rn_k8, List.forall_mem_cons.mpr ⟨rn_k9, List.forall_mem_cons.mpr ⟨rn_k10, List.forall_mem_cons.mpr ⟨rn_k11, List.forall_mem_cons.mpr ⟨rn_k12, List.forall_mem_cons.mpr ⟨rn_k13, List.forall_mem_cons.mpr ⟨rn_k14, List.forall_mem_cons.mpr ⟨rn_k15, List.forall_mem_cons.mpr ⟨rn_k16, List.forall_mem_cons.mpr ⟨rn_k17, List.forall_mem_cons.mpr ⟨rn_k18, List.forall_mem_cons.mpr ⟨rn_k19, fun _ h => absurd h List.not_mem_nil⟩⟩⟩⟩⟩⟩⟩⟩⟩⟩⟩⟩⟩⟩⟩⟩⟩⟩⟩⟩
theorem rn_kk1 : ∀ x ∈ rn_ml1, rn_oM rn_ms x = true := List.forall_mem_cons.mpr ⟨rn_k20, List.forall_mem_cons.mpr ⟨rn_k21, List.forall_mem_cons.mpr ⟨rn_k22, List.forall_mem_cons.mpr ⟨rn_k23, List.forall_mem_cons.mpr ⟨rn_k24, List.forall_mem_cons.mpr ⟨rn_k25, List.forall_mem_cons.mpr ⟨rn_k26, List.forall_mem_cons.mpr ⟨rn_k27, List.forall_mem_cons.mpr ⟨rn_k28, List.forall_mem_cons.mpr ⟨rn_k29, List.forall_mem_cons.mpr ⟨rn_k30, List.forall_mem_cons.mpr ⟨rn_k31, List.forall_mem_cons.mpr ⟨rn_k32, List.forall_mem_cons.mpr ⟨rn_k33, List.forall_mem_cons.mpr ⟨rn_k34, List.forall_mem_cons.mpr ⟨rn_k35, List.forall_mem_cons.mpr ⟨rn_k36, List.forall_mem_cons.mpr ⟨rn_k37, List.forall_mem_cons.mpr ⟨rn_k38, List.forall_mem_cons.mpr ⟨rn_k39, fun _ h => absurd h List.not_mem_nil⟩⟩⟩⟩⟩⟩⟩⟩⟩⟩⟩⟩⟩⟩⟩⟩⟩⟩⟩⟩
theorem rn_kk2 : ∀ x ∈ rn_ml2, rn_oM rn_ms x = true := List.forall_mem_cons.mpr ⟨rn_k40, List.forall_mem_cons.mpr ⟨rn_k41, List.forall_mem_cons.mpr ⟨rn_k42, List.forall_mem_cons.mpr ⟨rn_k43, List.forall_mem_cons.mpr ⟨rn_k44, List.forall_mem_cons.mpr ⟨rn_k45, List.forall_mem_cons.mpr ⟨rn_k46, List.forall_mem_cons.mpr ⟨rn_k47, List.forall_mem_cons.mpr ⟨rn_k48, List.forall_mem_cons.mpr ⟨rn_k49, List.forall_mem_cons.mpr ⟨rn_k50, List.forall_mem_cons.mpr ⟨rn_k51, List.forall_mem_cons.mpr ⟨rn_k52, List.forall_mem_cons.mpr ⟨rn_k53, List.forall_mem_cons.mpr ⟨rn_k54, List.forall_mem_cons.mpr ⟨rn_k55, List.forall_mem_cons.mpr ⟨rn_k56, List.forall_mem_cons.mpr ⟨rn_k57, List.forall_mem_cons.mpr ⟨rn_k58, List.forall_mem_cons.mpr ⟨rn_k59, fun _ h => absurd h List.not_mem_nil⟩⟩⟩⟩⟩⟩⟩⟩⟩⟩⟩⟩⟩⟩⟩⟩⟩⟩⟩⟩
theorem rn_kk3 : ∀ x ∈ rn_ml3, rn_oM rn_ms x = true := List.forall_mem_cons.mpr ⟨rn_k60, List.forall_mem_cons.mpr ⟨rn_k61, List.forall_mem_cons.mpr ⟨rn_k62, List.forall_mem_cons.mpr ⟨rn_k63, List.forall_mem_cons.mpr ⟨rn_k64, List.forall_mem_cons.mpr ⟨rn_k65, List.forall_mem_cons.mpr ⟨rn_k66, List.forall_mem_cons.mpr ⟨rn_k67, List.forall_mem_cons.mpr ⟨rn_k68, List.forall_mem_cons.mpr ⟨rn_k69, List.forall_mem_cons.mpr ⟨rn_k70, List.forall_mem_cons.mpr ⟨rn_k71, List.forall_mem_cons.mpr ⟨rn_k72, List.forall_mem_cons.mpr ⟨rn_k73, List.forall_mem_cons.mpr ⟨rn_k74, List.forall_mem_cons.mpr ⟨rn_k75, List.forall_mem_cons.mpr ⟨rn_k76, List.forall_mem_cons.mpr ⟨rn_k77, List.forall_mem_cons.mpr ⟨rn_k78, List.forall_mem_cons.mpr ⟨rn_k79, fun _ h => absurd h List.not_mem_nil⟩⟩⟩⟩⟩⟩⟩⟩⟩⟩⟩⟩⟩⟩⟩⟩⟩⟩⟩⟩
theorem rn_kk4 : ∀ x ∈ rn_ml4, rn_oM rn_ms x = true := List.forall_mem_cons.mpr ⟨rn_k80, List.forall_mem_cons.mpr ⟨rn_k81, List.forall_mem_cons.mpr ⟨rn_k82, List.forall_mem_cons.mpr ⟨rn_k83, List.forall_mem_cons.mpr ⟨rn_k84, List.forall_mem_cons.mpr ⟨rn_k85, List.forall_mem_cons.mpr ⟨rn_k86, List.forall_mem_cons.mpr ⟨rn_k87, List.forall_mem_cons.mpr ⟨rn_k88, List.forall_mem_cons.mpr ⟨rn_k89, List.forall_mem_cons.mpr ⟨rn_k90, List.forall_mem_cons.mpr ⟨rn_k91, List.forall_mem_cons.mpr ⟨rn_k92, List.forall_mem_cons.mpr ⟨rn_k93, List.forall_mem_cons.mpr ⟨rn_k94, List.forall_mem_cons.mpr ⟨rn_k95, List.forall_mem_cons.mpr ⟨rn_k96, List.forall_mem_cons.mpr ⟨rn_k97, List.forall_mem_cons.mpr ⟨rn_k98, List.forall_mem_cons.mpr ⟨rn_k99, fun _ h => absurd h List.not_mem_nil⟩⟩⟩⟩⟩⟩⟩⟩⟩⟩⟩⟩⟩⟩⟩⟩⟩⟩⟩⟩
theorem rn_kk5 : ∀ x ∈ rn_ml5, rn_oM rn_ms x = true := List.forall_mem_cons.mpr ⟨rn_k100, List.forall_mem_cons.mpr ⟨rn_k101, List.forall_mem_cons.mpr ⟨rn_k102, List.forall_mem_cons.mpr ⟨rn_k103, List.forall_mem_cons.mpr ⟨rn_k104, List.forall_mem_cons.mpr ⟨rn_k105, List.forall_mem_cons.mpr ⟨rn_k106, List.forall_mem_cons.mpr ⟨rn_k107, List.forall_mem_cons.mpr ⟨rn_k108, List.forall_mem_cons.mpr ⟨rn_k109, List.forall_mem_cons.mpr ⟨rn_k110, List.forall_mem_cons.mpr ⟨rn_k111, List.forall_mem_cons.mpr ⟨rn_k112, List.forall_mem_cons.mpr ⟨rn_k113, List.forall_mem_cons.mpr ⟨rn_k114, List.forall_mem_cons.mpr ⟨rn_k115, List.forall_mem_cons.mpr ⟨rn_k116, List.forall_mem_cons.mpr ⟨rn_k117, List.forall_mem_cons.mpr ⟨rn_k118, List.forall_mem_cons.mpr ⟨rn_k119, fun _ h => absurd h List.not_mem_nil⟩⟩⟩⟩⟩⟩⟩⟩⟩⟩⟩⟩⟩⟩⟩⟩⟩⟩⟩⟩
theorem rn_kk6 : ∀ x ∈ rn_ml6, rn_oM rn_ms x = true := List.forall_mem_cons.mpr ⟨rn_k120, List.forall_mem_cons.mpr ⟨rn_k121, List.forall_mem_cons.mpr ⟨rn_k122, List.forall_mem_cons.mpr ⟨rn_k123, List.forall_mem_cons.mpr ⟨rn_k124, List.forall_mem_cons.mpr ⟨rn_k125, List.forall_mem_cons.mpr ⟨rn_k126, List.forall_mem_cons.mpr ⟨rn_k127, List.forall_mem_cons.mpr ⟨rn_k128, List.forall_mem_cons.mpr ⟨rn_k129, List.forall_mem_cons.mpr ⟨rn_k130, List.forall_mem_cons.mpr ⟨rn_k131, List.forall_mem_cons.mpr ⟨rn_k132, List.forall_mem_cons.mpr ⟨rn_k133, List.forall_mem_cons.mpr ⟨rn_k134, List.forall_mem_cons.mpr ⟨rn_k135, List.forall_mem_cons.mpr ⟨rn_k136, List.forall_mem_cons.mpr ⟨rn_k137, List.forall_mem_cons.mpr ⟨rn_k138, List.forall_mem_cons.mpr ⟨rn_k139, fun _ h => absurd h List.not_mem_nil⟩⟩⟩⟩⟩⟩⟩⟩⟩⟩⟩⟩⟩⟩⟩⟩⟩⟩⟩⟩
theorem rn_kk7 : ∀ x ∈ rn_ml7, rn_oM rn_ms x = true := List.forall_mem_cons.mpr ⟨rn_k140, List.forall_mem_cons.mpr ⟨rn_k141, List.forall_mem_cons.mpr ⟨rn_k142, List.forall_mem_cons.mpr ⟨rn_k143, List.forall_mem_cons.mpr ⟨rn_k144, List.forall_mem_cons.mpr ⟨rn_k145, List.forall_mem_cons.mpr ⟨rn_k146, List.forall_mem_cons.mpr ⟨rn_k147, List.forall_mem_cons.mpr ⟨rn_k148, List.forall_mem_cons.mpr ⟨rn_k149, List.forall_mem_cons.mpr ⟨rn_k150, List.forall_mem_cons.mpr ⟨rn_k151, List.forall_mem_cons.mpr ⟨rn_k152, List.forall_mem_cons.mpr ⟨rn_k153, List.forall_mem_cons.mpr ⟨rn_k154, List.forall_mem_cons.mpr ⟨rn_k155, List.forall_mem_cons.mpr ⟨rn_k156, List.forall_mem_cons.mpr ⟨rn_k157, List.forall_mem_cons.mpr ⟨rn_k158, List.forall_mem_cons.mpr ⟨rn_k159, fun _ h => absurd h List.not_mem_nil⟩⟩⟩⟩⟩⟩⟩⟩⟩⟩⟩⟩⟩⟩⟩⟩⟩⟩⟩⟩
theorem rn_kk8 : ∀ x ∈ rn_ml8, rn_oM rn_ms x = true := List.forall_mem_cons.mpr ⟨rn_k160, List.forall_mem_cons.mpr ⟨rn_k161, List.forall_mem_cons.mpr ⟨rn_k162, List.forall_mem_cons.mpr ⟨rn_k163, List.forall_mem_cons.mpr ⟨rn_k164, List.forall_mem_cons.mpr ⟨rn_k165, fun _ h => absurd h List.not_mem_nil⟩⟩⟩⟩⟩⟩
theorem rn_hms : ∀ (y : Nat) (q : rn_M), rn_ms y = some q → rn_oM rn_ms q = true := by
  intro y q h
  have hm : q ∈ rn_ml := List.mem_of_getElem? h
  have hall : ∀ x ∈ rn_ml, rn_oM rn_ms x = true := List.forall_mem_append.mpr ⟨rn_kk0, List.forall_mem_append.mpr ⟨rn_kk1, List.forall_mem_append.mpr ⟨rn_kk2, List.forall_mem_append.mpr ⟨rn_kk3, List.forall_mem_append.mpr ⟨rn_kk4, List.forall_mem_append.mpr ⟨rn_kk5, List.forall_mem_append.mpr ⟨rn_kk6, List.forall_mem_append.mpr ⟨rn_kk7, rn_kk8⟩⟩⟩⟩⟩⟩⟩⟩
  exact hall q hm
