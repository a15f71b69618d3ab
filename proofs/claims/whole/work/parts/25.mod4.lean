/-! THE REFERENCE: A MONTH -/
section MD4
variable {G : xCtx} {μ : xMem} {Q : xOut → xMem → Prop} {m p : Nat} {s : Nat → Int32} {σ : Nat → Int64} {x : ST}
theorem h1000 : ¬ (1000 : Int32) = 0 := by decide
theorem s127 (hm : MS μ m) (hp : p < 8) (hs : ∀ k, k < 3 → ¬ 12 * s (10 + 3 * k + 1) = 0) (early : Int32) : Cn G 127 [.ref m, .int (nI p), .int early] (MM μ m s σ) Q = Q (.inl none) (MM μ m (zRet s p early) σ) := by
  have hm0 := hm
  obtain ⟨k0, ⟨k1, n1⟩, -, -, ⟨k4, n4⟩, -, -, -, r1, -, -, r4, -⟩ := hm
  show Rn G 127 0 [some (.ref m), some (.int (nI p)), some (.int early)] [] (MM μ m s σ) Q = _
  simp (disch := first | assumption | (rw [MM_Kd]; assumption) | omega | decide) only [q127_0, q127_0N, q127_1, q127_4, q127_5, q127_7, q127_10, q127_10N, q127_11, q127_12, q127_13, q127_14, q127_15, q127_18, q127_19, q127_19N, q127_20, q127_23, q127_24, q127_26, q127_29, q127_30, q127_31, q127_31N, q127_32, q127_35, q127_36, q127_38, q127_41, q127_42, q127_43, s112_8, s112_7, s112_10, s125 hm0 hp hs, MM_Kd, MM_Ln, MM_R, MM_I, MM_J, MM_sI, MM_sJ, r1, n1, r4, n4, xaf_s, xaf_v, va_rf_s, xix_n, nI_clamp, xk1_i, xk1_a, xk1_u, xk1_n, xk1_l, xk1_d, true_and, and_true, ↓reduceIte, Nat.reduceAdd, xtup]
  rfl
theorem s128 (hm : MS μ m) (hp : p < 8) {c n : Nat} (hc : c < 3) (ho : x.1 (19 + 75 * p + 1) = nI c) (hn : n < 64) (hl : x.1 (19 + 75 * p + 10) = nI n) : Cn G 128 [.ref m, .int (nI p)] (MM μ m x.1 x.2) Q = Q (.inl none) (MM μ m (zCon1 p c n x).1 (zCon1 p c n x).2) := by
  have hm0 := hm
  obtain ⟨k0, ⟨k1, n1⟩, -, -, ⟨k4, n4⟩, -, -, -, r1, -, -, r4, -⟩ := hm
  show Rn G 128 0 [some (.ref m), some (.int (nI p)), none, none] [] (MM μ m x.1 x.2) Q = _
  unfold zCon1 zDue
  by_cases hb : x.1 (19 + 75 * p + 9) = 1
  · simp (disch := first | assumption | (rw [MM_Kd]; assumption) | omega | decide) only [q128_0, q128_0N, q128_1, q128_4, q128_5, q128_6, q128_9, q128_9T, q128_10, q128_11, q128_11N, q128_12, q128_15, q128_16, q128_17, q128_20, q128_20T, q128_21, q128_21N, q128_22, q128_23, q128_26, q128_27, q128_30, q128_31, q128_32, q128_32N, q128_33, q128_36, q128_37, q128_39, q128_42, q128_42T, q128_43, q128_44, q128_47, q128_47N, q128_48, q128_51, q128_52, q128_54, q128_54N, q128_55, q128_58, q128_59, q128_61, q128_64, q128_64T, q128_65, q128_66, q128_69, q128_72, q128_72N, q128_73, q128_76, q128_77, q128_77T, q128_78, q128_79, q128_82, q128_83, q128_84, q128_85, q128_86, q128_87, q128_88, q128_88N, q128_89, q128_92, q128_93, q128_95, q128_98, q128_99, q128_99T, q128_100, q128_101, q128_102, q128_103, q128_106, q128_106N, q128_107, q128_110, q128_111, q128_112, q128_112T, q128_113, q128_114, q128_115, q128_116, q128_116N, q128_117, q128_120, q128_121, q128_122, q128_123, q128_124, q128_125, q128_126, q128_127, q128_127N, q128_128, q128_131, q128_132, q128_133, q128_134, q128_135, q128_138, q128_139, q128_139T, q128_140, q128_141, q128_142, q128_143, s112_1, s112_2, s112_9, s112_10, s112, s118 (μ := MM μ m x.1 x.2) hm0 hc, ho, hl, eq_true hb, nI_11, nI_1, h1000, xl0, nc0, MM_Kd, MM_Ln, MM_R, MM_I, MM_J, MM_sI, MM_sJ, r1, n1, r4, n4, up_n, not_true_eq_false, not_false_eq_true, xaf_s, xaf_v, va_rf_s, xix_n, nI_clamp, xk1_i, xk1_a, xk1_u, xk1_n, xk1_l, xk1_d, true_and, and_true, ↓reduceIte, Nat.reduceAdd, xtup]
  · simp (disch := first | assumption | (rw [MM_Kd]; assumption) | omega | decide) only [q128_0, q128_0N, q128_1, q128_4, q128_5, q128_6, q128_9, q128_9T, q128_10, q128_11, q128_11N, q128_12, q128_15, q128_16, q128_17, q128_20, q128_20T, q128_21, q128_21N, q128_22, q128_23, q128_26, q128_27, q128_30, q128_31, q128_32, q128_32N, q128_33, q128_36, q128_37, q128_39, q128_42, q128_42T, q128_43, q128_44, q128_47, q128_47N, q128_48, q128_51, q128_52, q128_54, q128_54N, q128_55, q128_58, q128_59, q128_61, q128_64, q128_64T, q128_65, q128_66, q128_69, q128_72, q128_72N, q128_73, q128_76, q128_77, q128_77T, q128_78, q128_79, q128_82, q128_83, q128_84, q128_85, q128_86, q128_87, q128_88, q128_88N, q128_89, q128_92, q128_93, q128_95, q128_98, q128_99, q128_99T, q128_100, q128_101, q128_102, q128_103, q128_106, q128_106N, q128_107, q128_110, q128_111, q128_112, q128_112T, q128_113, q128_114, q128_115, q128_116, q128_116N, q128_117, q128_120, q128_121, q128_122, q128_123, q128_124, q128_125, q128_126, q128_127, q128_127N, q128_128, q128_131, q128_132, q128_133, q128_134, q128_135, q128_138, q128_139, q128_139T, q128_140, q128_141, q128_142, q128_143, s112_1, s112_2, s112_9, s112_10, s112, s118 (μ := MM μ m x.1 x.2) hm0 hc, ho, hl, hb, nI_4, nI_1, h1000, xl0, nc0, xl1, nc1, MM_Kd, MM_Ln, MM_R, MM_I, MM_J, MM_sI, MM_sJ, r1, n1, r4, n4, up_n, not_true_eq_false, not_false_eq_true, xaf_s, xaf_v, va_rf_s, xix_n, nI_clamp, xk1_i, xk1_a, xk1_u, xk1_n, xk1_l, xk1_d, true_and, and_true, ↓reduceIte, Nat.reduceAdd, xtup]
theorem s129_loop (hm : MS μ m) (hp : p < 8) : ∀ n s, n < 63 → s (19 + 75 * p + 10) = nI n → Rn G 129 0 [some (.ref m), some (.int (nI p))] [] (MM μ m s σ) Q = Q (.inl none) (MM μ m (zLap1 p n s) σ) := by
  have hm0 := hm
  obtain ⟨k0, ⟨k1, n1⟩, -, -, ⟨k4, n4⟩, -, -, -, r1, -, -, r4, -⟩ := hm
  have z0 : (0 : Int32) = nI 0 := rfl
  intro n
  induction n with
  | zero =>
    intro s h63 hl
    rw [q129_0]
    simp (disch := first | assumption | (rw [MM_Kd]; assumption) | omega | decide) only [q129_1, q129_4, q129_5, q129_7, q129_10, q129_10T, q129_11, q129_14, q129_14N, q129_15, q129_18, q129_19, q129_19T, q129_20, q129_20N, q129_21, q129_22, q129_23, q129_26, q129_27, q129_27N, q129_28, q129_31, q129_33, q129_33T, q129_34, q129_37, q129_37N, q129_38, q129_39, q129_40, q129_43, q129_43N, q129_44, q129_47, q129_48, q129_49, q129_49T, q129_50, q129_51, q129_52, q129_53, q129_56, s112_10, hl, z0, nI_leI, Nat.le_refl, MM_Kd, MM_Ln, MM_R, MM_I, MM_J, MM_sI, MM_sJ, r1, n1, r4, n4, xaf_s, xaf_v, va_rf_s, xix_n, nI_clamp, xk1_i, xk1_a, xk1_u, xk1_n, xk1_l, xk1_d, true_and, and_true, ↓reduceIte, Nat.reduceAdd, xtup]
    rfl
  | succ n ih =>
    intro s h63 hl
    have h2 : ¬ n + 1 ≤ 0 := by omega
    have h120 := fun Q => s120 (G := G) (Q := Q) (μ := MM μ m s σ) hm0 hp (k := 0) (by omega)
    rw [MM_I] at h120
    have h124 := fun Q => s124 (G := G) (Q := Q) (σ := σ) hm0 hp hl (by omega)
    have z0' : (nI 0 : Int32) = 0 := rfl
    rw [z0'] at h120
    by_cases hc : s 0 - mDueM s p 0 < s 7
    · have hc' : ¬ s 7 ≤ s 0 - mDueM s p 0 := Int32.not_le.mpr hc
      rw [q129_0]
      simp (disch := first | assumption | (rw [MM_Kd]; assumption) | omega | decide) only [q129_1, q129_4, q129_5, q129_7, q129_10, q129_10T, q129_11, q129_14, q129_14N, q129_15, q129_18, q129_19, q129_19T, q129_20, q129_20N, q129_21, q129_22, q129_23, q129_26, q129_27, q129_27N, q129_28, q129_31, q129_33, q129_33T, q129_34, q129_37, q129_37N, q129_38, q129_39, q129_40, q129_43, q129_43N, q129_44, q129_47, q129_48, q129_49, q129_49T, q129_50, q129_51, q129_52, q129_53, q129_56, s112_10, hl, show (nI (n + 1) ≤ 0) = False by apply eq_false; rw [z0, nI_leI (by omega) (by omega)]; omega, h120, xl0, nc0, xl7, nc7, hc, MM_Kd, MM_Ln, MM_R, MM_I, MM_J, MM_sI, MM_sJ, r1, n1, r4, n4, xaf_s, xaf_v, va_rf_s, xix_n, nI_clamp, xk1_i, xk1_a, xk1_u, xk1_n, xk1_l, xk1_d, true_and, and_true, ↓reduceIte, Nat.reduceAdd, xtup]
      simp only [zLap1, hc', ↓reduceIte]
    · have hc' : s 7 ≤ s 0 - mDueM s p 0 := Int32.not_lt.mp hc
      rw [q129_0]
      simp (disch := first | assumption | (rw [MM_Kd]; assumption) | omega | decide) only [q129_1, q129_4, q129_5, q129_7, q129_10, q129_10T, q129_11, q129_14, q129_14N, q129_15, q129_18, q129_19, q129_19T, q129_20, q129_20N, q129_21, q129_22, q129_23, q129_26, q129_27, q129_27N, q129_28, q129_31, q129_33, q129_33T, q129_34, q129_37, q129_37N, q129_38, q129_39, q129_40, q129_43, q129_43N, q129_44, q129_47, q129_48, q129_49, q129_49T, q129_50, q129_51, q129_52, q129_53, q129_56, s112_10, hl, show (nI (n + 1) ≤ 0) = False by apply eq_false; rw [z0, nI_leI (by omega) (by omega)]; omega, h120, h124, xl0, nc0, xl7, nc7, xl4, nc4, hc, MM_Kd, MM_Ln, MM_R, MM_I, MM_J, MM_sI, MM_sJ, r1, n1, r4, n4, xaf_s, xaf_v, va_rf_s, xix_n, nI_clamp, xk1_i, xk1_a, xk1_u, xk1_n, xk1_l, xk1_d, true_and, and_true, ↓reduceIte, Nat.reduceAdd, xtup]
      rw [ih _ (by omega) (by rw [up_n (by omega)]; exact (mSh_n (by omega)).trans up_e)]
      simp only [zLap1, hc', ↓reduceIte]
      rw [show mDrop s p n 4 = s 4 from (mSh_n (by omega)).trans (up_n (by omega))]
theorem s130 (hm : MS μ m) (hp : p < 8) : Cn G 130 [.ref m, .int (nI p)] (MM μ m x.1 x.2) Q = Q (.inl none) (MM μ m (zOut1 p x).1 (zOut1 p x).2) := by
  obtain ⟨k0, ⟨k1, n1⟩, -, -, ⟨k4, n4⟩, -, -, -, r1, -, -, r4, -⟩ := hm
  show Rn G 130 0 [some (.ref m), some (.int (nI p)), none, none] [] (MM μ m x.1 x.2) Q = _
  unfold zOut1
  have n3 : ¬ (1 : Int32) = 0 := by decide
  by_cases hb : x.1 (19 + 75 * p + 8) ≤ x.1 1
  · have hb' : ¬ x.1 1 < x.1 (19 + 75 * p + 8) := Int32.not_lt.mpr hb
    simp (disch := first | assumption | (rw [MM_Kd]; assumption) | omega | decide) only [q130_0, q130_0N, q130_1, q130_4, q130_5, q130_7, q130_10, q130_10T, q130_11, q130_12, q130_12N, q130_13, q130_16, q130_17, q130_17T, q130_18, q130_19, q130_22, q130_23, q130_26, q130_27, q130_28, q130_28N, q130_29, q130_32, q130_33, q130_34, q130_34T, q130_35, q130_36, q130_39, q130_40, q130_43, q130_44, q130_45, q130_46, q130_46N, q130_47, q130_50, q130_51, q130_54, q130_55, q130_58, q130_59, q130_60, q130_61, q130_62, q130_63, q130_64, q130_65, s112_8, hb, hb', n3, xl1, nc1, xl3, nc3, MM_Kd, MM_Ln, MM_R, MM_I, MM_J, MM_sI, MM_sJ, r1, n1, r4, n4, xaf_s, xaf_v, va_rf_s, xix_n, nI_clamp, xk1_i, xk1_a, xk1_u, xk1_n, xk1_l, xk1_d, true_and, and_true, ↓reduceIte, Nat.reduceAdd, xtup]
  · have hb' : x.1 1 < x.1 (19 + 75 * p + 8) := Int32.not_le.mp hb
    simp (disch := first | assumption | (rw [MM_Kd]; assumption) | omega | decide) only [q130_0, q130_0N, q130_1, q130_4, q130_5, q130_7, q130_10, q130_10T, q130_11, q130_12, q130_12N, q130_13, q130_16, q130_17, q130_17T, q130_18, q130_19, q130_22, q130_23, q130_26, q130_27, q130_28, q130_28N, q130_29, q130_32, q130_33, q130_34, q130_34T, q130_35, q130_36, q130_39, q130_40, q130_43, q130_44, q130_45, q130_46, q130_46N, q130_47, q130_50, q130_51, q130_54, q130_55, q130_58, q130_59, q130_60, q130_61, q130_62, q130_63, q130_64, q130_65, s112_8, hb, hb', xl1, nc1, xl4, nc4, nI_s0, up_s, MM_Kd, MM_Ln, MM_R, MM_I, MM_J, MM_sI, MM_sJ, r1, n1, r4, n4, xaf_s, xaf_v, va_rf_s, xix_n, nI_clamp, xk1_i, xk1_a, xk1_u, xk1_n, xk1_l, xk1_d, true_and, and_true, ↓reduceIte, Nat.reduceAdd, xtup]
end MD4
