/-! THE REFERENCE: A WHOLE MONTH -/
section MD5
variable {G : xCtx} {μ : xMem} {Q : xOut → xMem → Prop} {m p c g n : Nat} {x : ST}
theorem s131_con (hm : MS μ m) (hI : INV c g n x) (hg : g < 10300) (l2 : Option Value) : ∀ k i, i + k = n → Rn G 131 2 [some (.ref m), some (.int (nI i)), l2] [] (MM μ m (itr zCon i x).1 (itr zCon i x).2) Q = Rn G 131 37 [some (.ref m), some (.int (nI n)), l2] [] (MM μ m (itr zCon n x).1 (itr zCon n x).2) Q := by
  have hm0 := hm
  obtain ⟨k0, ⟨k1, n1⟩, -, -, ⟨k4, n4⟩, -, -, -, r1, -, -, r4, -⟩ := hm
  intro k
  induction k with
  | zero =>
    intro i hi
    obtain ⟨a, -, -⟩ := itr_con (S := 10060 + g) ⟨hI.1, hI.2.1, hI.2.2⟩ (by omega) (by omega) i (by omega)
    have hn := a.2.1
    have hn8 := a.2.2.1
    have h2 : n ≤ i := by omega
    rw [q131_2]
    simp (disch := first | assumption | (rw [MM_Kd]; assumption) | omega | decide) only [q131_0, q131_1, q131_3, q131_3N, q131_4, q131_7, q131_8, q131_8T, q131_9, q131_12, q131_12N, q131_13, q131_16, q131_17, q131_19, q131_22, q131_22T, q131_23, q131_26, q131_26N, q131_27, q131_28, q131_31, q131_34, q131_38, q131_39, q131_40, q131_40N, q131_41, q131_44, q131_45, q131_45T, q131_46, q131_49, q131_49N, q131_50, q131_51, q131_54, q131_57, q131_60, q131_61, q131_62, q131_63, q131_63N, q131_64, q131_67, q131_68, q131_68T, q131_69, q131_72, q131_72N, q131_73, q131_76, q131_77, q131_79, q131_82, q131_82T, q131_83, q131_84, q131_87, q131_87N, q131_88, q131_89, q131_92, q131_95, q131_98, q131_99, q131_100, q131_101, q131_102, q131_103, q131_103N, q131_104, q131_107, q131_108, q131_108T, q131_109, q131_112, q131_112N, q131_113, q131_116, q131_117, q131_118, q131_121, q131_122, q131_122T, q131_123, q131_123N, q131_124, q131_127, q131_128, q131_129, q131_132, q131_132T, q131_133, q131_136, q131_139, q131_140, q131_143, q131_144, q131_145, q131_146, q131_146N, q131_147, q131_150, q131_151, q131_153, q131_156, q131_156T, q131_157, q131_160, q131_160N, q131_161, q131_162, q131_165, q131_168, q131_168N, q131_169, q131_170, q131_171, q131_174, q131_177, q131_180, q131_183, q131_183N, q131_184, q131_187, q131_188, q131_189, q131_189T, q131_190, q131_191, q131_192, q131_193, q131_194, hn, xl2, nc2, nI_leI, h2, MM_Kd, MM_Ln, MM_R, MM_I, MM_J, MM_sI, MM_sJ, r1, n1, r4, n4, xaf_s, xaf_v, va_rf_s, xix_n, nI_clamp, xk1_i, xk1_a, xk1_u, xk1_n, xk1_l, xk1_d, true_and, and_true, ↓reduceIte, Nat.reduceAdd, xtup]
    rw [show i = n by omega]
  | succ k ih =>
    intro i hi
    obtain ⟨a, -, cc⟩ := itr_con (S := 10060 + g) ⟨hI.1, hI.2.1, hI.2.2⟩ (by omega) (by omega) i (by omega)
    have hn := a.2.1
    have hn8 := a.2.2.1
    have h2 : ¬ n ≤ i := by omega
    have m1 := cc i (by omega)
    dsimp only at m1
    rw [if_neg (by omega)] at m1
    obtain ⟨d1, d2, d3, d4, d5⟩ := m1.at (by omega)
    have ih' := ih (i + 1) (by omega)
    by_cases h7 : (itr zCon i x).1 (19 + 75 * i + 7) = 0
    · have hz : itr zCon (i + 1) x = zCon1 i (zOwn (itr zCon i x).1 i) (zLts (itr zCon i x).1 i) (itr zCon i x) := if_pos h7
      rw [hz] at ih'
      have h128 := fun Q => s128 (G := G) (Q := Q) (μ := μ) hm0 (p := i) (by omega) d1 d2 (by omega) d4
      rw [q131_2]
      simp (disch := first | assumption | (rw [MM_Kd]; assumption) | omega | decide) only [q131_0, q131_1, q131_3, q131_3N, q131_4, q131_7, q131_8, q131_8T, q131_9, q131_12, q131_12N, q131_13, q131_16, q131_17, q131_19, q131_22, q131_22T, q131_23, q131_26, q131_26N, q131_27, q131_28, q131_31, q131_34, q131_38, q131_39, q131_40, q131_40N, q131_41, q131_44, q131_45, q131_45T, q131_46, q131_49, q131_49N, q131_50, q131_51, q131_54, q131_57, q131_60, q131_61, q131_62, q131_63, q131_63N, q131_64, q131_67, q131_68, q131_68T, q131_69, q131_72, q131_72N, q131_73, q131_76, q131_77, q131_79, q131_82, q131_82T, q131_83, q131_84, q131_87, q131_87N, q131_88, q131_89, q131_92, q131_95, q131_98, q131_99, q131_100, q131_101, q131_102, q131_103, q131_103N, q131_104, q131_107, q131_108, q131_108T, q131_109, q131_112, q131_112N, q131_113, q131_116, q131_117, q131_118, q131_121, q131_122, q131_122T, q131_123, q131_123N, q131_124, q131_127, q131_128, q131_129, q131_132, q131_132T, q131_133, q131_136, q131_139, q131_140, q131_143, q131_144, q131_145, q131_146, q131_146N, q131_147, q131_150, q131_151, q131_153, q131_156, q131_156T, q131_157, q131_160, q131_160N, q131_161, q131_162, q131_165, q131_168, q131_168N, q131_169, q131_170, q131_171, q131_174, q131_177, q131_180, q131_183, q131_183N, q131_184, q131_187, q131_188, q131_189, q131_189T, q131_190, q131_191, q131_192, q131_193, q131_194, hn, xl2, nc2, nI_leI, h2, s112_7, eq_true h7, not_true_eq_false, h128, nI_1, MM_Kd, MM_Ln, MM_R, MM_I, MM_J, MM_sI, MM_sJ, r1, n1, r4, n4, xaf_s, xaf_v, va_rf_s, xix_n, nI_clamp, xk1_i, xk1_a, xk1_u, xk1_n, xk1_l, xk1_d, true_and, and_true, ↓reduceIte, Nat.reduceAdd, xtup]
      exact ih'
    · have hz : itr zCon (i + 1) x = itr zCon i x := if_neg h7
      rw [hz] at ih'
      rw [q131_2]
      simp (disch := first | assumption | (rw [MM_Kd]; assumption) | omega | decide) only [q131_0, q131_1, q131_3, q131_3N, q131_4, q131_7, q131_8, q131_8T, q131_9, q131_12, q131_12N, q131_13, q131_16, q131_17, q131_19, q131_22, q131_22T, q131_23, q131_26, q131_26N, q131_27, q131_28, q131_31, q131_34, q131_38, q131_39, q131_40, q131_40N, q131_41, q131_44, q131_45, q131_45T, q131_46, q131_49, q131_49N, q131_50, q131_51, q131_54, q131_57, q131_60, q131_61, q131_62, q131_63, q131_63N, q131_64, q131_67, q131_68, q131_68T, q131_69, q131_72, q131_72N, q131_73, q131_76, q131_77, q131_79, q131_82, q131_82T, q131_83, q131_84, q131_87, q131_87N, q131_88, q131_89, q131_92, q131_95, q131_98, q131_99, q131_100, q131_101, q131_102, q131_103, q131_103N, q131_104, q131_107, q131_108, q131_108T, q131_109, q131_112, q131_112N, q131_113, q131_116, q131_117, q131_118, q131_121, q131_122, q131_122T, q131_123, q131_123N, q131_124, q131_127, q131_128, q131_129, q131_132, q131_132T, q131_133, q131_136, q131_139, q131_140, q131_143, q131_144, q131_145, q131_146, q131_146N, q131_147, q131_150, q131_151, q131_153, q131_156, q131_156T, q131_157, q131_160, q131_160N, q131_161, q131_162, q131_165, q131_168, q131_168N, q131_169, q131_170, q131_171, q131_174, q131_177, q131_180, q131_183, q131_183N, q131_184, q131_187, q131_188, q131_189, q131_189T, q131_190, q131_191, q131_192, q131_193, q131_194, hn, xl2, nc2, nI_leI, h2, s112_7, h7, not_false_eq_true, nI_1, MM_Kd, MM_Ln, MM_R, MM_I, MM_J, MM_sI, MM_sJ, r1, n1, r4, n4, xaf_s, xaf_v, va_rf_s, xix_n, nI_clamp, xk1_i, xk1_a, xk1_u, xk1_n, xk1_l, xk1_d, true_and, and_true, ↓reduceIte, Nat.reduceAdd, xtup]
      exact ih'
theorem itr_con' (hI : INV c g n x) (hg : g < 10300) : Ph (itr zCon n x) g n (F := 999999999 + 32760 * g + 4095 * n) (32760 * g + 4095 * n) (10000000 * c) (fun _ v => MI v (10060 + g + 1) (g - 60) (g + 1)) := by
  have p1 := itr_con (S := 10060 + g) ⟨hI.1, hI.2.1, hI.2.2⟩ (by omega) (by omega) n (by omega)
  exact ⟨p1.1, p1.2.1, fun p hp => by have := p1.2.2 p hp; dsimp only at this; rw [if_pos hp] at this; exact this⟩
theorem itr_lap' (hI : INV c g n x) (hg : g < 10300) : Ph (itr zLap n (itr zCon n x)) g n (999999999 + 32760 * g + 4095 * n) (32760 * g + 4095 * n) (10000000 * c) (fun _ v => MI v (10060 + g + 1) (g + 1 - 60) (g + 1)) := by
  have p2 := itr_lap (itr_con' hI hg) (by omega) n (by omega)
  exact ⟨p2.1, p2.2.1, fun p hp => by have := p2.2.2 p hp; dsimp only at this; rw [if_pos hp] at this; exact this⟩
theorem itr_out' (hI : INV c g n x) (hg : g < 10300) : Ph (itr zOut n (itr zLap n (itr zCon n x))) g n (999999999 + 32760 * g + 4095 * n) (32760 * g + 4095 * n) (10000000 * c) (fun _ v => MI v (10060 + g + 1) (g + 1 - 60) (g + 1)) := by
  have hn8 := hI.1.2.2.1
  exact itr_out (itr_lap' hI hg) (by omega) n (by omega)
theorem s131_lap (hm : MS μ m) {F A B S : Nat} (hI : Ph x g n F A B (fun _ v => MI v S (g - 60) (g + 1))) (hg : g < 10300) (l2 : Option Value) : ∀ k i, i + k = n → Rn G 131 39 [some (.ref m), some (.int (nI i)), l2] [] (MM μ m (itr zLap i x).1 (itr zLap i x).2) Q = Rn G 131 60 [some (.ref m), some (.int (nI n)), l2] [] (MM μ m (itr zLap n x).1 (itr zLap n x).2) Q := by
  have hm0 := hm
  obtain ⟨k0, ⟨k1, n1⟩, -, -, ⟨k4, n4⟩, -, -, -, r1, -, -, r4, -⟩ := hm
  intro k
  induction k with
  | zero =>
    intro i hi
    obtain ⟨a, -, -⟩ := itr_lap hI (by omega) i (by omega)
    have hn := a.2.1
    have hn8 := a.2.2.1
    have h2 : n ≤ i := by omega
    rw [q131_39]
    simp (disch := first | assumption | (rw [MM_Kd]; assumption) | omega | decide) only [q131_0, q131_1, q131_2, q131_3, q131_3N, q131_4, q131_7, q131_8, q131_8T, q131_9, q131_12, q131_12N, q131_13, q131_16, q131_17, q131_19, q131_22, q131_22T, q131_23, q131_26, q131_26N, q131_27, q131_28, q131_31, q131_34, q131_37, q131_38, q131_40, q131_40N, q131_41, q131_44, q131_45, q131_45T, q131_46, q131_49, q131_49N, q131_50, q131_51, q131_54, q131_57, q131_61, q131_62, q131_63, q131_63N, q131_64, q131_67, q131_68, q131_68T, q131_69, q131_72, q131_72N, q131_73, q131_76, q131_77, q131_79, q131_82, q131_82T, q131_83, q131_84, q131_87, q131_87N, q131_88, q131_89, q131_92, q131_95, q131_98, q131_99, q131_100, q131_101, q131_102, q131_103, q131_103N, q131_104, q131_107, q131_108, q131_108T, q131_109, q131_112, q131_112N, q131_113, q131_116, q131_117, q131_118, q131_121, q131_122, q131_122T, q131_123, q131_123N, q131_124, q131_127, q131_128, q131_129, q131_132, q131_132T, q131_133, q131_136, q131_139, q131_140, q131_143, q131_144, q131_145, q131_146, q131_146N, q131_147, q131_150, q131_151, q131_153, q131_156, q131_156T, q131_157, q131_160, q131_160N, q131_161, q131_162, q131_165, q131_168, q131_168N, q131_169, q131_170, q131_171, q131_174, q131_177, q131_180, q131_183, q131_183N, q131_184, q131_187, q131_188, q131_189, q131_189T, q131_190, q131_191, q131_192, q131_193, q131_194, hn, xl2, nc2, nI_leI, h2, MM_Kd, MM_Ln, MM_R, MM_I, MM_J, MM_sI, MM_sJ, r1, n1, r4, n4, xaf_s, xaf_v, va_rf_s, xix_n, nI_clamp, xk1_i, xk1_a, xk1_u, xk1_n, xk1_l, xk1_d, true_and, and_true, ↓reduceIte, Nat.reduceAdd, xtup]
    rw [show i = n by omega]
  | succ k ih =>
    intro i hi
    obtain ⟨a, -, cc⟩ := itr_lap hI (by omega) i (by omega)
    have hn := a.2.1
    have hn8 := a.2.2.1
    have h2 : ¬ n ≤ i := by omega
    have m1 := cc i (by omega)
    dsimp only at m1
    rw [if_neg (by omega)] at m1
    obtain ⟨d1, d2, d3, d4, d5⟩ := m1.at (by omega)
    have ih' := ih (i + 1) (by omega)
    have h129 : ∀ Q, Cn G 129 [.ref m, .int (nI i)] (MM μ m (itr zLap i x).1 (itr zLap i x).2) Q = Q (.inl none) (MM μ m (zLap1 i (zLts (itr zLap i x).1 i) (itr zLap i x).1) (itr zLap i x).2) := fun Q => s129_loop (G := G) (Q := Q) (μ := μ) hm0 (p := i) (by omega) _ _ (by omega) d4
    rw [q131_39]
    simp (disch := first | assumption | (rw [MM_Kd]; assumption) | omega | decide) only [q131_0, q131_1, q131_2, q131_3, q131_3N, q131_4, q131_7, q131_8, q131_8T, q131_9, q131_12, q131_12N, q131_13, q131_16, q131_17, q131_19, q131_22, q131_22T, q131_23, q131_26, q131_26N, q131_27, q131_28, q131_31, q131_34, q131_37, q131_38, q131_40, q131_40N, q131_41, q131_44, q131_45, q131_45T, q131_46, q131_49, q131_49N, q131_50, q131_51, q131_54, q131_57, q131_61, q131_62, q131_63, q131_63N, q131_64, q131_67, q131_68, q131_68T, q131_69, q131_72, q131_72N, q131_73, q131_76, q131_77, q131_79, q131_82, q131_82T, q131_83, q131_84, q131_87, q131_87N, q131_88, q131_89, q131_92, q131_95, q131_98, q131_99, q131_100, q131_101, q131_102, q131_103, q131_103N, q131_104, q131_107, q131_108, q131_108T, q131_109, q131_112, q131_112N, q131_113, q131_116, q131_117, q131_118, q131_121, q131_122, q131_122T, q131_123, q131_123N, q131_124, q131_127, q131_128, q131_129, q131_132, q131_132T, q131_133, q131_136, q131_139, q131_140, q131_143, q131_144, q131_145, q131_146, q131_146N, q131_147, q131_150, q131_151, q131_153, q131_156, q131_156T, q131_157, q131_160, q131_160N, q131_161, q131_162, q131_165, q131_168, q131_168N, q131_169, q131_170, q131_171, q131_174, q131_177, q131_180, q131_183, q131_183N, q131_184, q131_187, q131_188, q131_189, q131_189T, q131_190, q131_191, q131_192, q131_193, q131_194, hn, xl2, nc2, nI_leI, h2, h129, nI_1, MM_Kd, MM_Ln, MM_R, MM_I, MM_J, MM_sI, MM_sJ, r1, n1, r4, n4, xaf_s, xaf_v, va_rf_s, xix_n, nI_clamp, xk1_i, xk1_a, xk1_u, xk1_n, xk1_l, xk1_d, true_and, and_true, ↓reduceIte, Nat.reduceAdd, xtup]
    exact ih'
theorem s131_out (hm : MS μ m) {F A B S lo hi : Nat} (hI : Ph x g n F A B (fun _ v => MI v S lo hi)) (hF : F < 2 ^ 31) (l2 : Option Value) : ∀ k i, i + k = n → Rn G 131 62 [some (.ref m), some (.int (nI i)), l2] [] (MM μ m (itr zOut i x).1 (itr zOut i x).2) Q = Rn G 131 98 [some (.ref m), some (.int (nI n)), l2] [] (MM μ m (itr zOut n x).1 (itr zOut n x).2) Q := by
  have hm0 := hm
  obtain ⟨k0, ⟨k1, n1⟩, -, -, ⟨k4, n4⟩, -, -, -, r1, -, -, r4, -⟩ := hm
  intro k
  induction k with
  | zero =>
    intro i hi
    obtain ⟨a, -, -⟩ := itr_out hI hF i (by omega)
    have hn := a.2.1
    have hn8 := a.2.2.1
    have h2 : n ≤ i := by omega
    rw [q131_62]
    simp (disch := first | assumption | (rw [MM_Kd]; assumption) | omega | decide) only [q131_0, q131_1, q131_2, q131_3, q131_3N, q131_4, q131_7, q131_8, q131_8T, q131_9, q131_12, q131_12N, q131_13, q131_16, q131_17, q131_19, q131_22, q131_22T, q131_23, q131_26, q131_26N, q131_27, q131_28, q131_31, q131_34, q131_37, q131_38, q131_39, q131_40, q131_40N, q131_41, q131_44, q131_45, q131_45T, q131_46, q131_49, q131_49N, q131_50, q131_51, q131_54, q131_57, q131_60, q131_61, q131_63, q131_63N, q131_64, q131_67, q131_68, q131_68T, q131_69, q131_72, q131_72N, q131_73, q131_76, q131_77, q131_79, q131_82, q131_82T, q131_83, q131_84, q131_87, q131_87N, q131_88, q131_89, q131_92, q131_95, q131_99, q131_100, q131_101, q131_102, q131_103, q131_103N, q131_104, q131_107, q131_108, q131_108T, q131_109, q131_112, q131_112N, q131_113, q131_116, q131_117, q131_118, q131_121, q131_122, q131_122T, q131_123, q131_123N, q131_124, q131_127, q131_128, q131_129, q131_132, q131_132T, q131_133, q131_136, q131_139, q131_140, q131_143, q131_144, q131_145, q131_146, q131_146N, q131_147, q131_150, q131_151, q131_153, q131_156, q131_156T, q131_157, q131_160, q131_160N, q131_161, q131_162, q131_165, q131_168, q131_168N, q131_169, q131_170, q131_171, q131_174, q131_177, q131_180, q131_183, q131_183N, q131_184, q131_187, q131_188, q131_189, q131_189T, q131_190, q131_191, q131_192, q131_193, q131_194, hn, xl2, nc2, nI_leI, h2, MM_Kd, MM_Ln, MM_R, MM_I, MM_J, MM_sI, MM_sJ, r1, n1, r4, n4, xaf_s, xaf_v, va_rf_s, xix_n, nI_clamp, xk1_i, xk1_a, xk1_u, xk1_n, xk1_l, xk1_d, true_and, and_true, ↓reduceIte, Nat.reduceAdd, xtup]
    rw [show i = n by omega]
  | succ k ih =>
    intro i hi
    obtain ⟨a, -, cc⟩ := itr_out hI hF i (by omega)
    have hn := a.2.1
    have hn8 := a.2.2.1
    have h2 : ¬ n ≤ i := by omega
    have ih' := ih (i + 1) (by omega)
    by_cases h7 : (itr zOut i x).1 (19 + 75 * i + 7) = 1
    · have hz : itr zOut (i + 1) x = zOut1 i (itr zOut i x) := if_pos h7
      rw [hz] at ih'
      rw [q131_62]
      simp (disch := first | assumption | (rw [MM_Kd]; assumption) | omega | decide) only [q131_0, q131_1, q131_2, q131_3, q131_3N, q131_4, q131_7, q131_8, q131_8T, q131_9, q131_12, q131_12N, q131_13, q131_16, q131_17, q131_19, q131_22, q131_22T, q131_23, q131_26, q131_26N, q131_27, q131_28, q131_31, q131_34, q131_37, q131_38, q131_39, q131_40, q131_40N, q131_41, q131_44, q131_45, q131_45T, q131_46, q131_49, q131_49N, q131_50, q131_51, q131_54, q131_57, q131_60, q131_61, q131_63, q131_63N, q131_64, q131_67, q131_68, q131_68T, q131_69, q131_72, q131_72N, q131_73, q131_76, q131_77, q131_79, q131_82, q131_82T, q131_83, q131_84, q131_87, q131_87N, q131_88, q131_89, q131_92, q131_95, q131_99, q131_100, q131_101, q131_102, q131_103, q131_103N, q131_104, q131_107, q131_108, q131_108T, q131_109, q131_112, q131_112N, q131_113, q131_116, q131_117, q131_118, q131_121, q131_122, q131_122T, q131_123, q131_123N, q131_124, q131_127, q131_128, q131_129, q131_132, q131_132T, q131_133, q131_136, q131_139, q131_140, q131_143, q131_144, q131_145, q131_146, q131_146N, q131_147, q131_150, q131_151, q131_153, q131_156, q131_156T, q131_157, q131_160, q131_160N, q131_161, q131_162, q131_165, q131_168, q131_168N, q131_169, q131_170, q131_171, q131_174, q131_177, q131_180, q131_183, q131_183N, q131_184, q131_187, q131_188, q131_189, q131_189T, q131_190, q131_191, q131_192, q131_193, q131_194, hn, xl2, nc2, nI_leI, h2, s112_7, eq_true h7, not_true_eq_false, s130 (μ := μ) hm0, nI_1, MM_Kd, MM_Ln, MM_R, MM_I, MM_J, MM_sI, MM_sJ, r1, n1, r4, n4, xaf_s, xaf_v, va_rf_s, xix_n, nI_clamp, xk1_i, xk1_a, xk1_u, xk1_n, xk1_l, xk1_d, true_and, and_true, ↓reduceIte, Nat.reduceAdd, xtup]
      exact ih'
    · have hz : itr zOut (i + 1) x = itr zOut i x := if_neg h7
      rw [hz] at ih'
      rw [q131_62]
      simp (disch := first | assumption | (rw [MM_Kd]; assumption) | omega | decide) only [q131_0, q131_1, q131_2, q131_3, q131_3N, q131_4, q131_7, q131_8, q131_8T, q131_9, q131_12, q131_12N, q131_13, q131_16, q131_17, q131_19, q131_22, q131_22T, q131_23, q131_26, q131_26N, q131_27, q131_28, q131_31, q131_34, q131_37, q131_38, q131_39, q131_40, q131_40N, q131_41, q131_44, q131_45, q131_45T, q131_46, q131_49, q131_49N, q131_50, q131_51, q131_54, q131_57, q131_60, q131_61, q131_63, q131_63N, q131_64, q131_67, q131_68, q131_68T, q131_69, q131_72, q131_72N, q131_73, q131_76, q131_77, q131_79, q131_82, q131_82T, q131_83, q131_84, q131_87, q131_87N, q131_88, q131_89, q131_92, q131_95, q131_99, q131_100, q131_101, q131_102, q131_103, q131_103N, q131_104, q131_107, q131_108, q131_108T, q131_109, q131_112, q131_112N, q131_113, q131_116, q131_117, q131_118, q131_121, q131_122, q131_122T, q131_123, q131_123N, q131_124, q131_127, q131_128, q131_129, q131_132, q131_132T, q131_133, q131_136, q131_139, q131_140, q131_143, q131_144, q131_145, q131_146, q131_146N, q131_147, q131_150, q131_151, q131_153, q131_156, q131_156T, q131_157, q131_160, q131_160N, q131_161, q131_162, q131_165, q131_168, q131_168N, q131_169, q131_170, q131_171, q131_174, q131_177, q131_180, q131_183, q131_183N, q131_184, q131_187, q131_188, q131_189, q131_189T, q131_190, q131_191, q131_192, q131_193, q131_194, hn, xl2, nc2, nI_leI, h2, s112_7, h7, not_false_eq_true, nI_1, MM_Kd, MM_Ln, MM_R, MM_I, MM_J, MM_sI, MM_sJ, r1, n1, r4, n4, xaf_s, xaf_v, va_rf_s, xix_n, nI_clamp, xk1_i, xk1_a, xk1_u, xk1_n, xk1_l, xk1_d, true_and, and_true, ↓reduceIte, Nat.reduceAdd, xtup]
      exact ih'
theorem s131_age (hm : MS μ m) {y : ST × Int32} {F A B S lo hi : Nat} (hI : Ph y.1 g n F A B (fun _ v => MI v S lo hi)) (hS : S ≤ 20500) : ∀ k i, i + k = n → Rn G 131 102 [some (.ref m), some (.int (itr zAge i y).2), some (.int (nI i))] [] (MM μ m (itr zAge i y).1.1 (itr zAge i y).1.2) Q = Rn G 131 183 [some (.ref m), some (.int (itr zAge n y).2), some (.int (nI n))] [] (MM μ m (itr zAge n y).1.1 (itr zAge n y).1.2) Q := by
  have hm0 := hm
  obtain ⟨k0, ⟨k1, n1⟩, -, -, ⟨k4, n4⟩, -, -, -, r1, -, -, r4, -⟩ := hm
  intro k
  induction k with
  | zero =>
    intro i hi
    obtain ⟨a, -, -⟩ := itr_age hI hS i (by omega)
    have hn := a.2.1
    have hn8 := a.2.2.1
    have h2 : n ≤ i := by omega
    rw [q131_102]
    simp (disch := first | assumption | (rw [MM_Kd]; assumption) | omega | decide) only [q131_0, q131_1, q131_2, q131_3, q131_3N, q131_4, q131_7, q131_8, q131_8T, q131_9, q131_12, q131_12N, q131_13, q131_16, q131_17, q131_19, q131_22, q131_22T, q131_23, q131_26, q131_26N, q131_27, q131_28, q131_31, q131_34, q131_37, q131_38, q131_39, q131_40, q131_40N, q131_41, q131_44, q131_45, q131_45T, q131_46, q131_49, q131_49N, q131_50, q131_51, q131_54, q131_57, q131_60, q131_61, q131_62, q131_63, q131_63N, q131_64, q131_67, q131_68, q131_68T, q131_69, q131_72, q131_72N, q131_73, q131_76, q131_77, q131_79, q131_82, q131_82T, q131_83, q131_84, q131_87, q131_87N, q131_88, q131_89, q131_92, q131_95, q131_98, q131_99, q131_100, q131_101, q131_103, q131_103N, q131_104, q131_107, q131_108, q131_108T, q131_109, q131_112, q131_112N, q131_113, q131_116, q131_117, q131_118, q131_121, q131_122, q131_122T, q131_123, q131_123N, q131_124, q131_127, q131_128, q131_129, q131_132, q131_132T, q131_133, q131_136, q131_139, q131_140, q131_143, q131_144, q131_145, q131_146, q131_146N, q131_147, q131_150, q131_151, q131_153, q131_156, q131_156T, q131_157, q131_160, q131_160N, q131_161, q131_162, q131_165, q131_168, q131_168N, q131_169, q131_170, q131_171, q131_174, q131_177, q131_180, q131_184, q131_187, q131_188, q131_189, q131_189T, q131_190, q131_191, q131_192, q131_193, q131_194, hn, xl2, nc2, nI_leI, h2, MM_Kd, MM_Ln, MM_R, MM_I, MM_J, MM_sI, MM_sJ, r1, n1, r4, n4, xaf_s, xaf_v, va_rf_s, xix_n, nI_clamp, xk1_i, xk1_a, xk1_u, xk1_n, xk1_l, xk1_d, true_and, and_true, ↓reduceIte, Nat.reduceAdd, xtup]
    rw [show i = n by omega]
  | succ k ih =>
    intro i hi
    obtain ⟨a, -, cc⟩ := itr_age hI hS i (by omega)
    have hn := a.2.1
    have hn8 := a.2.2.1
    have h2 : ¬ n ≤ i := by omega
    have ih' := ih (i + 1) (by omega)
    have hz : itr zAge (i + 1) y = zAge i (itr zAge i y) := rfl
    rw [hz] at ih'
    have m1 := cc i (by omega)
    dsimp only at m1
    generalize itr zAge i y = w at *
    have hs : ∀ k, k < 3 → ¬ 12 * up w.1.1 (19 + 75 * i + 3) (w.1.1 (19 + 75 * i + 3) + 1) (10 + 3 * k + 1) = 0 := fun k hk => by rw [up_n (by omega)]; exact share_ne a k hk
    have hs' := share_ne a
    obtain ⟨o1, -⟩ := zAge1_ok m1
    have e1 : (if w.1.1 (19 + 75 * i + 3) < 960 then 1 else (0 : Int32)) + 0 = if w.1.1 (19 + 75 * i + 3) < 960 then 1 else (0 : Int32) := nI_a0 _
    by_cases h9 : w.1.1 (19 + 75 * i + 3) < 960
    · have h9' : ¬ (960 : Int32) ≤ w.1.1 (19 + 75 * i + 3) := Int32.not_le.mpr h9
      have hz1 : zAge1 w.1.1 i = up w.1.1 (19 + 75 * i + 3) (w.1.1 (19 + 75 * i + 3) + 1) := if_pos h9
      by_cases h7 : (zAge1 w.1.1 i (19 + 75 * i + 7) = 0) ∧ zAge1 w.1.1 i 6 - zAge1 w.1.1 i (19 + 75 * i + 3) ≤ 0
      · unfold zAge at ih'
        rw [if_pos h7, hz1] at ih'
        rw [hz1] at h7
        obtain ⟨h7, h8⟩ := h7
        have h8' : ¬ (0 : Int32) < up w.1.1 (19 + 75 * i + 3) (w.1.1 (19 + 75 * i + 3) + 1) 6 - up w.1.1 (19 + 75 * i + 3) (w.1.1 (19 + 75 * i + 3) + 1) (19 + 75 * i + 3) := Int32.not_lt.mpr h8
        rw [q131_102]
        simp (disch := first | assumption | (rw [MM_Kd]; assumption) | omega | decide) only [q131_0, q131_1, q131_2, q131_3, q131_3N, q131_4, q131_7, q131_8, q131_8T, q131_9, q131_12, q131_12N, q131_13, q131_16, q131_17, q131_19, q131_22, q131_22T, q131_23, q131_26, q131_26N, q131_27, q131_28, q131_31, q131_34, q131_37, q131_38, q131_39, q131_40, q131_40N, q131_41, q131_44, q131_45, q131_45T, q131_46, q131_49, q131_49N, q131_50, q131_51, q131_54, q131_57, q131_60, q131_61, q131_62, q131_63, q131_63N, q131_64, q131_67, q131_68, q131_68T, q131_69, q131_72, q131_72N, q131_73, q131_76, q131_77, q131_79, q131_82, q131_82T, q131_83, q131_84, q131_87, q131_87N, q131_88, q131_89, q131_92, q131_95, q131_98, q131_99, q131_100, q131_101, q131_103, q131_103N, q131_104, q131_107, q131_108, q131_108T, q131_109, q131_112, q131_112N, q131_113, q131_116, q131_117, q131_118, q131_121, q131_122, q131_122T, q131_123, q131_123N, q131_124, q131_127, q131_128, q131_129, q131_132, q131_132T, q131_133, q131_136, q131_139, q131_140, q131_143, q131_144, q131_145, q131_146, q131_146N, q131_147, q131_150, q131_151, q131_153, q131_156, q131_156T, q131_157, q131_160, q131_160N, q131_161, q131_162, q131_165, q131_168, q131_168N, q131_169, q131_170, q131_171, q131_174, q131_177, q131_180, q131_184, q131_187, q131_188, q131_189, q131_189T, q131_190, q131_191, q131_192, q131_193, q131_194, hn, xl2, nc2, nI_leI, h2, s112_7, s112_3, h9, h9', eq_true h7, h8, h8', s126 (μ := μ) hm0, s127 (μ := μ) hm0 (show i < 8 by omega) hs, not_true_eq_false, not_false_eq_true, nI_1, MM_Kd, MM_Ln, MM_R, MM_I, MM_J, MM_sI, MM_sJ, r1, n1, r4, n4, xaf_s, xaf_v, va_rf_s, xix_n, nI_clamp, xk1_i, xk1_a, xk1_u, xk1_n, xk1_l, xk1_d, true_and, and_true, ↓reduceIte, Nat.reduceAdd, xtup]
        exact ih'
      · unfold zAge at ih'
        rw [if_neg h7, hz1] at ih'
        rw [hz1] at h7
        by_cases h8 : up w.1.1 (19 + 75 * i + 3) (w.1.1 (19 + 75 * i + 3) + 1) (19 + 75 * i + 7) = 0
        · have h8' : (0 : Int32) < up w.1.1 (19 + 75 * i + 3) (w.1.1 (19 + 75 * i + 3) + 1) 6 - up w.1.1 (19 + 75 * i + 3) (w.1.1 (19 + 75 * i + 3) + 1) (19 + 75 * i + 3) := Int32.not_le.mp fun z => h7 ⟨h8, z⟩
          have h8'' : ¬ up w.1.1 (19 + 75 * i + 3) (w.1.1 (19 + 75 * i + 3) + 1) 6 - up w.1.1 (19 + 75 * i + 3) (w.1.1 (19 + 75 * i + 3) + 1) (19 + 75 * i + 3) ≤ 0 := Int32.not_le.mpr h8'
          rw [q131_102]
          simp (disch := first | assumption | (rw [MM_Kd]; assumption) | omega | decide) only [q131_0, q131_1, q131_2, q131_3, q131_3N, q131_4, q131_7, q131_8, q131_8T, q131_9, q131_12, q131_12N, q131_13, q131_16, q131_17, q131_19, q131_22, q131_22T, q131_23, q131_26, q131_26N, q131_27, q131_28, q131_31, q131_34, q131_37, q131_38, q131_39, q131_40, q131_40N, q131_41, q131_44, q131_45, q131_45T, q131_46, q131_49, q131_49N, q131_50, q131_51, q131_54, q131_57, q131_60, q131_61, q131_62, q131_63, q131_63N, q131_64, q131_67, q131_68, q131_68T, q131_69, q131_72, q131_72N, q131_73, q131_76, q131_77, q131_79, q131_82, q131_82T, q131_83, q131_84, q131_87, q131_87N, q131_88, q131_89, q131_92, q131_95, q131_98, q131_99, q131_100, q131_101, q131_103, q131_103N, q131_104, q131_107, q131_108, q131_108T, q131_109, q131_112, q131_112N, q131_113, q131_116, q131_117, q131_118, q131_121, q131_122, q131_122T, q131_123, q131_123N, q131_124, q131_127, q131_128, q131_129, q131_132, q131_132T, q131_133, q131_136, q131_139, q131_140, q131_143, q131_144, q131_145, q131_146, q131_146N, q131_147, q131_150, q131_151, q131_153, q131_156, q131_156T, q131_157, q131_160, q131_160N, q131_161, q131_162, q131_165, q131_168, q131_168N, q131_169, q131_170, q131_171, q131_174, q131_177, q131_180, q131_184, q131_187, q131_188, q131_189, q131_189T, q131_190, q131_191, q131_192, q131_193, q131_194, hn, xl2, nc2, nI_leI, h2, s112_7, s112_3, h9, h9', eq_true h8, h8', h8'', s126 (μ := μ) hm0, not_true_eq_false, not_false_eq_true, nI_1, MM_Kd, MM_Ln, MM_R, MM_I, MM_J, MM_sI, MM_sJ, r1, n1, r4, n4, xaf_s, xaf_v, va_rf_s, xix_n, nI_clamp, xk1_i, xk1_a, xk1_u, xk1_n, xk1_l, xk1_d, true_and, and_true, ↓reduceIte, Nat.reduceAdd, xtup]
          exact ih'
        · rw [q131_102]
          simp (disch := first | assumption | (rw [MM_Kd]; assumption) | omega | decide) only [q131_0, q131_1, q131_2, q131_3, q131_3N, q131_4, q131_7, q131_8, q131_8T, q131_9, q131_12, q131_12N, q131_13, q131_16, q131_17, q131_19, q131_22, q131_22T, q131_23, q131_26, q131_26N, q131_27, q131_28, q131_31, q131_34, q131_37, q131_38, q131_39, q131_40, q131_40N, q131_41, q131_44, q131_45, q131_45T, q131_46, q131_49, q131_49N, q131_50, q131_51, q131_54, q131_57, q131_60, q131_61, q131_62, q131_63, q131_63N, q131_64, q131_67, q131_68, q131_68T, q131_69, q131_72, q131_72N, q131_73, q131_76, q131_77, q131_79, q131_82, q131_82T, q131_83, q131_84, q131_87, q131_87N, q131_88, q131_89, q131_92, q131_95, q131_98, q131_99, q131_100, q131_101, q131_103, q131_103N, q131_104, q131_107, q131_108, q131_108T, q131_109, q131_112, q131_112N, q131_113, q131_116, q131_117, q131_118, q131_121, q131_122, q131_122T, q131_123, q131_123N, q131_124, q131_127, q131_128, q131_129, q131_132, q131_132T, q131_133, q131_136, q131_139, q131_140, q131_143, q131_144, q131_145, q131_146, q131_146N, q131_147, q131_150, q131_151, q131_153, q131_156, q131_156T, q131_157, q131_160, q131_160N, q131_161, q131_162, q131_165, q131_168, q131_168N, q131_169, q131_170, q131_171, q131_174, q131_177, q131_180, q131_184, q131_187, q131_188, q131_189, q131_189T, q131_190, q131_191, q131_192, q131_193, q131_194, hn, xl2, nc2, nI_leI, h2, s112_7, s112_3, h9, h9', h8, not_true_eq_false, not_false_eq_true, nI_1, MM_Kd, MM_Ln, MM_R, MM_I, MM_J, MM_sI, MM_sJ, r1, n1, r4, n4, xaf_s, xaf_v, va_rf_s, xix_n, nI_clamp, xk1_i, xk1_a, xk1_u, xk1_n, xk1_l, xk1_d, true_and, and_true, ↓reduceIte, Nat.reduceAdd, xtup]
          exact ih'
    · have h9' : (960 : Int32) ≤ w.1.1 (19 + 75 * i + 3) := Int32.not_lt.mp h9
      have hz1 : zAge1 w.1.1 i = w.1.1 := if_neg h9
      by_cases h7 : (zAge1 w.1.1 i (19 + 75 * i + 7) = 0) ∧ zAge1 w.1.1 i 6 - zAge1 w.1.1 i (19 + 75 * i + 3) ≤ 0
      · unfold zAge at ih'
        rw [if_pos h7, hz1] at ih'
        rw [hz1] at h7
        obtain ⟨h7, h8⟩ := h7
        have h8' : ¬ (0 : Int32) < w.1.1 6 - w.1.1 (19 + 75 * i + 3) := Int32.not_lt.mpr h8
        rw [q131_102]
        simp (disch := first | assumption | (rw [MM_Kd]; assumption) | omega | decide) only [q131_0, q131_1, q131_2, q131_3, q131_3N, q131_4, q131_7, q131_8, q131_8T, q131_9, q131_12, q131_12N, q131_13, q131_16, q131_17, q131_19, q131_22, q131_22T, q131_23, q131_26, q131_26N, q131_27, q131_28, q131_31, q131_34, q131_37, q131_38, q131_39, q131_40, q131_40N, q131_41, q131_44, q131_45, q131_45T, q131_46, q131_49, q131_49N, q131_50, q131_51, q131_54, q131_57, q131_60, q131_61, q131_62, q131_63, q131_63N, q131_64, q131_67, q131_68, q131_68T, q131_69, q131_72, q131_72N, q131_73, q131_76, q131_77, q131_79, q131_82, q131_82T, q131_83, q131_84, q131_87, q131_87N, q131_88, q131_89, q131_92, q131_95, q131_98, q131_99, q131_100, q131_101, q131_103, q131_103N, q131_104, q131_107, q131_108, q131_108T, q131_109, q131_112, q131_112N, q131_113, q131_116, q131_117, q131_118, q131_121, q131_122, q131_122T, q131_123, q131_123N, q131_124, q131_127, q131_128, q131_129, q131_132, q131_132T, q131_133, q131_136, q131_139, q131_140, q131_143, q131_144, q131_145, q131_146, q131_146N, q131_147, q131_150, q131_151, q131_153, q131_156, q131_156T, q131_157, q131_160, q131_160N, q131_161, q131_162, q131_165, q131_168, q131_168N, q131_169, q131_170, q131_171, q131_174, q131_177, q131_180, q131_184, q131_187, q131_188, q131_189, q131_189T, q131_190, q131_191, q131_192, q131_193, q131_194, hn, xl2, nc2, nI_leI, h2, s112_7, s112_3, h9, h9', nI_a0, up_s, eq_true h7, h8, h8', s126 (μ := μ) hm0, s127 (μ := μ) hm0 (show i < 8 by omega) hs', not_true_eq_false, not_false_eq_true, nI_1, MM_Kd, MM_Ln, MM_R, MM_I, MM_J, MM_sI, MM_sJ, r1, n1, r4, n4, xaf_s, xaf_v, va_rf_s, xix_n, nI_clamp, xk1_i, xk1_a, xk1_u, xk1_n, xk1_l, xk1_d, true_and, and_true, ↓reduceIte, Nat.reduceAdd, xtup]
        exact ih'
      · unfold zAge at ih'
        rw [if_neg h7, hz1] at ih'
        rw [hz1] at h7
        by_cases h8 : w.1.1 (19 + 75 * i + 7) = 0
        · have h8' : (0 : Int32) < w.1.1 6 - w.1.1 (19 + 75 * i + 3) := Int32.not_le.mp fun z => h7 ⟨h8, z⟩
          have h8'' : ¬ w.1.1 6 - w.1.1 (19 + 75 * i + 3) ≤ 0 := Int32.not_le.mpr h8'
          rw [q131_102]
          simp (disch := first | assumption | (rw [MM_Kd]; assumption) | omega | decide) only [q131_0, q131_1, q131_2, q131_3, q131_3N, q131_4, q131_7, q131_8, q131_8T, q131_9, q131_12, q131_12N, q131_13, q131_16, q131_17, q131_19, q131_22, q131_22T, q131_23, q131_26, q131_26N, q131_27, q131_28, q131_31, q131_34, q131_37, q131_38, q131_39, q131_40, q131_40N, q131_41, q131_44, q131_45, q131_45T, q131_46, q131_49, q131_49N, q131_50, q131_51, q131_54, q131_57, q131_60, q131_61, q131_62, q131_63, q131_63N, q131_64, q131_67, q131_68, q131_68T, q131_69, q131_72, q131_72N, q131_73, q131_76, q131_77, q131_79, q131_82, q131_82T, q131_83, q131_84, q131_87, q131_87N, q131_88, q131_89, q131_92, q131_95, q131_98, q131_99, q131_100, q131_101, q131_103, q131_103N, q131_104, q131_107, q131_108, q131_108T, q131_109, q131_112, q131_112N, q131_113, q131_116, q131_117, q131_118, q131_121, q131_122, q131_122T, q131_123, q131_123N, q131_124, q131_127, q131_128, q131_129, q131_132, q131_132T, q131_133, q131_136, q131_139, q131_140, q131_143, q131_144, q131_145, q131_146, q131_146N, q131_147, q131_150, q131_151, q131_153, q131_156, q131_156T, q131_157, q131_160, q131_160N, q131_161, q131_162, q131_165, q131_168, q131_168N, q131_169, q131_170, q131_171, q131_174, q131_177, q131_180, q131_184, q131_187, q131_188, q131_189, q131_189T, q131_190, q131_191, q131_192, q131_193, q131_194, hn, xl2, nc2, nI_leI, h2, s112_7, s112_3, h9, h9', nI_a0, up_s, eq_true h8, h8', h8'', s126 (μ := μ) hm0, not_true_eq_false, not_false_eq_true, nI_1, MM_Kd, MM_Ln, MM_R, MM_I, MM_J, MM_sI, MM_sJ, r1, n1, r4, n4, xaf_s, xaf_v, va_rf_s, xix_n, nI_clamp, xk1_i, xk1_a, xk1_u, xk1_n, xk1_l, xk1_d, true_and, and_true, ↓reduceIte, Nat.reduceAdd, xtup]
          exact ih'
        · rw [q131_102]
          simp (disch := first | assumption | (rw [MM_Kd]; assumption) | omega | decide) only [q131_0, q131_1, q131_2, q131_3, q131_3N, q131_4, q131_7, q131_8, q131_8T, q131_9, q131_12, q131_12N, q131_13, q131_16, q131_17, q131_19, q131_22, q131_22T, q131_23, q131_26, q131_26N, q131_27, q131_28, q131_31, q131_34, q131_37, q131_38, q131_39, q131_40, q131_40N, q131_41, q131_44, q131_45, q131_45T, q131_46, q131_49, q131_49N, q131_50, q131_51, q131_54, q131_57, q131_60, q131_61, q131_62, q131_63, q131_63N, q131_64, q131_67, q131_68, q131_68T, q131_69, q131_72, q131_72N, q131_73, q131_76, q131_77, q131_79, q131_82, q131_82T, q131_83, q131_84, q131_87, q131_87N, q131_88, q131_89, q131_92, q131_95, q131_98, q131_99, q131_100, q131_101, q131_103, q131_103N, q131_104, q131_107, q131_108, q131_108T, q131_109, q131_112, q131_112N, q131_113, q131_116, q131_117, q131_118, q131_121, q131_122, q131_122T, q131_123, q131_123N, q131_124, q131_127, q131_128, q131_129, q131_132, q131_132T, q131_133, q131_136, q131_139, q131_140, q131_143, q131_144, q131_145, q131_146, q131_146N, q131_147, q131_150, q131_151, q131_153, q131_156, q131_156T, q131_157, q131_160, q131_160N, q131_161, q131_162, q131_165, q131_168, q131_168N, q131_169, q131_170, q131_171, q131_174, q131_177, q131_180, q131_184, q131_187, q131_188, q131_189, q131_189T, q131_190, q131_191, q131_192, q131_193, q131_194, hn, xl2, nc2, nI_leI, h2, s112_7, s112_3, h9, h9', nI_a0, up_s, h8, not_true_eq_false, not_false_eq_true, nI_1, MM_Kd, MM_Ln, MM_R, MM_I, MM_J, MM_sI, MM_sJ, r1, n1, r4, n4, xaf_s, xaf_v, va_rf_s, xix_n, nI_clamp, xk1_i, xk1_a, xk1_u, xk1_n, xk1_l, xk1_d, true_and, and_true, ↓reduceIte, Nat.reduceAdd, xtup]
          exact ih'
theorem s131 (hm : MS μ m) (hI : INV c g n x) (hg : g < 10300) : Cn G 131 [.ref m] (MM μ m x.1 x.2) Q = Q (.inl (some (.int (zMon n x).2))) (MM μ m (zMon n x).1.1 (zMon n x).1.2) := by
  have hm0 := hm
  have hn8 := hI.1.2.2.1
  obtain ⟨k0, ⟨k1, n1⟩, -, -, ⟨k4, n4⟩, -, -, -, r1, -, -, r4, -⟩ := hm
  have z0 : (0 : Int32) = nI 0 := rfl
  have e1 := s131_con (G := G) (Q := Q) hm0 hI hg none n 0 (by omega)
  have e2 := s131_lap (G := G) (Q := Q) hm0 (itr_con' hI hg) hg none n 0 (by omega)
  have e3 := s131_out (G := G) (Q := Q) hm0 (itr_lap' hI hg) (by omega) none n 0 (by omega)
  have e4 := s131_age (G := G) (Q := Q) hm0 (y := (itr zOut n (itr zLap n (itr zCon n x)), 0)) (itr_out' hI hg) (by omega) n 0 (by omega)
  show Rn G 131 0 [some (.ref m), none, none] [] (MM μ m x.1 x.2) Q = _
  simp only [q131_0, q131_1, xk1_i]
  refine e1.trans ?_
  simp only [q131_37, q131_38, xk1_i]
  refine e2.trans ?_
  simp only [q131_60, q131_61, xk1_i]
  refine e3.trans ?_
  simp only [q131_98, q131_99, q131_100, q131_101, xk1_i]
  refine e4.trans ?_
  unfold zMon zMon1
  generalize itr zAge n (itr zOut n (itr zLap n (itr zCon n x)), 0) = w
  simp (disch := first | assumption | (rw [MM_Kd]; assumption) | omega | decide) only [q131_183, q131_184, q131_187, q131_188, q131_189, q131_190, q131_191, q131_192, q131_193, q131_194, xl0, nc0, MM_Kd, MM_Ln, MM_R, MM_I, MM_J, MM_sI, MM_sJ, r1, n1, r4, n4, xaf_s, xaf_v, va_rf_s, xix_n, nI_clamp, xk1_i, xk1_a, xk1_u, xk1_n, xk1_l, xk1_d, true_and, and_true, ↓reduceIte, Nat.reduceAdd, xtup]
theorem s148_loop (hm : MS μ m) : ∀ k i g y N, INV c g n y.1 → g + k < 10300 → i + k = N → N < 100000 → Rn G 148 4 [some (.ref m), some (.int (nI N)), some (.int y.2), some (.int (nI i))] [] (MM μ m y.1.1 y.1.2) Q = Q (.inl (some (.int (zPass n k y).2))) (MM μ m (zPass n k y).1.1 (zPass n k y).1.2) := by
  have hm0 := hm
  obtain ⟨k0, ⟨k1, n1⟩, -, -, ⟨k4, n4⟩, -, -, -, r1, -, -, r4, -⟩ := hm
  intro k
  induction k with
  | zero =>
    intro i g y N hI hg hi hN
    have h2 : N ≤ i := by omega
    rw [q148_4]
    simp (disch := first | assumption | (rw [MM_Kd]; assumption) | omega | decide) only [q148_0, q148_1, q148_2, q148_3, q148_5, q148_6, q148_9, q148_10, q148_10N, q148_11, q148_14, q148_15, q148_16, q148_19, q148_22, q148_23, nI_leI, h2, xaf_s, xaf_v, va_rf_s, xix_n, nI_clamp, xk1_i, xk1_a, xk1_u, xk1_n, xk1_l, xk1_d, true_and, and_true, ↓reduceIte, Nat.reduceAdd, xtup]
    rfl
  | succ k ih =>
    intro i g y N hI hg hi hN
    have h2 : ¬ N ≤ i := by omega
    rw [q148_4]
    simp (disch := first | assumption | (rw [MM_Kd]; assumption) | omega | decide) only [q148_0, q148_1, q148_2, q148_3, q148_5, q148_6, q148_9, q148_10, q148_10N, q148_11, q148_14, q148_15, q148_16, q148_19, q148_22, q148_23, nI_leI, h2, s131 hm0 hI (show g < 10300 by omega), nI_1, xaf_s, xaf_v, va_rf_s, xix_n, nI_clamp, xk1_i, xk1_a, xk1_u, xk1_n, xk1_l, xk1_d, true_and, and_true, ↓reduceIte, Nat.reduceAdd, xtup]
    exact ih (i + 1) (g + 1) ((zMon n y.1).1, y.2 + (zMon n y.1).2) N (zMon_ok hI (by omega)) (by omega) (by omega) hN
theorem s148 (hm : MS μ m) {N : Nat} (hI : INV c g n x) (hg : g + N < 10300) (hN : N < 100000) : Cn G 148 [.ref m, .int (nI N)] (MM μ m x.1 x.2) Q = Q (.inl (some (.int (zPass n N (x, 0)).2))) (MM μ m (zPass n N (x, 0)).1.1 (zPass n N (x, 0)).1.2) := by
  show Rn G 148 0 [some (.ref m), some (.int (nI N)), none, none] [] (MM μ m x.1 x.2) Q = _
  simp only [q148_0, q148_1, q148_2, q148_3, xk1_i]
  exact s148_loop hm N 0 g (x, 0) N hI hg (by omega) hN
end MD5
