/-! THE REFERENCE NEW; THE GOAL -/
section CON5
variable {G : xCtx} {μ ν : xMem} {Q : xOut → xMem → Prop} {a b o m T k w : Nat} {P : Nat → Prop}
theorem nc619 : (619 : Int32).toNatClampNeg = 619 := rfl
theorem nc3714 : (3714 : Int32).toNatClampNeg = 3714 := rfl
theorem nc36 : (36 : Int32).toNatClampNeg = 36 := rfl
theorem nc60 : (60 : Int32).toNatClampNeg = 60 := rfl
theorem m108_l (hm : MS μ m) {f : Nat → Int32} : ∀ k, k < 3 → Rn G 108 100 [some (.ref m), some (.int (nI k))] [] (xrI μ (m + 1) f) Q = Rn G 108 100 [some (.ref m), some (.int (nI (k + 1)))] [] (xrI μ (m + 1) (up (up f (10 + 3 * k) 100) (10 + 3 * k + 1) 60)) Q := by
  intro k hk
  obtain ⟨k0, ⟨k1, n1⟩, ⟨k2, n2⟩, -, ⟨k4, n4⟩, ⟨k5, n5⟩, -, ⟨k7, n7⟩, r1, r2, -, r4, r5, -, r8⟩ := hm
  have z3 : (3 : Int32) = nI 3 := rfl
  have h5 : ¬ 3 ≤ k := by omega
  have d3 : (10 : Int32) + nI 3 * nI k = nI (10 + 3 * k) := d10 k
  have ix : 10 + 3 * k < 619 := by omega
  have ix1 : 10 + 3 * k + 1 < 619 := by omega
  rw [q108_100]
  simp (disch := first | assumption | (simp only [MM_Kd, rI_Kd, rJ_Kd, sI_Kd, sJ_Kd, sR_Kd]; assumption) | omega | decide) only [q108_0, q108_0N, q108_1, q108_4, q108_4N, q108_5, q108_8, q108_10, q108_13, q108_13N, q108_14, q108_17, q108_19, q108_22, q108_22N, q108_23, q108_26, q108_28, q108_31, q108_31N, q108_32, q108_34, q108_36, q108_39, q108_39N, q108_40, q108_42, q108_44, q108_47, q108_47N, q108_48, q108_50, q108_52, q108_55, q108_55N, q108_56, q108_58, q108_60, q108_63, q108_63N, q108_64, q108_67, q108_69, q108_72, q108_73, q108_73N, q108_74, q108_77, q108_79, q108_81, q108_82, q108_82N, q108_83, q108_86, q108_88, q108_89, q108_90, q108_90N, q108_91, q108_94, q108_96, q108_97, q108_98, q108_99, q108_101, q108_102, q108_105, q108_105N, q108_106, q108_109, q108_111, q108_112, q108_113, q108_114, q108_115, q108_117, q108_118, q108_118N, q108_119, q108_122, q108_124, q108_125, q108_126, q108_127, q108_128, q108_129, q108_130, q108_132, q108_133, q108_136, q108_139, z3, nI_leI, h5, r1, n1, d3, nI_1, rI_sI, rI_Kd, rI_Ln, rI_R, rI_J, rJ_Kd, rJ_Ln, rJ_R, rJ_I, sI_Kd, sI_Ln, sI_R, sI_J, sJ_Kd, sJ_Ln, sJ_R, sJ_I, sR_Kd, sR_Ln, sR_I, sR_J, xaf_s, xaf_v, va_rf_s, xix_n, nI_clamp, xk1_i, xk1_a, xk1_u, xk1_n, xk1_l, xk1_d, true_and, and_true, ↓reduceIte, Nat.reduceAdd, xtup]
theorem mk108 (hk : xKd μ m = 8) (hf : xFg μ = 0) (hT : xTp μ = m + 1) (hI : xI μ m = fun _ => 0) {tx : Nat → Int32} {S : Nat → ST} : ∃ μ', (∀ Q, Cn G 108 [.ref m] μ Q = Q (.inl none) μ') ∧ NW μ μ' (fun q => q = m) 7 5060 ∧ RST μ' m 0 0 tx S x00 := by
  obtain ⟨μ1, m1, n1, k1, l1, i1, j1, r1, s1, x1, y1⟩ := AL_all (μ := μ) (a := m) (j := 1) (k := 9) (n := 619) (by omega)
  have t1 : xTp μ1 = m + 2 := by have := n1.1; omega
  have f1 : xFg μ1 = 0 := n1.2.1.trans hf
  have h1 : xKd μ1 m = 8 := (n1.K (by omega)).trans hk
  obtain ⟨μ2, m2, n2, k2, l2, i2, j2, r2, s2, x2, y2⟩ := AL_all (μ := μ1) (a := m) (j := 2) (k := 9) (n := 619) (by omega)
  have t2 : xTp μ2 = m + 3 := by have := n2.1; omega
  have f2 : xFg μ2 = 0 := n2.2.1.trans f1
  have h2 : xKd μ2 m = 8 := (n2.K (by omega)).trans h1
  obtain ⟨μ3, m3, n3, k3, l3, i3, j3, r3, s3, x3, y3⟩ := AL_all (μ := μ2) (a := m) (j := 3) (k := 9) (n := 3714) (by omega)
  have t3 : xTp μ3 = m + 4 := by have := n3.1; omega
  have f3 : xFg μ3 = 0 := n3.2.1.trans f2
  have h3 : xKd μ3 m = 8 := (n3.K (by omega)).trans h2
  obtain ⟨μ4, m4, n4, k4, l4, i4, j4, r4, s4, x4, y4⟩ := AL_all (μ := μ3) (a := m) (j := 4) (k := 12) (n := 6) (by omega)
  have t4 : xTp μ4 = m + 5 := by have := n4.1; omega
  have f4 : xFg μ4 = 0 := n4.2.1.trans f3
  have h4 : xKd μ4 m = 8 := (n4.K (by omega)).trans h3
  obtain ⟨μ5, m5, n5, k5, l5, i5, j5, r5, s5, x5, y5⟩ := AL_all (μ := μ4) (a := m) (j := 5) (k := 12) (n := 6) (by omega)
  have t5 : xTp μ5 = m + 6 := by have := n5.1; omega
  have f5 : xFg μ5 = 0 := n5.2.1.trans f4
  have h5 : xKd μ5 m = 8 := (n5.K (by omega)).trans h4
  obtain ⟨μ6, m6, n6, k6, l6, i6, j6, r6, s6, x6, y6⟩ := AL_all (μ := μ5) (a := m) (j := 6) (k := 12) (n := 36) (by omega)
  have t6 : xTp μ6 = m + 7 := by have := n6.1; omega
  have f6 : xFg μ6 = 0 := n6.2.1.trans f5
  have h6 : xKd μ6 m = 8 := (n6.K (by omega)).trans h5
  obtain ⟨μ7, m7, n7, k7, l7, i7, j7, r7, s7, x7, y7⟩ := AL_all (μ := μ6) (a := m) (j := 8) (k := 9) (n := 60) (by omega)
  have t7 : xTp μ7 = m + 8 := by have := n7.1; omega
  have h7 : xKd μ7 m = 8 := (n7.K (by omega)).trans h6
  rw [hT] at k1 l1 i1 j1 r1
  rw [t1] at k2 l2 i2 j2 r2
  rw [t2] at k3 l3 i3 j3 r3
  rw [t3] at k4 l4 i4 j4 r4
  rw [t4] at k5 l5 i5 j5 r5
  rw [t5] at k6 l6 i6 j6 r6
  rw [t6] at k7 l7 i7 j7 r7
  have nT : NW μ μ7 (fun q => q = m) (1 + 1 + 1 + 1 + 1 + 1 + 1) (619 + 619 + 3714 + 6 + 6 + 36 + 60) := (((((n1.tr n2 (fun _ _ z => z)).tr n3 (fun _ _ z => z)).tr n4 (fun _ _ z => z)).tr n5 (fun _ _ z => z)).tr n6 (fun _ _ z => z)).tr n7 (fun _ _ z => z)
  have hM : MS μ7 m := by
    refine ⟨h7, ⟨?_, ?_⟩, ⟨?_, ?_⟩, ⟨?_, ?_⟩, ⟨?_, ?_⟩, ⟨?_, ?_⟩, ⟨?_, ?_⟩, ⟨k7, l7⟩, ?_, ?_, ?_, ?_, ?_, ?_, r7⟩
    · rw [n7.K (by omega), n6.K (by omega), n5.K (by omega), n4.K (by omega), n3.K (by omega), n2.K (by omega)]; exact k1
    · rw [n7.L (by omega), n6.L (by omega), n5.L (by omega), n4.L (by omega), n3.L (by omega), n2.L (by omega)]; exact l1
    · rw [n7.K (by omega), n6.K (by omega), n5.K (by omega), n4.K (by omega), n3.K (by omega)]; exact k2
    · rw [n7.L (by omega), n6.L (by omega), n5.L (by omega), n4.L (by omega), n3.L (by omega)]; exact l2
    · rw [n7.K (by omega), n6.K (by omega), n5.K (by omega), n4.K (by omega)]; exact k3
    · rw [n7.L (by omega), n6.L (by omega), n5.L (by omega), n4.L (by omega)]; exact l3
    · rw [n7.K (by omega), n6.K (by omega), n5.K (by omega)]; exact k4
    · rw [n7.L (by omega), n6.L (by omega), n5.L (by omega)]; exact l4
    · rw [n7.K (by omega), n6.K (by omega)]; exact k5
    · rw [n7.L (by omega), n6.L (by omega)]; exact l5
    · rw [n7.K (by omega)]; exact k6
    · rw [n7.L (by omega)]; exact l6
    · rw [s7 1 (by omega), s6 1 (by omega), s5 1 (by omega), s4 1 (by omega), s3 1 (by omega), s2 1 (by omega)]; exact r1
    · rw [s7 2 (by omega), s6 2 (by omega), s5 2 (by omega), s4 2 (by omega), s3 2 (by omega)]; exact r2
    · rw [s7 3 (by omega), s6 3 (by omega), s5 3 (by omega), s4 3 (by omega)]; exact r3
    · rw [s7 4 (by omega), s6 4 (by omega), s5 4 (by omega)]; exact r4
    · rw [s7 5 (by omega), s6 5 (by omega)]; exact r5
    · rw [s7 6 (by omega)]; exact r6
  have iA : xI μ7 m = fun _ => 0 := by rw [x7, x6, x5, x4, x3, x2, x1]; exact hI
  have iB : xI μ7 (m + 1) = fun _ => 0 := by rw [n7.I (by omega) (by omega), n6.I (by omega) (by omega), n5.I (by omega) (by omega), n4.I (by omega) (by omega), n3.I (by omega) (by omega), n2.I (by omega) (by omega)]; exact i1
  have jB : xJ μ7 (m + 4) = fun _ => 0 := by rw [n7.J (by omega) (by omega), n6.J (by omega) (by omega), n5.J (by omega) (by omega)]; exact j4
  have e0 : μ7 = xrI μ7 (m + 1) (fun _ => 0) := by rw [← iB]; exact rI_self.symm
  have g1 : xKd (xnw μ 9 619 619) m = 8 := (nw_K (by omega)).trans hk
  have g2 : xKd (xnw μ1 9 619 619) m = 8 := (nw_K (by omega)).trans h1
  have g3 : xKd (xnw μ2 9 3714 3714) m = 8 := (nw_K (by omega)).trans h2
  have g4 : xKd (xnw μ3 12 6 6) m = 8 := (nw_K (by omega)).trans h3
  have g5 : xKd (xnw μ4 12 6 6) m = 8 := (nw_K (by omega)).trans h4
  have g6 : xKd (xnw μ5 12 36 36) m = 8 := (nw_K (by omega)).trans h5
  have g7 : xKd (xnw μ6 9 60 60) m = 8 := (nw_K (by omega)).trans h6
  have q1 : xsR (xnw μ 9 619 619) m 1 (some (xTp μ)) = μ1 := m1.symm
  have q2 : xsR (xnw μ1 9 619 619) m 2 (some (xTp μ1)) = μ2 := m2.symm
  have q3 : xsR (xnw μ2 9 3714 3714) m 3 (some (xTp μ2)) = μ3 := m3.symm
  have q4 : xsR (xnw μ3 12 6 6) m 4 (some (xTp μ3)) = μ4 := m4.symm
  have q5 : xsR (xnw μ4 12 6 6) m 5 (some (xTp μ4)) = μ5 := m5.symm
  have q6 : xsR (xnw μ5 12 36 36) m 6 (some (xTp μ5)) = μ6 := m6.symm
  have q7 : xsR (xnw μ6 9 60 60) m 8 (some (xTp μ6)) = μ7 := m7.symm
  have hA : ∀ Q, Rn G 108 0 [some (.ref m), none] [] μ Q = Rn G 108 63 [some (.ref m), none] [] μ7 Q := fun Q => by
    simp (disch := first | assumption | (simp only [MM_Kd, rI_Kd, rJ_Kd, sI_Kd, sJ_Kd, sR_Kd]; assumption) | omega | decide) only [q108_0, q108_1, q108_4, q108_5, q108_8, q108_10, q108_13, q108_14, q108_17, q108_19, q108_22, q108_23, q108_26, q108_28, q108_31, q108_32, q108_34, q108_36, q108_39, q108_40, q108_42, q108_44, q108_47, q108_48, q108_50, q108_52, q108_55, q108_56, q108_58, q108_60, nc619, nc3714, nc36, nc60, nc6, q1, q2, q3, q4, q5, q6, q7, xaf_s, xaf_v, va_rf_s, xix_n, nI_clamp, xk1_i, xk1_a, xk1_u, xk1_n, xk1_l, xk1_d, true_and, and_true, ↓reduceIte, Nat.reduceAdd, xtup]
  have hM2 := hM
  obtain ⟨k70, ⟨k71, n71⟩, -, -, -, -, -, -, r71, -⟩ := hM
  have w6 : xix 6 619 = True := xl6 (by omega)
  have w7 : xix 7 619 = True := xl7 (by omega)
  have w8 : xix 8 619 = True := xl8 (by omega)
  have w9 : xix 9 619 = True := xl9 (by omega)
  have hB : ∀ Q, Rn G 108 63 [some (.ref m), none] [] (xrI μ7 (m + 1) (fun _ => 0)) Q = Rn G 108 100 [some (.ref m), some (.int 0)] [] (xrI μ7 (m + 1) (up (up (up (up (fun _ => 0) 6 780) 7 12) 8 5) 9 2)) Q := fun Q => by
    simp (disch := first | assumption | (simp only [MM_Kd, rI_Kd, rJ_Kd, sI_Kd, sJ_Kd, sR_Kd]; assumption) | omega | decide) only [q108_63, q108_64, q108_67, q108_69, q108_72, q108_73, q108_74, q108_77, q108_79, q108_81, q108_82, q108_83, q108_86, q108_88, q108_89, q108_90, q108_91, q108_94, q108_96, q108_97, q108_98, q108_99, r71, n71, w6, w7, w8, w9, nc6, nc7, nc8, nc9, rI_sI, rI_Kd, rI_Ln, rI_R, rI_J, rJ_Kd, rJ_Ln, rJ_R, rJ_I, sI_Kd, sI_Ln, sI_R, sI_J, sJ_Kd, sJ_Ln, sJ_R, sJ_I, sR_Kd, sR_Ln, sR_I, sR_J, xaf_s, xaf_v, va_rf_s, xix_n, nI_clamp, xk1_i, xk1_a, xk1_u, xk1_n, xk1_l, xk1_d, true_and, and_true, ↓reduceIte, Nat.reduceAdd, xtup]
  have z3 : (3 : Int32) = nI 3 := rfl
  have hE : ∀ f Q, Rn G 108 100 [some (.ref m), some (.int (nI 3))] [] (xrI μ7 (m + 1) f) Q = Q (.inl none) (xrI μ7 (m + 1) f) := fun f Q => by
    have h5 : 3 ≤ 3 := by omega
    rw [q108_100]
    simp (disch := first | assumption | (simp only [MM_Kd, rI_Kd, rJ_Kd, sI_Kd, sJ_Kd, sR_Kd]; assumption) | omega | decide) only [q108_101, q108_102, q108_139, z3, nI_leI, h5, xaf_s, xaf_v, va_rf_s, xix_n, nI_clamp, xk1_i, xk1_a, xk1_u, xk1_n, xk1_l, xk1_d, true_and, and_true, ↓reduceIte, Nat.reduceAdd, xtup]
  refine ⟨xrI μ7 (m + 1) s00, fun Q => ?_, ?_, hM2, by omega, by omega, ?_, ?_, fun k hk => absurd hk (Nat.not_lt_zero k), rI_e, jB, fun k hk => absurd hk (Nat.not_lt_zero k)⟩
  · show Rn G 108 0 [some (.ref m), none] [] μ Q = _
    rw [hA, e0, hB, show (0 : Int32) = nI 0 from rfl, m108_l hM2 0 (by omega), m108_l hM2 1 (by omega), m108_l hM2 2 (by omega), hE, rI_rI]
    rfl
  · refine nT.tr (P' := fun q => q = m + 1) (k' := 0) (w' := 0) ⟨rfl, rfl, rfl, rfl, fun q hq => ⟨rfl, fun z => ⟨rI_n z, rfl, rfl⟩⟩⟩ (fun q hq z => by omega)
  · rw [rI_n (by omega), iA]; rfl
  · rw [rI_n (by omega), iA]; rfl
end CON5
theorem xgoal : xGoal := by
  intro G B b L hL hctx
  obtain ⟨⟨hb, fs, hfs⟩, hst⟩ := hctx
  have hX0 : CT0 G (xm0 B) := fun j hj => ⟨(hst j hj).1, rfl, (hst j hj).2⟩
  -- the object
  obtain ⟨ν0, hν0⟩ : ∃ ν, ν = xnw (xm0 B) 7 0 5 := ⟨_, rfl⟩
  have tm : xTp (xm0 B) = B := rfl
  have nν0 : NW (xm0 B) ν0 (fun _ => False) 1 5 := by rw [hν0]; exact NW.nw
  have kν0 : xKd ν0 B = 7 := by rw [hν0]; exact nw_Ke (μ := xm0 B)
  have tν0 : xTp ν0 = B + 1 := by have := nν0.1; omega
  have fν0 : xFg ν0 = 0 := nν0.2.1
  obtain ⟨μ1, e1, n1, hC, h1, h2, h3, h4, h5⟩ := mk67 (G := G) kν0 fν0 tν0 (hX0.nw nν0)
  have t1 : xTp μ1 = B + 446 := by have := n1.1; omega
  have f1 : xFg μ1 = 0 := n1.2.1.trans fν0
  -- the reference
  obtain ⟨ν1, hν1⟩ : ∃ ν, ν = xnw μ1 8 0 17 := ⟨_, rfl⟩
  have nν1 : NW μ1 ν1 (fun _ => False) 1 17 := by rw [hν1]; exact NW.nw
  have kν1 : xKd ν1 (B + 446) = 8 := by rw [hν1, ← t1]; exact nw_Ke
  have iν1 : xI ν1 (B + 446) = fun _ => 0 := by rw [hν1, ← t1]; exact nw_Ie
  have tν1 : xTp ν1 = (B + 446) + 1 := by have := nν1.1; omega
  have fν1 : xFg ν1 = 0 := nν1.2.1.trans f1
  obtain ⟨μ2, e2, n2, hR⟩ := mk108 (G := G) (tx := fun _ => 0) (S := fun _ => x00) kν1 fν1 tν1 iν1
  have t2 : xTp μ2 = B + 454 := by have := n2.1; omega
  have f2 : xFg μ2 = 0 := n2.2.1.trans fν1
  -- the row of answers
  obtain ⟨μ3, hμ3⟩ : ∃ ν, ν = xnw μ2 12 1 1 := ⟨_, rfl⟩
  have n3 : NW μ2 μ3 (fun _ => False) 1 1 := by rw [hμ3]; exact NW.nw
  have k3 : xKd μ3 (B + 454) = 12 := by rw [hμ3, ← t2]; exact nw_Ke
  have l3 : xLn μ3 (B + 454) = 1 := by rw [hμ3, ← t2]; exact nw_Le
  have n12 : NW μ1 μ2 (fun _ => False) (1 + 7) (17 + 5060) := nν1.tr n2 (fun q hq z => by omega)
  have n13 : NW μ1 μ3 (fun _ => False) (1 + 7 + 1) (17 + 5060 + 1) := n12.tr n3 (fun _ _ z => z)
  have n01 : NW (xm0 B) μ1 (fun _ => False) (1 + 445) (5 + 13244) := nν0.tr n1 (fun q hq z => by omega)
  have n03 : NW (xm0 B) μ3 (fun _ => False) (1 + 445 + (1 + 7 + 1)) (5 + 13244 + (17 + 5060 + 1)) := n01.tr n13 (fun _ _ z => z)
  have loc := fun q (h : q < B + 446) => n13.at (q := q) (by omega) (fun z => z)
  have lob := fun q (h : q < B + 454) => n3.at (q := q) (by omega) (fun z => z)
  have hS : ∀ b', B ≤ b' → b' + 55 ≤ B + 446 → SC μ1 b' (fun j => j) 0 x00 → SC μ3 b' (fun j => j) 0 x00 := fun b' hb1 hb2 h => h.loc fun q q1 q2 => loc q (by omega)
  have hC3 : CSH μ3 B := by
    unfold CSH xKd xLn at *
    rw [(loc B (by omega)).1, (loc (B + 111) (by omega)).1, (loc (B + 112) (by omega)).1, (loc (B + 443) (by omega)).1, (loc (B + 444) (by omega)).1, (loc (B + 445) (by omega)).1, (loc B (by omega)).2.2.2, (loc (B + 111) (by omega)).2.2.2, (loc (B + 112) (by omega)).2.2.2, (loc (B + 443) (by omega)).2.2.2]
    exact hC
  have hCST : CST μ3 B 0 0 0 (fun j => j) 0 (fun _ => x00) x00 := CST00 hC3 (hS _ (by omega) (by omega) h1) (hS _ (by omega) (by omega) h2) (fun j hj => hS _ (by omega) (by omega) (h3 j hj)) (by rw [(loc (B + 111) (by omega)).2.1]; exact h4)
  have hCBF : CBF μ3 B 0 (fun _ => 0) := ⟨by omega, by rw [(loc (B + 443) (by omega)).2.1, h5]; rfl, fun k hk => absurd hk (Nat.not_lt_zero k)⟩
  have hRST : RST μ3 (B + 446) 0 0 (fun _ => 0) (fun _ => x00) x00 := by
    obtain ⟨a1, a2, a3, a4, a5, a6, a7, a8, a9⟩ := hR
    have hM : MS μ3 (B + 446) := by
      unfold MS xKd xLn at *
      rw [(lob (B + 446) (by omega)).1, (lob (B + 446 + 1) (by omega)).1, (lob (B + 446 + 2) (by omega)).1, (lob (B + 446 + 3) (by omega)).1, (lob (B + 446 + 4) (by omega)).1, (lob (B + 446 + 5) (by omega)).1, (lob (B + 446 + 6) (by omega)).1, (lob (B + 446 + 7) (by omega)).1, (lob (B + 446) (by omega)).2.2.2]
      exact a1
    exact ⟨hM, a2, a3, by rw [(lob (B + 446) (by omega)).2.1]; exact a4, by rw [(lob (B + 446) (by omega)).2.1]; exact a5, fun k hk => absurd hk (Nat.not_lt_zero k), by rw [(lob (B + 446 + 1) (by omega)).2.1]; exact a7, by rw [(lob (B + 446 + 4) (by omega)).2.2.1]; exact a8, fun k hk => absurd hk (Nat.not_lt_zero k)⟩
  have hCTX : CTX G μ3 := fun j hj => ⟨(n03.K (hst j hj).1).trans rfl, (hst j hj).2⟩
  have hkb : xKd μ3 b = 0 := (n03.K hb).trans rfl
  have cc : xCc μ3 = 0 + (1 + 445 + (1 + 7 + 1)) := n03.2.2.1
  have cs : xCs μ3 = 0 + (5 + 13244 + (17 + 5060 + 1)) := n03.2.2.2.1
  have hLS : LSt G μ3 B b L fs 0 := ⟨0, 0, fun j => j, 0, 0, fun _ => 0, fun _ => x00, x00, hCTX, ⟨hkb, hfs⟩, hCST, hCBF, hRST, ⟨k3, l3⟩, by omega, by omega⟩
  obtain ⟨μ', w1, w2, w3⟩ := law_loop hL 512 0 0 μ3 (by omega) (by omega) (by omega) hLS
  have g0 : xKd ν0 B = 7 := kν0
  have nc1' : (1 : Int32).toNatClampNeg = 1 := rfl
  have hrun : Rn G 212 0 (xent [.ref b] 9) [] (xm0 B) (fun out μ'' => out = .inl (some (.int 1)) ∧ μ'' = μ') := by
    have w1' := w1 (fun out μ'' => out = .inl (some (.int 1)) ∧ μ'' = μ') none none none none
    rw [show (nI 0 : Int32) = 0 from rfl] at w1'
    show Rn G 212 0 [some (.ref b), none, none, none, none, none, none, none, none] [] (xm0 B) _
    have hgo : Rn G 212 0 [some (.ref b), none, none, none, none, none, none, none, none] [] (xm0 B) (fun out μ'' => out = .inl (some (.int 1)) ∧ μ'' = μ') = Rn G 212 23 [some (.ref b), some (.ref B), some (.ref (B + 446)), some (.ref (B + 454)), some (.int 0), none, none, none, none] [] μ3 (fun out μ'' => out = .inl (some (.int 1)) ∧ μ'' = μ') := by
      have fm : xFg (xm0 B) = 0 := rfl
      simp (disch := first | assumption | (simp only [MM_Kd, rI_Kd, rJ_Kd, sI_Kd, sJ_Kd, sR_Kd]; assumption) | omega | decide) only [q212_0, q212_3, q212_4, q212_7, q212_8, q212_11, q212_12, q212_15, q212_16, q212_17, q212_19, q212_20, q212_21, tm, ← hν0, e1, t1, ← hν1, e2, nc1', t2, ← hμ3, xaf_s, xaf_v, va_rf_s, xix_n, nI_clamp, xk1_i, xk1_a, xk1_u, xk1_n, xk1_l, xk1_d, true_and, and_true, ↓reduceIte, Nat.reduceAdd, xtup]
    rw [hgo, w1']
    exact ⟨rfl, rfl⟩
  obtain ⟨fu, out, μ'', y1, rfl, rfl⟩ := hrun
  exact ⟨fu, μ'', y1, by omega, by omega⟩
