/-! THE CLASS: LOOKS -/
theorem mPen_00 {s : Nat → Int32} {p : Nat} : mPen s p 0 0 0 = mPs s p 0 0 3 0 0 := if_pos (by decide)
section PB6
variable {G : xCtx} {μ : xMem} {Q : xOut → xMem → Prop} {o n k c p g t b L F S0 lo hi a : Nat} {π : Nat → Nat} {S : Nat → ST} {x : ST} {s : Nat → Int32} {σ : Nat → Int64}
theorem q66_s {w : Nat} (hw : w < 12) {l0 l1 l2 : Option Value} {st : List Value} : Rn G 66 1 [l0, l1, l2] (.int (nI w) :: st) μ Q = if w = 0 then Rn G 66 60 [l0, l1, l2] st μ Q else if w = 1 then Rn G 66 65 [l0, l1, l2] st μ Q else if w = 2 then Rn G 66 70 [l0, l1, l2] st μ Q else if w = 3 then Rn G 66 75 [l0, l1, l2] st μ Q else if w < 7 then Rn G 66 80 [l0, l1, l2] st μ Q else if w = 7 then Rn G 66 88 [l0, l1, l2] st μ Q else if w = 8 then Rn G 66 96 [l0, l1, l2] st μ Q else if w = 9 then Rn G 66 122 [l0, l1, l2] st μ Q else if w = 10 then Rn G 66 130 [l0, l1, l2] st μ Q else Rn G 66 138 [l0, l1, l2] st μ Q := by
  have : w = 0 ∨ w = 1 ∨ w = 2 ∨ w = 3 ∨ w = 4 ∨ w = 5 ∨ w = 6 ∨ w = 7 ∨ w = 8 ∨ w = 9 ∨ w = 10 ∨ w = 11 := by omega
  rcases this with rfl | rfl | rfl | rfl | rfl | rfl | rfl | rfl | rfl | rfl | rfl | rfl
  · exact q66_1c0
  · exact q66_1c1
  · exact q66_1c2
  · exact q66_1c3
  · exact q66_1c4
  · exact q66_1c5
  · exact q66_1c6
  · exact q66_1c7
  · exact q66_1c8
  · exact q66_1c9
  · exact q66_1c10
  · exact q66_1d (x := nI 11) (Or.inr (by decide))
theorem c66 (hS : SH μ b) (hb : HB μ a) (hG : GV μ b s σ) (hM : MV μ a (mw s p)) (hI : GI s g n F) (hm : MI (mw s p) S0 lo hi) (hs : S0 ≤ 20500) (hh : hi - lo < 62) {w : Nat} (hw : w < 12) : Cn G 66 [.ref b, .ref a, .int (nI w)] μ Q = Q (.inl (some (.int (vMem s p w)))) μ := by
  have hS0 := hS
  have hb0 := hb
  obtain ⟨d1, d2, d3, d4, d5⟩ := hm.at (by omega)
  obtain ⟨m2, m3, m4, m5, m6, m7, m8, m9, m1, fi, ni, hl⟩ := hM.w
  obtain ⟨b0, ⟨b1, u1⟩, ⟨b2, u2⟩, ⟨b3, u3⟩, ⟨b4, u4⟩, ⟨b5, u5⟩, ⟨b6, u6⟩, r0, r1, r2, r3, r4, r5⟩ := hS
  obtain ⟨h0, ⟨h1, e1⟩, h2, -, -, -, p0, p1, -⟩ := hb
  have g0 := hG.2.1
  have gs2 : xI μ (b + 1) 2 = s 8 := hG.2.2.2.2.2.1 2 (by omega)
  have hN : ni = zLts s p := by
    unfold zLts
    have := hl.2.2.2.2.1
    rw [mw_at (by omega)] at this
    rw [this, nI_clamp (by have := hl.2.1; omega)]
  have hc13 := fun Q => c13 (G := G) (Q := Q) hb0 hl
  rw [hN] at hc13
  have i10 : xI μ (a + 2) 4 = s (19 + 75 * p + 10) := by rw [hl.2.2.2.1, ← hl.2.2.2.2.1, mw_at (by omega)]
  have h9 : s (19 + 75 * p + 9) = 0 ∨ s (19 + 75 * p + 9) = 1 := by
    obtain ⟨-, -, -, -, a5, -⟩ := hm
    rw [mw_at (by omega)] at a5; exact a5
  have h7 : s (19 + 75 * p + 7) = 0 ∨ s (19 + 75 * p + 7) = 1 := d5.imp id And.left
  have i7 := m7
  have hc107a := fun Q => c107 (G := G) (μ := μ) (Q := Q) h7
  have hc107b := fun Q => c107 (G := G) (μ := μ) (Q := Q) h9
  show Rn G 66 0 [some (.ref b), some (.ref a), some (.int (nI w))] [] μ Q = _
  rw [q66_0, q66_s hw]
  unfold vMem
  by_cases w0 : w = 0
  · subst w0; simp (disch := first | assumption | (simp only [MM_Kd, rI_Kd, rJ_Kd, sI_Kd, sJ_Kd, sR_Kd]; assumption) | omega | decide) only [q66_0, q66_60, q66_60N, q66_61, q66_64, q66_65, q66_65N, q66_66, q66_69, q66_70, q66_70N, q66_71, q66_74, q66_75, q66_75N, q66_76, q66_79, q66_80, q66_80N, q66_81, q66_82, q66_83, q66_84, q66_87, q66_88, q66_88N, q66_89, q66_92, q66_95, q66_96, q66_96N, q66_97, q66_100, q66_103, q66_103N, q66_104, q66_107, q66_110, q66_110N, q66_111, q66_111N, q66_112, q66_112N, q66_113, q66_116, q66_117, q66_120, q66_121, q66_122, q66_122N, q66_123, q66_126, q66_129, q66_130, q66_130N, q66_131, q66_134, q66_137, q66_138, q66_138N, q66_139, q66_142, q66_142N, q66_143, q66_146, q66_146N, q66_147, q66_150, q66_151, q66_151T, q66_152, q66_155, m3, Nat.reduceEqDiff, Nat.add_zero, xaf_s, xaf_v, va_rf_s, xix_n, nI_clamp, xk1_i, xk1_a, xk1_u, xk1_n, xk1_l, xk1_d, true_and, and_true, ↓reduceIte, Nat.reduceAdd, xtup]
  by_cases w1 : w = 1
  · subst w1; simp (disch := first | assumption | (simp only [MM_Kd, rI_Kd, rJ_Kd, sI_Kd, sJ_Kd, sR_Kd]; assumption) | omega | decide) only [q66_0, q66_60, q66_60N, q66_61, q66_64, q66_65, q66_65N, q66_66, q66_69, q66_70, q66_70N, q66_71, q66_74, q66_75, q66_75N, q66_76, q66_79, q66_80, q66_80N, q66_81, q66_82, q66_83, q66_84, q66_87, q66_88, q66_88N, q66_89, q66_92, q66_95, q66_96, q66_96N, q66_97, q66_100, q66_103, q66_103N, q66_104, q66_107, q66_110, q66_110N, q66_111, q66_111N, q66_112, q66_112N, q66_113, q66_116, q66_117, q66_120, q66_121, q66_122, q66_122N, q66_123, q66_126, q66_129, q66_130, q66_130N, q66_131, q66_134, q66_137, q66_138, q66_138N, q66_139, q66_142, q66_142N, q66_143, q66_146, q66_146N, q66_147, q66_150, q66_151, q66_151T, q66_152, q66_155, m4, Nat.reduceEqDiff, xaf_s, xaf_v, va_rf_s, xix_n, nI_clamp, xk1_i, xk1_a, xk1_u, xk1_n, xk1_l, xk1_d, true_and, and_true, ↓reduceIte, Nat.reduceAdd, xtup]
  by_cases w2 : w = 2
  · subst w2; simp (disch := first | assumption | (simp only [MM_Kd, rI_Kd, rJ_Kd, sI_Kd, sJ_Kd, sR_Kd]; assumption) | omega | decide) only [q66_0, q66_60, q66_60N, q66_61, q66_64, q66_65, q66_65N, q66_66, q66_69, q66_70, q66_70N, q66_71, q66_74, q66_75, q66_75N, q66_76, q66_79, q66_80, q66_80N, q66_81, q66_82, q66_83, q66_84, q66_87, q66_88, q66_88N, q66_89, q66_92, q66_95, q66_96, q66_96N, q66_97, q66_100, q66_103, q66_103N, q66_104, q66_107, q66_110, q66_110N, q66_111, q66_111N, q66_112, q66_112N, q66_113, q66_116, q66_117, q66_120, q66_121, q66_122, q66_122N, q66_123, q66_126, q66_129, q66_130, q66_130N, q66_131, q66_134, q66_137, q66_138, q66_138N, q66_139, q66_142, q66_142N, q66_143, q66_146, q66_146N, q66_147, q66_150, q66_151, q66_151T, q66_152, q66_155, m5, Nat.reduceEqDiff, xaf_s, xaf_v, va_rf_s, xix_n, nI_clamp, xk1_i, xk1_a, xk1_u, xk1_n, xk1_l, xk1_d, true_and, and_true, ↓reduceIte, Nat.reduceAdd, xtup]
  by_cases w3 : w = 3
  · subst w3; simp (disch := first | assumption | (simp only [MM_Kd, rI_Kd, rJ_Kd, sI_Kd, sJ_Kd, sR_Kd]; assumption) | omega | decide) only [q66_0, q66_60, q66_60N, q66_61, q66_64, q66_65, q66_65N, q66_66, q66_69, q66_70, q66_70N, q66_71, q66_74, q66_75, q66_75N, q66_76, q66_79, q66_80, q66_80N, q66_81, q66_82, q66_83, q66_84, q66_87, q66_88, q66_88N, q66_89, q66_92, q66_95, q66_96, q66_96N, q66_97, q66_100, q66_103, q66_103N, q66_104, q66_107, q66_110, q66_110N, q66_111, q66_111N, q66_112, q66_112N, q66_113, q66_116, q66_117, q66_120, q66_121, q66_122, q66_122N, q66_123, q66_126, q66_129, q66_130, q66_130N, q66_131, q66_134, q66_137, q66_138, q66_138N, q66_139, q66_142, q66_142N, q66_143, q66_146, q66_146N, q66_147, q66_150, q66_151, q66_151T, q66_152, q66_155, m6, Nat.reduceEqDiff, xaf_s, xaf_v, va_rf_s, xix_n, nI_clamp, xk1_i, xk1_a, xk1_u, xk1_n, xk1_l, xk1_d, true_and, and_true, ↓reduceIte, Nat.reduceAdd, xtup]
  by_cases w7 : w < 7
  · have hsub : nI w - 4 = nI (w - 4) := pk_sub (b := 4) (by omega)
    have hc24 := fun Q => c24 (G := G) (Q := Q) (c := w - 4) hb0 (by omega)
    have i1 := m1 (w - 4) (by omega)
    rw [show 4 + (w - 4) = w by omega] at i1
    rw [if_neg w0, if_neg w1, if_neg w2, if_neg w3, if_pos w7, if_neg (by omega), if_neg (by omega)]
    simp (disch := first | assumption | (simp only [MM_Kd, rI_Kd, rJ_Kd, sI_Kd, sJ_Kd, sR_Kd]; assumption) | omega | decide) only [q66_0, q66_60, q66_60N, q66_61, q66_64, q66_65, q66_65N, q66_66, q66_69, q66_70, q66_70N, q66_71, q66_74, q66_75, q66_75N, q66_76, q66_79, q66_80, q66_80N, q66_81, q66_82, q66_83, q66_84, q66_87, q66_88, q66_88N, q66_89, q66_92, q66_95, q66_96, q66_96N, q66_97, q66_100, q66_103, q66_103N, q66_104, q66_107, q66_110, q66_110N, q66_111, q66_111N, q66_112, q66_112N, q66_113, q66_116, q66_117, q66_120, q66_121, q66_122, q66_122N, q66_123, q66_126, q66_129, q66_130, q66_130N, q66_131, q66_134, q66_137, q66_138, q66_138N, q66_139, q66_142, q66_142N, q66_143, q66_146, q66_146N, q66_147, q66_150, q66_151, q66_151T, q66_152, q66_155, hsub, hc24, i1, xaf_s, xaf_v, va_rf_s, xix_n, nI_clamp, xk1_i, xk1_a, xk1_u, xk1_n, xk1_l, xk1_d, true_and, and_true, ↓reduceIte, Nat.reduceAdd, xtup]
  by_cases w7' : w = 7
  · subst w7'; simp (disch := first | assumption | (simp only [MM_Kd, rI_Kd, rJ_Kd, sI_Kd, sJ_Kd, sR_Kd]; assumption) | omega | decide) only [q66_0, q66_60, q66_60N, q66_61, q66_64, q66_65, q66_65N, q66_66, q66_69, q66_70, q66_70N, q66_71, q66_74, q66_75, q66_75N, q66_76, q66_79, q66_80, q66_80N, q66_81, q66_82, q66_83, q66_84, q66_87, q66_88, q66_88N, q66_89, q66_92, q66_95, q66_96, q66_96N, q66_97, q66_100, q66_103, q66_103N, q66_104, q66_107, q66_110, q66_110N, q66_111, q66_111N, q66_112, q66_112N, q66_113, q66_116, q66_117, q66_120, q66_121, q66_122, q66_122N, q66_123, q66_126, q66_129, q66_130, q66_130N, q66_131, q66_134, q66_137, q66_138, q66_138N, q66_139, q66_142, q66_142N, q66_143, q66_146, q66_146N, q66_147, q66_150, q66_151, q66_151T, q66_152, q66_155, m7, hc107a, Nat.reduceEqDiff, Nat.reduceLT, xaf_s, xaf_v, va_rf_s, xix_n, nI_clamp, xk1_i, xk1_a, xk1_u, xk1_n, xk1_l, xk1_d, true_and, and_true, ↓reduceIte, Nat.reduceAdd, xtup]
  by_cases w8 : w = 8
  · subst w8
    rw [if_neg w0, if_neg w1, if_neg w2, if_neg w3, if_neg w7, if_neg w7', if_pos rfl, if_pos rfl]
    rcases h7 with h7 | h7
    · have j7 : xI μ a 7 = 0 := by rw [m7]; exact h7
      obtain ⟨q, e, h, q1, q2, q3, q4, q5, q6⟩ := pen_of hI hm hs
      have hc51 := fun Q => c51 (G := G) (Q := Q) (t := 0) hS0 hb0 hG hM q1 q2 q3 q4 q5 q6 (by omega) d1
      rw [show (nI 0 : Int32) = 0 from rfl] at hc51
      have i4 : xI μ a 4 = nI (zOwn s p) := by rw [m4]; exact d2
      have n7 : ¬ s (19 + 75 * p + 7) = 1 := by rw [h7]; decide
      have hp := mPs_n (p := p) (c := 0) (t := 0) q1 q2 q3 q4 (by omega) q5 q6 (by omega) 3 0 0 (by omega)
      have hp' : mPs s p 0 0 3 0 0 = nI (nPs q 0 0 e h 3 0 0) := hp
      rw [if_neg n7, mPen_00, hp', ← nPs_t0 (c := zOwn s p)]
      simp (disch := first | assumption | (simp only [MM_Kd, rI_Kd, rJ_Kd, sI_Kd, sJ_Kd, sR_Kd]; assumption) | omega | decide) only [q66_0, q66_60, q66_60N, q66_61, q66_64, q66_65, q66_65N, q66_66, q66_69, q66_70, q66_70N, q66_71, q66_74, q66_75, q66_75N, q66_76, q66_79, q66_80, q66_80N, q66_81, q66_82, q66_83, q66_84, q66_87, q66_88, q66_88N, q66_89, q66_92, q66_95, q66_96, q66_96N, q66_97, q66_100, q66_103, q66_103N, q66_104, q66_107, q66_110, q66_110N, q66_111, q66_111N, q66_112, q66_112N, q66_113, q66_116, q66_117, q66_120, q66_121, q66_122, q66_122N, q66_123, q66_126, q66_129, q66_130, q66_130N, q66_131, q66_134, q66_137, q66_138, q66_138N, q66_139, q66_142, q66_142N, q66_143, q66_146, q66_146N, q66_147, q66_150, q66_151, q66_151T, q66_152, q66_155, j7, i4, hc51, lN_i, xaf_s, xaf_v, va_rf_s, xix_n, nI_clamp, xk1_i, xk1_a, xk1_u, xk1_n, xk1_l, xk1_d, true_and, and_true, ↓reduceIte, Nat.reduceAdd, xtup]
    · have j7 : xI μ a 7 = 1 := by rw [m7]; exact h7
      rw [if_pos h7]
      simp (disch := first | assumption | (simp only [MM_Kd, rI_Kd, rJ_Kd, sI_Kd, sJ_Kd, sR_Kd]; assumption) | omega | decide) only [q66_0, q66_60, q66_60N, q66_61, q66_64, q66_65, q66_65N, q66_66, q66_69, q66_70, q66_70N, q66_71, q66_74, q66_75, q66_75N, q66_76, q66_79, q66_80, q66_80N, q66_81, q66_82, q66_83, q66_84, q66_87, q66_88, q66_88N, q66_89, q66_92, q66_95, q66_96, q66_96N, q66_97, q66_100, q66_103, q66_103N, q66_104, q66_107, q66_110, q66_110N, q66_111, q66_111N, q66_112, q66_112N, q66_113, q66_116, q66_117, q66_120, q66_121, q66_122, q66_122N, q66_123, q66_126, q66_129, q66_130, q66_130N, q66_131, q66_134, q66_137, q66_138, q66_138N, q66_139, q66_142, q66_142N, q66_143, q66_146, q66_146N, q66_147, q66_150, q66_151, q66_151T, q66_152, q66_155, j7, c10, m8, xaf_s, xaf_v, va_rf_s, xix_n, nI_clamp, xk1_i, xk1_a, xk1_u, xk1_n, xk1_l, xk1_d, true_and, and_true, ↓reduceIte, Nat.reduceAdd, xtup]
  by_cases w9 : w = 9
  · subst w9; simp (disch := first | assumption | (simp only [MM_Kd, rI_Kd, rJ_Kd, sI_Kd, sJ_Kd, sR_Kd]; assumption) | omega | decide) only [q66_0, q66_60, q66_60N, q66_61, q66_64, q66_65, q66_65N, q66_66, q66_69, q66_70, q66_70N, q66_71, q66_74, q66_75, q66_75N, q66_76, q66_79, q66_80, q66_80N, q66_81, q66_82, q66_83, q66_84, q66_87, q66_88, q66_88N, q66_89, q66_92, q66_95, q66_96, q66_96N, q66_97, q66_100, q66_103, q66_103N, q66_104, q66_107, q66_110, q66_110N, q66_111, q66_111N, q66_112, q66_112N, q66_113, q66_116, q66_117, q66_120, q66_121, q66_122, q66_122N, q66_123, q66_126, q66_129, q66_130, q66_130N, q66_131, q66_134, q66_137, q66_138, q66_138N, q66_139, q66_142, q66_142N, q66_143, q66_146, q66_146N, q66_147, q66_150, q66_151, q66_151T, q66_152, q66_155, m9, hc107b, Nat.reduceEqDiff, Nat.reduceLT, xaf_s, xaf_v, va_rf_s, xix_n, nI_clamp, xk1_i, xk1_a, xk1_u, xk1_n, xk1_l, xk1_d, true_and, and_true, ↓reduceIte, Nat.reduceAdd, xtup]
  by_cases w10 : w = 10
  · subst w10; simp (disch := first | assumption | (simp only [MM_Kd, rI_Kd, rJ_Kd, sI_Kd, sJ_Kd, sR_Kd]; assumption) | omega | decide) only [q66_0, q66_60, q66_60N, q66_61, q66_64, q66_65, q66_65N, q66_66, q66_69, q66_70, q66_70N, q66_71, q66_74, q66_75, q66_75N, q66_76, q66_79, q66_80, q66_80N, q66_81, q66_82, q66_83, q66_84, q66_87, q66_88, q66_88N, q66_89, q66_92, q66_95, q66_96, q66_96N, q66_97, q66_100, q66_103, q66_103N, q66_104, q66_107, q66_110, q66_110N, q66_111, q66_111N, q66_112, q66_112N, q66_113, q66_116, q66_117, q66_120, q66_121, q66_122, q66_122N, q66_123, q66_126, q66_129, q66_130, q66_130N, q66_131, q66_134, q66_137, q66_138, q66_138N, q66_139, q66_142, q66_142N, q66_143, q66_146, q66_146N, q66_147, q66_150, q66_151, q66_151T, q66_152, q66_155, p1, i10, Nat.reduceEqDiff, Nat.reduceLT, xaf_s, xaf_v, va_rf_s, xix_n, nI_clamp, xk1_i, xk1_a, xk1_u, xk1_n, xk1_l, xk1_d, true_and, and_true, ↓reduceIte, Nat.reduceAdd, xtup]
  · have w11 : w = 11 := by omega
    subst w11
    simp (disch := first | assumption | (simp only [MM_Kd, rI_Kd, rJ_Kd, sI_Kd, sJ_Kd, sR_Kd]; assumption) | omega | decide) only [q66_0, q66_60, q66_60N, q66_61, q66_64, q66_65, q66_65N, q66_66, q66_69, q66_70, q66_70N, q66_71, q66_74, q66_75, q66_75N, q66_76, q66_79, q66_80, q66_80N, q66_81, q66_82, q66_83, q66_84, q66_87, q66_88, q66_88N, q66_89, q66_92, q66_95, q66_96, q66_96N, q66_97, q66_100, q66_103, q66_103N, q66_104, q66_107, q66_110, q66_110N, q66_111, q66_111N, q66_112, q66_112N, q66_113, q66_116, q66_117, q66_120, q66_121, q66_122, q66_122N, q66_123, q66_126, q66_129, q66_130, q66_130N, q66_131, q66_134, q66_137, q66_138, q66_138N, q66_139, q66_142, q66_142N, q66_143, q66_146, q66_146N, q66_147, q66_150, q66_151, q66_151T, q66_152, q66_155, p1, g0, gs2, r0, u1, xl2, nc2, hc13, Nat.reduceEqDiff, Nat.reduceLT, xaf_s, xaf_v, va_rf_s, xix_n, nI_clamp, xk1_i, xk1_a, xk1_u, xk1_n, xk1_l, xk1_d, true_and, and_true, ↓reduceIte, Nat.reduceAdd, xtup]
theorem c52 (hS : SH μ b) (hb : HB μ a) (hG : GV μ b s σ) (hM : MV μ a (mw s p)) (hI : GI s g n F) (hm : MI (mw s p) S0 lo hi) (hs : S0 ≤ 20500) (hh : hi - lo < 62) : Cn G 52 [.ref b, .ref a] μ Q = Q (.inl (some (.int (vBest s p)))) μ := by
  have hS0 := hS
  have hb0 := hb
  obtain ⟨d1, d2, d3, d4, d5⟩ := hm.at (by omega)
  obtain ⟨m2, m3, m4, m5, m6, m7, m8, m9, m1, -⟩ := hM.w
  obtain ⟨b0, ⟨b1, u1⟩, ⟨b2, u2⟩, ⟨b3, u3⟩, ⟨b4, u4⟩, ⟨b5, u5⟩, ⟨b6, u6⟩, r0, r1, r2, r3, r4, r5⟩ := hS
  obtain ⟨h0, -⟩ := hb
  have gr := hG.2.2.2.2.2.2.1
  have z3 : (3 : Int32) = nI 3 := rfl
  have hc50 := fun {c} (hc : c < 3) Q => c50 (G := G) (Q := Q) (k := 12) hS0 hb0 hG hM hI hm hs hc (by omega)
  have e12 : (nI 12 : Int32) = 12 := rfl
  rw [e12] at hc50
  show Rn G 52 0 [some (.ref b), some (.ref a), none, none, none, none, none] [] μ Q = _
  unfold vBest
  rcases d5 with h7 | ⟨h7, -⟩
  · have i7 : xI μ a 7 = 0 := by rw [m7]; exact h7
    rw [if_neg (by rw [h7]; decide)]
    have key : ∀ k i l6 (y : Int32 × Int32) (rt : Int32), i + k = 3 → y = itr (bStep s p) i (-1, 0) → (y.1 = -1 ∨ ∃ f, f < 3 ∧ y.1 = nI f ∧ rt = s (10 + 3 * f)) → Rn G 52 19 [some (.ref b), some (.ref a), some (.int y.1), some (.int y.2), some (.int rt), some (.int (nI i)), l6] [] μ Q = Q (.inl (some (.int (itr (bStep s p) 3 (-1, 0)).1))) μ := by
      intro k
      induction k with
      | zero =>
        intro i l6 y rt hi hy hf
        have h2 : 3 ≤ i := by omega
        rw [q52_19]
        simp (disch := first | assumption | (simp only [MM_Kd, rI_Kd, rJ_Kd, sI_Kd, sJ_Kd, sR_Kd]; assumption) | omega | decide) only [q52_0, q52_0N, q52_1, q52_4, q52_7, q52_8, q52_9, q52_10, q52_11, q52_12, q52_13, q52_14, q52_16, q52_17, q52_21, q52_22, q52_25, q52_27, q52_27N, q52_28, q52_31, q52_34, q52_34N, q52_35, q52_38, q52_40, q52_41, q52_44, q52_44N, q52_45, q52_45N, q52_46, q52_48, q52_50, q52_53, q52_55, q52_56, q52_57, q52_60, q52_62, q52_63, q52_66, q52_68, q52_69, q52_72, q52_72N, q52_73, q52_76, q52_78, q52_78T, q52_79, q52_81, q52_84, q52_86, q52_87, q52_89, q52_90, q52_90N, q52_91, q52_94, q52_96, q52_96T, q52_97, q52_99, q52_102, q52_105, q52_106, z3, nI_leI, h2, xaf_s, xaf_v, va_rf_s, xix_n, nI_clamp, xk1_i, xk1_a, xk1_u, xk1_n, xk1_l, xk1_d, true_and, and_true, ↓reduceIte, Nat.reduceAdd, xtup]
        rw [hy, show i = 3 by omega]
      | succ k ih =>
        intro i l6 y rt hi hy hf
        have h2 : ¬ 3 ≤ i := by omega
        have hi3 : i < 3 := by omega
        have hz : itr (bStep s p) (i + 1) (-1, 0) = bStep s p i y := by rw [hy]; rfl
        obtain ⟨gr1, gr2, gr3⟩ := gr i hi3
        have h01 := (hI.2.2.2.2.2.2.2.2 i hi3).2.2
        have hc50i := fun Q => hc50 hi3 Q
        obtain ⟨f, mo⟩ := y
        dsimp only at hf ⊢
        generalize hv : vPB s p (nI i) 12 = v at *
        by_cases hx : nI i = s (19 + 75 * p + 1) ∨ ¬ s (12 + 3 * i) = 1
        · have mid : ∀ l6, Rn G 52 44 [some (.ref b), some (.ref a), some (.int f), some (.int mo), some (.int rt), some (.int (nI i)), l6] [] μ Q = Q (.inl (some (.int (itr (bStep s p) 3 (-1, 0)).1))) μ := by
            intro l6
            by_cases hy' : f = -1 ∨ mo < v ∨ (v = mo ∧ s (10 + 3 * i) < s (10 + 3 * f.toNatClampNeg))
            · have e1 : bStep s p i (f, mo) = (nI i, v) := by unfold bStep; rw [if_pos hx, hv, if_pos hy']
              have ih' := ih (i + 1) (some (.int v)) (nI i, v) (s (10 + 3 * i)) (by omega) (by rw [hz, e1]) (Or.inr ⟨i, hi3, rfl, rfl⟩)
              by_cases hf1 : f = -1
              · subst hf1
                simp (disch := first | assumption | (simp only [MM_Kd, rI_Kd, rJ_Kd, sI_Kd, sJ_Kd, sR_Kd]; assumption) | omega | decide) only [q52_0, q52_0N, q52_1, q52_4, q52_7, q52_8, q52_9, q52_10, q52_11, q52_12, q52_13, q52_14, q52_16, q52_17, q52_21, q52_22, q52_25, q52_27, q52_27N, q52_28, q52_31, q52_34, q52_34N, q52_35, q52_38, q52_40, q52_41, q52_44, q52_44N, q52_45, q52_45N, q52_46, q52_48, q52_50, q52_53, q52_55, q52_56, q52_57, q52_60, q52_62, q52_63, q52_66, q52_68, q52_69, q52_72, q52_72N, q52_73, q52_76, q52_78, q52_78T, q52_79, q52_81, q52_84, q52_86, q52_87, q52_89, q52_90, q52_90N, q52_91, q52_94, q52_96, q52_96T, q52_97, q52_99, q52_102, q52_105, q52_106, hc50i, cmm, r1, u2, gr1, nI_1, xaf_s, xaf_v, va_rf_s, xix_n, nI_clamp, xk1_i, xk1_a, xk1_u, xk1_n, xk1_l, xk1_d, true_and, and_true, ↓reduceIte, Nat.reduceAdd, xtup]
                exact ih'
              · by_cases h5 : mo < v
                · simp (disch := first | assumption | (simp only [MM_Kd, rI_Kd, rJ_Kd, sI_Kd, sJ_Kd, sR_Kd]; assumption) | omega | decide) only [q52_0, q52_0N, q52_1, q52_4, q52_7, q52_8, q52_9, q52_10, q52_11, q52_12, q52_13, q52_14, q52_16, q52_17, q52_21, q52_22, q52_25, q52_27, q52_27N, q52_28, q52_31, q52_34, q52_34N, q52_35, q52_38, q52_40, q52_41, q52_44, q52_44N, q52_45, q52_45N, q52_46, q52_48, q52_50, q52_53, q52_55, q52_56, q52_57, q52_60, q52_62, q52_63, q52_66, q52_68, q52_69, q52_72, q52_72N, q52_73, q52_76, q52_78, q52_78T, q52_79, q52_81, q52_84, q52_86, q52_87, q52_89, q52_90, q52_90N, q52_91, q52_94, q52_96, q52_96T, q52_97, q52_99, q52_102, q52_105, q52_106, hc50i, hf1, Int32.not_le.mpr h5, h5, r1, u2, gr1, nI_1, xaf_s, xaf_v, va_rf_s, xix_n, nI_clamp, xk1_i, xk1_a, xk1_u, xk1_n, xk1_l, xk1_d, true_and, and_true, ↓reduceIte, Nat.reduceAdd, xtup]
                  exact ih'
                · have h6 := (hy'.resolve_left hf1).resolve_left h5
                  obtain ⟨f', hf3, rfl, rfl⟩ := hf.resolve_left hf1
                  have cl : (nI f').toNatClampNeg = f' := nI_clamp (by omega)
                  rw [cl] at h6
                  obtain ⟨h6a, h6b⟩ := h6
                  subst h6a
                  simp (disch := first | assumption | (simp only [MM_Kd, rI_Kd, rJ_Kd, sI_Kd, sJ_Kd, sR_Kd]; assumption) | omega | decide) only [q52_0, q52_0N, q52_1, q52_4, q52_7, q52_8, q52_9, q52_10, q52_11, q52_12, q52_13, q52_14, q52_16, q52_17, q52_21, q52_22, q52_25, q52_27, q52_27N, q52_28, q52_31, q52_34, q52_34N, q52_35, q52_38, q52_40, q52_41, q52_44, q52_44N, q52_45, q52_45N, q52_46, q52_48, q52_50, q52_53, q52_55, q52_56, q52_57, q52_60, q52_62, q52_63, q52_66, q52_68, q52_69, q52_72, q52_72N, q52_73, q52_76, q52_78, q52_78T, q52_79, q52_81, q52_84, q52_86, q52_87, q52_89, q52_90, q52_90N, q52_91, q52_94, q52_96, q52_96T, q52_97, q52_99, q52_102, q52_105, q52_106, hc50i, hf1, h5, Int32.not_lt.mp h5, h6b, Int32.not_le.mpr h6b, r1, u2, gr1, not_true_eq_false, nI_1, xaf_s, xaf_v, va_rf_s, xix_n, nI_clamp, xk1_i, xk1_a, xk1_u, xk1_n, xk1_l, xk1_d, true_and, and_true, ↓reduceIte, Nat.reduceAdd, xtup]
                  exact ih'
            · have e1 : bStep s p i (f, mo) = (f, mo) := by unfold bStep; rw [if_pos hx, hv, if_neg hy']
              have ih' := ih (i + 1) (some (.int v)) (f, mo) rt (by omega) (by rw [hz, e1]) hf
              have hf1 : ¬ f = -1 := fun z => hy' (Or.inl z)
              have h5 : ¬ mo < v := fun z => hy' (Or.inr (Or.inl z))
              by_cases h6 : v = mo
              · subst h6
                obtain ⟨f', hf3, rfl, rfl⟩ := hf.resolve_left hf1
                have cl : (nI f').toNatClampNeg = f' := nI_clamp (by omega)
                have h7' : ¬ s (10 + 3 * i) < s (10 + 3 * f') := fun z => hy' (Or.inr (Or.inr ⟨rfl, by rw [cl]; exact z⟩))
                simp (disch := first | assumption | (simp only [MM_Kd, rI_Kd, rJ_Kd, sI_Kd, sJ_Kd, sR_Kd]; assumption) | omega | decide) only [q52_0, q52_0N, q52_1, q52_4, q52_7, q52_8, q52_9, q52_10, q52_11, q52_12, q52_13, q52_14, q52_16, q52_17, q52_21, q52_22, q52_25, q52_27, q52_27N, q52_28, q52_31, q52_34, q52_34N, q52_35, q52_38, q52_40, q52_41, q52_44, q52_44N, q52_45, q52_45N, q52_46, q52_48, q52_50, q52_53, q52_55, q52_56, q52_57, q52_60, q52_62, q52_63, q52_66, q52_68, q52_69, q52_72, q52_72N, q52_73, q52_76, q52_78, q52_78T, q52_79, q52_81, q52_84, q52_86, q52_87, q52_89, q52_90, q52_90N, q52_91, q52_94, q52_96, q52_96T, q52_97, q52_99, q52_102, q52_105, q52_106, hc50i, hf1, h5, Int32.not_lt.mp h5, h7', Int32.not_lt.mp h7', r1, u2, gr1, not_true_eq_false, nI_1, xaf_s, xaf_v, va_rf_s, xix_n, nI_clamp, xk1_i, xk1_a, xk1_u, xk1_n, xk1_l, xk1_d, true_and, and_true, ↓reduceIte, Nat.reduceAdd, xtup]
                exact ih'
              · simp (disch := first | assumption | (simp only [MM_Kd, rI_Kd, rJ_Kd, sI_Kd, sJ_Kd, sR_Kd]; assumption) | omega | decide) only [q52_0, q52_0N, q52_1, q52_4, q52_7, q52_8, q52_9, q52_10, q52_11, q52_12, q52_13, q52_14, q52_16, q52_17, q52_21, q52_22, q52_25, q52_27, q52_27N, q52_28, q52_31, q52_34, q52_34N, q52_35, q52_38, q52_40, q52_41, q52_44, q52_44N, q52_45, q52_45N, q52_46, q52_48, q52_50, q52_53, q52_55, q52_56, q52_57, q52_60, q52_62, q52_63, q52_66, q52_68, q52_69, q52_72, q52_72N, q52_73, q52_76, q52_78, q52_78T, q52_79, q52_81, q52_84, q52_86, q52_87, q52_89, q52_90, q52_90N, q52_91, q52_94, q52_96, q52_96T, q52_97, q52_99, q52_102, q52_105, q52_106, hc50i, hf1, h5, Int32.not_lt.mp h5, h6, not_false_eq_true, nI_1, xaf_s, xaf_v, va_rf_s, xix_n, nI_clamp, xk1_i, xk1_a, xk1_u, xk1_n, xk1_l, xk1_d, true_and, and_true, ↓reduceIte, Nat.reduceAdd, xtup]
                exact ih'
          by_cases hx1 : nI i = s (19 + 75 * p + 1)
          · rw [q52_19]
            simp (disch := first | assumption | (simp only [MM_Kd, rI_Kd, rJ_Kd, sI_Kd, sJ_Kd, sR_Kd]; assumption) | omega | decide) only [q52_0, q52_0N, q52_1, q52_4, q52_7, q52_8, q52_9, q52_10, q52_11, q52_12, q52_13, q52_14, q52_16, q52_17, q52_21, q52_22, q52_25, q52_27, q52_27N, q52_28, q52_31, q52_34, q52_34N, q52_35, q52_38, q52_40, q52_41, q52_45, q52_45N, q52_46, q52_48, q52_50, q52_53, q52_55, q52_56, q52_57, q52_60, q52_62, q52_63, q52_66, q52_68, q52_69, q52_72, q52_72N, q52_73, q52_76, q52_78, q52_78T, q52_79, q52_81, q52_84, q52_86, q52_87, q52_89, q52_90, q52_90N, q52_91, q52_94, q52_96, q52_96T, q52_97, q52_99, q52_102, q52_105, q52_106, z3, nI_leI, h2, m4, eq_true hx1, xaf_s, xaf_v, va_rf_s, xix_n, nI_clamp, xk1_i, xk1_a, xk1_u, xk1_n, xk1_l, xk1_d, true_and, and_true, ↓reduceIte, Nat.reduceAdd, xtup]
            exact mid _
          · have hx2 : ¬ s (12 + 3 * i) = 1 := hx.resolve_left hx1
            have hx3 : s (12 + 3 * i) = 0 := h01.resolve_right hx2
            rw [q52_19]
            simp (disch := first | assumption | (simp only [MM_Kd, rI_Kd, rJ_Kd, sI_Kd, sJ_Kd, sR_Kd]; assumption) | omega | decide) only [q52_0, q52_0N, q52_1, q52_4, q52_7, q52_8, q52_9, q52_10, q52_11, q52_12, q52_13, q52_14, q52_16, q52_17, q52_21, q52_22, q52_25, q52_27, q52_27N, q52_28, q52_31, q52_34, q52_34N, q52_35, q52_38, q52_40, q52_41, q52_45, q52_45N, q52_46, q52_48, q52_50, q52_53, q52_55, q52_56, q52_57, q52_60, q52_62, q52_63, q52_66, q52_68, q52_69, q52_72, q52_72N, q52_73, q52_76, q52_78, q52_78T, q52_79, q52_81, q52_84, q52_86, q52_87, q52_89, q52_90, q52_90N, q52_91, q52_94, q52_96, q52_96T, q52_97, q52_99, q52_102, q52_105, q52_106, z3, nI_leI, h2, m4, hx1, r3, u4, gr3, hx3, not_true_eq_false, xaf_s, xaf_v, va_rf_s, xix_n, nI_clamp, xk1_i, xk1_a, xk1_u, xk1_n, xk1_l, xk1_d, true_and, and_true, ↓reduceIte, Nat.reduceAdd, xtup]
            exact mid _
        · have e1 : bStep s p i (f, mo) = (f, mo) := if_neg hx
          have ih' := fun l6 => ih (i + 1) l6 (f, mo) rt (by omega) (by rw [hz, e1]) hf
          have hx1 : ¬ nI i = s (19 + 75 * p + 1) := fun z => hx (Or.inl z)
          have hx2 : s (12 + 3 * i) = 1 := Classical.byContradiction fun z => hx (Or.inr z)
          rw [q52_19]
          simp (disch := first | assumption | (simp only [MM_Kd, rI_Kd, rJ_Kd, sI_Kd, sJ_Kd, sR_Kd]; assumption) | omega | decide) only [q52_0, q52_0N, q52_1, q52_4, q52_7, q52_8, q52_9, q52_10, q52_11, q52_12, q52_13, q52_14, q52_16, q52_17, q52_21, q52_22, q52_25, q52_27, q52_27N, q52_28, q52_31, q52_34, q52_34N, q52_35, q52_38, q52_40, q52_41, q52_45, q52_45N, q52_46, q52_48, q52_50, q52_53, q52_55, q52_56, q52_57, q52_60, q52_62, q52_63, q52_66, q52_68, q52_69, q52_72, q52_72N, q52_73, q52_76, q52_78, q52_78T, q52_79, q52_81, q52_84, q52_86, q52_87, q52_89, q52_90, q52_90N, q52_91, q52_94, q52_96, q52_96T, q52_97, q52_99, q52_102, q52_105, q52_106, z3, nI_leI, h2, m4, hx1, r3, u4, gr3, hx2, c10, not_false_eq_true, nI_1, xaf_s, xaf_v, va_rf_s, xix_n, nI_clamp, xk1_i, xk1_a, xk1_u, xk1_n, xk1_l, xk1_d, true_and, and_true, ↓reduceIte, Nat.reduceAdd, xtup]
          exact ih' _
    simp (disch := first | assumption | (simp only [MM_Kd, rI_Kd, rJ_Kd, sI_Kd, sJ_Kd, sR_Kd]; assumption) | omega | decide) only [q52_0, q52_1, q52_4, q52_9, q52_10, q52_11, q52_12, q52_13, q52_14, q52_16, q52_17, i7, xaf_s, xaf_v, va_rf_s, xix_n, nI_clamp, xk1_i, xk1_a, xk1_u, xk1_n, xk1_l, xk1_d, true_and, and_true, ↓reduceIte, Nat.reduceAdd, xtup]
    exact key 3 0 none (-1, 0) 0 (by omega) rfl (Or.inl rfl)
  · have i7 : xI μ a 7 = 1 := by rw [m7]; exact h7
    rw [if_pos h7]
    simp (disch := first | assumption | (simp only [MM_Kd, rI_Kd, rJ_Kd, sI_Kd, sJ_Kd, sR_Kd]; assumption) | omega | decide) only [q52_0, q52_0N, q52_1, q52_4, q52_7, q52_8, q52_9, q52_10, q52_11, q52_12, q52_13, q52_14, q52_16, q52_17, q52_21, q52_22, q52_25, q52_27, q52_27N, q52_28, q52_31, q52_34, q52_34N, q52_35, q52_38, q52_40, q52_41, q52_44, q52_44N, q52_45, q52_45N, q52_46, q52_48, q52_50, q52_53, q52_55, q52_56, q52_57, q52_60, q52_62, q52_63, q52_66, q52_68, q52_69, q52_72, q52_72N, q52_73, q52_76, q52_78, q52_78T, q52_79, q52_81, q52_84, q52_86, q52_87, q52_89, q52_90, q52_90N, q52_91, q52_94, q52_96, q52_96T, q52_97, q52_99, q52_102, q52_105, q52_106, i7, c10, xaf_s, xaf_v, va_rf_s, xix_n, nI_clamp, xk1_i, xk1_a, xk1_u, xk1_n, xk1_l, xk1_d, true_and, and_true, ↓reduceIte, Nat.reduceAdd, xtup]
end PB6
