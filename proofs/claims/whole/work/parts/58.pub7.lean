/-! THE CLASS: LOOKS, WHAT WOULD BE -/
section PB7
variable {G : xCtx} {μ : xMem} {Q : xOut → xMem → Prop} {o n k c p g t b L F S0 lo hi a : Nat} {π : Nat → Nat} {S : Nat → ST} {x : ST} {s : Nat → Int32} {σ : Nat → Int64}
theorem INV.h7 (hI : INV c g n x) : ∀ i, i < n → x.1 (19 + 75 * i + 7) = 0 ∨ x.1 (19 + 75 * i + 7) = 1 := fun i hi => by
  obtain ⟨-, -, -, -, -, n', -, -, -, b4, -⟩ := hI.2.2 i hi
  rw [mw_at (by omega)] at b4; exact b4.imp id And.left
theorem c85 (h : CST μ o c g n π t S x) (sec what : Int32) : Cn G 85 [.ref o, .int sec, .int what] μ Q = if bad sec 0 2 then Q (.inr 0) (xex μ) else if bad what 0 5 then Q (.inr 1) (xex μ) else Q (.inl (some (.int (vSec x.1 sec.toNatClampNeg what.toNatClampNeg)))) μ := by
  obtain ⟨hC, hs, hH, hg, hI, hSC⟩ := h
  have hn8 := hI.1.2.2.1
  obtain ⟨ko, ⟨o0, o1, o2, o3, o4⟩, ⟨k1, k1r⟩, -⟩ := hC
  obtain ⟨b0, ⟨b1, u1⟩, ⟨b2, u2⟩, ⟨b3, u3⟩, ⟨b4, u4⟩, ⟨b5, u5⟩, ⟨b6, u6⟩, r0, r1, r2, r3, r4, r5⟩ := hSC.1
  show Rn G 85 0 [some (.ref o), some (.int sec), some (.int what)] [] μ Q = _
  by_cases h1 : bad sec 0 2
  · simp (disch := first | assumption | (simp only [MM_Kd, rI_Kd, rJ_Kd, sI_Kd, sJ_Kd, sR_Kd]; assumption) | omega | decide) only [q85_0, q85_1, q85_4, q85_7, q85_10, q85_17, q85_56, q85_56N, q85_57, q85_60, q85_63, q85_64, q85_64T, q85_65, q85_66, q85_66N, q85_67, q85_70, q85_73, q85_74, q85_74T, q85_75, q85_76, q85_76N, q85_77, q85_80, q85_83, q85_84, q85_85, q85_88, q85_89, q85_89N, q85_90, q85_93, q85_94, q85_97, q85_98, q85_98N, q85_99, q85_102, q85_103, q85_106, q85_107, q85_107N, q85_108, q85_111, q85_112, q85_115, q85_116, q85_119, c105, h1, c00, not_true_eq_false, xaf_s, xaf_v, va_rf_s, xix_n, nI_clamp, xk1_i, xk1_a, xk1_u, xk1_n, xk1_l, xk1_d, true_and, and_true, ↓reduceIte, Nat.reduceAdd, xtup]
  · obtain ⟨C, hc3, rfl⟩ := sec3 h1
    have cl : (nI C).toNatClampNeg = C := nI_clamp (by omega)
    have cl2 : (x.1 2).toNatClampNeg = n := by rw [hI.1.2.1, nI_clamp (by omega)]
    by_cases h2 : bad what 0 5
    · have hd : what < 0 ∨ 5 < what := h2
      have hsw := fun l0 l1 l2 st => q85_18d (G := G) (μ := μ) (Q := Q) (l0 := l0) (l1 := l1) (l2 := l2) (st := st) hd
      simp (disch := first | assumption | (simp only [MM_Kd, rI_Kd, rJ_Kd, sI_Kd, sJ_Kd, sR_Kd]; assumption) | omega | decide) only [q85_0, q85_1, q85_4, q85_7, q85_10, q85_17, q85_56, q85_56N, q85_57, q85_60, q85_63, q85_64, q85_64T, q85_65, q85_66, q85_66N, q85_67, q85_70, q85_73, q85_74, q85_74T, q85_75, q85_76, q85_76N, q85_77, q85_80, q85_83, q85_84, q85_85, q85_88, q85_89, q85_89N, q85_90, q85_93, q85_94, q85_97, q85_98, q85_98N, q85_99, q85_102, q85_103, q85_106, q85_107, q85_107N, q85_108, q85_111, q85_112, q85_115, q85_116, q85_119, c105, h1, h2, c10, hsw, not_false_eq_true, xaf_s, xaf_v, va_rf_s, xix_n, nI_clamp, xk1_i, xk1_a, xk1_u, xk1_n, xk1_l, xk1_d, true_and, and_true, ↓reduceIte, Nat.reduceAdd, xtup]
    · obtain ⟨w, -, w5, rfl⟩ := rng (v := what) (lo := 0) (hi := 5) (by omega) (by omega) h2
      have cl3 : (nI w).toNatClampNeg = w := nI_clamp (by omega)
      obtain ⟨gr1, gr2, gr3⟩ := hSC.2.2.1.2.2.2.2.2.2.1 C hc3
      have h01 := (hI.1.2.2.2.2.2.2.2.2 C hc3).2.2
      have hc107 := fun Q => c107 (G := G) (μ := μ) (Q := Q) h01
      have hc63 := fun Q => c63 (G := G) (Q := Q) (c := C) hSC hn8 hI.h7
      have hc64 := fun Q => c64 (G := G) (Q := Q) (c := C) hSC hn8 hc3
      have hc65 := fun Q => c65 (G := G) (Q := Q) (c := C) hSC hn8 hc3
      rw [if_neg h1, if_neg h2, cl, cl3]
      unfold vSec
      rw [cl2]
      have e0 : (nI 0 : Int32) = 0 := rfl
      have e1 : (nI 1 : Int32) = 1 := rfl
      have e2 : (nI 2 : Int32) = 2 := rfl
      have e3 : (nI 3 : Int32) = 3 := rfl
      have e4 : (nI 4 : Int32) = 4 := rfl
      have e5 : (nI 5 : Int32) = 5 := rfl
      have : w = 0 ∨ w = 1 ∨ w = 2 ∨ w = 3 ∨ w = 4 ∨ w = 5 := by omega
      rcases this with rfl | rfl | rfl | rfl | rfl | rfl
      · simp (disch := first | assumption | (simp only [MM_Kd, rI_Kd, rJ_Kd, sI_Kd, sJ_Kd, sR_Kd]; assumption) | omega | decide) only [q85_0, q85_1, q85_4, q85_7, q85_10, q85_17, q85_56, q85_56N, q85_57, q85_60, q85_63, q85_64, q85_64T, q85_65, q85_66, q85_66N, q85_67, q85_70, q85_73, q85_74, q85_74T, q85_75, q85_76, q85_76N, q85_77, q85_80, q85_83, q85_84, q85_85, q85_88, q85_89, q85_89N, q85_90, q85_93, q85_94, q85_97, q85_98, q85_98N, q85_99, q85_102, q85_103, q85_106, q85_107, q85_107N, q85_108, q85_111, q85_112, q85_115, q85_116, q85_119, c105, h1, c10, e0, q85_18c0, o0, r1, u2, gr1, Nat.add_zero, not_false_eq_true, Nat.reduceLT, xaf_s, xaf_v, va_rf_s, xix_n, nI_clamp, xk1_i, xk1_a, xk1_u, xk1_n, xk1_l, xk1_d, true_and, and_true, ↓reduceIte, Nat.reduceAdd, xtup]
      · simp (disch := first | assumption | (simp only [MM_Kd, rI_Kd, rJ_Kd, sI_Kd, sJ_Kd, sR_Kd]; assumption) | omega | decide) only [q85_0, q85_1, q85_4, q85_7, q85_10, q85_17, q85_56, q85_56N, q85_57, q85_60, q85_63, q85_64, q85_64T, q85_65, q85_66, q85_66N, q85_67, q85_70, q85_73, q85_74, q85_74T, q85_75, q85_76, q85_76N, q85_77, q85_80, q85_83, q85_84, q85_85, q85_88, q85_89, q85_89N, q85_90, q85_93, q85_94, q85_97, q85_98, q85_98N, q85_99, q85_102, q85_103, q85_106, q85_107, q85_107N, q85_108, q85_111, q85_112, q85_115, q85_116, q85_119, c105, h1, c10, e1, q85_18c1, o0, r2, u3, gr2, not_false_eq_true, Nat.reduceLT, xaf_s, xaf_v, va_rf_s, xix_n, nI_clamp, xk1_i, xk1_a, xk1_u, xk1_n, xk1_l, xk1_d, true_and, and_true, ↓reduceIte, Nat.reduceAdd, xtup]
      · rw [show 10 + 3 * C + 2 = 12 + 3 * C by omega]
        simp (disch := first | assumption | (simp only [MM_Kd, rI_Kd, rJ_Kd, sI_Kd, sJ_Kd, sR_Kd]; assumption) | omega | decide) only [q85_0, q85_1, q85_4, q85_7, q85_10, q85_17, q85_56, q85_56N, q85_57, q85_60, q85_63, q85_64, q85_64T, q85_65, q85_66, q85_66N, q85_67, q85_70, q85_73, q85_74, q85_74T, q85_75, q85_76, q85_76N, q85_77, q85_80, q85_83, q85_84, q85_85, q85_88, q85_89, q85_89N, q85_90, q85_93, q85_94, q85_97, q85_98, q85_98N, q85_99, q85_102, q85_103, q85_106, q85_107, q85_107N, q85_108, q85_111, q85_112, q85_115, q85_116, q85_119, c105, h1, c10, e2, q85_18c2, o0, r3, u4, gr3, hc107, not_false_eq_true, Nat.reduceLT, xaf_s, xaf_v, va_rf_s, xix_n, nI_clamp, xk1_i, xk1_a, xk1_u, xk1_n, xk1_l, xk1_d, true_and, and_true, ↓reduceIte, Nat.reduceAdd, xtup]
      · simp (disch := first | assumption | (simp only [MM_Kd, rI_Kd, rJ_Kd, sI_Kd, sJ_Kd, sR_Kd]; assumption) | omega | decide) only [q85_0, q85_1, q85_4, q85_7, q85_10, q85_17, q85_56, q85_56N, q85_57, q85_60, q85_63, q85_64, q85_64T, q85_65, q85_66, q85_66N, q85_67, q85_70, q85_73, q85_74, q85_74T, q85_75, q85_76, q85_76N, q85_77, q85_80, q85_83, q85_84, q85_85, q85_88, q85_89, q85_89N, q85_90, q85_93, q85_94, q85_97, q85_98, q85_98N, q85_99, q85_102, q85_103, q85_106, q85_107, q85_107N, q85_108, q85_111, q85_112, q85_115, q85_116, q85_119, c105, h1, c10, e3, q85_18c3, o0, hc63, not_false_eq_true, Nat.reduceLT, Nat.lt_irrefl, xaf_s, xaf_v, va_rf_s, xix_n, nI_clamp, xk1_i, xk1_a, xk1_u, xk1_n, xk1_l, xk1_d, true_and, and_true, ↓reduceIte, Nat.reduceAdd, xtup]
      · simp (disch := first | assumption | (simp only [MM_Kd, rI_Kd, rJ_Kd, sI_Kd, sJ_Kd, sR_Kd]; assumption) | omega | decide) only [q85_0, q85_1, q85_4, q85_7, q85_10, q85_17, q85_56, q85_56N, q85_57, q85_60, q85_63, q85_64, q85_64T, q85_65, q85_66, q85_66N, q85_67, q85_70, q85_73, q85_74, q85_74T, q85_75, q85_76, q85_76N, q85_77, q85_80, q85_83, q85_84, q85_85, q85_88, q85_89, q85_89N, q85_90, q85_93, q85_94, q85_97, q85_98, q85_98N, q85_99, q85_102, q85_103, q85_106, q85_107, q85_107N, q85_108, q85_111, q85_112, q85_115, q85_116, q85_119, c105, h1, c10, e4, q85_18c4, o0, hc64, not_false_eq_true, Nat.reduceLT, xaf_s, xaf_v, va_rf_s, xix_n, nI_clamp, xk1_i, xk1_a, xk1_u, xk1_n, xk1_l, xk1_d, true_and, and_true, ↓reduceIte, Nat.reduceAdd, xtup]
      · simp (disch := first | assumption | (simp only [MM_Kd, rI_Kd, rJ_Kd, sI_Kd, sJ_Kd, sR_Kd]; assumption) | omega | decide) only [q85_0, q85_1, q85_4, q85_7, q85_10, q85_17, q85_56, q85_56N, q85_57, q85_60, q85_63, q85_64, q85_64T, q85_65, q85_66, q85_66N, q85_67, q85_70, q85_73, q85_74, q85_74T, q85_75, q85_76, q85_76N, q85_77, q85_80, q85_83, q85_84, q85_85, q85_88, q85_89, q85_89N, q85_90, q85_93, q85_94, q85_97, q85_98, q85_98N, q85_99, q85_102, q85_103, q85_106, q85_107, q85_107N, q85_108, q85_111, q85_112, q85_115, q85_116, q85_119, c105, h1, c10, e5, q85_18c5, o0, hc65, not_false_eq_true, Nat.reduceLT, xaf_s, xaf_v, va_rf_s, xix_n, nI_clamp, xk1_i, xk1_a, xk1_u, xk1_n, xk1_l, xk1_d, true_and, and_true, ↓reduceIte, Nat.reduceAdd, xtup]
theorem c86 (h : CST μ o c g n π t S x) (pl what : Int32) : Cn G 86 [.ref o, .int pl, .int what] μ Q = if pl < 0 ∨ bad what 0 11 then Q (.inr 1) (xex μ) else if x.1 2 ≤ pl then Q (.inl (some (.int (-1)))) μ else Q (.inl (some (.int (vMem x.1 pl.toNatClampNeg what.toNatClampNeg)))) μ := by
  obtain ⟨hC, hs, hH, hg, hI, hSC⟩ := h
  have hn8 := hI.1.2.2.1
  have b0 := hSC.1.1
  obtain ⟨ko, ⟨o0, o1, o2, o3, o4⟩, ⟨k1, k1r⟩, -⟩ := hC
  show Rn G 86 0 [some (.ref o), some (.int pl), some (.int what), none] [] μ Q = _
  by_cases h1 : pl < 0
  · simp (disch := first | assumption | (simp only [MM_Kd, rI_Kd, rJ_Kd, sI_Kd, sJ_Kd, sR_Kd]; assumption) | omega | decide) only [q86_0, q86_1, q86_4, q86_5, q86_6, q86_8, q86_11, q86_14, q86_17, q86_25, q86_25N, q86_26, q86_29, q86_30, q86_33, q86_33N, q86_34, q86_34N, q86_35, q86_35N, q86_38, q86_39, q86_42, q86_42N, q86_43, q86_46, q86_46N, q86_47, q86_48, q86_51, h1, true_or, xaf_s, xaf_v, va_rf_s, xix_n, nI_clamp, xk1_i, xk1_a, xk1_u, xk1_n, xk1_l, xk1_d, true_and, and_true, ↓reduceIte, Nat.reduceAdd, xtup]
  · by_cases h2 : bad what 0 11
    · simp (disch := first | assumption | (simp only [MM_Kd, rI_Kd, rJ_Kd, sI_Kd, sJ_Kd, sR_Kd]; assumption) | omega | decide) only [q86_0, q86_1, q86_4, q86_5, q86_6, q86_8, q86_11, q86_14, q86_17, q86_25, q86_25N, q86_26, q86_29, q86_30, q86_33, q86_33N, q86_34, q86_34N, q86_35, q86_35N, q86_38, q86_39, q86_42, q86_42N, q86_43, q86_46, q86_46N, q86_47, q86_48, q86_51, c104, h1, h2, or_true, c00, not_true_eq_false, xaf_s, xaf_v, va_rf_s, xix_n, nI_clamp, xk1_i, xk1_a, xk1_u, xk1_n, xk1_l, xk1_d, true_and, and_true, ↓reduceIte, Nat.reduceAdd, xtup]
    · obtain ⟨w, -, w5, rfl⟩ := rng (v := what) (lo := 0) (hi := 11) (by omega) (by omega) h2
      obtain ⟨P, hP, rfl⟩ := i_pos h1
      have e2 := hI.1.2.1
      have hc36 := fun Q => c36 (G := G) (Q := Q) hSC hn8 hP
      by_cases h3 : P < n
      · have h3' : ¬ n ≤ P := by omega
        have hc66 := fun Q => c66 (G := G) (Q := Q) (w := w) hSC.1 (hSC.hb (show P < 8 by omega)) hSC.2.2.1 (hSC.2.2.2.1 P h3 (by omega)) hI.1 (hI.2.2 P h3) (by omega) (by omega) (by omega)
        simp (disch := first | assumption | (simp only [MM_Kd, rI_Kd, rJ_Kd, sI_Kd, sJ_Kd, sR_Kd]; assumption) | omega | decide) only [q86_0, q86_1, q86_4, q86_5, q86_6, q86_8, q86_11, q86_14, q86_17, q86_25, q86_25N, q86_26, q86_29, q86_30, q86_33, q86_33N, q86_34, q86_34N, q86_35, q86_35N, q86_38, q86_39, q86_42, q86_42N, q86_43, q86_46, q86_46N, q86_47, q86_48, q86_51, c104, h1, h2, or_false, c10, o0, hc36, h3, h3', hc66, e2, nI_leI, not_false_eq_true, xaf_s, xaf_v, va_rf_s, xix_n, nI_clamp, xk1_i, xk1_a, xk1_u, xk1_n, xk1_l, xk1_d, true_and, and_true, ↓reduceIte, Nat.reduceAdd, xtup]
      · have h3' : n ≤ P := by omega
        simp (disch := first | assumption | (simp only [MM_Kd, rI_Kd, rJ_Kd, sI_Kd, sJ_Kd, sR_Kd]; assumption) | omega | decide) only [q86_0, q86_1, q86_4, q86_5, q86_6, q86_8, q86_11, q86_14, q86_17, q86_25, q86_25N, q86_26, q86_29, q86_30, q86_33, q86_33N, q86_34, q86_34N, q86_35, q86_35N, q86_38, q86_39, q86_42, q86_42N, q86_43, q86_46, q86_46N, q86_47, q86_48, q86_51, c104, h1, h2, or_false, c10, o0, hc36, h3, h3', e2, nI_leI, not_false_eq_true, xaf_s, xaf_v, va_rf_s, xix_n, nI_clamp, xk1_i, xk1_a, xk1_u, xk1_n, xk1_l, xk1_d, true_and, and_true, ↓reduceIte, Nat.reduceAdd, xtup]
theorem c87 (h : CST μ o c g n π t S x) (id late what : Int32) : Cn G 87 [.ref o, .int id, .int late, .int what] μ Q = if pFind x.1 id = -1 then Q (.inr 0) (xex μ) else if late < 0 ∨ bad what 0 3 then Q (.inr 1) (xex μ) else if x.1 (19 + 75 * (pFind x.1 id).toNatClampNeg + 10) ≤ late then Q (.inl (some (.int (-1)))) μ else Q (.inl (some (.int (vLate x.1 (pFind x.1 id).toNatClampNeg late.toNatClampNeg what.toNatClampNeg)))) μ := by
  obtain ⟨hC, hs, hH, hg, hI, hSC⟩ := h
  have hn8 := hI.1.2.2.1
  obtain ⟨b0, ⟨b1, u1⟩, ⟨b2, u2⟩, ⟨b3, u3⟩, ⟨b4, u4⟩, ⟨b5, u5⟩, ⟨b6, u6⟩, r0, r1, r2, r3, r4, r5⟩ := hSC.1
  obtain ⟨ko, ⟨o0, o1, o2, o3, o4⟩, ⟨k1, k1r⟩, -⟩ := hC
  have hf := fun Q => c35 (G := G) (Q := Q) hSC hI.1 id
  show Rn G 87 0 [some (.ref o), some (.int id), some (.int late), some (.int what), none] [] μ Q = _
  rcases pFind_of hI.1 id with hp | ⟨p, hpn, hp, -⟩
  · have hf1 := fun Q => (hf Q).1 hp
    simp (disch := first | assumption | (simp only [MM_Kd, rI_Kd, rJ_Kd, sI_Kd, sJ_Kd, sR_Kd]; assumption) | omega | decide) only [q87_0, q87_0N, q87_1, q87_4, q87_5, q87_8, q87_8N, q87_10, q87_10N, q87_12, q87_12N, q87_15, q87_18, q87_25, q87_26, q87_29, q87_30, q87_31, q87_32, q87_35, q87_38, q87_41, q87_49, q87_50, q87_50N, q87_52, q87_55, q87_58, q87_61, q87_62, q87_63, q87_92, q87_92N, q87_94, q87_97, q87_98, q87_101, q87_102, q87_102N, q87_104, q87_107, q87_108, q87_111, q87_112, q87_112N, q87_114, q87_117, q87_118, q87_121, q87_122, q87_122N, q87_124, q87_127, q87_128, q87_128N, q87_129, q87_132, q87_135, q87_135N, q87_136, q87_139, q87_142, q87_143, q87_143T, q87_144, q87_147, o0, hf1, hp, xaf_s, xaf_v, va_rf_s, xix_n, nI_clamp, xk1_i, xk1_a, xk1_u, xk1_n, xk1_l, xk1_d, true_and, and_true, ↓reduceIte, Nat.reduceAdd, xtup]
  · have hp8 : p < 8 := by omega
    have hf1 := fun Q => (hf Q).2 p hpn hp
    have hne := eq_false (nI_ne1 (p := p) (by omega))
    obtain ⟨-, -, -, k4, -, pr1, pk3⟩ := hSC.row hp8
    have hb := hSC.hb hp8
    have hmv := hSC.2.2.2.1 p hpn hp8
    obtain ⟨-, -, -, -, -, -, -, -, -, fi, ni, hl⟩ := hmv.w
    by_cases h1 : late < 0
    · simp (disch := first | assumption | (simp only [MM_Kd, rI_Kd, rJ_Kd, sI_Kd, sJ_Kd, sR_Kd]; assumption) | omega | decide) only [q87_0, q87_0N, q87_1, q87_4, q87_5, q87_8, q87_8N, q87_10, q87_10N, q87_12, q87_12N, q87_15, q87_18, q87_25, q87_26, q87_29, q87_30, q87_31, q87_32, q87_35, q87_38, q87_41, q87_49, q87_50, q87_50N, q87_52, q87_55, q87_58, q87_61, q87_62, q87_63, q87_92, q87_92N, q87_94, q87_97, q87_98, q87_101, q87_102, q87_102N, q87_104, q87_107, q87_108, q87_111, q87_112, q87_112N, q87_114, q87_117, q87_118, q87_121, q87_122, q87_122N, q87_124, q87_127, q87_128, q87_128N, q87_129, q87_132, q87_135, q87_135N, q87_136, q87_139, q87_142, q87_143, q87_143T, q87_144, q87_147, o0, hf1, hp, hne, h1, true_or, xaf_s, xaf_v, va_rf_s, xix_n, nI_clamp, xk1_i, xk1_a, xk1_u, xk1_n, xk1_l, xk1_d, true_and, and_true, ↓reduceIte, Nat.reduceAdd, xtup]
    · by_cases h2 : bad what 0 3
      · simp (disch := first | assumption | (simp only [MM_Kd, rI_Kd, rJ_Kd, sI_Kd, sJ_Kd, sR_Kd]; assumption) | omega | decide) only [q87_0, q87_0N, q87_1, q87_4, q87_5, q87_8, q87_8N, q87_10, q87_10N, q87_12, q87_12N, q87_15, q87_18, q87_25, q87_26, q87_29, q87_30, q87_31, q87_32, q87_35, q87_38, q87_41, q87_49, q87_50, q87_50N, q87_52, q87_55, q87_58, q87_61, q87_62, q87_63, q87_92, q87_92N, q87_94, q87_97, q87_98, q87_101, q87_102, q87_102N, q87_104, q87_107, q87_108, q87_111, q87_112, q87_112N, q87_114, q87_117, q87_118, q87_121, q87_122, q87_122N, q87_124, q87_127, q87_128, q87_128N, q87_129, q87_132, q87_135, q87_135N, q87_136, q87_139, q87_142, q87_143, q87_143T, q87_144, q87_147, o0, hf1, hp, hne, c104, h1, h2, or_true, c00, not_true_eq_false, xaf_s, xaf_v, va_rf_s, xix_n, nI_clamp, xk1_i, xk1_a, xk1_u, xk1_n, xk1_l, xk1_d, true_and, and_true, ↓reduceIte, Nat.reduceAdd, xtup]
      · obtain ⟨w, -, w5, rfl⟩ := rng (v := what) (lo := 0) (hi := 3) (by omega) (by omega) h2
        obtain ⟨P, hP, rfl⟩ := i_pos h1
        have i10 : xI μ (AD (o + 1) π p + 2) 4 = x.1 (19 + 75 * p + 10) := by rw [hl.2.2.2.1, ← hl.2.2.2.2.1, mw_at (by omega)]
        have e10 : x.1 (19 + 75 * p + 10) = nI ni := by rw [← i10]; exact hl.2.2.2.1
        have cl : (nI p).toNatClampNeg = p := nI_clamp (by omega)
        have hni := hl.2.1
        by_cases h3 : ni ≤ P
        · have h3' : ¬ P < ni := by omega
          simp (disch := first | assumption | (simp only [MM_Kd, rI_Kd, rJ_Kd, sI_Kd, sJ_Kd, sR_Kd]; assumption) | omega | decide) only [q87_0, q87_0N, q87_1, q87_4, q87_5, q87_8, q87_8N, q87_10, q87_10N, q87_12, q87_12N, q87_15, q87_18, q87_25, q87_26, q87_29, q87_30, q87_31, q87_32, q87_35, q87_38, q87_41, q87_49, q87_50, q87_50N, q87_52, q87_55, q87_58, q87_61, q87_62, q87_63, q87_92, q87_92N, q87_94, q87_97, q87_98, q87_101, q87_102, q87_102N, q87_104, q87_107, q87_108, q87_111, q87_112, q87_112N, q87_114, q87_117, q87_118, q87_121, q87_122, q87_122N, q87_124, q87_127, q87_128, q87_128N, q87_129, q87_132, q87_135, q87_135N, q87_136, q87_139, q87_142, q87_143, q87_143T, q87_144, q87_147, o0, hf1, hp, hne, c104, h1, h2, or_false, c10, i10, e10, pr1, nI_ltI, nI_leI, h3, h3', not_false_eq_true, xaf_s, xaf_v, va_rf_s, xix_n, nI_clamp, xk1_i, xk1_a, xk1_u, xk1_n, xk1_l, xk1_d, true_and, and_true, ↓reduceIte, Nat.reduceAdd, xtup]
        · have h3' : P < ni := by omega
          have hl6 := hl.2.2.2.2.2 P h3'
          have mwl : mw x.1 p (11 + P) = mLate x.1 p P := mw_at (by omega)
          have hc9 := fun Q => c9 (G := G) (Q := Q) (k := P) hb hl.1 hl.2.2.1 (by omega)
          have hc10 := fun Q => c10' (G := G) (Q := Q) (k := P) hb hl.1 hl.2.2.1 (by omega)
          have hc11 := fun Q => c11' (G := G) (Q := Q) (k := P) hb hl.1 hl.2.2.1 (by omega)
          rw [hl6.1] at hc9
          rw [hl6.2.1] at hc10
          rw [hl6.2.2] at hc11
          have hc12 := fun Q => c12 (G := G) (Q := Q) hb hl h3' (x.1 0) (x.1 8)
          rw [mwl] at hc9 hc10 hc11 hc12
          have g0 := hSC.2.2.1.2.1
          have gs2 : xI μ (o + 1 + 1) 2 = x.1 8 := hSC.2.2.1.2.2.2.2.2.1 2 (by omega)
          rw [if_neg (by rw [hp]; exact nI_ne1 (by omega)), if_neg (fun z => z.elim h1 h2), hp, cl, e10, if_neg (fun z => h3 ((nI_leI (by omega) (by omega)).mp z)), nI_clamp (by omega), nI_clamp (by omega)]
          unfold vLate
          have e0 : (nI 0 : Int32) = 0 := rfl
          have e1 : (nI 1 : Int32) = 1 := rfl
          have e2 : (nI 2 : Int32) = 2 := rfl
          have hd : (nI 3 : Int32) < 0 ∨ 2 < nI 3 := Or.inr (by decide)
          have hsw := fun l0 l1 l2 l3 l4 st => q87_64d (G := G) (μ := μ) (Q := Q) (l0 := l0) (l1 := l1) (l2 := l2) (l3 := l3) (l4 := l4) (st := st) hd
          have : w = 0 ∨ w = 1 ∨ w = 2 ∨ w = 3 := by omega
          rcases this with rfl | rfl | rfl | rfl
          · simp (disch := first | assumption | (simp only [MM_Kd, rI_Kd, rJ_Kd, sI_Kd, sJ_Kd, sR_Kd]; assumption) | omega | decide) only [q87_0, q87_0N, q87_1, q87_4, q87_5, q87_8, q87_8N, q87_10, q87_10N, q87_12, q87_12N, q87_15, q87_18, q87_25, q87_26, q87_29, q87_30, q87_31, q87_32, q87_35, q87_38, q87_41, q87_49, q87_50, q87_50N, q87_52, q87_55, q87_58, q87_61, q87_62, q87_63, q87_92, q87_92N, q87_94, q87_97, q87_98, q87_101, q87_102, q87_102N, q87_104, q87_107, q87_108, q87_111, q87_112, q87_112N, q87_114, q87_117, q87_118, q87_121, q87_122, q87_122N, q87_124, q87_127, q87_128, q87_128N, q87_129, q87_132, q87_135, q87_135N, q87_136, q87_139, q87_142, q87_143, q87_143T, q87_144, q87_147, o0, hf1, c104, h1, h2, c10, i10, e10, pr1, nI_ltI, h3', e0, q87_64c0, hc9, not_false_eq_true, xaf_s, xaf_v, va_rf_s, xix_n, nI_clamp, xk1_i, xk1_a, xk1_u, xk1_n, xk1_l, xk1_d, true_and, and_true, ↓reduceIte, Nat.reduceAdd, xtup]
            rfl
          · simp (disch := first | assumption | (simp only [MM_Kd, rI_Kd, rJ_Kd, sI_Kd, sJ_Kd, sR_Kd]; assumption) | omega | decide) only [q87_0, q87_0N, q87_1, q87_4, q87_5, q87_8, q87_8N, q87_10, q87_10N, q87_12, q87_12N, q87_15, q87_18, q87_25, q87_26, q87_29, q87_30, q87_31, q87_32, q87_35, q87_38, q87_41, q87_49, q87_50, q87_50N, q87_52, q87_55, q87_58, q87_61, q87_62, q87_63, q87_92, q87_92N, q87_94, q87_97, q87_98, q87_101, q87_102, q87_102N, q87_104, q87_107, q87_108, q87_111, q87_112, q87_112N, q87_114, q87_117, q87_118, q87_121, q87_122, q87_122N, q87_124, q87_127, q87_128, q87_128N, q87_129, q87_132, q87_135, q87_135N, q87_136, q87_139, q87_142, q87_143, q87_143T, q87_144, q87_147, o0, hf1, c104, h1, h2, c10, i10, e10, pr1, nI_ltI, h3', e1, q87_64c1, hc10, Nat.reduceEqDiff, not_false_eq_true, xaf_s, xaf_v, va_rf_s, xix_n, nI_clamp, xk1_i, xk1_a, xk1_u, xk1_n, xk1_l, xk1_d, true_and, and_true, ↓reduceIte, Nat.reduceAdd, xtup]
            rfl
          · simp (disch := first | assumption | (simp only [MM_Kd, rI_Kd, rJ_Kd, sI_Kd, sJ_Kd, sR_Kd]; assumption) | omega | decide) only [q87_0, q87_0N, q87_1, q87_4, q87_5, q87_8, q87_8N, q87_10, q87_10N, q87_12, q87_12N, q87_15, q87_18, q87_25, q87_26, q87_29, q87_30, q87_31, q87_32, q87_35, q87_38, q87_41, q87_49, q87_50, q87_50N, q87_52, q87_55, q87_58, q87_61, q87_62, q87_63, q87_92, q87_92N, q87_94, q87_97, q87_98, q87_101, q87_102, q87_102N, q87_104, q87_107, q87_108, q87_111, q87_112, q87_112N, q87_114, q87_117, q87_118, q87_121, q87_122, q87_122N, q87_124, q87_127, q87_128, q87_128N, q87_129, q87_132, q87_135, q87_135N, q87_136, q87_139, q87_142, q87_143, q87_143T, q87_144, q87_147, o0, hf1, c104, h1, h2, c10, i10, e10, pr1, nI_ltI, h3', e2, q87_64c2, hc11, Nat.reduceEqDiff, not_false_eq_true, xaf_s, xaf_v, va_rf_s, xix_n, nI_clamp, xk1_i, xk1_a, xk1_u, xk1_n, xk1_l, xk1_d, true_and, and_true, ↓reduceIte, Nat.reduceAdd, xtup]
            rfl
          · simp (disch := first | assumption | (simp only [MM_Kd, rI_Kd, rJ_Kd, sI_Kd, sJ_Kd, sR_Kd]; assumption) | omega | decide) only [q87_0, q87_0N, q87_1, q87_4, q87_5, q87_8, q87_8N, q87_10, q87_10N, q87_12, q87_12N, q87_15, q87_18, q87_25, q87_26, q87_29, q87_30, q87_31, q87_32, q87_35, q87_38, q87_41, q87_49, q87_50, q87_50N, q87_52, q87_55, q87_58, q87_61, q87_62, q87_63, q87_92, q87_92N, q87_94, q87_97, q87_98, q87_101, q87_102, q87_102N, q87_104, q87_107, q87_108, q87_111, q87_112, q87_112N, q87_114, q87_117, q87_118, q87_121, q87_122, q87_122N, q87_124, q87_127, q87_128, q87_128N, q87_129, q87_132, q87_135, q87_135N, q87_136, q87_139, q87_142, q87_143, q87_143T, q87_144, q87_147, o0, hf1, c104, h1, h2, c10, i10, e10, pr1, nI_ltI, h3', hsw, hc12, g0, gs2, r0, u1, xl2, nc2, Nat.reduceEqDiff, not_false_eq_true, xaf_s, xaf_v, va_rf_s, xix_n, nI_clamp, xk1_i, xk1_a, xk1_u, xk1_n, xk1_l, xk1_d, true_and, and_true, ↓reduceIte, Nat.reduceAdd, xtup]
            rfl
theorem c88 (h : CST μ o c g n π t S x) (what : Int32) : Cn G 88 [.ref o, .int what] μ Q = if bad what 0 7 then Q (.inr 1) (xex μ) else Q (.inl (some (.int (vCnt x.1 t what.toNatClampNeg)))) μ := by
  obtain ⟨hC, hs, ⟨f0, f1, f2, f3, f4, f5⟩, hg, hI, hSC⟩ := h
  have hn8 := hI.1.2.2.1
  have b0 := hSC.1.1
  obtain ⟨ko, ⟨o0, o1, o2, o3, o4⟩, ⟨k1, k1r⟩, -⟩ := hC
  obtain ⟨g3, g0, gf, g4, g5, gs, gr, gσ⟩ := hSC.2.2.1
  show Rn G 88 0 [some (.ref o), some (.int what)] [] μ Q = _
  by_cases h2 : bad what 0 7
  · have hd : what < 0 ∨ 7 < what := h2
    have hsw := fun l0 l1 st => q88_1d (G := G) (μ := μ) (Q := Q) (l0 := l0) (l1 := l1) (st := st) hd
    simp (disch := first | assumption | (simp only [MM_Kd, rI_Kd, rJ_Kd, sI_Kd, sJ_Kd, sR_Kd]; assumption) | omega | decide) only [q88_0, q88_48, q88_48N, q88_49, q88_52, q88_55, q88_56, q88_56N, q88_57, q88_60, q88_63, q88_64, q88_64N, q88_65, q88_68, q88_71, q88_72, q88_72N, q88_73, q88_76, q88_79, q88_80, q88_81, q88_81N, q88_82, q88_85, q88_88, q88_89, q88_89N, q88_90, q88_93, q88_96, q88_97, q88_97N, q88_98, q88_101, q88_104, q88_105, q88_105N, q88_106, q88_109, q88_112, q88_113, q88_116, h2, hsw, xaf_s, xaf_v, va_rf_s, xix_n, nI_clamp, xk1_i, xk1_a, xk1_u, xk1_n, xk1_l, xk1_d, true_and, and_true, ↓reduceIte, Nat.reduceAdd, xtup]
  · obtain ⟨w, -, w5, rfl⟩ := rng (v := what) (lo := 0) (hi := 7) (by omega) (by omega) h2
    have cl3 : (nI w).toNatClampNeg = w := nI_clamp (by omega)
    have cl2 : (x.1 2).toNatClampNeg = n := by rw [hI.1.2.1, nI_clamp (by omega)]
    have hc60 := fun Q => c60 (G := G) (Q := Q) hSC hn8
    rw [itr_n, ← hI.1.2.1] at hc60
    have hc61 := fun Q => c61 (G := G) (Q := Q) hSC hn8 hI.h7
    have hc62 := fun Q => c62 (G := G) (Q := Q) hSC hn8
    obtain ⟨fu, fu1, fu2⟩ := hI.1.2.2.2.1
    have ef : (xJ μ (o + 1) 8).toInt32 = x.1 1 := by rw [gf, fu1, nI_l (by omega), lN_i]
    rw [if_neg h2, cl3]
    unfold vCnt
    rw [cl2]
    have e0 : (nI 0 : Int32) = 0 := rfl
    have e1 : (nI 1 : Int32) = 1 := rfl
    have e2 : (nI 2 : Int32) = 2 := rfl
    have e3 : (nI 3 : Int32) = 3 := rfl
    have e4 : (nI 4 : Int32) = 4 := rfl
    have e5 : (nI 5 : Int32) = 5 := rfl
    have e6 : (nI 6 : Int32) = 6 := rfl
    have e7 : (nI 7 : Int32) = 7 := rfl
    have : w = 0 ∨ w = 1 ∨ w = 2 ∨ w = 3 ∨ w = 4 ∨ w = 5 ∨ w = 6 ∨ w = 7 := by omega
    rcases this with rfl | rfl | rfl | rfl | rfl | rfl | rfl | rfl
    · simp (disch := first | assumption | (simp only [MM_Kd, rI_Kd, rJ_Kd, sI_Kd, sJ_Kd, sR_Kd]; assumption) | omega | decide) only [q88_0, q88_48, q88_48N, q88_49, q88_52, q88_55, q88_56, q88_56N, q88_57, q88_60, q88_63, q88_64, q88_64N, q88_65, q88_68, q88_71, q88_72, q88_72N, q88_73, q88_76, q88_79, q88_80, q88_81, q88_81N, q88_82, q88_85, q88_88, q88_89, q88_89N, q88_90, q88_93, q88_96, q88_97, q88_97N, q88_98, q88_101, q88_104, q88_105, q88_105N, q88_106, q88_109, q88_112, q88_113, q88_116, e0, q88_1c0, o0, g0, xaf_s, xaf_v, va_rf_s, xix_n, nI_clamp, xk1_i, xk1_a, xk1_u, xk1_n, xk1_l, xk1_d, true_and, and_true, ↓reduceIte, Nat.reduceAdd, xtup]
    · simp (disch := first | assumption | (simp only [MM_Kd, rI_Kd, rJ_Kd, sI_Kd, sJ_Kd, sR_Kd]; assumption) | omega | decide) only [q88_0, q88_48, q88_48N, q88_49, q88_52, q88_55, q88_56, q88_56N, q88_57, q88_60, q88_63, q88_64, q88_64N, q88_65, q88_68, q88_71, q88_72, q88_72N, q88_73, q88_76, q88_79, q88_80, q88_81, q88_81N, q88_82, q88_85, q88_88, q88_89, q88_89N, q88_90, q88_93, q88_96, q88_97, q88_97N, q88_98, q88_101, q88_104, q88_105, q88_105N, q88_106, q88_109, q88_112, q88_113, q88_116, e1, q88_1c1, o0, hc60, Nat.reduceEqDiff, xaf_s, xaf_v, va_rf_s, xix_n, nI_clamp, xk1_i, xk1_a, xk1_u, xk1_n, xk1_l, xk1_d, true_and, and_true, ↓reduceIte, Nat.reduceAdd, xtup]
    · simp (disch := first | assumption | (simp only [MM_Kd, rI_Kd, rJ_Kd, sI_Kd, sJ_Kd, sR_Kd]; assumption) | omega | decide) only [q88_0, q88_48, q88_48N, q88_49, q88_52, q88_55, q88_56, q88_56N, q88_57, q88_60, q88_63, q88_64, q88_64N, q88_65, q88_68, q88_71, q88_72, q88_72N, q88_73, q88_76, q88_79, q88_80, q88_81, q88_81N, q88_82, q88_85, q88_88, q88_89, q88_89N, q88_90, q88_93, q88_96, q88_97, q88_97N, q88_98, q88_101, q88_104, q88_105, q88_105N, q88_106, q88_109, q88_112, q88_113, q88_116, e2, q88_1c2, o0, hc61, Nat.reduceEqDiff, xaf_s, xaf_v, va_rf_s, xix_n, nI_clamp, xk1_i, xk1_a, xk1_u, xk1_n, xk1_l, xk1_d, true_and, and_true, ↓reduceIte, Nat.reduceAdd, xtup]
    · simp (disch := first | assumption | (simp only [MM_Kd, rI_Kd, rJ_Kd, sI_Kd, sJ_Kd, sR_Kd]; assumption) | omega | decide) only [q88_0, q88_48, q88_48N, q88_49, q88_52, q88_55, q88_56, q88_56N, q88_57, q88_60, q88_63, q88_64, q88_64N, q88_65, q88_68, q88_71, q88_72, q88_72N, q88_73, q88_76, q88_79, q88_80, q88_81, q88_81N, q88_82, q88_85, q88_88, q88_89, q88_89N, q88_90, q88_93, q88_96, q88_97, q88_97N, q88_98, q88_101, q88_104, q88_105, q88_105N, q88_106, q88_109, q88_112, q88_113, q88_116, e3, q88_1c3, o0, ef, Nat.reduceEqDiff, xaf_s, xaf_v, va_rf_s, xix_n, nI_clamp, xk1_i, xk1_a, xk1_u, xk1_n, xk1_l, xk1_d, true_and, and_true, ↓reduceIte, Nat.reduceAdd, xtup]
    · simp (disch := first | assumption | (simp only [MM_Kd, rI_Kd, rJ_Kd, sI_Kd, sJ_Kd, sR_Kd]; assumption) | omega | decide) only [q88_0, q88_48, q88_48N, q88_49, q88_52, q88_55, q88_56, q88_56N, q88_57, q88_60, q88_63, q88_64, q88_64N, q88_65, q88_68, q88_71, q88_72, q88_72N, q88_73, q88_76, q88_79, q88_80, q88_81, q88_81N, q88_82, q88_85, q88_88, q88_89, q88_89N, q88_90, q88_93, q88_96, q88_97, q88_97N, q88_98, q88_101, q88_104, q88_105, q88_105N, q88_106, q88_109, q88_112, q88_113, q88_116, e4, q88_1c4, o0, hc62, Nat.reduceEqDiff, xaf_s, xaf_v, va_rf_s, xix_n, nI_clamp, xk1_i, xk1_a, xk1_u, xk1_n, xk1_l, xk1_d, true_and, and_true, ↓reduceIte, Nat.reduceAdd, xtup]
    · simp (disch := first | assumption | (simp only [MM_Kd, rI_Kd, rJ_Kd, sI_Kd, sJ_Kd, sR_Kd]; assumption) | omega | decide) only [q88_0, q88_48, q88_48N, q88_49, q88_52, q88_55, q88_56, q88_56N, q88_57, q88_60, q88_63, q88_64, q88_64N, q88_65, q88_68, q88_71, q88_72, q88_72N, q88_73, q88_76, q88_79, q88_80, q88_81, q88_81N, q88_82, q88_85, q88_88, q88_89, q88_89N, q88_90, q88_93, q88_96, q88_97, q88_97N, q88_98, q88_101, q88_104, q88_105, q88_105N, q88_106, q88_109, q88_112, q88_113, q88_116, e5, q88_1c5, o0, g4, Nat.reduceEqDiff, xaf_s, xaf_v, va_rf_s, xix_n, nI_clamp, xk1_i, xk1_a, xk1_u, xk1_n, xk1_l, xk1_d, true_and, and_true, ↓reduceIte, Nat.reduceAdd, xtup]
    · simp (disch := first | assumption | (simp only [MM_Kd, rI_Kd, rJ_Kd, sI_Kd, sJ_Kd, sR_Kd]; assumption) | omega | decide) only [q88_0, q88_48, q88_48N, q88_49, q88_52, q88_55, q88_56, q88_56N, q88_57, q88_60, q88_63, q88_64, q88_64N, q88_65, q88_68, q88_71, q88_72, q88_72N, q88_73, q88_76, q88_79, q88_80, q88_81, q88_81N, q88_82, q88_85, q88_88, q88_89, q88_89N, q88_90, q88_93, q88_96, q88_97, q88_97N, q88_98, q88_101, q88_104, q88_105, q88_105N, q88_106, q88_109, q88_112, q88_113, q88_116, e6, q88_1c6, o0, g5, Nat.reduceEqDiff, xaf_s, xaf_v, va_rf_s, xix_n, nI_clamp, xk1_i, xk1_a, xk1_u, xk1_n, xk1_l, xk1_d, true_and, and_true, ↓reduceIte, Nat.reduceAdd, xtup]
    · simp (disch := first | assumption | (simp only [MM_Kd, rI_Kd, rJ_Kd, sI_Kd, sJ_Kd, sR_Kd]; assumption) | omega | decide) only [q88_0, q88_48, q88_48N, q88_49, q88_52, q88_55, q88_56, q88_56N, q88_57, q88_60, q88_63, q88_64, q88_64N, q88_65, q88_68, q88_71, q88_72, q88_72N, q88_73, q88_76, q88_79, q88_80, q88_81, q88_81N, q88_82, q88_85, q88_88, q88_89, q88_89N, q88_90, q88_93, q88_96, q88_97, q88_97N, q88_98, q88_101, q88_104, q88_105, q88_105N, q88_106, q88_109, q88_112, q88_113, q88_116, e7, q88_1c7, o2, f4, Nat.reduceEqDiff, xaf_s, xaf_v, va_rf_s, xix_n, nI_clamp, xk1_i, xk1_a, xk1_u, xk1_n, xk1_l, xk1_d, true_and, and_true, ↓reduceIte, Nat.reduceAdd, xtup]
theorem c92 (h : CST μ o c g n π t S x) (id months : Int32) : Cn G 92 [.ref o, .int id, .int months] μ Q = if pFind x.1 id = -1 then Q (.inr 0) (xex μ) else if bad months 0 240 then Q (.inr 1) (xex μ) else Q (.inl (some (.int (vPB x.1 (pFind x.1 id).toNatClampNeg (x.1 (19 + 75 * (pFind x.1 id).toNatClampNeg + 1)) months)))) μ := by
  obtain ⟨hC, hs, hH, hg, hI, hSC⟩ := h
  have hn8 := hI.1.2.2.1
  have b0 := hSC.1.1
  obtain ⟨ko, ⟨o0, o1, o2, o3, o4⟩, ⟨k1, k1r⟩, -⟩ := hC
  have hf := fun Q => c35 (G := G) (Q := Q) hSC hI.1 id
  show Rn G 92 0 [some (.ref o), some (.int id), some (.int months), none] [] μ Q = _
  rcases pFind_of hI.1 id with hp | ⟨p, hpn, hp, -⟩
  · have hf1 := fun Q => (hf Q).1 hp
    simp (disch := first | assumption | (simp only [MM_Kd, rI_Kd, rJ_Kd, sI_Kd, sJ_Kd, sR_Kd]; assumption) | omega | decide) only [q92_0, q92_0N, q92_1, q92_4, q92_5, q92_8, q92_8N, q92_9, q92_9N, q92_10, q92_10N, q92_13, q92_16, q92_23, q92_24, q92_25, q92_28, q92_31, q92_34, q92_37, q92_44, q92_44N, q92_45, q92_48, q92_48N, q92_49, q92_49N, q92_50, q92_53, q92_54, q92_57, o0, hf1, hp, xaf_s, xaf_v, va_rf_s, xix_n, nI_clamp, xk1_i, xk1_a, xk1_u, xk1_n, xk1_l, xk1_d, true_and, and_true, ↓reduceIte, Nat.reduceAdd, xtup]
  · have hp8 : p < 8 := by omega
    have hf1 := fun Q => (hf Q).2 p hpn hp
    have hne := eq_false (nI_ne1 (p := p) (by omega))
    have k4 := (hSC.hb hp8).1
    have hmv := hSC.2.2.2.1 p hpn hp8
    obtain ⟨d1, d2, -⟩ := (hI.2.2 p hpn).at (by omega)
    have i4 : xI μ (AD (o + 1) π p) 4 = nI (zOwn x.1 p) := by rw [hmv.w.2.2.1]; exact d2
    by_cases h2 : bad months 0 240
    · simp (disch := first | assumption | (simp only [MM_Kd, rI_Kd, rJ_Kd, sI_Kd, sJ_Kd, sR_Kd]; assumption) | omega | decide) only [q92_0, q92_0N, q92_1, q92_4, q92_5, q92_8, q92_8N, q92_9, q92_9N, q92_10, q92_10N, q92_13, q92_16, q92_23, q92_24, q92_25, q92_28, q92_31, q92_34, q92_37, q92_44, q92_44N, q92_45, q92_48, q92_48N, q92_49, q92_49N, q92_50, q92_53, q92_54, q92_57, o0, hf1, hp, hne, c104, h2, c00, not_true_eq_false, xaf_s, xaf_v, va_rf_s, xix_n, nI_clamp, xk1_i, xk1_a, xk1_u, xk1_n, xk1_l, xk1_d, true_and, and_true, ↓reduceIte, Nat.reduceAdd, xtup]
    · obtain ⟨m, -, m2, rfl⟩ := rng (v := months) (lo := 0) (hi := 240) (by omega) (by omega) h2
      have hc50 := fun Q => c50 (G := G) (Q := Q) (k := m) hSC.1 (hSC.hb hp8) hSC.2.2.1 hmv hI.1 (hI.2.2 p hpn) (by omega) d1 m2
      simp (disch := first | assumption | (simp only [MM_Kd, rI_Kd, rJ_Kd, sI_Kd, sJ_Kd, sR_Kd]; assumption) | omega | decide) only [q92_0, q92_0N, q92_1, q92_4, q92_5, q92_8, q92_8N, q92_9, q92_9N, q92_10, q92_10N, q92_13, q92_16, q92_23, q92_24, q92_25, q92_28, q92_31, q92_34, q92_37, q92_44, q92_44N, q92_45, q92_48, q92_48N, q92_49, q92_49N, q92_50, q92_53, q92_54, q92_57, o0, hf1, hp, hne, c104, h2, c10, i4, hc50, d2, not_false_eq_true, xaf_s, xaf_v, va_rf_s, xix_n, nI_clamp, xk1_i, xk1_a, xk1_u, xk1_n, xk1_l, xk1_d, true_and, and_true, ↓reduceIte, Nat.reduceAdd, xtup]
theorem c93 (h : CST μ o c g n π t S x) (id : Int32) : Cn G 93 [.ref o, .int id] μ Q = if pFind x.1 id = -1 then Q (.inr 0) (xex μ) else Q (.inl (some (.int (vBest x.1 (pFind x.1 id).toNatClampNeg)))) μ := by
  obtain ⟨hC, hs, hH, hg, hI, hSC⟩ := h
  have hn8 := hI.1.2.2.1
  have b0 := hSC.1.1
  obtain ⟨ko, ⟨o0, o1, o2, o3, o4⟩, ⟨k1, k1r⟩, -⟩ := hC
  have hf := fun Q => c35 (G := G) (Q := Q) hSC hI.1 id
  show Rn G 93 0 [some (.ref o), some (.int id), none] [] μ Q = _
  rcases pFind_of hI.1 id with hp | ⟨p, hpn, hp, -⟩
  · have hf1 := fun Q => (hf Q).1 hp
    simp (disch := first | assumption | (simp only [MM_Kd, rI_Kd, rJ_Kd, sI_Kd, sJ_Kd, sR_Kd]; assumption) | omega | decide) only [q93_0, q93_0N, q93_1, q93_4, q93_5, q93_8, q93_8N, q93_9, q93_9N, q93_10, q93_10N, q93_13, q93_16, q93_23, q93_23N, q93_24, q93_27, q93_27N, q93_28, q93_31, o0, hf1, hp, xaf_s, xaf_v, va_rf_s, xix_n, nI_clamp, xk1_i, xk1_a, xk1_u, xk1_n, xk1_l, xk1_d, true_and, and_true, ↓reduceIte, Nat.reduceAdd, xtup]
  · have hp8 : p < 8 := by omega
    have hf1 := fun Q => (hf Q).2 p hpn hp
    have hne := eq_false (nI_ne1 (p := p) (by omega))
    have hc52 := fun Q => c52 (G := G) (Q := Q) hSC.1 (hSC.hb hp8) hSC.2.2.1 (hSC.2.2.2.1 p hpn hp8) hI.1 (hI.2.2 p hpn) (by omega) (by omega)
    simp (disch := first | assumption | (simp only [MM_Kd, rI_Kd, rJ_Kd, sI_Kd, sJ_Kd, sR_Kd]; assumption) | omega | decide) only [q93_0, q93_0N, q93_1, q93_4, q93_5, q93_8, q93_8N, q93_9, q93_9N, q93_10, q93_10N, q93_13, q93_16, q93_23, q93_23N, q93_24, q93_27, q93_27N, q93_28, q93_31, o0, hf1, hp, hne, hc52, xaf_s, xaf_v, va_rf_s, xix_n, nI_clamp, xk1_i, xk1_a, xk1_u, xk1_n, xk1_l, xk1_d, true_and, and_true, ↓reduceIte, Nat.reduceAdd, xtup]
/-- the trial alone changes -/
theorem CST.trial {μ' : xMem} {π2 : Nat → Nat} (h : CST μ o c g n π t S x) (hF : FS μ μ' (BK (o + 56))) (h2 : SH μ' (o + 56) ∧ RWS μ' (o + 56) π2) : CST μ' o c g n π t S x := by
  obtain ⟨hC, hs, ⟨f, a1, a2, a3, a4, a5⟩, hg, hI, hSC⟩ := h
  have e := fun q (h1 : o + 111 ≤ q ∨ q < o + 56) => hF.2.2 q (by unfold BK; omega)
  refine ⟨hC.fs hF fun q hq => (e q (by omega)).2.2, ⟨⟨π2, h2⟩, fun j hj => ?_⟩, ⟨f, a1, a2, ?_, ?_, fun k hk => ?_⟩, hg, hI, hSC.fs hF fun q q1 q2 => by unfold BK; omega⟩
  · obtain ⟨π3, hh⟩ := hs.2 j hj
    exact ⟨π3, shape_fs hh hF fun q q1 q2 => by unfold BK; omega⟩
  · rw [(e (o + 111) (by omega)).1]; exact a3
  · rw [(e (o + 111) (by omega)).1]; exact a4
  · obtain ⟨g2, n2, π3, b1, b2, b3⟩ := a5 k hk
    exact ⟨g2, n2, π3, b1, b2, b3.fs hF fun q q1 q2 => by unfold BK; omega⟩
theorem c101 (h : CST μ o c g n π t S x) {π2 : Nat → Nat} {y : ST} (hT : SC μ (o + 56) π2 n y) {r : Int32} {w : Nat} (hw : w < 4) : Cn G 101 [.ref o, .int (nI w), .int r] μ Q = Q (.inl (some (.long (if w = 0 then (y.1 1).toInt64 else if w = 1 then r.toInt64 else if w = 2 then (y.1 4 - x.1 4).toInt64 else y.2 4 - x.2 4)))) μ := by
  obtain ⟨hC, hs, hH, hg, hI, hSC⟩ := h
  obtain ⟨ko, ⟨o0, o1, o2, o3, o4⟩, ⟨k1, k1r⟩, -⟩ := hC
  obtain ⟨b0, ⟨b1, u1⟩, ⟨b2, u2⟩, ⟨b3, u3⟩, ⟨b4, u4⟩, ⟨b5, u5⟩, ⟨b6, u6⟩, r0, r1, r2, r3, r4, r5⟩ := hSC.1
  obtain ⟨w0, ⟨w1, y1⟩, ⟨w2, y2⟩, ⟨w3, y3⟩, ⟨w4, y4⟩, ⟨w5, y5⟩, ⟨w6, y6⟩, t0, t1, t2, t3, t4, t5⟩ := hT.1
  obtain ⟨g3, g0, gf, g4, g5, gs, gr, gσ⟩ := hSC.2.2.1
  obtain ⟨v3, v0, vf, v4, v5, vs, vr, vσ⟩ := hT.2.2.1
  have gσ4 := gσ 4 (by omega)
  have vσ4 := vσ 4 (by omega)
  have e0 : (nI 0 : Int32) = 0 := rfl
  have e1 : (nI 1 : Int32) = 1 := rfl
  have e2 : (nI 2 : Int32) = 2 := rfl
  have hd : (nI 3 : Int32) < 0 ∨ 2 < nI 3 := Or.inr (by decide)
  have hsw := fun l0 l1 l2 st => q101_1d (G := G) (μ := μ) (Q := Q) (l0 := l0) (l1 := l1) (l2 := l2) (st := st) hd
  show Rn G 101 0 [some (.ref o), some (.int (nI w)), some (.int r)] [] μ Q = _
  have : w = 0 ∨ w = 1 ∨ w = 2 ∨ w = 3 := by omega
  rcases this with rfl | rfl | rfl | rfl
  · simp (disch := first | assumption | (simp only [MM_Kd, rI_Kd, rJ_Kd, sI_Kd, sJ_Kd, sR_Kd]; assumption) | omega | decide) only [q101_0, q101_28, q101_28N, q101_29, q101_32, q101_35, q101_36, q101_37, q101_38, q101_39, q101_39N, q101_40, q101_43, q101_46, q101_46N, q101_47, q101_50, q101_53, q101_54, q101_55, q101_56, q101_56N, q101_57, q101_60, q101_63, q101_64, q101_65, q101_65N, q101_66, q101_69, q101_72, q101_73, q101_74, q101_75, e0, q101_1c0, o1, vf, xaf_s, xaf_v, va_rf_s, xix_n, nI_clamp, xk1_i, xk1_a, xk1_u, xk1_n, xk1_l, xk1_d, true_and, and_true, ↓reduceIte, Nat.reduceAdd, xtup]
  · simp (disch := first | assumption | (simp only [MM_Kd, rI_Kd, rJ_Kd, sI_Kd, sJ_Kd, sR_Kd]; assumption) | omega | decide) only [q101_0, q101_28, q101_28N, q101_29, q101_32, q101_35, q101_36, q101_37, q101_38, q101_39, q101_39N, q101_40, q101_43, q101_46, q101_46N, q101_47, q101_50, q101_53, q101_54, q101_55, q101_56, q101_56N, q101_57, q101_60, q101_63, q101_64, q101_65, q101_65N, q101_66, q101_69, q101_72, q101_73, q101_74, q101_75, e1, q101_1c1, Nat.reduceEqDiff, xaf_s, xaf_v, va_rf_s, xix_n, nI_clamp, xk1_i, xk1_a, xk1_u, xk1_n, xk1_l, xk1_d, true_and, and_true, ↓reduceIte, Nat.reduceAdd, xtup]
  · simp (disch := first | assumption | (simp only [MM_Kd, rI_Kd, rJ_Kd, sI_Kd, sJ_Kd, sR_Kd]; assumption) | omega | decide) only [q101_0, q101_28, q101_28N, q101_29, q101_32, q101_35, q101_36, q101_37, q101_38, q101_39, q101_39N, q101_40, q101_43, q101_46, q101_46N, q101_47, q101_50, q101_53, q101_54, q101_55, q101_56, q101_56N, q101_57, q101_60, q101_63, q101_64, q101_65, q101_65N, q101_66, q101_69, q101_72, q101_73, q101_74, q101_75, e2, q101_1c2, o0, o1, v4, g4, Nat.reduceEqDiff, xaf_s, xaf_v, va_rf_s, xix_n, nI_clamp, xk1_i, xk1_a, xk1_u, xk1_n, xk1_l, xk1_d, true_and, and_true, ↓reduceIte, Nat.reduceAdd, xtup]
  · simp (disch := first | assumption | (simp only [MM_Kd, rI_Kd, rJ_Kd, sI_Kd, sJ_Kd, sR_Kd]; assumption) | omega | decide) only [q101_0, q101_28, q101_28N, q101_29, q101_32, q101_35, q101_36, q101_37, q101_38, q101_39, q101_39N, q101_40, q101_43, q101_46, q101_46N, q101_47, q101_50, q101_53, q101_54, q101_55, q101_56, q101_56N, q101_57, q101_60, q101_63, q101_64, q101_65, q101_65N, q101_66, q101_69, q101_72, q101_73, q101_74, q101_75, hsw, o0, o1, r5, t5, u6, y6, xl4, nc4, gσ4, vσ4, Nat.reduceEqDiff, xaf_s, xaf_v, va_rf_s, xix_n, nI_clamp, xk1_i, xk1_a, xk1_u, xk1_n, xk1_l, xk1_d, true_and, and_true, ↓reduceIte, Nat.reduceAdd, xtup]
theorem c91 (h : CST μ o c g n π t S x) (months what : Int32) : (bad months 1 240 ∨ bad what 0 3 → Cn G 91 [.ref o, .int months, .int what] μ Q = Q (.inr 1) (xex μ)) ∧ (¬ (bad months 1 240 ∨ bad what 0 3) → ∃ μ', (∀ Q, Cn G 91 [.ref o, .int months, .int what] μ Q = Q (.inl (some (.long (vIf n months.toNatClampNeg what.toNatClampNeg x)))) μ') ∧ CST μ' o c g n π t S x ∧ FS μ μ' (fun q => o ≤ q ∧ q < o + 443)) := by
  have h0 := h
  obtain ⟨hC, hs, hH, hg, hI, hSC⟩ := h
  obtain ⟨ko, ⟨o0, o1, o2, o3, o4⟩, ⟨k1, k1r⟩, -⟩ := hC
  have b0 := hSC.1.1
  refine ⟨fun hb => ?_, fun hb => ?_⟩
  · show Rn G 91 0 [some (.ref o), some (.int months), some (.int what), none] [] μ Q = _
    by_cases h1 : bad months 1 240
    · simp (disch := first | assumption | (simp only [MM_Kd, rI_Kd, rJ_Kd, sI_Kd, sJ_Kd, sR_Kd]; assumption) | omega | decide) only [q91_0, q91_1, q91_2, q91_5, q91_8, q91_11, q91_12, q91_13, q91_14, q91_17, q91_20, q91_23, q91_31, q91_31N, q91_32, q91_35, q91_35N, q91_36, q91_39, q91_42, q91_42N, q91_43, q91_46, q91_47, q91_50, q91_51, q91_51N, q91_52, q91_53, q91_54, q91_57, c104, h1, xaf_s, xaf_v, va_rf_s, xix_n, nI_clamp, xk1_i, xk1_a, xk1_u, xk1_n, xk1_l, xk1_d, true_and, and_true, ↓reduceIte, Nat.reduceAdd, xtup]
    · have h2 := hb.resolve_left h1
      simp (disch := first | assumption | (simp only [MM_Kd, rI_Kd, rJ_Kd, sI_Kd, sJ_Kd, sR_Kd]; assumption) | omega | decide) only [q91_0, q91_1, q91_2, q91_5, q91_8, q91_11, q91_12, q91_13, q91_14, q91_17, q91_20, q91_23, q91_31, q91_31N, q91_32, q91_35, q91_35N, q91_36, q91_39, q91_42, q91_42N, q91_43, q91_46, q91_47, q91_50, q91_51, q91_51N, q91_52, q91_53, q91_54, q91_57, c104, h1, h2, c10, c00, not_true_eq_false, xaf_s, xaf_v, va_rf_s, xix_n, nI_clamp, xk1_i, xk1_a, xk1_u, xk1_n, xk1_l, xk1_d, true_and, and_true, ↓reduceIte, Nat.reduceAdd, xtup]
  · have h1 : ¬ bad months 1 240 := fun z => hb (Or.inl z)
    have h2 : ¬ bad what 0 3 := fun z => hb (Or.inr z)
    obtain ⟨m, m1, m2, rfl⟩ := rng (v := months) (lo := 1) (hi := 240) (by omega) (by omega) h1
    obtain ⟨w, -, w2, rfl⟩ := rng (v := what) (lo := 0) (hi := 3) (by omega) (by omega) h2
    obtain ⟨π2, hh⟩ := hs.1
    obtain ⟨μ1, e1, e2, e3⟩ := c34 (G := G) hh.1 hh.2 hSC hI (by omega)
    obtain ⟨μ2, d1, d2, d3⟩ := c53 (G := G) e2 hI (N := m) (by omega) (by omega)
    have hF : FS μ μ2 (BK (o + 56)) := e3.fs.tr d3.fs
    have hC2 := h0.trial hF ⟨d2.1, d2.2.1⟩
    have hc101 := fun Q => c101 (G := G) (Q := Q) (r := (zPass n m (x, 0)).2) hC2 d2 (w := w) (by omega)
    have ko1 : xKd μ1 o = 7 := by unfold xKd; rw [e3.1]; exact ko
    have o11 : xR μ1 o 1 = some (o + 56) := by rw [e3.2.2.1]; exact o1
    have ko2 := hC2.1.1
    have b56 := hh.1.1
    have b56' := e2.1.1
    have cm : (nI m).toNatClampNeg = m := nI_clamp (by omega)
    have cw : (nI w).toNatClampNeg = w := nI_clamp (by omega)
    rw [cm, cw]
    refine ⟨μ2, fun Q => ?_, hC2, hF.mono fun q hq => by unfold BK at hq; omega⟩
    show Rn G 91 0 [some (.ref o), some (.int (nI m)), some (.int (nI w)), none] [] μ Q = _
    simp (disch := first | assumption | (simp only [MM_Kd, rI_Kd, rJ_Kd, sI_Kd, sJ_Kd, sR_Kd]; assumption) | omega | decide) only [q91_0, q91_1, q91_2, q91_5, q91_8, q91_11, q91_12, q91_13, q91_14, q91_17, q91_20, q91_23, q91_31, q91_31N, q91_32, q91_35, q91_35N, q91_36, q91_39, q91_42, q91_42N, q91_43, q91_46, q91_47, q91_50, q91_51, q91_51N, q91_52, q91_53, q91_54, q91_57, c104, h1, h2, c10, o0, o1, e1, o11, d1, hc101, not_false_eq_true, xaf_s, xaf_v, va_rf_s, xix_n, nI_clamp, xk1_i, xk1_a, xk1_u, xk1_n, xk1_l, xk1_d, true_and, and_true, ↓reduceIte, Nat.reduceAdd, xtup]
    rfl
theorem c94 (h : CST μ o c g n π t S x) : ∃ μ', (∀ Q, Cn G 94 [.ref o] μ Q = Q (.inl (some (.int (vLast n (x.2 4) 240 1 x)))) μ') ∧ CST μ' o c g n π t S x ∧ FS μ μ' (fun q => o ≤ q ∧ q < o + 443) := by
  have h0 := h
  obtain ⟨hC, hs, hH, hg, hI, hSC⟩ := h
  obtain ⟨ko, ⟨o0, o1, o2, o3, o4⟩, ⟨k1, k1r⟩, -⟩ := hC
  have b0 := hSC.1.1
  obtain ⟨π2, hh⟩ := hs.1
  obtain ⟨μ1, e1, e2, e3⟩ := c34 (G := G) hh.1 hh.2 hSC hI (by omega)
  have z240 : (240 : Int32) = nI 240 := rfl
  have key : ∀ k i (y : ST) g' μ1, INV c g' n y → g' + k < 10300 → SC μ1 (o + 56) π2 n y → FS μ μ1 (BK (o + 56)) → i + k = 241 → ∃ μ', (∀ Q, Rn G 94 13 [some (.ref o), some (.int (nI i))] [] μ1 Q = Q (.inl (some (.int (vLast n (x.2 4) k i y)))) μ') ∧ CST μ' o c g n π t S x ∧ FS μ μ' (BK (o + 56)) := by
    intro k
    induction k with
    | zero =>
      intro i y g' μ1 hy hg' hT hF hi
      have h2 : 240 < i := by omega
      refine ⟨μ1, fun Q => ?_, h0.trial hF ⟨hT.1, hT.2.1⟩, hF⟩
      rw [q94_13]
      simp (disch := first | assumption | (simp only [MM_Kd, rI_Kd, rJ_Kd, sI_Kd, sJ_Kd, sR_Kd]; assumption) | omega | decide) only [q94_0, q94_0N, q94_1, q94_4, q94_4N, q94_5, q94_8, q94_11, q94_12, q94_14, q94_17, q94_20, q94_20N, q94_21, q94_24, q94_27, q94_28, q94_28N, q94_29, q94_32, q94_35, q94_36, q94_37, q94_37N, q94_38, q94_41, q94_44, q94_45, q94_46, q94_47, q94_50, q94_51, q94_52, q94_55, q94_58, q94_59, z240, nI_ltI, h2, vLast, xaf_s, xaf_v, va_rf_s, xix_n, nI_clamp, xk1_i, xk1_a, xk1_u, xk1_n, xk1_l, xk1_d, true_and, and_true, ↓reduceIte, Nat.reduceAdd, xtup]
    | succ k ih =>
      intro i y g' μ1 hy hg' hT hF hi
      have h2 : ¬ 240 < i := by omega
      have hC1 := h0.trial hF ⟨hT.1, hT.2.1⟩
      obtain ⟨μ2, d1, d2, d3⟩ := c54 (G := G) hT hy (by omega)
      have hF2 : FS μ μ2 (BK (o + 56)) := hF.tr d3.fs
      have hC2 := h0.trial hF2 ⟨d2.1, d2.2.1⟩
      obtain ⟨ko1, ⟨-, o11, -⟩, -⟩ := hC1.1
      obtain ⟨ko2, ⟨o20, o21, -⟩, -⟩ := hC2.1
      have b56 := hT.1.1
      obtain ⟨bb0, ⟨bb1, uu1⟩, ⟨bb2, uu2⟩, ⟨bb3, uu3⟩, ⟨bb4, uu4⟩, ⟨bb5, uu5⟩, ⟨bb6, uu6⟩, rr0, rr1, rr2, rr3, rr4, rr5⟩ := hC2.2.2.2.2.2.1
      obtain ⟨w0, ⟨w1, y1⟩, ⟨w2, y2⟩, ⟨w3, y3⟩, ⟨w4, y4⟩, ⟨w5, y5⟩, ⟨w6, y6⟩, t0, t1, t2, t3, t4, t5⟩ := d2.1
      have gσ4 := hC2.2.2.2.2.2.2.2.1.2.2.2.2.2.2.2 4 (by omega)
      have vσ4 := d2.2.2.1.2.2.2.2.2.2.2 4 (by omega)
      unfold vLast
      by_cases h5 : x.2 4 < (zMon n y).1.2 4
      · have h5' : ¬ (zMon n y).1.2 4 ≤ x.2 4 := Int64.not_le.mpr h5
        refine ⟨μ2, fun Q => ?_, hC2, hF2⟩
        rw [q94_13]
        simp (disch := first | assumption | (simp only [MM_Kd, rI_Kd, rJ_Kd, sI_Kd, sJ_Kd, sR_Kd]; assumption) | omega | decide) only [q94_0, q94_0N, q94_1, q94_4, q94_4N, q94_5, q94_8, q94_11, q94_12, q94_14, q94_17, q94_20, q94_20N, q94_21, q94_24, q94_27, q94_28, q94_28N, q94_29, q94_32, q94_35, q94_36, q94_37, q94_37N, q94_38, q94_41, q94_44, q94_45, q94_46, q94_47, q94_50, q94_51, q94_52, q94_55, q94_58, q94_59, z240, nI_ltI, h2, o11, d1, o20, o21, rr5, t5, uu6, y6, xl4, nc4, gσ4, vσ4, cmp_le, h5, h5', xaf_s, xaf_v, va_rf_s, xix_n, nI_clamp, xk1_i, xk1_a, xk1_u, xk1_n, xk1_l, xk1_d, true_and, and_true, ↓reduceIte, Nat.reduceAdd, xtup]
      · have h5' : (zMon n y).1.2 4 ≤ x.2 4 := Int64.not_lt.mp h5
        obtain ⟨μ', v1, v2, v3⟩ := ih (i + 1) (zMon n y).1 (g' + 1) μ2 (zMon_ok hy (by omega)) (by omega) d2 hF2 (by omega)
        refine ⟨μ', fun Q => ?_, v2, v3⟩
        rw [q94_13]
        simp (disch := first | assumption | (simp only [MM_Kd, rI_Kd, rJ_Kd, sI_Kd, sJ_Kd, sR_Kd]; assumption) | omega | decide) only [q94_0, q94_0N, q94_1, q94_4, q94_4N, q94_5, q94_8, q94_11, q94_12, q94_14, q94_17, q94_20, q94_20N, q94_21, q94_24, q94_27, q94_28, q94_28N, q94_29, q94_32, q94_35, q94_36, q94_37, q94_37N, q94_38, q94_41, q94_44, q94_45, q94_46, q94_47, q94_50, q94_51, q94_52, q94_55, q94_58, q94_59, z240, nI_ltI, h2, o11, d1, o20, o21, rr5, t5, uu6, y6, xl4, nc4, gσ4, vσ4, cmp_le, h5, h5', nI_1, xaf_s, xaf_v, va_rf_s, xix_n, nI_clamp, xk1_i, xk1_a, xk1_u, xk1_n, xk1_l, xk1_d, true_and, and_true, ↓reduceIte, Nat.reduceAdd, xtup]
        exact v1 Q
  obtain ⟨μ', v1, v2, v3⟩ := key 240 1 x g μ1 hI (by omega) e2 e3.fs (by omega)
  refine ⟨μ', fun Q => ?_, v2, v3.mono fun q hq => by unfold BK at hq; omega⟩
  have v1' := v1 Q
  rw [show (nI 1 : Int32) = 1 from rfl] at v1'
  have b56 := hh.1.1
  show Rn G 94 0 [some (.ref o), none] [] μ Q = _
  simp (disch := first | assumption | (simp only [MM_Kd, rI_Kd, rJ_Kd, sI_Kd, sJ_Kd, sR_Kd]; assumption) | omega | decide) only [q94_0, q94_1, q94_4, q94_5, q94_8, q94_11, q94_12, o0, o1, e1, xaf_s, xaf_v, va_rf_s, xix_n, nI_clamp, xk1_i, xk1_a, xk1_u, xk1_n, xk1_l, xk1_d, true_and, and_true, ↓reduceIte, Nat.reduceAdd, xtup]
  exact v1'
end PB7
