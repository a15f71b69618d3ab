/-! THE CLASS: CLOSE, JOIN, LEAVE, PAY, CHANGE, FALL BEHIND -/
theorem kd_1 {a b c : Nat} : kd3 a b c 1 = a := rfl
theorem kd_2 {a b c : Nat} : kd3 a b c 2 = b := rfl
theorem kd_3 {a b c : Nat} : kd3 a b c 3 = c := rfl
section PB2
variable {G : xCtx} {μ : xMem} {Q : xOut → xMem → Prop} {o n k c p g t b : Nat} {π : Nat → Nat} {S : Nat → ST} {x : ST}
theorem SC_word (h : SC μ b π n x) (hp : p < n) (hp8 : p < 8) {slot w : Nat} {v : Int32} (hw : w < 75) (hM : MV (xsI μ (AD b π p) slot v) (AD b π p) (up (mw x.1 p) w v)) : SC (xsI μ (AD b π p) slot v) b π n (up x.1 (19 + 75 * p + w) v, x.2) ∧ FS μ (xsI μ (AD b π p) slot v) (BK b) := by
  have hpi := (h.2.1.1 p hp8).1
  have hf : FR μ (xsI μ (AD b π p) slot v) (TP b π p) := FR.sI (Or.inr (Or.inr ⟨Nat.le_refl _, by omega⟩))
  refine ⟨h.step hp hp8 hf ?_ ?_ (fun j _ hj => by dsimp only; rw [mw_out (by omega)]), hf.fs.mono (TP_BK hpi)⟩
  · refine h.2.2.1.cg (fun q q1 q2 => ⟨?_, rfl⟩) (fun j hj => by dsimp only; rw [up_n (by omega)])
    rw [sI_n (by unfold AD; omega)]
  · dsimp only; rw [mw_in hw]; exact hM
theorem c69 (h : CST μ o c g n π t S x) (sec b : Int32) (hb : b = 0 ∨ b = 1) : CRES G 69 [.int sec, .int b] (kd3 0 0 0) μ o c t S x (pClose sec b x) := by
  obtain ⟨hC, hs, hH, hg, hI, hSC⟩ := h
  have hC0 := hC
  obtain ⟨ko, ⟨o0, o1, o2, o3, o4⟩, ⟨k1, k1r⟩, -⟩ := hC
  unfold pClose
  by_cases h1 : bad sec 0 2
  · rw [if_pos h1]
    intro Q
    show Rn G 69 0 [some (.ref o), some (.int sec), some (.int b), none] [] μ Q = _
    simp (disch := first | assumption | (simp only [MM_Kd, rI_Kd, rJ_Kd, sI_Kd, sJ_Kd, sR_Kd]; assumption) | omega | decide) only [q69_0, q69_1, q69_4, q69_7, q69_10, q69_17, q69_17N, q69_18, q69_21, q69_21N, q69_22, q69_25, q69_28, q69_28N, q69_29, q69_32, q69_35, q69_36, q69_37, q69_40, q69_41, q69_41N, q69_42, q69_45, q69_48, q69_49, q69_50, q69_51, q69_52, c105, h1, c00, c10, not_true_eq_false, not_false_eq_true, kd_1, xaf_s, xaf_v, va_rf_s, xix_n, nI_clamp, xk1_i, xk1_a, xk1_u, xk1_n, xk1_l, xk1_d, true_and, and_true, ↓reduceIte, Nat.reduceAdd, xtup]
  · rw [if_neg h1]
    obtain ⟨C, hc3, rfl⟩ := sec3 h1
    obtain ⟨μ1, e1, hH1, hs1, hC1, hSC1, hF1⟩ := c5 (G := G) hC0 hs hSC hI hg hH
    have hC1' := hC1
    obtain ⟨ko', ⟨o0', o1', o2', o3', o4'⟩, ⟨k1', k1r'⟩, -⟩ := hC1
    obtain ⟨b0, ⟨b1, u1⟩, ⟨b2, u2⟩, ⟨b3, u3⟩, ⟨b4, u4⟩, ⟨b5, u5⟩, ⟨b6, u6⟩, r0, r1, r2, r3, r4, r5⟩ := hSC1.1
    obtain ⟨g3, g0, gf, g4, g5, gs, gr, gσ⟩ := hSC1.2.2.1
    obtain ⟨gr1, gr2, gr3⟩ := gr C hc3
    have h01 := (hI.1.2.2.2.2.2.2.2.2 C hc3).2.2
    have hfr : FR μ1 (xsI μ1 (o + 1 + 4) C b) (fun q => o + 1 ≤ q ∧ q < o + 1 + 7) := FR.sI ⟨by omega, by omega⟩
    have cl : (nI C).toNatClampNeg = C := nI_clamp (by omega)
    have eb : (if b = 0 then 0 else 1 : Int32) = b := by rcases hb with rfl | rfl <;> rfl
    have hnar : vp_nar .boolean b = b := by rcases hb with rfl | rfl <;> rfl
    have hc107 := fun Q => c107 (G := G) (μ := μ1) (Q := Q) h01
    rw [cl, eb]
    have hx' : ∀ j, j ≠ 12 + 3 * C → up x.1 (12 + 3 * C) b j = x.1 j := fun j h1 => up_n h1
    refine ⟨xsI μ1 (o + 1 + 4) C b, g, n, π, fun Q => ?_, CST.fin hC1' hs1 hH1 (Nat.le_succ c) (hfr.fs.mono fun q hq => ⟨by omega, by omega⟩) hg ?_ ?_, fsn hF1 (hfr.fs.mono fun q hq => ⟨by omega, by omega⟩)⟩
    · show Rn G 69 0 [some (.ref o), some (.int (nI C)), some (.int b), none] [] μ Q = _
      simp (disch := first | assumption | (simp only [MM_Kd, rI_Kd, rJ_Kd, sI_Kd, sJ_Kd, sR_Kd]; assumption) | omega | decide) only [q69_0, q69_1, q69_4, q69_7, q69_10, q69_17, q69_17N, q69_18, q69_21, q69_21N, q69_22, q69_25, q69_28, q69_28N, q69_29, q69_32, q69_35, q69_36, q69_37, q69_40, q69_41, q69_41N, q69_42, q69_45, q69_48, q69_49, q69_50, q69_51, q69_52, c105, h1, c00, c10, o0, o2, e1, o0', r3, u4, gr3, hc107, hnar, not_true_eq_false, not_false_eq_true, rI_Kd, rI_Ln, rI_R, rI_J, rJ_Kd, rJ_Ln, rJ_R, rJ_I, sI_Kd, sI_Ln, sI_R, sI_J, sJ_Kd, sJ_Ln, sJ_R, sJ_I, sR_Kd, sR_Ln, sR_I, sR_J, xaf_s, xaf_v, va_rf_s, xix_n, nI_clamp, xk1_i, xk1_a, xk1_u, xk1_n, xk1_l, xk1_d, true_and, and_true, ↓reduceIte, Nat.reduceAdd, xtup]
    · obtain ⟨i1, i2, i3⟩ := hI.up (Nat.le_succ c)
      obtain ⟨a1, a2, a3, a4, a5, a6, a7, a8, a9⟩ := i1
      refine ⟨⟨?_, ?_, a3, ?_, ?_, ?_, ?_, ?_, fun k hk => ?_⟩, i2, fun q hq => ?_⟩
      · dsimp only; rw [hx' 0 (by omega)]; exact a1
      · dsimp only; rw [hx' 2 (by omega)]; exact a2
      · dsimp only; rw [hx' 1 (by omega)]; exact a4
      · dsimp only; rw [hx' 6 (by omega)]; exact a5
      · dsimp only; rw [hx' 7 (by omega)]; exact a6
      · dsimp only; rw [hx' 8 (by omega)]; exact a7
      · dsimp only; rw [hx' 9 (by omega)]; exact a8
      · dsimp only
        obtain ⟨y1, y2, y3⟩ := a9 k hk
        rw [hx' _ (by omega), hx' _ (by omega)]
        by_cases hkC : k = C
        · subst hkC; rw [up_e]; exact ⟨y1, y2, hb⟩
        · rw [hx' _ (by omega)]; exact ⟨y1, y2, y3⟩
      · dsimp only; rw [mw_out (by omega)]; exact i3 q hq
    · refine hSC1.glob hfr ⟨?_, ?_, ?_, ?_, ?_, fun k hk => ?_, fun k hk => ?_, gσ⟩ (fun i hi => by dsimp only; rw [mw_out (by omega)])
      · dsimp only; rw [hx' 3 (by omega), sI_n (by omega)]; exact g3
      · dsimp only; rw [hx' 0 (by omega), sI_n (by omega)]; exact g0
      · dsimp only; rw [hx' 1 (by omega)]; exact gf
      · dsimp only; rw [hx' 4 (by omega), sI_n (by omega)]; exact g4
      · dsimp only; rw [hx' 5 (by omega), sI_n (by omega)]; exact g5
      · dsimp only; rw [hx' _ (by omega), sI_n (by omega)]; exact gs k hk
      · dsimp only
        obtain ⟨y1, y2, y3⟩ := gr k hk
        have w2 : xI (xsI μ1 (o + 1 + 4) C b) (o + 1 + 2) k = xI μ1 (o + 1 + 2) k := by rw [sI_n (by omega)]
        have w3 : xI (xsI μ1 (o + 1 + 4) C b) (o + 1 + 3) k = xI μ1 (o + 1 + 3) k := by rw [sI_n (by omega)]
        rw [hx' (10 + 3 * k) (by omega), hx' (10 + 3 * k + 1) (by omega), w2, w3]
        by_cases hkC : k = C
        · subst hkC; rw [sI_e, up_e]; exact ⟨y1, y2, rfl⟩
        · rw [sI_k hkC, hx' _ (by omega)]; exact ⟨y1, y2, y3⟩
theorem zJoin_INV (hI : INV c g n x) (hn : n < 8) {C q a : Nat} (hC : C < 3) (hq : 1 ≤ q ∧ q ≤ 9999) (ha : a ≤ 960) : INV (c + 1) g (n + 1) (zJoin (nI C) (nI q) (nI a) x.1 n, x.2) := by
  obtain ⟨i1, i2, i3⟩ := hI.up (Nat.le_succ c)
  have js : ∀ j, j < 19 → j ≠ 2 → j ≠ 3 → zJoin (nI C) (nI q) (nI a) x.1 n j = x.1 j := by
    intro j h1 h2 h3
    unfold zJoin
    rw [up_n h3, up_n h2, up_n (by omega), up_n (by omega), up_n (by omega), up_n (by omega)]
    exact zZer_o (by omega)
  obtain ⟨a1, a2, a3, a4, a5, a6, a7, a8, a9⟩ := i1
  refine ⟨⟨?_, ?_, by omega, ?_, ?_, ?_, ?_, ?_, fun k hk => ?_⟩, i2, fun p hp => ?_⟩
  · dsimp only; rw [js 0 (by omega) (by omega) (by omega)]; exact a1
  · dsimp only; unfold zJoin; rw [up_n (by omega), up_e]
  · dsimp only; rw [js 1 (by omega) (by omega) (by omega)]; exact a4
  · dsimp only; rw [js 6 (by omega) (by omega) (by omega)]; exact a5
  · dsimp only; rw [js 7 (by omega) (by omega) (by omega)]; exact a6
  · dsimp only; rw [js 8 (by omega) (by omega) (by omega)]; exact a7
  · dsimp only; rw [js 9 (by omega) (by omega) (by omega)]; exact a8
  · dsimp only; rw [js _ (by omega) (by omega) (by omega), js _ (by omega) (by omega) (by omega), js _ (by omega) (by omega) (by omega)]; exact a9 k hk
  · dsimp only
    by_cases hpn : p = n
    · subst hpn
      have zw : ∀ w, w < 75 → mw (zJoin (nI C) (nI q) (nI a) x.1 p) p w = if w = 3 then nI a else if w = 2 then nI q else if w = 1 then nI C else if w = 0 then x.1 3 else 0 := by
        intro w hw
        rw [mw_at hw]
        unfold zJoin
        rw [up_n (by omega), up_n (by omega)]
        by_cases e3 : w = 3
        · subst e3; rw [up_e]; rfl
        · rw [up_n (by omega), if_neg e3]
          by_cases e2 : w = 2
          · subst e2; rw [up_e]; rfl
          · rw [up_n (by omega), if_neg e2]
            by_cases e1 : w = 1
            · subst e1; rw [up_e]; rfl
            · rw [up_n (by omega), if_neg e1]
              by_cases e0 : w = 0
              · subst e0; rw [Nat.add_zero, up_e]; rfl
              · rw [up_n (by omega), if_neg e0]
                unfold zZer; rw [if_pos (by omega)]
      have z4 : ∀ w, 4 ≤ w → w < 75 → mw (zJoin (nI C) (nI q) (nI a) x.1 p) p w = 0 := fun w h1 h2 => by rw [zw w h2, if_neg (by omega), if_neg (by omega), if_neg (by omega), if_neg (by omega)]
      refine ⟨⟨C, hC, by rw [zw 1 (by omega)]; rfl⟩, ⟨q, hq.1, hq.2, by rw [zw 2 (by omega)]; rfl⟩, ⟨a, ha, by rw [zw 3 (by omega)]; rfl⟩, ⟨0, by omega, by rw [z4 8 (by omega) (by omega)]; rfl⟩, Or.inl (z4 9 (by omega) (by omega)), 0, z4 10 (by omega) (by omega), by omega, fun k hk => ⟨0, z4 _ (by omega) (by omega), by omega⟩, Or.inl (z4 7 (by omega) (by omega)), fun _ => 0, fun k hk => absurd hk (by omega)⟩
    · have ew : mw (zJoin (nI C) (nI q) (nI a) x.1 n) p = mw x.1 p := by
        unfold zJoin
        rw [mw_out (by omega), mw_out (by omega), mw_out (by omega), mw_out (by omega), mw_out (by omega), mw_out (by omega)]
        exact mw_cg fun j h1 h2 => zZer_o (by omega)
      rw [ew]; exact i3 p (by omega)
theorem c70 (h : CST μ o c g n π t S x) (sec pay age : Int32) : CRES G 70 [.int sec, .int pay, .int age] (kd3 0 1 2) μ o c t S x (pJoin sec pay age x) := by
  obtain ⟨hC, hs, hH, hg, hI, hSC⟩ := h
  have hC0 := hC
  have hn8 := hI.1.2.2.1
  obtain ⟨ko, ⟨o0, o1, o2, o3, o4⟩, ⟨k1, k1r⟩, -⟩ := hC
  unfold pJoin
  by_cases h1 : bad sec 0 2
  · rw [if_pos h1]
    intro Q
    show Rn G 70 0 [some (.ref o), some (.int sec), some (.int pay), some (.int age), none] [] μ Q = _
    simp (disch := first | assumption | (simp only [MM_Kd, rI_Kd, rJ_Kd, sI_Kd, sJ_Kd, sR_Kd]; assumption) | omega | decide) only [q70_0, q70_1, q70_4, q70_7, q70_10, q70_17, q70_18, q70_19, q70_22, q70_25, q70_28, q70_29, q70_32, q70_35, q70_38, q70_41, q70_44, q70_51, q70_51N, q70_52, q70_55, q70_58, q70_58N, q70_60, q70_60N, q70_62, q70_62N, q70_65, q70_65N, q70_66, q70_69, q70_72, q70_73, q70_74, q70_77, q70_80, q70_87, q70_87N, q70_88, q70_91, q70_91N, q70_92, q70_95, q70_98, q70_98N, q70_99, q70_102, q70_102N, q70_104, q70_105, q70_106, q70_107, q70_110, q70_110N, q70_112, q70_115, c105, h1, c00, c10, not_true_eq_false, not_false_eq_true, kd_1, xaf_s, xaf_v, va_rf_s, xix_n, nI_clamp, xk1_i, xk1_a, xk1_u, xk1_n, xk1_l, xk1_d, true_and, and_true, ↓reduceIte, Nat.reduceAdd, xtup]
  · rw [if_neg h1]
    obtain ⟨C, hc3, rfl⟩ := sec3 h1
    by_cases h2 : bad pay 1 9999 ∨ bad age 192 959
    · rw [if_pos h2]
      intro Q
      show Rn G 70 0 [some (.ref o), some (.int (nI C)), some (.int pay), some (.int age), none] [] μ Q = _
      by_cases h3 : bad pay 1 9999
      · simp (disch := first | assumption | (simp only [MM_Kd, rI_Kd, rJ_Kd, sI_Kd, sJ_Kd, sR_Kd]; assumption) | omega | decide) only [q70_0, q70_1, q70_4, q70_7, q70_10, q70_17, q70_18, q70_19, q70_22, q70_25, q70_28, q70_29, q70_32, q70_35, q70_38, q70_41, q70_44, q70_51, q70_51N, q70_52, q70_55, q70_58, q70_58N, q70_60, q70_60N, q70_62, q70_62N, q70_65, q70_65N, q70_66, q70_69, q70_72, q70_73, q70_74, q70_77, q70_80, q70_87, q70_87N, q70_88, q70_91, q70_91N, q70_92, q70_95, q70_98, q70_98N, q70_99, q70_102, q70_102N, q70_104, q70_105, q70_106, q70_107, q70_110, q70_110N, q70_112, q70_115, c105, c104, h1, h3, c00, c10, not_true_eq_false, not_false_eq_true, kd_2, xaf_s, xaf_v, va_rf_s, xix_n, nI_clamp, xk1_i, xk1_a, xk1_u, xk1_n, xk1_l, xk1_d, true_and, and_true, ↓reduceIte, Nat.reduceAdd, xtup]
      · have h4 := h2.resolve_left h3
        simp (disch := first | assumption | (simp only [MM_Kd, rI_Kd, rJ_Kd, sI_Kd, sJ_Kd, sR_Kd]; assumption) | omega | decide) only [q70_0, q70_1, q70_4, q70_7, q70_10, q70_17, q70_18, q70_19, q70_22, q70_25, q70_28, q70_29, q70_32, q70_35, q70_38, q70_41, q70_44, q70_51, q70_51N, q70_52, q70_55, q70_58, q70_58N, q70_60, q70_60N, q70_62, q70_62N, q70_65, q70_65N, q70_66, q70_69, q70_72, q70_73, q70_74, q70_77, q70_80, q70_87, q70_87N, q70_88, q70_91, q70_91N, q70_92, q70_95, q70_98, q70_98N, q70_99, q70_102, q70_102N, q70_104, q70_105, q70_106, q70_107, q70_110, q70_110N, q70_112, q70_115, c105, c104, h1, h3, h4, c00, c10, not_true_eq_false, not_false_eq_true, kd_2, xaf_s, xaf_v, va_rf_s, xix_n, nI_clamp, xk1_i, xk1_a, xk1_u, xk1_n, xk1_l, xk1_d, true_and, and_true, ↓reduceIte, Nat.reduceAdd, xtup]
    · rw [if_neg h2]
      have h3 : ¬ bad pay 1 9999 := fun z => h2 (Or.inl z)
      have h4 : ¬ bad age 192 959 := fun z => h2 (Or.inr z)
      have cl : (nI C).toNatClampNeg = C := nI_clamp (by omega)
      have hc37 := fun Q => c37 (G := G) (Q := Q) hSC hn8
      have cl2 : (x.1 2).toNatClampNeg = n := by rw [hI.1.2.1, nI_clamp (by omega)]
      have h28 : (x.1 2 < 8) = (n < 8) := by rw [hI.1.2.1]; exact propext (nI_ltI (b := 8) (by omega) (by omega))
      rw [cl, cl2]
      obtain ⟨b0, ⟨b1, u1⟩, ⟨b2, u2⟩, ⟨b3, u3⟩, ⟨b4, u4⟩, ⟨b5, u5⟩, ⟨b6, u6⟩, r0, r1, r2, r3, r4, r5⟩ := hSC.1
      have gr3 := (hSC.2.2.1.2.2.2.2.2.2.1 C hc3).2.2
      have h01 := (hI.1.2.2.2.2.2.2.2.2 C hc3).2.2
      by_cases hn : n < 8
      · by_cases hcl : x.1 (12 + 3 * C) = 1
        · rw [if_pos (fun z => z.1 hcl)]
          intro Q
          show Rn G 70 0 [some (.ref o), some (.int (nI C)), some (.int pay), some (.int age), none] [] μ Q = _
          simp (disch := first | assumption | (simp only [MM_Kd, rI_Kd, rJ_Kd, sI_Kd, sJ_Kd, sR_Kd]; assumption) | omega | decide) only [q70_0, q70_1, q70_4, q70_7, q70_10, q70_17, q70_18, q70_19, q70_22, q70_25, q70_28, q70_29, q70_32, q70_35, q70_38, q70_41, q70_44, q70_51, q70_51N, q70_52, q70_55, q70_58, q70_58N, q70_60, q70_60N, q70_62, q70_62N, q70_65, q70_65N, q70_66, q70_69, q70_72, q70_73, q70_74, q70_77, q70_80, q70_87, q70_87N, q70_88, q70_91, q70_91N, q70_92, q70_95, q70_98, q70_98N, q70_99, q70_102, q70_102N, q70_104, q70_105, q70_106, q70_107, q70_110, q70_110N, q70_112, q70_115, c105, c104, h1, h3, h4, c00, c10, hn, hc37, o0, r3, u4, gr3, hcl, not_true_eq_false, not_false_eq_true, kd_3, xaf_s, xaf_v, va_rf_s, xix_n, nI_clamp, xk1_i, xk1_a, xk1_u, xk1_n, xk1_l, xk1_d, true_and, and_true, ↓reduceIte, Nat.reduceAdd, xtup]
        · have hcl0 : x.1 (12 + 3 * C) = 0 := h01.resolve_right hcl
          rw [if_neg (fun z => z ⟨hcl, by rw [h28]; exact hn⟩)]
          obtain ⟨q, q1, q2, rfl⟩ := rng (v := pay) (lo := 1) (hi := 9999) (by omega) (by omega) h3
          obtain ⟨a, a1, a2, rfl⟩ := rng (v := age) (lo := 192) (hi := 959) (by omega) (by omega) h4
          obtain ⟨μ1, e1, hH1, hs1, hC1, hSC1, hF1⟩ := c5 (G := G) hC0 hs hSC hI hg hH
          have o0' := hC1.2.1.1
          have ko' := hC1.1
          obtain ⟨μ2, d1, d2, d3⟩ := c40 (G := G) hSC1 hn (nI C) (nI q) (nI a)
          have i3 : xI μ2 (AD (o + 1) π n) 3 = x.1 3 := by
            have := (d2.2.2.2.1 n (by omega) hn).2.1
            rw [this, mw_at (by omega)]
            show zJoin (nI C) (nI q) (nI a) x.1 n (19 + 75 * n) = x.1 3
            unfold zJoin
            rw [up_n (by omega), up_n (by omega), up_n (by omega), up_n (by omega), up_n (by omega), up_e]
          have k4 := (hSC1.hb hn).1
          have k4' := (d2.hb hn).1
          have b0' := hSC1.1.1
          have ev : x.1 3 + 1 - 1 = x.1 3 := Int32.add_sub_cancel _ _
          rw [ev]
          refine ⟨μ2, g, n + 1, π, fun Q => ?_, CST.fin hC1 hs1 hH1 (Nat.le_succ c) d3.fs hg (zJoin_INV hI hn hc3 ⟨q1, q2⟩ (by omega)) d2, fsn hF1 d3.fs⟩
          show Rn G 70 0 [some (.ref o), some (.int (nI C)), some (.int (nI q)), some (.int (nI a)), none] [] μ Q = _
          simp (disch := first | assumption | (simp only [MM_Kd, rI_Kd, rJ_Kd, sI_Kd, sJ_Kd, sR_Kd]; assumption) | omega | decide) only [q70_0, q70_1, q70_4, q70_7, q70_10, q70_17, q70_18, q70_19, q70_22, q70_25, q70_28, q70_29, q70_32, q70_35, q70_38, q70_41, q70_44, q70_51, q70_51N, q70_52, q70_55, q70_58, q70_58N, q70_60, q70_60N, q70_62, q70_62N, q70_65, q70_65N, q70_66, q70_69, q70_72, q70_73, q70_74, q70_77, q70_80, q70_87, q70_87N, q70_88, q70_91, q70_91N, q70_92, q70_95, q70_98, q70_98N, q70_99, q70_102, q70_102N, q70_104, q70_105, q70_106, q70_107, q70_110, q70_110N, q70_112, q70_115, c105, c104, h1, h3, h4, c00, c10, hn, hc37, o0, o2, r3, u4, gr3, hcl0, e1, o0', d1, i3, not_true_eq_false, not_false_eq_true, xaf_s, xaf_v, va_rf_s, xix_n, nI_clamp, xk1_i, xk1_a, xk1_u, xk1_n, xk1_l, xk1_d, true_and, and_true, ↓reduceIte, Nat.reduceAdd, xtup]
      · rw [if_pos (fun z => hn (by rw [← h28]; exact z.2))]
        intro Q
        show Rn G 70 0 [some (.ref o), some (.int (nI C)), some (.int pay), some (.int age), none] [] μ Q = _
        simp (disch := first | assumption | (simp only [MM_Kd, rI_Kd, rJ_Kd, sI_Kd, sJ_Kd, sR_Kd]; assumption) | omega | decide) only [q70_0, q70_1, q70_4, q70_7, q70_10, q70_17, q70_18, q70_19, q70_22, q70_25, q70_28, q70_29, q70_32, q70_35, q70_38, q70_41, q70_44, q70_51, q70_51N, q70_52, q70_55, q70_58, q70_58N, q70_60, q70_60N, q70_62, q70_62N, q70_65, q70_65N, q70_66, q70_69, q70_72, q70_73, q70_74, q70_77, q70_80, q70_87, q70_87N, q70_88, q70_91, q70_91N, q70_92, q70_95, q70_98, q70_98N, q70_99, q70_102, q70_102N, q70_104, q70_105, q70_106, q70_107, q70_110, q70_110N, q70_112, q70_115, c105, c104, h1, h3, h4, c00, c10, hn, hc37, o0, not_true_eq_false, not_false_eq_true, kd_3, xaf_s, xaf_v, va_rf_s, xix_n, nI_clamp, xk1_i, xk1_a, xk1_u, xk1_n, xk1_l, xk1_d, true_and, and_true, ↓reduceIte, Nat.reduceAdd, xtup]
theorem c72 (h : CST μ o c g n π t S x) (id pay : Int32) : CRES G 72 [.int id, .int pay] (kd3 0 1 2) μ o c t S x (pPay id pay x) := by
  obtain ⟨hC, hs, hH, hg, hI, hSC⟩ := h
  have hC0 := hC
  have hn8 := hI.1.2.2.1
  have b0 := hSC.1.1
  obtain ⟨ko, ⟨o0, o1, o2, o3, o4⟩, ⟨k1, k1r⟩, -⟩ := hC
  have hf := fun Q => c35 (G := G) (Q := Q) hSC hI.1 id
  unfold pPay
  rcases pFind_of hI.1 id with hp | ⟨p, hpn, hp, -⟩
  · rw [if_pos hp]
    intro Q
    have hf1 := fun Q => (hf Q).1 hp
    show Rn G 72 0 [some (.ref o), some (.int id), some (.int pay), none, none] [] μ Q = _
    simp (disch := first | assumption | (simp only [MM_Kd, rI_Kd, rJ_Kd, sI_Kd, sJ_Kd, sR_Kd]; assumption) | omega | decide) only [q72_0, q72_0N, q72_1, q72_4, q72_5, q72_8, q72_8N, q72_9, q72_9N, q72_10, q72_10N, q72_13, q72_16, q72_23, q72_24, q72_25, q72_28, q72_31, q72_34, q72_37, q72_44, q72_44N, q72_45, q72_48, q72_51, q72_54, q72_61, q72_61N, q72_62, q72_65, q72_65N, q72_66, q72_69, q72_72, q72_72N, q72_73, q72_76, q72_78, q72_78N, q72_79, q72_80, q72_83, q72_85, o0, hf1, kd_1, xaf_s, xaf_v, va_rf_s, xix_n, nI_clamp, xk1_i, xk1_a, xk1_u, xk1_n, xk1_l, xk1_d, true_and, and_true, ↓reduceIte, Nat.reduceAdd, xtup]
  · have hp8 : p < 8 := by omega
    have hf1 := fun Q => (hf Q).2 p hpn hp
    have cl : (nI p).toNatClampNeg = p := nI_clamp (by omega)
    rw [hp, if_neg (nI_ne1 (by omega)), cl]
    have k4 := (hSC.hb hp8).1
    obtain ⟨m2, m3, m4, m5, m6, m7, m8, m9, m1, -⟩ := (hSC.2.2.2.1 p hpn hp8).w
    obtain ⟨d1, d2, -, -, d5⟩ := (hI.2.2 p hpn).at (by omega)
    by_cases h2 : bad pay 1 9999
    · rw [if_pos h2]
      intro Q
      show Rn G 72 0 [some (.ref o), some (.int id), some (.int pay), none, none] [] μ Q = _
      simp (disch := first | assumption | (simp only [MM_Kd, rI_Kd, rJ_Kd, sI_Kd, sJ_Kd, sR_Kd]; assumption) | omega | decide) only [q72_0, q72_0N, q72_1, q72_4, q72_5, q72_8, q72_8N, q72_9, q72_9N, q72_10, q72_10N, q72_13, q72_16, q72_23, q72_24, q72_25, q72_28, q72_31, q72_34, q72_37, q72_44, q72_44N, q72_45, q72_48, q72_51, q72_54, q72_61, q72_61N, q72_62, q72_65, q72_65N, q72_66, q72_69, q72_72, q72_72N, q72_73, q72_76, q72_78, q72_78N, q72_79, q72_80, q72_83, q72_85, o0, hf1, c104, h2, c00, not_true_eq_false, kd_2, xaf_s, xaf_v, va_rf_s, xix_n, nI_clamp, xk1_i, xk1_a, xk1_u, xk1_n, xk1_l, xk1_d, true_and, and_true, ↓reduceIte, Nat.reduceAdd, xtup]
    · rw [if_neg h2]
      by_cases h7 : x.1 (19 + 75 * p + 7) = 1
      · rw [if_pos h7]
        have i7 : xI μ (AD (o + 1) π p) 7 = 1 := by rw [m7]; exact h7
        intro Q
        show Rn G 72 0 [some (.ref o), some (.int id), some (.int pay), none, none] [] μ Q = _
        simp (disch := first | assumption | (simp only [MM_Kd, rI_Kd, rJ_Kd, sI_Kd, sJ_Kd, sR_Kd]; assumption) | omega | decide) only [q72_0, q72_0N, q72_1, q72_4, q72_5, q72_8, q72_8N, q72_9, q72_9N, q72_10, q72_10N, q72_13, q72_16, q72_23, q72_24, q72_25, q72_28, q72_31, q72_34, q72_37, q72_44, q72_44N, q72_45, q72_48, q72_51, q72_54, q72_61, q72_61N, q72_62, q72_65, q72_65N, q72_66, q72_69, q72_72, q72_72N, q72_73, q72_76, q72_78, q72_78N, q72_79, q72_80, q72_83, q72_85, o0, hf1, c104, h2, c10, i7, not_true_eq_false, not_false_eq_true, kd_3, xaf_s, xaf_v, va_rf_s, xix_n, nI_clamp, xk1_i, xk1_a, xk1_u, xk1_n, xk1_l, xk1_d, true_and, and_true, ↓reduceIte, Nat.reduceAdd, xtup]
      · rw [if_neg h7]
        have i7 : xI μ (AD (o + 1) π p) 7 = 0 := by rw [m7]; exact d5.resolve_right (fun z => h7 z.1)
        obtain ⟨q, q1, q2, rfl⟩ := rng (v := pay) (lo := 1) (hi := 9999) (by omega) (by omega) h2
        obtain ⟨μ1, e1, hH1, hs1, hC1, hSC1, hF1⟩ := c5 (G := G) hC0 hs hSC hI hg hH
        have hmv1 := hSC1.2.2.2.1 p hpn hp8
        have n5 : xI μ1 (AD (o + 1) π p) 5 = x.1 (19 + 75 * p + 2) := hmv1.w.2.2.2.1
        have k4' := (hSC1.hb hp8).1
        obtain ⟨w1, w2⟩ := SC_word (w := 2) (slot := 5) (v := nI q) hSC1 hpn hp8 (by omega) (MV_pay hmv1)
        refine ⟨xsI μ1 (AD (o + 1) π p) 5 (nI q), g, n, π, fun Q => ?_, CST.fin hC1 hs1 hH1 (Nat.le_succ c) w2 hg (INV_word hI hpn (by omega) ((hI.2.2 p hpn).pay q1 q2)) w1, fsn hF1 w2⟩
        show Rn G 72 0 [some (.ref o), some (.int id), some (.int (nI q)), none, none] [] μ Q = _
        simp (disch := first | assumption | (simp only [MM_Kd, rI_Kd, rJ_Kd, sI_Kd, sJ_Kd, sR_Kd]; assumption) | omega | decide) only [q72_0, q72_0N, q72_1, q72_4, q72_5, q72_8, q72_8N, q72_9, q72_9N, q72_10, q72_10N, q72_13, q72_16, q72_23, q72_24, q72_25, q72_28, q72_31, q72_34, q72_37, q72_44, q72_44N, q72_45, q72_48, q72_51, q72_54, q72_61, q72_61N, q72_62, q72_65, q72_65N, q72_66, q72_69, q72_72, q72_72N, q72_73, q72_76, q72_78, q72_78N, q72_79, q72_80, q72_83, q72_85, o0, o2, hf1, c104, h2, c10, i7, e1, n5, not_true_eq_false, not_false_eq_true, xaf_s, xaf_v, va_rf_s, xix_n, nI_clamp, xk1_i, xk1_a, xk1_u, xk1_n, xk1_l, xk1_d, true_and, and_true, ↓reduceIte, Nat.reduceAdd, xtup]
theorem c73 (h : CST μ o c g n π t S x) (id sec : Int32) : CRES G 73 [.int id, .int sec] (kd3 0 2 2) μ o c t S x (pChange id sec x) := by
  obtain ⟨hC, hs, hH, hg, hI, hSC⟩ := h
  have hC0 := hC
  have hn8 := hI.1.2.2.1
  obtain ⟨ko, ⟨o0, o1, o2, o3, o4⟩, ⟨k1, k1r⟩, -⟩ := hC
  obtain ⟨b0, ⟨b1, u1⟩, ⟨b2, u2⟩, ⟨b3, u3⟩, ⟨b4, u4⟩, ⟨b5, u5⟩, ⟨b6, u6⟩, r0, r1, r2, r3, r4, r5⟩ := hSC.1
  have hf := fun Q => c35 (G := G) (Q := Q) hSC hI.1 id
  unfold pChange
  rcases pFind_of hI.1 id with hp | ⟨p, hpn, hp, -⟩
  · rw [if_pos (Or.inl hp)]
    intro Q
    have hf1 := fun Q => (hf Q).1 hp
    show Rn G 73 0 [some (.ref o), some (.int id), some (.int sec), none, none] [] μ Q = _
    simp (disch := first | assumption | (simp only [MM_Kd, rI_Kd, rJ_Kd, sI_Kd, sJ_Kd, sR_Kd]; assumption) | omega | decide) only [q73_0, q73_0N, q73_1, q73_4, q73_5, q73_8, q73_8N, q73_9, q73_9N, q73_10, q73_10N, q73_13, q73_14, q73_17, q73_20, q73_23, q73_30, q73_30N, q73_31, q73_34, q73_37, q73_37N, q73_38, q73_41, q73_42, q73_45, q73_45N, q73_46, q73_49, q73_52, q73_53, q73_54, q73_57, q73_60, q73_67, q73_67N, q73_68, q73_71, q73_71N, q73_72, q73_75, q73_78, q73_78N, q73_79, q73_82, q73_84, q73_84N, q73_85, q73_86, q73_89, q73_91, o0, hf1, kd_1, xaf_s, xaf_v, va_rf_s, xix_n, nI_clamp, xk1_i, xk1_a, xk1_u, xk1_n, xk1_l, xk1_d, true_and, and_true, ↓reduceIte, Nat.reduceAdd, xtup]
  · have hp8 : p < 8 := by omega
    have hf1 := fun Q => (hf Q).2 p hpn hp
    have cl : (nI p).toNatClampNeg = p := nI_clamp (by omega)
    rw [hp, cl]
    have k4 := (hSC.hb hp8).1
    obtain ⟨m2, m3, m4, m5, m6, m7, m8, m9, m1, -⟩ := (hSC.2.2.2.1 p hpn hp8).w
    obtain ⟨d1, d2, -, -, d5⟩ := (hI.2.2 p hpn).at (by omega)
    by_cases h1 : bad sec 0 2
    · rw [if_pos (Or.inr h1)]
      intro Q
      show Rn G 73 0 [some (.ref o), some (.int id), some (.int sec), none, none] [] μ Q = _
      simp (disch := first | assumption | (simp only [MM_Kd, rI_Kd, rJ_Kd, sI_Kd, sJ_Kd, sR_Kd]; assumption) | omega | decide) only [q73_0, q73_0N, q73_1, q73_4, q73_5, q73_8, q73_8N, q73_9, q73_9N, q73_10, q73_10N, q73_13, q73_14, q73_17, q73_20, q73_23, q73_30, q73_30N, q73_31, q73_34, q73_37, q73_37N, q73_38, q73_41, q73_42, q73_45, q73_45N, q73_46, q73_49, q73_52, q73_53, q73_54, q73_57, q73_60, q73_67, q73_67N, q73_68, q73_71, q73_71N, q73_72, q73_75, q73_78, q73_78N, q73_79, q73_82, q73_84, q73_84N, q73_85, q73_86, q73_89, q73_91, o0, hf1, c105, h1, c00, not_true_eq_false, kd_1, xaf_s, xaf_v, va_rf_s, xix_n, nI_clamp, xk1_i, xk1_a, xk1_u, xk1_n, xk1_l, xk1_d, true_and, and_true, ↓reduceIte, Nat.reduceAdd, xtup]
    · rw [if_neg (fun z => z.elim (nI_ne1 (by omega)) h1)]
      obtain ⟨C, hc3, rfl⟩ := sec3 h1
      have clC : (nI C).toNatClampNeg = C := nI_clamp (by omega)
      rw [clC]
      have gr3 := (hSC.2.2.1.2.2.2.2.2.2.1 C hc3).2.2
      have h01 := (hI.1.2.2.2.2.2.2.2.2 C hc3).2.2
      by_cases h7 : x.1 (19 + 75 * p + 7) = 1
      · rw [if_pos (Or.inl h7)]
        have i7 : xI μ (AD (o + 1) π p) 7 = 1 := by rw [m7]; exact h7
        intro Q
        show Rn G 73 0 [some (.ref o), some (.int id), some (.int (nI C)), none, none] [] μ Q = _
        simp (disch := first | assumption | (simp only [MM_Kd, rI_Kd, rJ_Kd, sI_Kd, sJ_Kd, sR_Kd]; assumption) | omega | decide) only [q73_0, q73_0N, q73_1, q73_4, q73_5, q73_8, q73_8N, q73_9, q73_9N, q73_10, q73_10N, q73_13, q73_14, q73_17, q73_20, q73_23, q73_30, q73_30N, q73_31, q73_34, q73_37, q73_37N, q73_38, q73_41, q73_42, q73_45, q73_45N, q73_46, q73_49, q73_52, q73_53, q73_54, q73_57, q73_60, q73_67, q73_67N, q73_68, q73_71, q73_71N, q73_72, q73_75, q73_78, q73_78N, q73_79, q73_82, q73_84, q73_84N, q73_85, q73_86, q73_89, q73_91, o0, hf1, c105, h1, c10, i7, not_true_eq_false, not_false_eq_true, kd_2, xaf_s, xaf_v, va_rf_s, xix_n, nI_clamp, xk1_i, xk1_a, xk1_u, xk1_n, xk1_l, xk1_d, true_and, and_true, ↓reduceIte, Nat.reduceAdd, xtup]
      · have i7 : xI μ (AD (o + 1) π p) 7 = 0 := by rw [m7]; exact d5.resolve_right (fun z => h7 z.1)
        by_cases h8 : x.1 (19 + 75 * p + 1) = nI C
        · rw [if_pos (Or.inr (Or.inl h8))]
          intro Q
          show Rn G 73 0 [some (.ref o), some (.int id), some (.int (nI C)), none, none] [] μ Q = _
          simp (disch := first | assumption | (simp only [MM_Kd, rI_Kd, rJ_Kd, sI_Kd, sJ_Kd, sR_Kd]; assumption) | omega | decide) only [q73_0, q73_0N, q73_1, q73_4, q73_5, q73_8, q73_8N, q73_9, q73_9N, q73_10, q73_10N, q73_13, q73_14, q73_17, q73_20, q73_23, q73_30, q73_30N, q73_31, q73_34, q73_37, q73_37N, q73_38, q73_41, q73_42, q73_45, q73_45N, q73_46, q73_49, q73_52, q73_53, q73_54, q73_57, q73_60, q73_67, q73_67N, q73_68, q73_71, q73_71N, q73_72, q73_75, q73_78, q73_78N, q73_79, q73_82, q73_84, q73_84N, q73_85, q73_86, q73_89, q73_91, o0, hf1, c105, h1, c10, i7, m4, eq_true h8, not_true_eq_false, not_false_eq_true, kd_2, xaf_s, xaf_v, va_rf_s, xix_n, nI_clamp, xk1_i, xk1_a, xk1_u, xk1_n, xk1_l, xk1_d, true_and, and_true, ↓reduceIte, Nat.reduceAdd, xtup]
        · by_cases h9 : x.1 (12 + 3 * C) = 1
          · rw [if_pos (Or.inr (Or.inr h9))]
            intro Q
            show Rn G 73 0 [some (.ref o), some (.int id), some (.int (nI C)), none, none] [] μ Q = _
            simp (disch := first | assumption | (simp only [MM_Kd, rI_Kd, rJ_Kd, sI_Kd, sJ_Kd, sR_Kd]; assumption) | omega | decide) only [q73_0, q73_0N, q73_1, q73_4, q73_5, q73_8, q73_8N, q73_9, q73_9N, q73_10, q73_10N, q73_13, q73_14, q73_17, q73_20, q73_23, q73_30, q73_30N, q73_31, q73_34, q73_37, q73_37N, q73_38, q73_41, q73_42, q73_45, q73_45N, q73_46, q73_49, q73_52, q73_53, q73_54, q73_57, q73_60, q73_67, q73_67N, q73_68, q73_71, q73_71N, q73_72, q73_75, q73_78, q73_78N, q73_79, q73_82, q73_84, q73_84N, q73_85, q73_86, q73_89, q73_91, o0, hf1, c105, h1, c10, i7, m4, h8, r3, u4, gr3, h9, not_true_eq_false, not_false_eq_true, kd_2, xaf_s, xaf_v, va_rf_s, xix_n, nI_clamp, xk1_i, xk1_a, xk1_u, xk1_n, xk1_l, xk1_d, true_and, and_true, ↓reduceIte, Nat.reduceAdd, xtup]
          · rw [if_neg (fun z => z.elim h7 fun z => z.elim h8 h9)]
            have h90 : x.1 (12 + 3 * C) = 0 := h01.resolve_right h9
            obtain ⟨μ1, e1, hH1, hs1, hC1, hSC1, hF1⟩ := c5 (G := G) hC0 hs hSC hI hg hH
            have hmv1 := hSC1.2.2.2.1 p hpn hp8
            have n4 : xI μ1 (AD (o + 1) π p) 4 = x.1 (19 + 75 * p + 1) := hmv1.w.2.2.1
            have k4' := (hSC1.hb hp8).1
            obtain ⟨w1, w2⟩ := SC_word (w := 1) (slot := 4) (v := nI C) hSC1 hpn hp8 (by omega) (MV_own hmv1)
            refine ⟨xsI μ1 (AD (o + 1) π p) 4 (nI C), g, n, π, fun Q => ?_, CST.fin hC1 hs1 hH1 (Nat.le_succ c) w2 hg (INV_word hI hpn (by omega) ((hI.2.2 p hpn).own hc3)) w1, fsn hF1 w2⟩
            show Rn G 73 0 [some (.ref o), some (.int id), some (.int (nI C)), none, none] [] μ Q = _
            simp (disch := first | assumption | (simp only [MM_Kd, rI_Kd, rJ_Kd, sI_Kd, sJ_Kd, sR_Kd]; assumption) | omega | decide) only [q73_0, q73_0N, q73_1, q73_4, q73_5, q73_8, q73_8N, q73_9, q73_9N, q73_10, q73_10N, q73_13, q73_14, q73_17, q73_20, q73_23, q73_30, q73_30N, q73_31, q73_34, q73_37, q73_37N, q73_38, q73_41, q73_42, q73_45, q73_45N, q73_46, q73_49, q73_52, q73_53, q73_54, q73_57, q73_60, q73_67, q73_67N, q73_68, q73_71, q73_71N, q73_72, q73_75, q73_78, q73_78N, q73_79, q73_82, q73_84, q73_84N, q73_85, q73_86, q73_89, q73_91, o0, o2, hf1, c105, h1, c10, i7, m4, h8, r3, u4, gr3, h90, e1, n4, not_true_eq_false, not_false_eq_true, xaf_s, xaf_v, va_rf_s, xix_n, nI_clamp, xk1_i, xk1_a, xk1_u, xk1_n, xk1_l, xk1_d, true_and, and_true, ↓reduceIte, Nat.reduceAdd, xtup]
theorem c74 (h : CST μ o c g n π t S x) (id b : Int32) (hb : b = 0 ∨ b = 1) : CRES G 74 [.int id, .int b] (kd3 0 0 0) μ o c t S x (pFall id b x) := by
  obtain ⟨hC, hs, hH, hg, hI, hSC⟩ := h
  have hC0 := hC
  have hn8 := hI.1.2.2.1
  have b0 := hSC.1.1
  obtain ⟨ko, ⟨o0, o1, o2, o3, o4⟩, ⟨k1, k1r⟩, -⟩ := hC
  have hf := fun Q => c35 (G := G) (Q := Q) hSC hI.1 id
  unfold pFall
  rcases pFind_of hI.1 id with hp | ⟨p, hpn, hp, -⟩
  · rw [if_pos hp]
    intro Q
    have hf1 := fun Q => (hf Q).1 hp
    show Rn G 74 0 [some (.ref o), some (.int id), some (.int b), none, none] [] μ Q = _
    simp (disch := first | assumption | (simp only [MM_Kd, rI_Kd, rJ_Kd, sI_Kd, sJ_Kd, sR_Kd]; assumption) | omega | decide) only [q74_0, q74_0N, q74_1, q74_4, q74_5, q74_8, q74_8N, q74_9, q74_9N, q74_10, q74_10N, q74_13, q74_16, q74_23, q74_23N, q74_24, q74_27, q74_27N, q74_28, q74_31, q74_34, q74_34N, q74_35, q74_38, q74_41, q74_43, q74_43N, q74_44, q74_45, q74_48, q74_50, o0, hf1, kd_1, xaf_s, xaf_v, va_rf_s, xix_n, nI_clamp, xk1_i, xk1_a, xk1_u, xk1_n, xk1_l, xk1_d, true_and, and_true, ↓reduceIte, Nat.reduceAdd, xtup]
  · have hp8 : p < 8 := by omega
    have hf1 := fun Q => (hf Q).2 p hpn hp
    have cl : (nI p).toNatClampNeg = p := nI_clamp (by omega)
    have eb : (if b = 0 then 0 else 1 : Int32) = b := by rcases hb with rfl | rfl <;> rfl
    rw [hp, if_neg (nI_ne1 (by omega)), cl, eb]
    have k4 := (hSC.hb hp8).1
    have h9 : x.1 (19 + 75 * p + 9) = 0 ∨ x.1 (19 + 75 * p + 9) = 1 := by
      obtain ⟨-, -, -, -, a5, -⟩ := hI.2.2 p hpn
      rw [mw_at (by omega)] at a5; exact a5
    obtain ⟨μ1, e1, hH1, hs1, hC1, hSC1, hF1⟩ := c5 (G := G) hC0 hs hSC hI hg hH
    have hmv1 := hSC1.2.2.2.1 p hpn hp8
    have n9 : xI μ1 (AD (o + 1) π p) 9 = x.1 (19 + 75 * p + 9) := hmv1.w.2.2.2.2.2.2.2.1
    have hc107 := fun Q => c107 (G := G) (μ := μ1) (Q := Q) h9
    have k4' := (hSC1.hb hp8).1
    obtain ⟨w1, w2⟩ := SC_word (w := 9) (slot := 9) (v := b) hSC1 hpn hp8 (by omega) (MV_beh hmv1)
    refine ⟨xsI μ1 (AD (o + 1) π p) 9 b, g, n, π, fun Q => ?_, CST.fin hC1 hs1 hH1 (Nat.le_succ c) w2 hg (INV_word hI hpn (by omega) ((hI.2.2 p hpn).behind hb)) w1, fsn hF1 w2⟩
    show Rn G 74 0 [some (.ref o), some (.int id), some (.int b), none, none] [] μ Q = _
    simp (disch := first | assumption | (simp only [MM_Kd, rI_Kd, rJ_Kd, sI_Kd, sJ_Kd, sR_Kd]; assumption) | omega | decide) only [q74_0, q74_0N, q74_1, q74_4, q74_5, q74_8, q74_8N, q74_9, q74_9N, q74_10, q74_10N, q74_13, q74_16, q74_23, q74_23N, q74_24, q74_27, q74_27N, q74_28, q74_31, q74_34, q74_34N, q74_35, q74_38, q74_41, q74_43, q74_43N, q74_44, q74_45, q74_48, q74_50, o0, o2, hf1, e1, n9, hc107, xaf_s, xaf_v, va_rf_s, xix_n, nI_clamp, xk1_i, xk1_a, xk1_u, xk1_n, xk1_l, xk1_d, true_and, and_true, ↓reduceIte, Nat.reduceAdd, xtup]
end PB2
