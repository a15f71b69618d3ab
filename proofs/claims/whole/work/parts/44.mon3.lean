/-! THE CLASS: A MONTH'S END, MONTHS -/
section MN3C
variable {G : xCtx} {μ : xMem} {a b f n k c p g F A B S lo hi t : Nat} {π : Nat → Nat} {x : ST}
theorem MV_age {v : Nat → Int32} {z : Int32} (h : MV μ a v) : MV (xsI μ a 6 z) a (up v 3 z) := by
  obtain ⟨a1, a2, a3, a4, a5, a6, a7, a8, a9, f, n, l1, l2, l3, l4, l5, l6⟩ := h
  refine ⟨?_, ?_, ?_, ?_, ?_, ?_, ?_, ?_, fun k hk => ?_, f, n, l1, l2, ?_, ?_, ?_, fun k hk => ?_⟩
  · simp only [xI_sI, xJ_sJ, rJ_I, sJ_I, sI_J, rI_J, Nat.add_left_cancel_iff, Nat.reduceEqDiff, Nat.add_eq_left, Nat.left_eq_add, false_and, true_and, and_true, and_false, ↓reduceIte]; exact a1
  · rw [up_n (by omega)]; simp only [xI_sI, xJ_sJ, rJ_I, sJ_I, sI_J, rI_J, Nat.add_left_cancel_iff, Nat.reduceEqDiff, Nat.add_eq_left, Nat.left_eq_add, false_and, true_and, and_true, and_false, ↓reduceIte]; exact a2
  · rw [up_n (by omega)]; simp only [xI_sI, xJ_sJ, rJ_I, sJ_I, sI_J, rI_J, Nat.add_left_cancel_iff, Nat.reduceEqDiff, Nat.add_eq_left, Nat.left_eq_add, false_and, true_and, and_true, and_false, ↓reduceIte]; exact a3
  · rw [up_n (by omega)]; simp only [xI_sI, xJ_sJ, rJ_I, sJ_I, sI_J, rI_J, Nat.add_left_cancel_iff, Nat.reduceEqDiff, Nat.add_eq_left, Nat.left_eq_add, false_and, true_and, and_true, and_false, ↓reduceIte]; exact a4
  · rw [up_e]; simp only [xI_sI, xJ_sJ, rJ_I, sJ_I, sI_J, rI_J, Nat.add_left_cancel_iff, Nat.reduceEqDiff, Nat.add_eq_left, Nat.left_eq_add, false_and, true_and, and_true, and_false, ↓reduceIte]
  · rw [up_n (by omega)]; simp only [xI_sI, xJ_sJ, rJ_I, sJ_I, sI_J, rI_J, Nat.add_left_cancel_iff, Nat.reduceEqDiff, Nat.add_eq_left, Nat.left_eq_add, false_and, true_and, and_true, and_false, ↓reduceIte]; exact a6
  · rw [up_n (by omega)]; simp only [xI_sI, xJ_sJ, rJ_I, sJ_I, sI_J, rI_J, Nat.add_left_cancel_iff, Nat.reduceEqDiff, Nat.add_eq_left, Nat.left_eq_add, false_and, true_and, and_true, and_false, ↓reduceIte]; exact a7
  · rw [up_n (by omega)]; simp only [xI_sI, xJ_sJ, rJ_I, sJ_I, sI_J, rI_J, Nat.add_left_cancel_iff, Nat.reduceEqDiff, Nat.add_eq_left, Nat.left_eq_add, false_and, true_and, and_true, and_false, ↓reduceIte]; exact a8
  · rw [up_n (by omega)]; simp only [xI_sI, xJ_sJ, rJ_I, sJ_I, sI_J, rI_J, Nat.add_left_cancel_iff, Nat.reduceEqDiff, Nat.add_eq_left, Nat.left_eq_add, false_and, true_and, and_true, and_false, ↓reduceIte]; exact a9 k hk
  · simp only [xI_sI, xJ_sJ, rJ_I, sJ_I, sI_J, rI_J, Nat.add_left_cancel_iff, Nat.reduceEqDiff, Nat.add_eq_left, Nat.left_eq_add, false_and, true_and, and_true, and_false, ↓reduceIte]; exact l3
  · simp only [xI_sI, xJ_sJ, rJ_I, sJ_I, sI_J, rI_J, Nat.add_left_cancel_iff, Nat.reduceEqDiff, Nat.add_eq_left, Nat.left_eq_add, false_and, true_and, and_true, and_false, ↓reduceIte]; exact l4
  · rw [up_n (by omega)]; exact l5
  · rw [up_n (by omega)]; simp only [xI_sI, xJ_sJ, rJ_I, sJ_I, sI_J, rI_J, Nat.add_left_cancel_iff, Nat.reduceEqDiff, Nat.add_eq_left, Nat.left_eq_add, false_and, true_and, and_true, and_false, ↓reduceIte]; exact l6 k hk
/-- scalars do not speak of members' words -/
theorem GV.cg {μ' : xMem} {s s' : Nat → Int32} {σ : Nat → Int64} (h : GV μ b s σ) (e : ∀ q, b ≤ q → q < b + 7 → xI μ' q = xI μ q ∧ xJ μ' q = xJ μ q) (hs : ∀ j, j < 19 → s' j = s j) : GV μ' b s' σ := by
  have h' := h
  obtain ⟨g3, g0, gf, g4, g5, gs, gr, gσ⟩ := h
  refine h'.of (fun q q1 q2 => (e q (by omega) (by omega)).1) (fun j _ => by rw [(e b (by omega) (by omega)).1]) ?_ ?_ (fun j hj => ?_) (fun j hj _ _ => hs j hj)
  · rw [(e b (by omega) (by omega)).1, hs 4 (by omega)]; exact g4
  · rw [(e b (by omega) (by omega)).2, hs 1 (by omega)]; exact gf
  · rw [(e (b + 6) (by omega) (by omega)).2]; exact gσ j hj
theorem old_step {y : ST × Int32} (h : SC μ b π n y.1) (hG : GI y.1.1 g n F) (hM : MI (mw y.1.1 k) S lo hi) (hS : S ≤ 20500) (hw : hi - lo < 62) (hk : k < n) : ∃ μ', (∀ Q l5, ∃ l5', Rn G 59 19 [some (.ref b), some (.int y.2), some (.ref (b + 5)), some (.int (nI 8)), some (.int (nI k)), l5] [] μ Q = Rn G 59 81 [some (.ref b), some (.int (zAge k y).2), some (.ref (b + 5)), some (.int (nI 8)), some (.int (nI k)), l5'] [] μ' Q) ∧ SC μ' b π n (zAge k y).1 ∧ FR μ μ' (TP b π k) := by
  have h0 := h
  have hk8 : k < 8 := by have := hG.2.2.1; omega
  have hb := h.hb hk8
  have hb0 := hb
  have hmv := h.2.2.2.1 k hk hk8
  have hrow := (h.2.1.1 k hk8).2
  have hAD : AD b π k = b + 7 + 6 * π k := rfl
  have hlo : b + 7 ≤ AD b π k := by rw [hAD]; omega
  obtain ⟨hSH, hRW, hGV, -, -⟩ := h
  have hSH0 := hSH
  obtain ⟨b0, ⟨b1, u1⟩, ⟨b2, u2⟩, ⟨b3, u3⟩, ⟨b4, u4⟩, ⟨b5, u5⟩, ⟨b6, u6⟩, r0, r1, r2, r3, r4, r5⟩ := hSH
  obtain ⟨m2, m3, m4, m5, m6, m7, m8, m9, m1, -⟩ := hmv.w
  obtain ⟨d1, d2, d3, d4, d5⟩ := hM.at (by omega)
  obtain ⟨q1, q2⟩ := zAge1_ok hM
  have gI1 : GI (zAge1 y.1.1 k) g n F := hG.of (fun j _ _ _ _ _ => q2 j (by omega)) (by rw [q2 1 (by omega)]; exact hG.2.2.2.1)
  obtain ⟨A6, A6a, A6b, A6c⟩ := gI1.2.2.2.2.1
  have hM1 := q1
  obtain ⟨-, -, ⟨ag, ag1, ag2⟩, -⟩ := q1
  rw [mw_at (by omega)] at ag2
  have s7 : zAge1 y.1.1 k (19 + 75 * k + 7) = y.1.1 (19 + 75 * k + 7) := q2 _ (by omega)
  obtain ⟨h0', -⟩ := hb
  -- the member grows older
  have grow : ∃ μ1, (∀ Q l5, Rn G 59 19 [some (.ref b), some (.int y.2), some (.ref (b + 5)), some (.int (nI 8)), some (.int (nI k)), l5] [] μ Q = Rn G 59 55 [some (.ref b), some (.int y.2), some (.ref (b + 5)), some (.int (nI 8)), some (.int (nI k)), some (.ref (AD b π k))] [] μ1 Q) ∧ MV μ1 (AD b π k) (mw (zAge1 y.1.1 k) k) ∧ FR μ μ1 (fun q => q = AD b π k) := by
    by_cases hc : y.1.1 (19 + 75 * k + 3) < 960
    · have hz : zAge1 y.1.1 k = up y.1.1 (19 + 75 * k + 3) (y.1.1 (19 + 75 * k + 3) + 1) := if_pos hc
      refine ⟨xsI μ (AD b π k) 6 (y.1.1 (19 + 75 * k + 3) + 1), fun Q l5 => ?_, ?_, FR.sI rfl⟩
      · simp (disch := first | assumption | (simp only [MM_Kd, rI_Kd, rJ_Kd, sI_Kd, sJ_Kd, sR_Kd]; assumption) | omega | decide) only [q59_0, q59_1, q59_2, q59_2N, q59_3, q59_6, q59_6N, q59_7, q59_7N, q59_8, q59_8T, q59_9, q59_10, q59_11, q59_15, q59_16, q59_19, q59_19N, q59_20, q59_22, q59_23, q59_23N, q59_25, q59_25N, q59_27, q59_30, q59_33, q59_33N, q59_35, q59_38, q59_41, q59_44, q59_44N, q59_46, q59_47, q59_50, q59_51, q59_52, q59_57, q59_60, q59_63, q59_63N, q59_64, q59_64N, q59_66, q59_69, q59_72, q59_72N, q59_73, q59_73N, q59_75, q59_78, q59_81, q59_84, q59_87, q59_88, hrow, u5, m2, m6, c10, hc, Int32.not_le.mpr hc, rI_Kd, rI_Ln, rI_R, rI_J, rJ_Kd, rJ_Ln, rJ_R, rJ_I, sI_Kd, sI_Ln, sI_R, sI_J, sJ_Kd, sJ_Ln, sJ_R, sJ_I, sR_Kd, sR_Ln, sR_I, sR_J, xaf_s, xaf_v, va_rf_s, xix_n, nI_clamp, xk1_i, xk1_a, xk1_u, xk1_n, xk1_l, xk1_d, true_and, and_true, ↓reduceIte, Nat.reduceAdd, xtup]
      · rw [hz, mw_in (by omega)]; exact MV_age hmv
    · have hz : zAge1 y.1.1 k = y.1.1 := if_neg hc
      refine ⟨μ, fun Q l5 => ?_, by rw [hz]; exact hmv, FR.rf⟩
      simp (disch := first | assumption | (simp only [MM_Kd, rI_Kd, rJ_Kd, sI_Kd, sJ_Kd, sR_Kd]; assumption) | omega | decide) only [q59_0, q59_1, q59_2, q59_2N, q59_3, q59_6, q59_6N, q59_7, q59_7N, q59_8, q59_8T, q59_9, q59_10, q59_11, q59_15, q59_16, q59_19, q59_19N, q59_20, q59_22, q59_23, q59_23N, q59_25, q59_25N, q59_27, q59_30, q59_33, q59_33N, q59_35, q59_38, q59_41, q59_44, q59_44N, q59_46, q59_47, q59_50, q59_51, q59_52, q59_57, q59_60, q59_63, q59_63N, q59_64, q59_64N, q59_66, q59_69, q59_72, q59_72N, q59_73, q59_73N, q59_75, q59_78, q59_81, q59_84, q59_87, q59_88, hrow, u5, m2, m6, c10, hc, Int32.not_lt.mp hc, rI_Kd, rI_Ln, rI_R, rI_J, rJ_Kd, rJ_Ln, rJ_R, rJ_I, sI_Kd, sI_Ln, sI_R, sI_J, sJ_Kd, sJ_Ln, sJ_R, sJ_I, sR_Kd, sR_Ln, sR_I, sR_J, xaf_s, xaf_v, va_rf_s, xix_n, nI_clamp, xk1_i, xk1_a, xk1_u, xk1_n, xk1_l, xk1_d, true_and, and_true, ↓reduceIte, Nat.reduceAdd, xtup]
  obtain ⟨μ1, w1, w2, w3⟩ := grow
  have hfr : FR μ μ1 (TP b π k) := w3.mono fun q hq => Or.inr (Or.inr (by rw [hq]; omega))
  have hSH1 : SH μ1 b := hSH0.of w3.1 (by rw [w3.2.2.1])
  have hb1 : HB μ1 (AD b π k) := hb0.of w3.1 (by rw [w3.2.2.1]) (by rw [w3.2.2.1])
  have hG1 : GV μ1 b (zAge1 y.1.1 k) y.1.2 := hGV.cg (fun q q1 q2 => w3.2.2.2 q (by omega)) (fun j hj => q2 j (by omega))
  have hSC1 : SC μ1 b π n (zAge1 y.1.1 k, y.1.2) := h0.step hk hk8 hfr hG1 w2 (fun j _ hj => mw_cg fun q _ _ => q2 q (by omega))
  have b0' : xKd μ1 b = 6 := hSH1.1
  have h0'' : xKd μ1 (AD b π k) = 4 := hb1.1
  obtain ⟨n2, -, -, -, -, n7, -⟩ := w2.w
  have hc23 := fun Q => c23 (G := G) (Q := Q) hb1 n2 (by rw [n7, s7]; exact d5.imp id And.left)
  have hc48 := fun Q => c48 (G := G) (Q := Q) hSH1 hb1 hG1 w2 A6c ag2 (by omega) (by omega)
  have hcond : (nI (A6 - ag) = (0 : Int32)) = (A6 ≤ ag) := by
    rw [show (0 : Int32) = nI 0 from rfl, nI_eqk _ _ (by omega) (by omega)]; apply propext; omega
  have hcond2 : (zAge1 y.1.1 k 6 - zAge1 y.1.1 k (19 + 75 * k + 3) ≤ 0) = (A6 ≤ ag) := by
    rw [A6c, ag2]; exact propext (early_le (by omega) (by omega))
  have e7 : zAge1 y.1.1 k (19 + 75 * k + 7) = xI μ1 (AD b π k) 7 := n7.symm
  rcases d5 with h7 | ⟨h7, -⟩
  · have i7 : xI μ1 (AD b π k) 7 = 0 := by rw [n7, s7]; exact h7
    by_cases hA : A6 ≤ ag
    · have hz : zAge k y = ((zRet (zAge1 y.1.1 k) k 0, y.1.2), y.2 + 1) := by
        unfold zAge; rw [if_pos ⟨by rw [s7]; exact h7, by rw [hcond2]; exact hA⟩]
      have hc49 := fun Q => c49 (G := G) (Q := Q) hSH1 hb1 hG1 w2 gI1 hM1 hS hw
      have d1' : zOwn (zAge1 y.1.1 k) k < 3 := by unfold zOwn; rw [q2 _ (by omega)]; exact d1
      have hP := (rest_pen gI1 hM1 hS (by rw [s7]; exact h7) d1' (by
        have z : zAge1 y.1.1 k 6 - zAge1 y.1.1 k (19 + 75 * k + 3) ≤ 0 := by rw [hcond2]; exact hA
        exact Int32.le_trans z (by decide))).2 (by rw [hcond2]; exact hA)
      have t0 : ∀ q, AD b π k ≤ q → q < AD b π k + 6 → TP b π k q := fun q q1 q2 => Or.inr (Or.inr ⟨q1, q2⟩)
      have hfr2 : FR μ1 (xsI (xsI (xsI (xsI μ1 (AD b π k) 8 (vPB (zAge1 y.1.1 k) k (nI (zOwn (zAge1 y.1.1 k) k)) 0)) (AD b π k) 7 1) (AD b π k + 2) 3 0) (AD b π k + 2) 4 0) (TP b π k) :=
        (((FR.sI (t0 _ (by omega) (by omega))).tr (FR.sI (t0 _ (by omega) (by omega)))).tr (FR.sI (t0 _ (by omega) (by omega)))).tr (FR.sI (t0 _ (by omega) (by omega)))
      refine ⟨_, fun Q l5 => ⟨some (.ref (AD b π k)), ?_⟩, ?_, hfr.tr hfr2⟩
      · rw [w1, hz]
        simp (disch := first | assumption | (simp only [MM_Kd, rI_Kd, rJ_Kd, sI_Kd, sJ_Kd, sR_Kd]; assumption) | omega | decide) only [q59_0, q59_1, q59_2, q59_2N, q59_3, q59_6, q59_6N, q59_7, q59_7N, q59_8, q59_8T, q59_9, q59_10, q59_11, q59_15, q59_16, q59_19, q59_19N, q59_20, q59_22, q59_23, q59_23N, q59_25, q59_25N, q59_27, q59_30, q59_33, q59_33N, q59_35, q59_38, q59_41, q59_44, q59_44N, q59_46, q59_47, q59_50, q59_51, q59_52, q59_55, q59_55N, q59_57, q59_60, q59_63, q59_63N, q59_64, q59_64N, q59_66, q59_69, q59_72, q59_72N, q59_73, q59_73N, q59_75, q59_78, q59_84, q59_87, q59_88, hc23, i7, c10, hc48, hcond, hA, hc49, not_true_eq_false, rI_Kd, rI_Ln, rI_R, rI_J, rJ_Kd, rJ_Ln, rJ_R, rJ_I, sI_Kd, sI_Ln, sI_R, sI_J, sJ_Kd, sJ_Ln, sJ_R, sJ_I, sR_Kd, sR_Ln, sR_I, sR_J, xaf_s, xaf_v, va_rf_s, xix_n, nI_clamp, xk1_i, xk1_a, xk1_u, xk1_n, xk1_l, xk1_d, true_and, and_true, ↓reduceIte, Nat.reduceAdd, xtup]
      · rw [hz]
        refine hSC1.step hk hk8 hfr2 ?_ (MV_rest w2 hP) (fun j _ hj => ?_)
        · refine hG1.cg (fun q q1 q2 => ⟨?_, rfl⟩) (fun j hj => zRet_1 (by omega))
          rw [sI_n (by omega), sI_n (by omega), sI_n (by omega), sI_n (by omega)]
        · exact mw_cg fun q _ _ => zRet_1 (by omega)
    · have hz : zAge k y = ((zAge1 y.1.1 k, y.1.2), y.2) := by
        unfold zAge; rw [if_neg (fun z => hA (by rw [← hcond2]; exact z.2))]
      refine ⟨μ1, fun Q l5 => ⟨some (.ref (AD b π k)), ?_⟩, by rw [hz]; exact hSC1, hfr⟩
      rw [w1, hz]
      simp (disch := first | assumption | (simp only [MM_Kd, rI_Kd, rJ_Kd, sI_Kd, sJ_Kd, sR_Kd]; assumption) | omega | decide) only [q59_0, q59_1, q59_2, q59_2N, q59_3, q59_6, q59_6N, q59_7, q59_7N, q59_8, q59_8T, q59_9, q59_10, q59_11, q59_15, q59_16, q59_19, q59_19N, q59_20, q59_22, q59_23, q59_23N, q59_25, q59_25N, q59_27, q59_30, q59_33, q59_33N, q59_35, q59_38, q59_41, q59_44, q59_44N, q59_46, q59_47, q59_50, q59_51, q59_52, q59_55, q59_55N, q59_57, q59_60, q59_63, q59_63N, q59_64, q59_64N, q59_66, q59_69, q59_72, q59_72N, q59_73, q59_73N, q59_75, q59_78, q59_84, q59_87, q59_88, hc23, i7, c10, hc48, hcond, hA, not_false_eq_true, rI_Kd, rI_Ln, rI_R, rI_J, rJ_Kd, rJ_Ln, rJ_R, rJ_I, sI_Kd, sI_Ln, sI_R, sI_J, sJ_Kd, sJ_Ln, sJ_R, sJ_I, sR_Kd, sR_Ln, sR_I, sR_J, xaf_s, xaf_v, va_rf_s, xix_n, nI_clamp, xk1_i, xk1_a, xk1_u, xk1_n, xk1_l, xk1_d, true_and, and_true, ↓reduceIte, Nat.reduceAdd, xtup]
  · have i7 : xI μ1 (AD b π k) 7 = 1 := by rw [n7, s7]; exact h7
    have hz : zAge k y = ((zAge1 y.1.1 k, y.1.2), y.2) := by
      unfold zAge; rw [if_neg (fun z => by rw [s7, h7] at z; exact absurd z.1 (by decide))]
    refine ⟨μ1, fun Q l5 => ⟨some (.ref (AD b π k)), ?_⟩, by rw [hz]; exact hSC1, hfr⟩
    rw [w1, hz]
    simp (disch := first | assumption | (simp only [MM_Kd, rI_Kd, rJ_Kd, sI_Kd, sJ_Kd, sR_Kd]; assumption) | omega | decide) only [q59_0, q59_1, q59_2, q59_2N, q59_3, q59_6, q59_6N, q59_7, q59_7N, q59_8, q59_8T, q59_9, q59_10, q59_11, q59_15, q59_16, q59_19, q59_19N, q59_20, q59_22, q59_23, q59_23N, q59_25, q59_25N, q59_27, q59_30, q59_33, q59_33N, q59_35, q59_38, q59_41, q59_44, q59_44N, q59_46, q59_47, q59_50, q59_51, q59_52, q59_55, q59_55N, q59_57, q59_60, q59_63, q59_63N, q59_64, q59_64N, q59_66, q59_69, q59_72, q59_72N, q59_73, q59_73N, q59_75, q59_78, q59_84, q59_87, q59_88, hc23, i7, c10, c00, rI_Kd, rI_Ln, rI_R, rI_J, rJ_Kd, rJ_Ln, rJ_R, rJ_I, sI_Kd, sI_Ln, sI_R, sI_J, sJ_Kd, sJ_Ln, sJ_R, sJ_I, sR_Kd, sR_Ln, sR_I, sR_J, xaf_s, xaf_v, va_rf_s, xix_n, nI_clamp, xk1_i, xk1_a, xk1_u, xk1_n, xk1_l, xk1_d, true_and, and_true, ↓reduceIte, Nat.reduceAdd, xtup]
theorem c59 {y : ST × Int32} (hy : y.2 = 0) (h : SC μ b π n y.1) (hI : Ph y.1 g n F A B (fun _ v => MI v S lo hi)) (hS : S ≤ 20500) (hw : hi - lo < 62) : ∃ μ', (∀ Q, Cn G 59 [.ref b] μ Q = Q (.inl (some (.int (itr zAge n y).2))) μ') ∧ SC μ' b π n (itr zAge n y).1 ∧ FR μ μ' (BK b) := by
  have hn8 := hI.1.2.2.1
  have key : ∀ k i μ, i + k = 8 → SC μ b π n (itr zAge (min i n) y).1 → ∃ μ', (∀ Q l5, Rn G 59 13 [some (.ref b), some (.int (itr zAge (min i n) y).2), some (.ref (b + 5)), some (.int (nI 8)), some (.int (nI i)), l5] [] μ Q = Q (.inl (some (.int (itr zAge n y).2))) μ') ∧ SC μ' b π n (itr zAge n y).1 ∧ FR μ μ' (BK b) := by
    intro k
    induction k with
    | zero =>
      intro i μ hi h
      have h2 : 8 ≤ i := by omega
      rw [Nat.min_eq_right (by omega)] at h ⊢
      refine ⟨μ, fun Q l5 => ?_, h, FR.rf⟩
      rw [q59_13]
      simp (disch := first | assumption | (simp only [MM_Kd, rI_Kd, rJ_Kd, sI_Kd, sJ_Kd, sR_Kd]; assumption) | omega | decide) only [q59_0, q59_1, q59_2, q59_2N, q59_3, q59_6, q59_6N, q59_7, q59_7N, q59_8, q59_8T, q59_9, q59_10, q59_11, q59_15, q59_16, q59_19, q59_19N, q59_20, q59_22, q59_23, q59_23N, q59_25, q59_25N, q59_27, q59_30, q59_33, q59_33N, q59_35, q59_38, q59_41, q59_44, q59_44N, q59_46, q59_47, q59_50, q59_51, q59_52, q59_55, q59_55N, q59_57, q59_60, q59_63, q59_63N, q59_64, q59_64N, q59_66, q59_69, q59_72, q59_72N, q59_73, q59_73N, q59_75, q59_78, q59_81, q59_84, q59_87, q59_88, nI_leI, h2, xaf_s, xaf_v, va_rf_s, xix_n, nI_clamp, xk1_i, xk1_a, xk1_u, xk1_n, xk1_l, xk1_d, true_and, and_true, ↓reduceIte, Nat.reduceAdd, xtup]
    | succ k ih =>
      intro i μ hi h
      have h2 : ¬ 8 ≤ i := by omega
      by_cases hin : i < n
      · rw [Nat.min_eq_left (by omega)] at h ⊢
        obtain ⟨p1, p2, p3⟩ := itr_age hI hS i (by omega)
        obtain ⟨μ1, s1, s2, s3⟩ := old_step (G := G) h p1 (p3 i hin) hS hw hin
        have s2' : SC μ1 b π n (itr zAge (min (i + 1) n) y).1 := by rw [Nat.min_eq_left (by omega)]; exact s2
        obtain ⟨μ', w1, w2, w3⟩ := ih (i + 1) μ1 (by omega) s2'
        rw [Nat.min_eq_left (by omega)] at w1
        refine ⟨μ', fun Q l5 => ?_, w2, (s3.mono (TP_BK (h.2.1.1 i (by omega)).1)).tr w3⟩
        obtain ⟨l5', e⟩ := s1 Q l5
        rw [q59_13]
        simp (disch := first | assumption | (simp only [MM_Kd, rI_Kd, rJ_Kd, sI_Kd, sJ_Kd, sR_Kd]; assumption) | omega | decide) only [q59_0, q59_1, q59_2, q59_2N, q59_3, q59_6, q59_6N, q59_7, q59_7N, q59_8, q59_8T, q59_9, q59_10, q59_11, q59_15, q59_16, q59_20, q59_22, q59_23, q59_23N, q59_25, q59_25N, q59_27, q59_30, q59_33, q59_33N, q59_35, q59_38, q59_41, q59_44, q59_44N, q59_46, q59_47, q59_50, q59_51, q59_52, q59_55, q59_55N, q59_57, q59_60, q59_63, q59_63N, q59_64, q59_64N, q59_66, q59_69, q59_72, q59_72N, q59_73, q59_73N, q59_75, q59_78, q59_81, q59_84, q59_87, q59_88, nI_leI, h2, xaf_s, xaf_v, va_rf_s, xix_n, nI_clamp, xk1_i, xk1_a, xk1_u, xk1_n, xk1_l, xk1_d, true_and, and_true, ↓reduceIte, Nat.reduceAdd, xtup]
        rw [e]
        simp (disch := first | assumption | (simp only [MM_Kd, rI_Kd, rJ_Kd, sI_Kd, sJ_Kd, sR_Kd]; assumption) | omega | decide) only [q59_81, q59_84, nI_1, xaf_s, xaf_v, va_rf_s, xix_n, nI_clamp, xk1_i, xk1_a, xk1_u, xk1_n, xk1_l, xk1_d, true_and, and_true, ↓reduceIte, Nat.reduceAdd, xtup]
        exact w1 Q _
      · rw [Nat.min_eq_right (by omega)] at h ⊢
        have hb := h.hb (show i < 8 by omega)
        have hrow := (h.2.1.1 i (by omega)).2
        have h0 := h.2.2.2.2 i (by omega) (by omega)
        have hc23 := fun Q => c23_0 (G := G) (Q := Q) hb h0
        have b5 := h.1.2.2.2.2.2.1.1
        have u5 := h.1.2.2.2.2.2.1.2
        obtain ⟨h0', -⟩ := hb
        have h' : SC μ b π n (itr zAge (min (i + 1) n) y).1 := by rw [Nat.min_eq_right (by omega)]; exact h
        obtain ⟨μ', w1, w2, w3⟩ := ih (i + 1) μ (by omega) h'
        rw [Nat.min_eq_right (by omega)] at w1
        refine ⟨μ', fun Q l5 => ?_, w2, w3⟩
        rw [q59_13]
        simp (disch := first | exact Or.inl b5 | first | assumption | (simp only [MM_Kd, rI_Kd, rJ_Kd, sI_Kd, sJ_Kd, sR_Kd]; assumption) | omega | decide) only [q59_0, q59_1, q59_2, q59_2N, q59_3, q59_6, q59_6N, q59_7, q59_7N, q59_8, q59_8T, q59_9, q59_10, q59_11, q59_15, q59_16, q59_19, q59_19N, q59_20, q59_22, q59_23, q59_23N, q59_25, q59_25N, q59_27, q59_30, q59_33, q59_33N, q59_35, q59_38, q59_41, q59_44, q59_44N, q59_46, q59_47, q59_50, q59_51, q59_52, q59_55, q59_55N, q59_57, q59_60, q59_63, q59_63N, q59_64, q59_64N, q59_66, q59_69, q59_72, q59_72N, q59_73, q59_73N, q59_75, q59_78, q59_81, q59_84, q59_87, q59_88, nI_leI, h2, hrow, u5, h0, hc23, c00, nI_1, xaf_s, xaf_v, va_rf_s, xix_n, nI_clamp, xk1_i, xk1_a, xk1_u, xk1_n, xk1_l, xk1_d, true_and, and_true, ↓reduceIte, Nat.reduceAdd, xtup]
        exact w1 Q _
  have h0 : SC μ b π n (itr zAge (min 0 n) y).1 := by rw [Nat.zero_min]; exact h
  obtain ⟨μ', w1, w2, w3⟩ := key 8 0 μ (by omega) h0
  refine ⟨μ', fun Q => ?_, w2, w3⟩
  obtain ⟨b0, ⟨b1, u1⟩, ⟨b2, u2⟩, ⟨b3, u3⟩, ⟨b4, u4⟩, ⟨b5, u5⟩, ⟨b6, u6⟩, r0, r1, r2, r3, r4, r5⟩ := h.1
  have w1' := w1 Q none
  rw [Nat.zero_min, show (nI 0 : Int32) = 0 from rfl, show (itr zAge 0 y).2 = 0 from hy] at w1'
  show Rn G 59 0 [some (.ref b), none, none, none, none, none] [] μ Q = _
  simp (disch := first | assumption | (simp only [MM_Kd, rI_Kd, rJ_Kd, sI_Kd, sJ_Kd, sR_Kd]; assumption) | omega | decide) only [q59_0, q59_1, q59_2, q59_2N, q59_3, q59_6, q59_6N, q59_7, q59_7N, q59_8, q59_8T, q59_9, q59_10, q59_11, q59_15, q59_16, q59_19, q59_19N, q59_20, q59_22, q59_23, q59_23N, q59_25, q59_25N, q59_27, q59_30, q59_33, q59_33N, q59_35, q59_38, q59_41, q59_44, q59_44N, q59_46, q59_47, q59_50, q59_51, q59_52, q59_55, q59_55N, q59_57, q59_60, q59_63, q59_63N, q59_64, q59_64N, q59_66, q59_69, q59_72, q59_72N, q59_73, q59_73N, q59_75, q59_78, q59_81, q59_84, q59_87, q59_88, r4, u5, xaf_s, xaf_v, va_rf_s, xix_n, nI_clamp, xk1_i, xk1_a, xk1_u, xk1_n, xk1_l, xk1_d, true_and, and_true, ↓reduceIte, Nat.reduceAdd, xtup]
  exact w1'
theorem c54 (h : SC μ b π n x) (hI : INV c g n x) (hg : g < 10300) : ∃ μ', (∀ Q, Cn G 54 [.ref b] μ Q = Q (.inl (some (.int (zMon n x).2))) μ') ∧ SC μ' b π n (zMon n x).1 ∧ FR μ μ' (BK b) := by
  have hn8 := hI.1.2.2.1
  obtain ⟨μ1, e1, s1, f1⟩ := c55 (G := G) h hI hg
  obtain ⟨μ2, e2, s2, f2⟩ := c57 (G := G) s1 (itr_con' hI hg) hg
  obtain ⟨μ3, e3, s3, f3⟩ := c58 (G := G) s2 (itr_lap' hI hg) (by omega) (by omega)
  obtain ⟨μ4, e4, s4, f4⟩ := c59 (G := G) (y := (itr zOut n (itr zLap n (itr zCon n x)), 0)) rfl s3 (itr_out' hI hg) (by omega) (by omega)
  have b0 := h.1.1
  have k1 : xKd μ1 b = 6 := s1.1.1
  have k2 : xKd μ2 b = 6 := s2.1.1
  have k3 : xKd μ3 b = 6 := s3.1.1
  have k4 : xKd μ4 b = 6 := s4.1.1
  have hz : zMon n x = ((up (itr zAge n (itr zOut n (itr zLap n (itr zCon n x)), 0)).1.1 0 ((itr zAge n (itr zOut n (itr zLap n (itr zCon n x)), 0)).1.1 0 + 1), (itr zAge n (itr zOut n (itr zLap n (itr zCon n x)), 0)).1.2), (itr zAge n (itr zOut n (itr zLap n (itr zCon n x)), 0)).2) := rfl
  rw [hz]
  generalize itr zAge n (itr zOut n (itr zLap n (itr zCon n x)), 0) = w at *
  refine ⟨xsI μ4 b 7 (xI μ4 b 7 + 1), fun Q => ?_, ?_, ((((f1.tr f2).tr f3).tr f4).tr (FR.sI ⟨by omega, by omega⟩))⟩
  · show Rn G 54 0 [some (.ref b), none] [] μ Q = _
    simp (disch := first | assumption | (simp only [MM_Kd, rI_Kd, rJ_Kd, sI_Kd, sJ_Kd, sR_Kd]; assumption) | omega | decide) only [q54_0, q54_0N, q54_1, q54_4, q54_4N, q54_5, q54_8, q54_8N, q54_9, q54_12, q54_12N, q54_13, q54_16, q54_17, q54_17N, q54_18, q54_19, q54_22, q54_23, q54_24, q54_27, q54_28, e1, e2, e3, e4, xaf_s, xaf_v, va_rf_s, xix_n, nI_clamp, xk1_i, xk1_a, xk1_u, xk1_n, xk1_l, xk1_d, true_and, and_true, ↓reduceIte, Nat.reduceAdd, xtup]
  · obtain ⟨a1, a2, ⟨g3, g0, gf, g4, g5, gs, gr, gσ⟩, a4, a5⟩ := s4
    refine ⟨a1.of rfl rfl, a2.of rfl rfl, ⟨?_, ?_, ?_, ?_, ?_, fun k hk => ?_, fun k hk => ?_, gσ⟩, fun i hi hi8 => ?_, fun i hi hi8 => ?_⟩
    · dsimp only; rw [up_n (by omega)]; simp only [xI_sI, xJ_sJ, rJ_I, sJ_I, sI_J, rI_J, Nat.add_left_cancel_iff, Nat.reduceEqDiff, Nat.add_eq_left, Nat.left_eq_add, false_and, true_and, and_true, and_false, ↓reduceIte]; exact g3
    · dsimp only; rw [up_e, sI_e, g0]
    · dsimp only; rw [up_n (by omega)]; exact gf
    · dsimp only; rw [up_n (by omega)]; simp only [xI_sI, xJ_sJ, rJ_I, sJ_I, sI_J, rI_J, Nat.add_left_cancel_iff, Nat.reduceEqDiff, Nat.add_eq_left, Nat.left_eq_add, false_and, true_and, and_true, and_false, ↓reduceIte]; exact g4
    · dsimp only; rw [up_n (by omega)]; simp only [xI_sI, xJ_sJ, rJ_I, sJ_I, sI_J, rI_J, Nat.add_left_cancel_iff, Nat.reduceEqDiff, Nat.add_eq_left, Nat.left_eq_add, false_and, true_and, and_true, and_false, ↓reduceIte]; exact g5
    · dsimp only; rw [up_n (by omega)]; simp only [xI_sI, xJ_sJ, rJ_I, sJ_I, sI_J, rI_J, Nat.add_left_cancel_iff, Nat.reduceEqDiff, Nat.add_eq_left, Nat.left_eq_add, false_and, true_and, and_true, and_false, ↓reduceIte]; exact gs k hk
    · dsimp only; rw [up_n (by omega), up_n (by omega), up_n (by omega)]; simp only [xI_sI, xJ_sJ, rJ_I, sJ_I, sI_J, rI_J, Nat.add_left_cancel_iff, Nat.reduceEqDiff, Nat.add_eq_left, Nat.left_eq_add, false_and, true_and, and_true, and_false, ↓reduceIte]; exact gr k hk
    · dsimp only
      rw [mw_out (by omega)]
      refine (a4 i hi hi8).of fun q q1 q2 => sI_n ?_
      unfold AD at q1; omega
    · rw [sI_n (by unfold AD; omega)]; exact a5 i hi hi8
theorem c53 (h : SC μ b π n x) (hI : INV c g n x) {N : Nat} (hg : g + N < 10300) (hN : N < 100000) : ∃ μ', (∀ Q, Cn G 53 [.ref b, .int (nI N)] μ Q = Q (.inl (some (.int (zPass n N (x, 0)).2))) μ') ∧ SC μ' b π n (zPass n N (x, 0)).1 ∧ FR μ μ' (BK b) := by
  have key : ∀ k i g (y : ST × Int32) μ, i + k = N → INV c g n y.1 → g + k < 10300 → SC μ b π n y.1 → ∃ μ', (∀ Q, Rn G 53 4 [some (.ref b), some (.int (nI N)), some (.int y.2), some (.int (nI i))] [] μ Q = Q (.inl (some (.int (zPass n k y).2))) μ') ∧ SC μ' b π n (zPass n k y).1 ∧ FR μ μ' (BK b) := by
    intro k
    induction k with
    | zero =>
      intro i g y μ hi hI hg h
      have h2 : N ≤ i := by omega
      refine ⟨μ, fun Q => ?_, h, FR.rf⟩
      rw [q53_4]
      simp (disch := first | assumption | (simp only [MM_Kd, rI_Kd, rJ_Kd, sI_Kd, sJ_Kd, sR_Kd]; assumption) | omega | decide) only [q53_0, q53_1, q53_2, q53_3, q53_5, q53_6, q53_9, q53_10, q53_10N, q53_11, q53_14, q53_15, q53_16, q53_19, q53_22, q53_23, nI_leI, h2, xaf_s, xaf_v, va_rf_s, xix_n, nI_clamp, xk1_i, xk1_a, xk1_u, xk1_n, xk1_l, xk1_d, true_and, and_true, ↓reduceIte, Nat.reduceAdd, xtup]
      rfl
    | succ k ih =>
      intro i g y μ hi hI hg h
      have h2 : ¬ N ≤ i := by omega
      obtain ⟨μ1, e1, s1, f1⟩ := c54 (G := G) h hI (by omega)
      obtain ⟨μ', e2, s2, f2⟩ := ih (i + 1) (g + 1) ((zMon n y.1).1, y.2 + (zMon n y.1).2) μ1 (by omega) (zMon_ok hI (by omega)) (by omega) s1
      have b0 := h.1.1
      refine ⟨μ', fun Q => ?_, s2, f1.tr f2⟩
      rw [q53_4]
      simp (disch := first | assumption | (simp only [MM_Kd, rI_Kd, rJ_Kd, sI_Kd, sJ_Kd, sR_Kd]; assumption) | omega | decide) only [q53_0, q53_1, q53_2, q53_3, q53_5, q53_6, q53_9, q53_10, q53_10N, q53_11, q53_14, q53_15, q53_16, q53_19, q53_22, q53_23, nI_leI, h2, e1, nI_1, xaf_s, xaf_v, va_rf_s, xix_n, nI_clamp, xk1_i, xk1_a, xk1_u, xk1_n, xk1_l, xk1_d, true_and, and_true, ↓reduceIte, Nat.reduceAdd, xtup]
      exact e2 Q
  obtain ⟨μ', e2, s2, f2⟩ := key N 0 g (x, 0) μ (by omega) hI hg h
  refine ⟨μ', fun Q => ?_, s2, f2⟩
  show Rn G 53 0 [some (.ref b), some (.int (nI N)), none, none] [] μ Q = _
  simp only [q53_0, q53_1, q53_2, q53_3, xk1_i]
  exact e2 Q
end MN3C
