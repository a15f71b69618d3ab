/-! THE CLASS: RETIRE, SET, PASS -/
theorem mPs_up {s s' : Nat → Int32} {p : Nat} {x more : Int32} (h1 : ∀ j, 10 ≤ j → s' j = s j) : ∀ k i a, mPs s' p x more k i a = mPs s p x more k i a := by
  intro k
  induction k with
  | zero => intro i a; rfl
  | succ k ih =>
    intro i a
    simp only [mPs]
    rw [h1 _ (by omega), h1 _ (by omega), h1 _ (by omega)]
    exact ih _ _
theorem mPen_up {s s' : Nat → Int32} {p : Nat} {x more e : Int32} (h1 : ∀ j, 10 ≤ j → s' j = s j) : mPen s' p x more e = mPen s p x more e := by
  unfold mPen; rw [mPs_up h1]
section PB4
variable {G : xCtx} {μ : xMem} {Q : xOut → xMem → Prop} {o n k c p g t b : Nat} {π : Nat → Nat} {S : Nat → ST} {x : ST}
theorem c77 (h : CST μ o c g n π t S x) (id : Int32) : CRES G 77 [.int id] (kd3 0 2 2) μ o c t S x (pRet id x) := by
  obtain ⟨hC, hs, hH, hg, hI, hSC⟩ := h
  have hC0 := hC
  have hn8 := hI.1.2.2.1
  have b0 := hSC.1.1
  obtain ⟨ko, ⟨o0, o1, o2, o3, o4⟩, ⟨k1, k1r⟩, -⟩ := hC
  have hf := fun Q => c35 (G := G) (Q := Q) hSC hI.1 id
  unfold pRet
  rcases pFind_of hI.1 id with hp | ⟨p, hpn, hp, -⟩
  · rw [if_pos hp]
    intro Q
    have hf1 := fun Q => (hf Q).1 hp
    show Rn G 77 0 [some (.ref o), some (.int id), none, none] [] μ Q = _
    simp (disch := first | assumption | (simp only [MM_Kd, rI_Kd, rJ_Kd, sI_Kd, sJ_Kd, sR_Kd]; assumption) | omega | decide) only [q77_0, q77_0N, q77_1, q77_4, q77_5, q77_8, q77_8N, q77_9, q77_9N, q77_10, q77_10N, q77_13, q77_16, q77_23, q77_23N, q77_24, q77_27, q77_27N, q77_28, q77_31, q77_32, q77_32N, q77_33, q77_36, q77_39, q77_40, q77_42, q77_45, q77_48, q77_55, q77_55N, q77_56, q77_59, q77_59N, q77_60, q77_63, q77_66, q77_66N, q77_67, q77_70, q77_70N, q77_71, q77_74, q77_75, q77_78, q77_78N, q77_79, q77_82, q77_83, q77_86, q77_87, q77_88, q77_91, q77_91N, q77_92, q77_95, o0, hf1, kd_1, xaf_s, xaf_v, va_rf_s, xix_n, nI_clamp, xk1_i, xk1_a, xk1_u, xk1_n, xk1_l, xk1_d, true_and, and_true, ↓reduceIte, Nat.reduceAdd, xtup]
  · have hp8 : p < 8 := by omega
    have hf1 := fun Q => (hf Q).2 p hpn hp
    have cl : (nI p).toNatClampNeg = p := nI_clamp (by omega)
    rw [hp, if_neg (nI_ne1 (by omega)), cl]
    have k4 := (hSC.hb hp8).1
    have hM := hI.2.2 p hpn
    obtain ⟨m2, m3, m4, m5, m6, m7, m8, m9, m1, -⟩ := (hSC.2.2.2.1 p hpn hp8).w
    obtain ⟨d1, d2, d3, d4, d5⟩ := hM.at (by omega)
    obtain ⟨A6, A6a, A6b, A6c⟩ := hI.1.2.2.2.2.1
    obtain ⟨ag, ag1, ag2⟩ : ∃ a, a ≤ 960 ∧ x.1 (19 + 75 * p + 3) = nI a := by
      obtain ⟨-, -, ⟨a, a1, a2⟩, -⟩ := hM
      rw [mw_at (by omega)] at a2; exact ⟨a, a1, a2⟩
    have hc48 := fun Q => c48 (G := G) (Q := Q) hSC.1 (hSC.hb hp8) hSC.2.2.1 (hSC.2.2.2.1 p hpn hp8) A6c ag2 (by omega) (by omega)
    have hcond : (120 < x.1 6 - x.1 (19 + 75 * p + 3)) = (120 < A6 - ag) := by
      rw [A6c, ag2]
      by_cases hle : ag ≤ A6
      · rw [pk_sub hle]; exact propext (nI_ltI (a := 120) (by omega) (by omega))
      · apply propext
        constructor
        · intro z
          have z2 : nI A6 - nI ag ≤ 0 := (early_le (by omega) (by omega)).mpr (by omega)
          exact absurd (Int32.lt_of_lt_of_le z z2) (by decide)
        · intro z; omega
    have n120 : (nI (A6 - ag) ≤ (120 : Int32)) = (A6 - ag ≤ 120) := propext (nI_leI (b := 120) (by omega) (by omega))
    by_cases h7 : x.1 (19 + 75 * p + 7) = 1
    · rw [if_pos (Or.inl h7)]
      have i7 : xI μ (AD (o + 1) π p) 7 = 1 := by rw [m7]; exact h7
      intro Q
      show Rn G 77 0 [some (.ref o), some (.int id), none, none] [] μ Q = _
      simp (disch := first | assumption | (simp only [MM_Kd, rI_Kd, rJ_Kd, sI_Kd, sJ_Kd, sR_Kd]; assumption) | omega | decide) only [q77_0, q77_0N, q77_1, q77_4, q77_5, q77_8, q77_8N, q77_9, q77_9N, q77_10, q77_10N, q77_13, q77_16, q77_23, q77_23N, q77_24, q77_27, q77_27N, q77_28, q77_31, q77_32, q77_32N, q77_33, q77_36, q77_39, q77_40, q77_42, q77_45, q77_48, q77_55, q77_55N, q77_56, q77_59, q77_59N, q77_60, q77_63, q77_66, q77_66N, q77_67, q77_70, q77_70N, q77_71, q77_74, q77_75, q77_78, q77_78N, q77_79, q77_82, q77_83, q77_86, q77_87, q77_88, q77_91, q77_91N, q77_92, q77_95, o0, hf1, hc48, c10, i7, not_true_eq_false, not_false_eq_true, kd_2, xaf_s, xaf_v, va_rf_s, xix_n, nI_clamp, xk1_i, xk1_a, xk1_u, xk1_n, xk1_l, xk1_d, true_and, and_true, ↓reduceIte, Nat.reduceAdd, xtup]
    · have h70 := d5.resolve_right (fun z => h7 z.1)
      have i7 : xI μ (AD (o + 1) π p) 7 = 0 := by rw [m7]; exact h70
      by_cases h8 : 120 < A6 - ag
      · rw [if_pos (Or.inr (by rw [hcond]; exact h8))]
        have h8' : ¬ A6 - ag ≤ 120 := by omega
        intro Q
        show Rn G 77 0 [some (.ref o), some (.int id), none, none] [] μ Q = _
        simp (disch := first | assumption | (simp only [MM_Kd, rI_Kd, rJ_Kd, sI_Kd, sJ_Kd, sR_Kd]; assumption) | omega | decide) only [q77_0, q77_0N, q77_1, q77_4, q77_5, q77_8, q77_8N, q77_9, q77_9N, q77_10, q77_10N, q77_13, q77_16, q77_23, q77_23N, q77_24, q77_27, q77_27N, q77_28, q77_31, q77_32, q77_32N, q77_33, q77_36, q77_39, q77_40, q77_42, q77_45, q77_48, q77_55, q77_55N, q77_56, q77_59, q77_59N, q77_60, q77_63, q77_66, q77_66N, q77_67, q77_70, q77_70N, q77_71, q77_74, q77_75, q77_78, q77_78N, q77_79, q77_82, q77_83, q77_86, q77_87, q77_88, q77_91, q77_91N, q77_92, q77_95, o0, hf1, hc48, c00, i7, n120, h8', not_true_eq_false, not_false_eq_true, kd_2, xaf_s, xaf_v, va_rf_s, xix_n, nI_clamp, xk1_i, xk1_a, xk1_u, xk1_n, xk1_l, xk1_d, true_and, and_true, ↓reduceIte, Nat.reduceAdd, xtup]
      · rw [if_neg (fun z => z.elim h7 (by rw [hcond]; exact h8))]
        have h8' : A6 - ag ≤ 120 := by omega
        obtain ⟨μ1, e1, hH1, hs1, hC1, hSC1, hF1⟩ := c5 (G := G) hC0 hs hSC hI hg hH
        have b0' := hSC1.1.1
        have ko' := hC1.1
        have o0' := hC1.2.1.1
        have hb1 := hSC1.hb hp8
        have k4' := hb1.1
        have hmv1 := hSC1.2.2.2.1 p hpn hp8
        have hc49 := fun Q => c49 (G := G) (Q := Q) hSC1.1 hb1 hSC1.2.2.1 hmv1 hI.1 hM (by omega) (by omega)
        obtain ⟨p1, -⟩ := rest_pen hI.1 hM (by omega) h70 d1 (Int32.not_lt.mp (by rw [hcond]; exact h8))
        have hlo : o + 1 + 7 ≤ AD (o + 1) π p := by unfold AD; omega
        have hpi := (hSC1.2.1.1 p hp8).1
        have hup : AD (o + 1) π p + 6 ≤ o + 56 := by unfold AD; omega
        have bb : ∀ q, AD (o + 1) π p ≤ q → q < AD (o + 1) π p + 6 → BK (o + 1) q := fun q q1 q2 => ⟨by omega, by omega⟩
        generalize hE : x.1 6 - x.1 (19 + 75 * p + 3) = E at *
        have hE0 : (E ≤ 0) = (A6 ≤ ag) := by rw [← hE, A6c, ag2]; exact propext (early_le (by omega) (by omega))
        have fr4 : ∀ P, FR μ1 (xsI (xsI (xsI (xsI μ1 (AD (o + 1) π p) 8 P) (AD (o + 1) π p) 7 1) (AD (o + 1) π p + 2) 3 0) (AD (o + 1) π p + 2) 4 0) (BK (o + 1)) := fun P =>
          (((FR.sI (bb _ (by omega) (by omega))).tr (FR.sI (bb _ (by omega) (by omega)))).tr (FR.sI (bb _ (by omega) (by omega)))).tr (FR.sI (bb _ (by omega) (by omega)))
        have i8 : ∀ P, xI (xsI (xsI (xsI (xsI μ1 (AD (o + 1) π p) 8 P) (AD (o + 1) π p) 7 1) (AD (o + 1) π p + 2) 3 0) (AD (o + 1) π p + 2) 4 0) (AD (o + 1) π p) 8 = P := fun P => by simp only [xI_sI, xJ_sJ, rJ_I, sJ_I, sI_J, rI_J, Nat.add_left_cancel_iff, Nat.reduceEqDiff, Nat.add_eq_left, Nat.left_eq_add, false_and, true_and, and_true, and_false, ↓reduceIte]
        have i10 : ∀ P, xI (xsI (xsI (xsI (xsI μ1 (AD (o + 1) π p) 8 P) (AD (o + 1) π p) 7 1) (AD (o + 1) π p + 2) 3 0) (AD (o + 1) π p + 2) 4 0) (o + 1) 10 = x.1 5 := fun P => by
          rw [sI_n (by omega), sI_n (by omega), sI_n (by omega), sI_n (by omega)]; exact hSC1.2.2.1.2.2.2.2.1
        generalize hv : (if E ≤ 0 then (0 : Int32) else 1) = ev at *
        have hx1 : ∀ j, j ≠ 5 → up x.1 5 (x.1 5 + ev) j = x.1 j := fun j hj => up_n hj
        have hpe : mPen (up x.1 5 (x.1 5 + ev)) p 0 0 E = mPen x.1 p 0 0 E := mPen_up fun j hj => up_n (by omega)
        have zr : zRst p x = (zRet (up x.1 5 (x.1 5 + ev)) p E, x.2) := by unfold zRst; rw [hE, hv]
        have ze : ∀ j, (j < 19 + 75 * p ∨ 19 + 75 * p + 75 ≤ j) → (zRst p x).1 j = up x.1 5 (x.1 5 + ev) j := fun j hj => by rw [zr]; exact zRet_1 hj
        have z8 : (zRst p x).1 (19 + 75 * p + 8) = vPB x.1 p (nI (zOwn x.1 p)) 0 := by
          rw [zr, p1, ← hpe]
          show zRet (up x.1 5 (x.1 5 + ev)) p E (19 + 75 * p + 8) = _
          unfold zRet; rw [up_n (by omega), up_n (by omega), up_e]
        have hmwo : ∀ q, q ≠ p → mw (zRst p x).1 q = mw x.1 q := fun q hq => by
          rw [mw_cg (s := up x.1 5 (x.1 5 + ev)) fun j j1 j2 => ze j (by omega), mw_out (by omega)]
        have hMVr : MV (xsI (xsI (xsI (xsI μ1 (AD (o + 1) π p) 8 (vPB x.1 p (nI (zOwn x.1 p)) 0)) (AD (o + 1) π p) 7 1) (AD (o + 1) π p + 2) 3 0) (AD (o + 1) π p + 2) 4 0) (AD (o + 1) π p) (mw (zRst p x).1 p) := by
          rw [zr]
          exact MV_rest (s := up x.1 5 (x.1 5 + ev)) (by rw [mw_out (by omega)]; exact hmv1) (by rw [p1, hpe])
        have hInv : INV (c + 1) g n (zRst p x) := by
          obtain ⟨j1, j2, j3⟩ := hI.up (Nat.le_succ c)
          have hG1 : GI (up x.1 5 (x.1 5 + ev)) g n (999999999 + 32760 * g) := j1.of (fun j hj _ _ _ h5 => up_n h5) (by rw [up_n (by omega)]; exact j1.2.2.2.1)
          have hM1 : MI (mw (up x.1 5 (x.1 5 + ev)) p) (10060 + g) (g - 60) g := by rw [mw_out (by omega)]; exact hM
          have hmm : MI (mw (zRst p x).1 p) (10060 + g) (g - 60) g := by
            rw [zr]
            by_cases hle : A6 ≤ ag
            · have r := (zRet_ok (y := 0) hG1 hM1 (by omega) (by omega)).1
              have e0 : zRet (up x.1 5 (x.1 5 + ev)) p E = zRet (up x.1 5 (x.1 5 + ev)) p (nI 0) := by
                unfold zRet
                rw [mPen_neg (by rw [hE0]; exact hle), mPen_neg (by decide)]
              dsimp only
              rw [e0]; exact r
            · have r := (zRet_ok (y := A6 - ag) hG1 hM1 (by omega) h8').1
              rw [← pk_sub (by omega), ← A6c, ← ag2, hE] at r
              exact r
          refine ⟨j1.of (fun j hj _ _ _ h5 => by rw [ze j (by omega), hx1 j h5]) (by rw [ze 1 (by omega), hx1 1 (by omega)]; exact j1.2.2.2.1), by rw [zr]; exact j2, fun q hq => ?_⟩
          by_cases hqp : q = p
          · subst hqp; exact hmm
          · rw [hmwo q hqp]; exact j3 q hq
        -- the scheme after the rest, then the count
        have fin : ∀ μ2, FR (xsI (xsI (xsI (xsI μ1 (AD (o + 1) π p) 8 (vPB x.1 p (nI (zOwn x.1 p)) 0)) (AD (o + 1) π p) 7 1) (AD (o + 1) π p + 2) 3 0) (AD (o + 1) π p + 2) 4 0) μ2 (fun q => q = o + 1) → (∀ j, j ≠ 10 → xI μ2 (o + 1) j = xI (xsI (xsI (xsI (xsI μ1 (AD (o + 1) π p) 8 (vPB x.1 p (nI (zOwn x.1 p)) 0)) (AD (o + 1) π p) 7 1) (AD (o + 1) π p + 2) 3 0) (AD (o + 1) π p + 2) 4 0) (o + 1) j) → xI μ2 (o + 1) 10 = x.1 5 + ev → xJ μ2 = xJ μ1 → CST μ2 o (c + 1) g n π (SVt t + 1) (push t S x) (zRst p x) ∧ FS μ μ2 (fun q => o ≤ q ∧ q < o + 443) := by
          intro μ2 hF2 hj h10 hJ
          have hfr : FR μ1 μ2 (BK (o + 1)) := (fr4 _).tr (hF2.mono fun q hq => by rw [hq]; exact ⟨by omega, by omega⟩)
          have hrow : ∀ q, q ≠ o + 1 → (q < AD (o + 1) π p ∨ AD (o + 1) π p + 6 ≤ q) → xI μ2 q = xI μ1 q := fun q h1 h2 => by
            rw [(hF2.2.2.2 q h1).1, sI_n (by omega), sI_n (by omega), sI_n (by omega), sI_n (by omega)]
          have hrow0 : ∀ j, j ≠ 10 → xI μ2 (o + 1) j = xI μ1 (o + 1) j := fun j h1 => by
            rw [hj j h1, sI_n (by omega), sI_n (by omega), sI_n (by omega), sI_n (by omega)]
          obtain ⟨g3, g0, gf, g4, g5, gs, gr, gσ⟩ := hSC1.2.2.1
          have s2 : (zRst p x).2 = x.2 := by rw [zr]
          have hSC2 : SC μ2 (o + 1) π n (zRst p x) := by
            refine ⟨hSC1.1.of hfr.1 (by rw [hfr.2.2.1]), hSC1.2.1.of hfr.1 hfr.2.2.1, ⟨?_, ?_, ?_, ?_, ?_, fun k hk => ?_, fun k hk => ?_, fun k hk => ?_⟩, fun i hi hi8 => ?_, fun i hi hi8 => ?_⟩
            · rw [hrow0 6 (by omega), ze 3 (by omega), hx1 3 (by omega)]; exact g3
            · rw [hrow0 7 (by omega), ze 0 (by omega), hx1 0 (by omega)]; exact g0
            · rw [hJ, ze 1 (by omega), hx1 1 (by omega)]; exact gf
            · rw [hrow0 9 (by omega), ze 4 (by omega), hx1 4 (by omega)]; exact g4
            · rw [h10, ze 5 (by omega), up_e]
            · rw [hrow _ (by omega) (by omega), ze _ (by omega), hx1 _ (by omega)]; exact gs k hk
            · rw [hrow _ (by omega) (by omega), hrow _ (by omega) (by omega), hrow _ (by omega) (by omega), ze _ (by omega), ze _ (by omega), ze _ (by omega), hx1 _ (by omega), hx1 _ (by omega), hx1 _ (by omega)]; exact gr k hk
            · rw [hJ, s2]; exact gσ k hk
            · by_cases hip : i = p
              · subst hip
                exact hMVr.of fun q q1 q2 => (hF2.2.2.2 q (by omega)).1
              · rw [hmwo i hip]
                have : π i ≠ π p := fun z => hip (hSC1.2.1.2.1 i p hi8 hp8 z)
                exact (hSC1.2.2.2.1 i hi hi8).of fun q q1 q2 => hrow q (by unfold AD at q1; omega) (by unfold AD at *; omega)
            · have : π i ≠ π p := fun z => by have := hSC1.2.1.2.1 i p hi8 hp8 z; omega
              rw [hrow _ (by unfold AD; omega) (by unfold AD; omega)]; exact hSC1.2.2.2.2 i hi hi8
          exact ⟨CST.fin hC1 hs1 hH1 (Nat.le_succ c) hfr.fs hg hInv hSC2, fsn hF1 hfr.fs⟩
        by_cases hle : A6 ≤ ag
        · have ev0 : ev = 0 := by rw [← hv, if_pos (by rw [hE0]; exact hle)]
          have n0 : nI (A6 - ag) ≤ (0 : Int32) := by rw [show (0 : Int32) = nI 0 from rfl, nI_leI (by omega) (by omega)]; omega
          obtain ⟨q1, q2⟩ := fin _ FR.rf (fun j _ => rfl) (by rw [i10, ev0]; exact (nI_a0 _).symm) (by rw [sI_J, sI_J, sI_J, sI_J])
          refine ⟨_, g, n, π, fun Q => ?_, q1, q2⟩
          rw [z8]
          show Rn G 77 0 [some (.ref o), some (.int id), none, none] [] μ Q = _
          simp (disch := first | assumption | (simp only [MM_Kd, rI_Kd, rJ_Kd, sI_Kd, sJ_Kd, sR_Kd]; assumption) | omega | decide) only [q77_0, q77_0N, q77_1, q77_4, q77_5, q77_8, q77_8N, q77_9, q77_9N, q77_10, q77_10N, q77_13, q77_16, q77_23, q77_23N, q77_24, q77_27, q77_27N, q77_28, q77_31, q77_32, q77_32N, q77_33, q77_36, q77_39, q77_40, q77_42, q77_45, q77_48, q77_55, q77_55N, q77_56, q77_59, q77_59N, q77_60, q77_63, q77_66, q77_66N, q77_67, q77_70, q77_70N, q77_71, q77_74, q77_75, q77_78, q77_78N, q77_79, q77_82, q77_83, q77_86, q77_87, q77_88, q77_91, q77_91N, q77_92, q77_95, o0, o2, hf1, hc48, c00, i7, n120, h8', e1, o0', hc49, n0, i8, not_true_eq_false, not_false_eq_true, rI_Kd, rI_Ln, rI_R, rI_J, rJ_Kd, rJ_Ln, rJ_R, rJ_I, sI_Kd, sI_Ln, sI_R, sI_J, sJ_Kd, sJ_Ln, sJ_R, sJ_I, sR_Kd, sR_Ln, sR_I, sR_J, xaf_s, xaf_v, va_rf_s, xix_n, nI_clamp, xk1_i, xk1_a, xk1_u, xk1_n, xk1_l, xk1_d, true_and, and_true, ↓reduceIte, Nat.reduceAdd, xtup]
        · have ev1 : ev = 1 := by rw [← hv, if_neg (by rw [hE0]; exact hle)]
          have n0 : ¬ nI (A6 - ag) ≤ (0 : Int32) := by rw [show (0 : Int32) = nI 0 from rfl, nI_leI (by omega) (by omega)]; omega
          obtain ⟨q1, q2⟩ := fin (xsI (xsI (xsI (xsI (xsI μ1 (AD (o + 1) π p) 8 (vPB x.1 p (nI (zOwn x.1 p)) 0)) (AD (o + 1) π p) 7 1) (AD (o + 1) π p + 2) 3 0) (AD (o + 1) π p + 2) 4 0) (o + 1) 10 (x.1 5 + 1)) (FR.sI rfl) (fun j hj => sI_k hj) (by rw [sI_e, ev1]) (by rw [sI_J, sI_J, sI_J, sI_J, sI_J])
          have i8' : ∀ P v, xI (xsI (xsI (xsI (xsI (xsI μ1 (AD (o + 1) π p) 8 P) (AD (o + 1) π p) 7 1) (AD (o + 1) π p + 2) 3 0) (AD (o + 1) π p + 2) 4 0) (o + 1) 10 v) (AD (o + 1) π p) 8 = P := fun P v => by rw [sI_n (by omega)]; exact i8 P
          refine ⟨_, g, n, π, fun Q => ?_, q1, q2⟩
          rw [z8]
          show Rn G 77 0 [some (.ref o), some (.int id), none, none] [] μ Q = _
          simp (disch := first | assumption | (simp only [MM_Kd, rI_Kd, rJ_Kd, sI_Kd, sJ_Kd, sR_Kd]; assumption) | omega | decide) only [q77_0, q77_0N, q77_1, q77_4, q77_5, q77_8, q77_8N, q77_9, q77_9N, q77_10, q77_10N, q77_13, q77_16, q77_23, q77_23N, q77_24, q77_27, q77_27N, q77_28, q77_31, q77_32, q77_32N, q77_33, q77_36, q77_39, q77_40, q77_42, q77_45, q77_48, q77_55, q77_55N, q77_56, q77_59, q77_59N, q77_60, q77_63, q77_66, q77_66N, q77_67, q77_70, q77_70N, q77_71, q77_74, q77_75, q77_78, q77_78N, q77_79, q77_82, q77_83, q77_86, q77_87, q77_88, q77_91, q77_91N, q77_92, q77_95, o0, o2, hf1, hc48, c00, i7, n120, h8', e1, o0', hc49, n0, i10, i8', not_true_eq_false, not_false_eq_true, rI_Kd, rI_Ln, rI_R, rI_J, rJ_Kd, rJ_Ln, rJ_R, rJ_I, sI_Kd, sI_Ln, sI_R, sI_J, sJ_Kd, sJ_Ln, sJ_R, sJ_I, sR_Kd, sR_Ln, sR_I, sR_J, xaf_s, xaf_v, va_rf_s, xix_n, nI_clamp, xk1_i, xk1_a, xk1_u, xk1_n, xk1_l, xk1_d, true_and, and_true, ↓reduceIte, Nat.reduceAdd, xtup]
theorem c79 (h : CST μ o c g n π t S x) (k : Int32) : CRES G 79 [.int k] (kd3 1 2 2) μ o c t S x (pPass k x) := by
  obtain ⟨hC, hs, hH, hg, hI, hSC⟩ := h
  have hC0 := hC
  have hn8 := hI.1.2.2.1
  have b0 := hSC.1.1
  have g0 := hSC.2.2.1.2.1
  obtain ⟨ko, ⟨o0, o1, o2, o3, o4⟩, ⟨k1, k1r⟩, -⟩ := hC
  unfold pPass
  by_cases h1 : bad k 1 120
  · rw [if_pos h1]
    intro Q
    show Rn G 79 0 [some (.ref o), some (.int k)] [] μ Q = _
    simp (disch := first | assumption | (simp only [MM_Kd, rI_Kd, rJ_Kd, sI_Kd, sJ_Kd, sR_Kd]; assumption) | omega | decide) only [q79_0, q79_1, q79_2, q79_4, q79_7, q79_10, q79_13, q79_20, q79_20N, q79_21, q79_24, q79_27, q79_28, q79_29, q79_32, q79_35, q79_38, q79_45, q79_45N, q79_46, q79_49, q79_49N, q79_50, q79_53, q79_56, q79_56N, q79_57, q79_60, q79_61, q79_64, c104, h1, c00, not_true_eq_false, kd_1, xaf_s, xaf_v, va_rf_s, xix_n, nI_clamp, xk1_i, xk1_a, xk1_u, xk1_n, xk1_l, xk1_d, true_and, and_true, ↓reduceIte, Nat.reduceAdd, xtup]
  · rw [if_neg h1]
    by_cases h2 : 9999 < x.1 0 + k
    · rw [if_pos h2]
      intro Q
      show Rn G 79 0 [some (.ref o), some (.int k)] [] μ Q = _
      simp (disch := first | assumption | (simp only [MM_Kd, rI_Kd, rJ_Kd, sI_Kd, sJ_Kd, sR_Kd]; assumption) | omega | decide) only [q79_0, q79_1, q79_2, q79_4, q79_7, q79_10, q79_13, q79_20, q79_20N, q79_21, q79_24, q79_27, q79_28, q79_29, q79_32, q79_35, q79_38, q79_45, q79_45N, q79_46, q79_49, q79_49N, q79_50, q79_53, q79_56, q79_56N, q79_57, q79_60, q79_61, q79_64, c104, h1, c10, o0, g0, Int32.not_le.mpr h2, not_true_eq_false, not_false_eq_true, kd_2, xaf_s, xaf_v, va_rf_s, xix_n, nI_clamp, xk1_i, xk1_a, xk1_u, xk1_n, xk1_l, xk1_d, true_and, and_true, ↓reduceIte, Nat.reduceAdd, xtup]
    · rw [if_neg h2]
      obtain ⟨k, ka, kb, rfl⟩ := rng (v := k) (lo := 1) (hi := 120) (by omega) (by omega) h1
      have cl : (nI k).toNatClampNeg = k := nI_clamp (by omega)
      have cl2 : (x.1 2).toNatClampNeg = n := by rw [hI.1.2.1, nI_clamp (by omega)]
      have hg' : g + k ≤ 9999 := by
        have z := Int32.not_lt.mp h2
        rw [hI.1.1, nI_add, show (9999 : Int32) = nI 9999 from rfl, nI_leI (by omega) (by omega)] at z
        exact z
      rw [cl, cl2]
      obtain ⟨μ1, e1, hH1, hs1, hC1, hSC1, hF1⟩ := c5 (G := G) hC0 hs hSC hI hg hH
      obtain ⟨μ2, w1, w2, w3⟩ := c53 (G := G) hSC1 hI (N := k) (by omega) (by omega)
      have b0' := hSC1.1.1
      have ko' := hC1.1
      have o0' := hC1.2.1.1
      refine ⟨μ2, g + k, n, π, fun Q => ?_, CST.fin hC1 hs1 hH1 (Nat.le_succ c) w3.fs hg' ((zPass_ok k g (x, 0) hI (by omega)).up (Nat.le_succ c)) w2, fsn hF1 w3.fs⟩
      show Rn G 79 0 [some (.ref o), some (.int (nI k))] [] μ Q = _
      simp (disch := first | assumption | (simp only [MM_Kd, rI_Kd, rJ_Kd, sI_Kd, sJ_Kd, sR_Kd]; assumption) | omega | decide) only [q79_0, q79_1, q79_2, q79_4, q79_7, q79_10, q79_13, q79_20, q79_20N, q79_21, q79_24, q79_27, q79_28, q79_29, q79_32, q79_35, q79_38, q79_45, q79_45N, q79_46, q79_49, q79_49N, q79_50, q79_53, q79_56, q79_56N, q79_57, q79_60, q79_61, q79_64, c104, h1, c10, o0, o2, g0, Int32.not_lt.mp h2, e1, o0', w1, not_true_eq_false, not_false_eq_true, xaf_s, xaf_v, va_rf_s, xix_n, nI_clamp, xk1_i, xk1_a, xk1_u, xk1_n, xk1_l, xk1_d, true_and, and_true, ↓reduceIte, Nat.reduceAdd, xtup]
end PB4
