/-! THE CLASS: CHANGES OF A SCHEME -/
section CHG
variable {G : xCtx} {μ : xMem} {Q : xOut → xMem → Prop} {a b f n k c p g F A B S lo hi t : Nat} {π : Nat → Nat} {x : ST}
theorem c38 (h : SC μ b π n x) (hG : GI x.1 g n F) (hc : c < 3) : Cn G 38 [.ref b, .int (nI c)] μ Q = Q (.inl (some (.int (if x.1 (12 + 3 * c) = 1 then 1 else 0)))) μ := by
  obtain ⟨b0, ⟨b1, u1⟩, ⟨b2, u2⟩, ⟨b3, u3⟩, ⟨b4, u4⟩, ⟨b5, u5⟩, ⟨b6, u6⟩, r0, r1, r2, r3, r4, r5⟩ := h.1
  have e := ((h.2.2.1).2.2.2.2.2.2.1 c hc).2.2
  obtain ⟨-, -, h01⟩ := hG.2.2.2.2.2.2.2.2 c hc
  show Rn G 38 0 [some (.ref b), some (.int (nI c))] [] μ Q = _
  rcases h01 with h0 | h1
  · have e' : xI μ (b + 4) c = 0 := by rw [e, h0]
    have n1 : ¬ x.1 (12 + 3 * c) = 1 := by rw [h0]; decide
    simp (disch := first | assumption | (simp only [MM_Kd, rI_Kd, rJ_Kd, sI_Kd, sJ_Kd, sR_Kd]; assumption) | omega | decide) only [q38_0, q38_1, q38_4, q38_7, q38_7N, q38_8, q38_11, q38_12, q38_13, q38_16, q38_17, q38_20, q38_21, c105, sec_ok hc, c10, r3, u4, e', n1, xaf_s, xaf_v, va_rf_s, xix_n, nI_clamp, xk1_i, xk1_a, xk1_u, xk1_n, xk1_l, xk1_d, true_and, and_true, ↓reduceIte, Nat.reduceAdd, xtup]
  · have e' : xI μ (b + 4) c = 1 := by rw [e, h1]
    simp (disch := first | assumption | (simp only [MM_Kd, rI_Kd, rJ_Kd, sI_Kd, sJ_Kd, sR_Kd]; assumption) | omega | decide) only [q38_0, q38_1, q38_4, q38_7, q38_7N, q38_8, q38_11, q38_12, q38_13, q38_16, q38_17, q38_20, q38_21, c105, sec_ok hc, c10, r3, u4, e', h1, xaf_s, xaf_v, va_rf_s, xix_n, nI_clamp, xk1_i, xk1_a, xk1_u, xk1_n, xk1_l, xk1_d, true_and, and_true, ↓reduceIte, Nat.reduceAdd, xtup]
theorem c39 (h : SC μ b π n x) (hG : GI x.1 g n F) (hF : F < 2 ^ 31 - 10000000) {m : Nat} (hm : m ≤ 9999999) : Cn G 39 [.ref b, .int (nI m)] μ Q = Q (.inl (some (.int (if x.1 1 ≤ 999999999 - nI m then 1 else 0)))) μ := by
  obtain ⟨b0, -⟩ := h.1
  have e := (h.2.2.1).2.2.1
  obtain ⟨f, f1, f2⟩ := hG.2.2.2.1
  have e1 : (xJ μ b 8 + (nI m).toInt64 ≤ (999999999 : Int64)) = (x.1 1 ≤ 999999999 - nI m) := by
    rw [e, f1, nI_ladd (by omega), nI_l (by omega), show (999999999 : Int64) = lN 999999999 from rfl, lN_le (by omega) (by omega), show (999999999 : Int32) = nI 999999999 from rfl, pk_sub (by omega), nI_leI (by omega) (by omega)]
    apply propext; omega
  show Rn G 39 0 [some (.ref b), some (.int (nI m))] [] μ Q = _
  by_cases hc : x.1 1 ≤ 999999999 - nI m
  · have hc' : ¬ (999999999 : Int64) < xJ μ b 8 + (nI m).toInt64 := Int64.not_lt.mpr (by rw [e1]; exact hc)
    simp (disch := first | assumption | (simp only [MM_Kd, rI_Kd, rJ_Kd, sI_Kd, sJ_Kd, sR_Kd]; assumption) | omega | decide) only [q39_0, q39_0N, q39_1, q39_4, q39_5, q39_6, q39_7, q39_10, q39_11, q39_14, q39_15, q39_18, q39_19, cmp_gt, hc', hc, xaf_s, xaf_v, va_rf_s, xix_n, nI_clamp, xk1_i, xk1_a, xk1_u, xk1_n, xk1_l, xk1_d, true_and, and_true, ↓reduceIte, Nat.reduceAdd, xtup]
  · have hc' : (999999999 : Int64) < xJ μ b 8 + (nI m).toInt64 := Int64.not_le.mp (by rw [e1]; exact hc)
    simp (disch := first | assumption | (simp only [MM_Kd, rI_Kd, rJ_Kd, sI_Kd, sJ_Kd, sR_Kd]; assumption) | omega | decide) only [q39_0, q39_0N, q39_1, q39_4, q39_5, q39_6, q39_7, q39_10, q39_11, q39_14, q39_15, q39_18, q39_19, cmp_gt, hc', hc, xaf_s, xaf_v, va_rf_s, xix_n, nI_clamp, xk1_i, xk1_a, xk1_u, xk1_n, xk1_l, xk1_d, true_and, and_true, ↓reduceIte, Nat.reduceAdd, xtup]
theorem c45 (h : SC μ b π n x) (hG : GI x.1 g n F) (hM : MI (mw x.1 p) S lo hi) (hp : p < n) (hp8 : p < 8) (m : Int32) : Cn G 45 [.ref b, .ref (AD b π p), .int m] μ Q = Q (.inl (some (.int (zMths x.1 p m)))) μ := by
  obtain ⟨b0, ⟨b1, u1⟩, ⟨b2, u2⟩, ⟨b3, u3⟩, ⟨b4, u4⟩, ⟨b5, u5⟩, ⟨b6, u6⟩, r0, r1, r2, r3, r4, r5⟩ := h.1
  obtain ⟨-, -, -, hk4, -⟩ := h.row hp8
  obtain ⟨-, -, -, m5, -⟩ := (h.2.2.2.1 p hp hp8).w
  have gs3 := (h.2.2.1).2.2.2.2.2.1 3 (by omega)
  obtain ⟨t, t1, t2, t3⟩ := hG.2.2.2.2.2.2.2.1
  obtain ⟨-, ⟨q, q1, q2, q3⟩, -⟩ := hM
  rw [mw_at (by omega)] at q3
  have i3 : xI μ (b + 1) 3 = nI t := by rw [gs3]; exact t3
  have i5 : xI μ (AD b π p) 5 = nI q := by rw [m5, q3]
  have bb : t * q ≤ 20 * 9999 := Nat.mul_le_mul t2 q2
  have b1' : 1 * 1 ≤ t * q := Nat.mul_le_mul t1 q1
  have n0 : (nI (t * q) ≤ (0 : Int32)) = False := by apply eq_false; rw [show (0 : Int32) = nI 0 from rfl, nI_leI (by omega) (by omega)]; omega
  have n0' : (nI (t * q) = (0 : Int32)) = False := by apply eq_false; rw [show (0 : Int32) = nI 0 from rfl, nI_eq (by omega) (by omega)]; omega
  show Rn G 45 0 [some (.ref b), some (.ref (AD b π p)), some (.int m), none] [] μ Q = _
  unfold zMths
  rw [t3, q3, pk_mul]
  simp (disch := first | assumption | (simp only [MM_Kd, rI_Kd, rJ_Kd, sI_Kd, sJ_Kd, sR_Kd]; assumption) | omega | decide) only [q45_0, q45_0N, q45_1, q45_4, q45_5, q45_5T, q45_6, q45_6N, q45_7, q45_10, q45_11, q45_12, q45_13, q45_16, q45_17, q45_18, q45_19, q45_22, q45_23, r0, u1, xl3, nc3, i3, i5, pk_mul, n0, n0', not_false_eq_true, xaf_s, xaf_v, va_rf_s, xix_n, nI_clamp, xk1_i, xk1_a, xk1_u, xk1_n, xk1_l, xk1_d, true_and, and_true, ↓reduceIte, Nat.reduceAdd, xtup]
theorem c46 (h : SC μ b π n x) (hG : GI x.1 g n F) (hF : F < 2 ^ 31 - 10000000) (hM : MI (mw x.1 p) S lo hi) (hw : hi - lo < 62) (hp : p < n) (hp8 : p < 8) {m : Nat} (hm : m ≤ 9999999) : Cn G 46 [.ref b, .ref (AD b π p), .int (nI m)] μ Q = Q (.inl (some (.int (if pCanT x.1 p (nI m) then 0 else 1)))) μ := by
  obtain ⟨b0, -⟩ := h.1
  obtain ⟨-, -, -, hk4, -⟩ := h.row hp8
  obtain ⟨m2, m3, m4, m5, m6, m7, m8, m9, m1, -⟩ := (h.2.2.2.1 p hp hp8).w
  obtain ⟨d1, d2, -, -, d5⟩ := hM.at (by omega)
  have i4 : xI μ (AD b π p) 4 = nI (zOwn x.1 p) := by rw [m4]; exact d2
  have hc24 := fun Q => c24 (G := G) (Q := Q) (h.hb hp8) d1
  have hc45 := fun Q => c45 (G := G) (Q := Q) h hG hM hp hp8 (nI m)
  have hc38 := fun Q => c38 (G := G) (Q := Q) h hG d1
  have hc39 := fun Q => c39 (G := G) (Q := Q) h hG hF hm
  have i1 := m1 _ d1
  show Rn G 46 0 [some (.ref b), some (.ref (AD b π p)), some (.int (nI m)), none] [] μ Q = _
  unfold pCanT
  generalize zOwn x.1 p = C at *
  rcases d5 with h7 | ⟨h7, -⟩
  · have i7 : xI μ (AD b π p) 7 = 0 := by rw [m7]; exact h7
    have n7 : ¬ x.1 (19 + 75 * p + 7) = 1 := by rw [h7]; decide
    by_cases hs : x.1 (12 + 3 * C) = 1
    · simp (disch := first | assumption | (simp only [MM_Kd, rI_Kd, rJ_Kd, sI_Kd, sJ_Kd, sR_Kd]; assumption) | omega | decide) only [q46_0, q46_0N, q46_1, q46_1N, q46_2, q46_5, q46_8, q46_8N, q46_9, q46_9N, q46_10, q46_11, q46_14, q46_15, q46_16, q46_16N, q46_17, q46_20, q46_23, q46_23N, q46_24, q46_24N, q46_25, q46_28, q46_31, q46_34, q46_35, q46_38, q46_41, q46_41N, q46_42, q46_43, q46_46, q46_49, q46_50, q46_53, q46_54, i4, hc24, hc45, hc38, hc39, i1, i7, n7, eq_true hs, c10, c00, not_true_eq_false, not_false_eq_true, false_and, and_false, xaf_s, xaf_v, va_rf_s, xix_n, nI_clamp, xk1_i, xk1_a, xk1_u, xk1_n, xk1_l, xk1_d, true_and, and_true, ↓reduceIte, Nat.reduceAdd, xtup]
    · by_cases h9 : x.1 (19 + 75 * p + (4 + C)) + zMths x.1 p (nI m) ≤ 9999
      · by_cases hr : x.1 1 ≤ 999999999 - nI m
        · simp (disch := first | assumption | (simp only [MM_Kd, rI_Kd, rJ_Kd, sI_Kd, sJ_Kd, sR_Kd]; assumption) | omega | decide) only [q46_0, q46_0N, q46_1, q46_1N, q46_2, q46_5, q46_8, q46_8N, q46_9, q46_9N, q46_10, q46_11, q46_14, q46_15, q46_16, q46_16N, q46_17, q46_20, q46_23, q46_23N, q46_24, q46_24N, q46_25, q46_28, q46_31, q46_34, q46_35, q46_38, q46_41, q46_41N, q46_42, q46_43, q46_46, q46_49, q46_50, q46_53, q46_54, i4, hc24, hc45, hc38, hc39, i1, i7, n7, hs, h9, Int32.not_lt.mpr h9, hr, c10, c00, not_true_eq_false, not_false_eq_true, and_self, xaf_s, xaf_v, va_rf_s, xix_n, nI_clamp, xk1_i, xk1_a, xk1_u, xk1_n, xk1_l, xk1_d, true_and, and_true, ↓reduceIte, Nat.reduceAdd, xtup]
        · simp (disch := first | assumption | (simp only [MM_Kd, rI_Kd, rJ_Kd, sI_Kd, sJ_Kd, sR_Kd]; assumption) | omega | decide) only [q46_0, q46_0N, q46_1, q46_1N, q46_2, q46_5, q46_8, q46_8N, q46_9, q46_9N, q46_10, q46_11, q46_14, q46_15, q46_16, q46_16N, q46_17, q46_20, q46_23, q46_23N, q46_24, q46_24N, q46_25, q46_28, q46_31, q46_34, q46_35, q46_38, q46_41, q46_41N, q46_42, q46_43, q46_46, q46_49, q46_50, q46_53, q46_54, i4, hc24, hc45, hc38, hc39, i1, i7, n7, hs, h9, Int32.not_lt.mpr h9, hr, c10, c00, not_true_eq_false, not_false_eq_true, false_and, and_false, xaf_s, xaf_v, va_rf_s, xix_n, nI_clamp, xk1_i, xk1_a, xk1_u, xk1_n, xk1_l, xk1_d, true_and, and_true, ↓reduceIte, Nat.reduceAdd, xtup]
      · simp (disch := first | assumption | (simp only [MM_Kd, rI_Kd, rJ_Kd, sI_Kd, sJ_Kd, sR_Kd]; assumption) | omega | decide) only [q46_0, q46_0N, q46_1, q46_1N, q46_2, q46_5, q46_8, q46_8N, q46_9, q46_9N, q46_10, q46_11, q46_14, q46_15, q46_16, q46_16N, q46_17, q46_20, q46_23, q46_23N, q46_24, q46_24N, q46_25, q46_28, q46_31, q46_34, q46_35, q46_38, q46_41, q46_41N, q46_42, q46_43, q46_46, q46_49, q46_50, q46_53, q46_54, i4, hc24, hc45, hc38, hc39, i1, i7, n7, hs, h9, Int32.not_le.mp h9, c10, c00, not_true_eq_false, not_false_eq_true, false_and, and_false, xaf_s, xaf_v, va_rf_s, xix_n, nI_clamp, xk1_i, xk1_a, xk1_u, xk1_n, xk1_l, xk1_d, true_and, and_true, ↓reduceIte, Nat.reduceAdd, xtup]
  · have i7 : xI μ (AD b π p) 7 = 1 := by rw [m7]; exact h7
    simp (disch := first | assumption | (simp only [MM_Kd, rI_Kd, rJ_Kd, sI_Kd, sJ_Kd, sR_Kd]; assumption) | omega | decide) only [q46_0, q46_0N, q46_1, q46_1N, q46_2, q46_5, q46_8, q46_8N, q46_9, q46_9N, q46_10, q46_11, q46_14, q46_15, q46_16, q46_16N, q46_17, q46_20, q46_23, q46_23N, q46_24, q46_24N, q46_25, q46_28, q46_31, q46_34, q46_35, q46_38, q46_41, q46_41N, q46_42, q46_43, q46_46, q46_49, q46_50, q46_53, q46_54, i4, hc24, hc45, i1, i7, eq_true h7, c10, c00, not_true_eq_false, not_false_eq_true, false_and, xaf_s, xaf_v, va_rf_s, xix_n, nI_clamp, xk1_i, xk1_a, xk1_u, xk1_n, xk1_l, xk1_d, true_and, and_true, ↓reduceIte, Nat.reduceAdd, xtup]
theorem c47 (h : SC μ b π n x) (hG : GI x.1 g n F) (hF : F < 2 ^ 31 - 10000000) (hM : MI (mw x.1 p) S lo hi) (hw : hi - lo < 62) (hp : p < n) (hp8 : p < 8) {m : Nat} (hm : m ≤ 9999999) : ∃ μ', (∀ Q, Cn G 47 [.ref b, .ref (AD b π p), .int (nI m)] μ Q = Q (.inl (some (.int (zMths x.1 p (nI m))))) μ') ∧ SC μ' b π n (zTran p (nI m) x) ∧ FR μ μ' (BK b) := by
  obtain ⟨b0, ⟨b1, u1⟩, ⟨b2, u2⟩, ⟨b3, u3⟩, ⟨b4, u4⟩, ⟨b5, u5⟩, ⟨b6, u6⟩, r0, r1, r2, r3, r4, r5⟩ := h.1
  obtain ⟨-, -, -, hk4, -⟩ := h.row hp8
  have hmv := h.2.2.2.1 p hp hp8
  obtain ⟨m2, m3, m4, m5, m6, m7, m8, m9, m1, -⟩ := hmv.w
  obtain ⟨d1, d2, -, -, d5⟩ := hM.at (by omega)
  have i4 : xI μ (AD b π p) 4 = nI (zOwn x.1 p) := by rw [m4]; exact d2
  have hc45 := fun Q => c45 (G := G) (Q := Q) h hG hM hp hp8 (nI m)
  have hb := h.hb hp8
  have hc25 := fun Q => c25 (G := G) (Q := Q) hb d1 (zMths x.1 p (nI m))
  obtain ⟨f, f1, f2⟩ := hG.2.2.2.1
  have hG0 := h.2.2.1
  obtain ⟨g3, g0, gf, g4, g5, gs, gr, gσ⟩ := h.2.2.1
  have hlo : b + 7 ≤ AD b π p := by unfold AD; omega
  have hpi := (h.2.1.1 p hp8).1
  have hfr : FR μ (xsJ (xsJ (xsI μ (AD b π p + 1) (zOwn x.1 p) (xI μ (AD b π p + 1) (zOwn x.1 p) + zMths x.1 p (nI m))) b 8 (xJ μ b 8 + (nI m).toInt64)) (b + 6) 2 (xJ μ (b + 6) 2 + (nI m).toInt64)) (TP b π p) :=
    ((FR.sI (Or.inr (Or.inr ⟨by omega, by omega⟩))).tr (FR.sJ (Or.inl rfl))).tr (FR.sJ (Or.inr (Or.inl rfl)))
  refine ⟨_, fun Q => ?_, ?_, hfr.mono (TP_BK hpi)⟩
  · show Rn G 47 0 [some (.ref b), some (.ref (AD b π p)), some (.int (nI m)), none] [] μ Q = _
    simp (disch := first | assumption | (simp only [MM_Kd, rI_Kd, rJ_Kd, sI_Kd, sJ_Kd, sR_Kd]; assumption) | omega | decide) only [q47_0, q47_0N, q47_1, q47_1N, q47_2, q47_3, q47_6, q47_7, q47_7N, q47_8, q47_8N, q47_9, q47_12, q47_13, q47_16, q47_16N, q47_17, q47_18, q47_21, q47_22, q47_23, q47_24, q47_27, q47_27N, q47_28, q47_31, q47_32, q47_33, q47_34, q47_35, q47_36, q47_37, q47_38, q47_39, i4, hc45, hc25, r5, u6, xl2, nc2, sJ_n, rI_Kd, rI_Ln, rI_R, rI_J, rJ_Kd, rJ_Ln, rJ_R, rJ_I, sI_Kd, sI_Ln, sI_R, sI_J, sJ_Kd, sJ_Ln, sJ_R, sJ_I, sR_Kd, sR_Ln, sR_I, sR_J, xaf_s, xaf_v, va_rf_s, xix_n, nI_clamp, xk1_i, xk1_a, xk1_u, xk1_n, xk1_l, xk1_d, true_and, and_true, ↓reduceIte, Nat.reduceAdd, xtup]
  · unfold zTran
    refine h.step hp hp8 hfr ?_ ?_ ?_
    · refine hG0.of (fun q q1 q2 => ?_) (fun j hj => ?_) ?_ ?_ (fun j hj => ?_) (fun j hj j1 j4 => ?_)
      · rw [sJ_I, sJ_I, sI_n (by omega)]
      · rw [sJ_I, sJ_I, sI_n (by omega)]
      · dsimp only; rw [sJ_I, sJ_I, sI_n (by omega), up_n (by omega), up_n (by omega)]; exact g4
      · dsimp only; rw [sJ_n (by omega), sJ_e, up_n (by omega), up_e, gf, f1, nI_ladd (by omega), nI_add]
      · dsimp only
        by_cases hj0 : j = 2
        · subst hj0; rw [sJ_e, up_e, gσ 2 (by omega)]
        · rw [sJ_k hj0, up_n hj0, sJ_n (by omega)]; exact gσ j hj
      · dsimp only; rw [up_n (by omega), up_n (by omega)]
    · dsimp only
      have e : x.1 (19 + 75 * p + (4 + zOwn x.1 p)) = mw x.1 p (4 + zOwn x.1 p) := (mw_at (by omega)).symm
      rw [mw_in (by omega), mw_out (by omega), e]
      exact (MV_serve (z := zMths x.1 p (nI m)) hmv d1).of fun q _ _ => rfl
    · intro j _ hj
      dsimp only
      rw [mw_out (by omega), mw_out (by omega)]
/-- a member starts in a free row -/
theorem c21_loop (hb : HB μ a) {l1 l2 l3 : Option Value} {l4 : Int32} : ∀ k i, i + k = 3 → Rn G 21 44 [some (.ref a), l1, l2, l3, some (.int l4), some (.int (nI i))] [] (xrI μ (a + 1) (cpy (fun _ => 0) (xI μ (a + 1)) 0 i)) Q = Rn G 21 64 [some (.ref a), l1, l2, l3, some (.int l4), some (.int (nI 3))] [] (xrI μ (a + 1) (cpy (fun _ => 0) (xI μ (a + 1)) 0 3)) Q := by
  obtain ⟨h0, ⟨h1, e1⟩, h2, -, -, -, p0, p1, -⟩ := hb
  have z3 : (3 : Int32) = nI 3 := rfl
  have ec : ∀ i, up (cpy (fun _ => (0 : Int32)) (xI μ (a + 1)) 0 i) i 0 = cpy (fun _ => 0) (xI μ (a + 1)) 0 (i + 1) := fun i => cpy_1'
  intro k
  induction k with
  | zero =>
    intro i hi
    have h2' : 3 ≤ i := by omega
    rw [q21_44]
    simp (disch := first | assumption | (simp only [MM_Kd, rI_Kd, rJ_Kd, sI_Kd, sJ_Kd, sR_Kd]; assumption) | omega | decide) only [q21_0, q21_0N, q21_1, q21_2, q21_5, q21_5N, q21_6, q21_7, q21_10, q21_10N, q21_11, q21_12, q21_15, q21_15N, q21_16, q21_17, q21_20, q21_20N, q21_21, q21_23, q21_26, q21_26N, q21_27, q21_28, q21_31, q21_31N, q21_32, q21_33, q21_36, q21_36N, q21_37, q21_38, q21_41, q21_42, q21_46, q21_47, q21_50, q21_50N, q21_51, q21_54, q21_56, q21_57, q21_58, q21_61, q21_65, q21_68, q21_71, z3, nI_leI, h2', xaf_s, xaf_v, va_rf_s, xix_n, nI_clamp, xk1_i, xk1_a, xk1_u, xk1_n, xk1_l, xk1_d, true_and, and_true, ↓reduceIte, Nat.reduceAdd, xtup]
    rw [show i = 3 by omega]
  | succ k ih =>
    intro i hi
    have h2' : ¬ 3 ≤ i := by omega
    rw [q21_44]
    simp (disch := first | assumption | (simp only [MM_Kd, rI_Kd, rJ_Kd, sI_Kd, sJ_Kd, sR_Kd]; assumption) | omega | decide) only [q21_0, q21_0N, q21_1, q21_2, q21_5, q21_5N, q21_6, q21_7, q21_10, q21_10N, q21_11, q21_12, q21_15, q21_15N, q21_16, q21_17, q21_20, q21_20N, q21_21, q21_23, q21_26, q21_26N, q21_27, q21_28, q21_31, q21_31N, q21_32, q21_33, q21_36, q21_36N, q21_37, q21_38, q21_41, q21_42, q21_46, q21_47, q21_50, q21_50N, q21_51, q21_54, q21_56, q21_57, q21_58, q21_61, q21_65, q21_68, q21_71, z3, nI_leI, h2', p0, e1, rI_sI, ec, nI_1, rI_Kd, rI_Ln, rI_R, rI_J, rJ_Kd, rJ_Ln, rJ_R, rJ_I, sI_Kd, sI_Ln, sI_R, sI_J, sJ_Kd, sJ_Ln, sJ_R, sJ_I, sR_Kd, sR_Ln, sR_I, sR_J, xaf_s, xaf_v, va_rf_s, xix_n, nI_clamp, xk1_i, xk1_a, xk1_u, xk1_n, xk1_l, xk1_d, true_and, and_true, ↓reduceIte, Nat.reduceAdd, xtup]
    exact ih (i + 1) (by omega)
def STM (μ : xMem) (a : Nat) (num sec pay age : Int32) : xMem := xsI (xsI (xrI (xsI (xsI (xsI (xsI (xsI (xsI (xsI (xsI μ a 2 1) a 3 num) a 4 sec) a 5 pay) a 6 age) a 7 0) a 8 0) a 9 0) (a + 1) (cpy (fun _ => 0) (xI μ (a + 1)) 0 3)) (a + 2) 3 0) (a + 2) 4 0
theorem c21 (hb : HB μ a) (num sec pay age : Int32) : Cn G 21 [.ref a, .int num, .int sec, .int pay, .int age] μ Q = Q (.inl none) (STM μ a num sec pay age) := by
  have hb0 := hb
  obtain ⟨h0, ⟨h1, e1⟩, h2, -, -, -, p0, p1, -⟩ := hb
  have e := c21_loop (G := G) (Q := Q) (μ := xsI (xsI (xsI (xsI (xsI (xsI (xsI (xsI μ a 2 1) a 3 num) a 4 sec) a 5 pay) a 6 age) a 7 0) a 8 0) a 9 0) (a := a) (hb0.of rfl rfl rfl) (l1 := some (.int num)) (l2 := some (.int sec)) (l3 := some (.int pay)) (l4 := age) 3 0 (by omega)
  rw [cpy_0, rI_self, show (nI 0 : Int32) = 0 from rfl] at e
  have hc18 := fun Q => c18 (G := G) (Q := Q) (μ := xrI (xsI (xsI (xsI (xsI (xsI (xsI (xsI (xsI μ a 2 1) a 3 num) a 4 sec) a 5 pay) a 6 age) a 7 0) a 8 0) a 9 0) (a + 1) (cpy (fun _ => 0) (xI (xsI (xsI (xsI (xsI (xsI (xsI (xsI (xsI μ a 2 1) a 3 num) a 4 sec) a 5 pay) a 6 age) a 7 0) a 8 0) a 9 0) (a + 1)) 0 3)) (a := a) (hb0.of rfl rfl rfl)
  show Rn G 21 0 [some (.ref a), some (.int num), some (.int sec), some (.int pay), some (.int age), none] [] μ Q = _
  simp (disch := first | assumption | (simp only [MM_Kd, rI_Kd, rJ_Kd, sI_Kd, sJ_Kd, sR_Kd]; assumption) | omega | decide) only [q21_0, q21_0N, q21_1, q21_2, q21_5, q21_5N, q21_6, q21_7, q21_10, q21_10N, q21_11, q21_12, q21_15, q21_15N, q21_16, q21_17, q21_20, q21_20N, q21_21, q21_23, q21_26, q21_26N, q21_27, q21_28, q21_31, q21_31N, q21_32, q21_33, q21_36, q21_36N, q21_37, q21_38, q21_41, q21_42, q21_46, q21_47, q21_50, q21_50N, q21_51, q21_54, q21_56, q21_57, q21_58, q21_61, q21_65, q21_68, q21_71, rI_Kd, rI_Ln, rI_R, rI_J, rJ_Kd, rJ_Ln, rJ_R, rJ_I, sI_Kd, sI_Ln, sI_R, sI_J, sJ_Kd, sJ_Ln, sJ_R, sJ_I, sR_Kd, sR_Ln, sR_I, sR_J, xaf_s, xaf_v, va_rf_s, xix_n, nI_clamp, xk1_i, xk1_a, xk1_u, xk1_n, xk1_l, xk1_d, true_and, and_true, ↓reduceIte, Nat.reduceAdd, xtup]
  refine e.trans ?_
  simp (disch := first | assumption | (simp only [MM_Kd, rI_Kd, rJ_Kd, sI_Kd, sJ_Kd, sR_Kd]; assumption) | omega | decide) only [q21_64, q21_65, q21_68, q21_71, p1, hc18, rI_Kd, rI_Ln, rI_R, rI_J, rJ_Kd, rJ_Ln, rJ_R, rJ_I, sI_Kd, sI_Ln, sI_R, sI_J, sJ_Kd, sJ_Ln, sJ_R, sJ_I, sR_Kd, sR_Ln, sR_I, sR_J, xaf_s, xaf_v, va_rf_s, xix_n, nI_clamp, xk1_i, xk1_a, xk1_u, xk1_n, xk1_l, xk1_d, true_and, and_true, ↓reduceIte, Nat.reduceAdd, xtup]
  unfold STM
  rw [sI_n (by omega), sI_n (by omega), sI_n (by omega), sI_n (by omega), sI_n (by omega), sI_n (by omega), sI_n (by omega), sI_n (by omega)]
theorem sI_1 {k : Nat} {v : Int32} : (xsI μ a k v).1 = μ.1 := rfl
theorem rI_1 {w : Nat → Int32} : (xrI μ a w).1 = μ.1 := rfl
theorem sI_2 {k : Nat} {v : Int32} : (xsI μ a k v).2.1 = μ.2.1 := rfl
theorem rI_2 {w : Nat → Int32} : (xrI μ a w).2.1 = μ.2.1 := rfl
theorem STM_1 {num sec pay age : Int32} : (STM μ a num sec pay age).1 = μ.1 := by unfold STM; simp only [sI_1, rI_1]
theorem STM_2 {num sec pay age : Int32} : (STM μ a num sec pay age).2.1 = μ.2.1 := by unfold STM; simp only [sI_2, rI_2]
theorem STM_R {num sec pay age : Int32} : xR (STM μ a num sec pay age) = xR μ := by unfold STM; simp only [sI_R, rI_R]
theorem STM_J {num sec pay age : Int32} : xJ (STM μ a num sec pay age) = xJ μ := by unfold STM; simp only [sI_J, rI_J]
theorem STM_MV {num sec pay age : Int32} {v : Nat → Int32} (v0 : v 0 = num) (v1 : v 1 = sec) (v2 : v 2 = pay) (v3 : v 3 = age) (vz : ∀ w, 4 ≤ w → w < 11 → v w = 0) : MV (STM μ a num sec pay age) a v := by
  have r1 : ∀ k, xI (STM μ a num sec pay age) (a + 1) k = cpy (fun _ => 0) (xI μ (a + 1)) 0 3 k := fun k => by
    unfold STM; rw [sI_n (by omega), sI_n (by omega), rI_e]
  have r0 : ∀ k, xI (STM μ a num sec pay age) a k = xI (xsI (xsI (xsI (xsI (xsI (xsI (xsI (xsI μ a 2 1) a 3 num) a 4 sec) a 5 pay) a 6 age) a 7 0) a 8 0) a 9 0) a k := fun k => by
    unfold STM; rw [sI_n (by omega), sI_n (by omega), rI_n (by omega)]
  refine ⟨?_, ?_, ?_, ?_, ?_, ?_, ?_, ?_, fun k hk => ?_, 0, 0, by omega, by omega, ?_, ?_, ?_, fun k hk => absurd hk (by omega)⟩
  · rw [r0]; simp only [xI_sI, xJ_sJ, rJ_I, sJ_I, sI_J, rI_J, Nat.add_left_cancel_iff, Nat.reduceEqDiff, Nat.add_eq_left, Nat.left_eq_add, false_and, true_and, and_true, and_false, ↓reduceIte]
  · rw [r0, v0]; simp only [xI_sI, xJ_sJ, rJ_I, sJ_I, sI_J, rI_J, Nat.add_left_cancel_iff, Nat.reduceEqDiff, Nat.add_eq_left, Nat.left_eq_add, false_and, true_and, and_true, and_false, ↓reduceIte]
  · rw [r0, v1]; simp only [xI_sI, xJ_sJ, rJ_I, sJ_I, sI_J, rI_J, Nat.add_left_cancel_iff, Nat.reduceEqDiff, Nat.add_eq_left, Nat.left_eq_add, false_and, true_and, and_true, and_false, ↓reduceIte]
  · rw [r0, v2]; simp only [xI_sI, xJ_sJ, rJ_I, sJ_I, sI_J, rI_J, Nat.add_left_cancel_iff, Nat.reduceEqDiff, Nat.add_eq_left, Nat.left_eq_add, false_and, true_and, and_true, and_false, ↓reduceIte]
  · rw [r0, v3]; simp only [xI_sI, xJ_sJ, rJ_I, sJ_I, sI_J, rI_J, Nat.add_left_cancel_iff, Nat.reduceEqDiff, Nat.add_eq_left, Nat.left_eq_add, false_and, true_and, and_true, and_false, ↓reduceIte]
  · rw [r0, vz 7 (by omega) (by omega)]; simp only [xI_sI, xJ_sJ, rJ_I, sJ_I, sI_J, rI_J, Nat.add_left_cancel_iff, Nat.reduceEqDiff, Nat.add_eq_left, Nat.left_eq_add, false_and, true_and, and_true, and_false, ↓reduceIte]
  · rw [r0, vz 8 (by omega) (by omega)]; simp only [xI_sI, xJ_sJ, rJ_I, sJ_I, sI_J, rI_J, Nat.add_left_cancel_iff, Nat.reduceEqDiff, Nat.add_eq_left, Nat.left_eq_add, false_and, true_and, and_true, and_false, ↓reduceIte]
  · rw [r0, vz 9 (by omega) (by omega)]; simp only [xI_sI, xJ_sJ, rJ_I, sJ_I, sI_J, rI_J, Nat.add_left_cancel_iff, Nat.reduceEqDiff, Nat.add_eq_left, Nat.left_eq_add, false_and, true_and, and_true, and_false, ↓reduceIte]
  · rw [r1, cpy_i' hk, vz _ (by omega) (by omega)]
  · unfold STM; rw [sI_k (by omega), sI_e]; rfl
  · unfold STM; rw [sI_e]; rfl
  · rw [vz 10 (by omega) (by omega)]; rfl
theorem c40 (h : SC μ b π n x) (hn : n < 8) (sec pay age : Int32) : ∃ μ', (∀ Q, Cn G 40 [.ref b, .ref (AD b π n), .int sec, .int pay, .int age] μ Q = Q (.inl none) μ') ∧ SC μ' b π (n + 1) (zJoin sec pay age x.1 n, x.2) ∧ FR μ μ' (BK b) := by
  obtain ⟨-, -, -, hk4, -⟩ := h.row hn
  have hb := h.hb hn
  have hc21 := fun Q => c21 (G := G) (Q := Q) hb (x.1 3) sec pay age
  have hSH := h.1
  have b0 := hSH.1
  obtain ⟨g3, g0, gf, g4, g5, gs, gr, gσ⟩ := h.2.2.1
  have hlo : b + 7 ≤ AD b π n := by unfold AD; omega
  have hpi := (h.2.1.1 n hn).1
  have hup : AD b π n + 6 ≤ b + 55 := by unfold AD; omega
  have t0 : ∀ q, AD b π n ≤ q → q < AD b π n + 6 → BK b q := fun q q1 q2 => ⟨by omega, by omega⟩
  have nr : ∀ q, (q < AD b π n ∨ AD b π n + 3 ≤ q) → xI (STM μ (AD b π n) (x.1 3) sec pay age) q = xI μ q := by
    intro q hq
    unfold STM
    rw [sI_n (by omega), sI_n (by omega), rI_n (by omega), sI_n (by omega), sI_n (by omega), sI_n (by omega), sI_n (by omega), sI_n (by omega), sI_n (by omega), sI_n (by omega), sI_n (by omega)]
  have hfr : FR μ (STM μ (AD b π n) (x.1 3) sec pay age) (fun q => AD b π n ≤ q ∧ q < AD b π n + 3) :=
    ⟨STM_1, STM_2, STM_R, fun q hq => ⟨nr q (by omega), by rw [STM_J]⟩⟩
  have ib : ∀ k, xI (STM μ (AD b π n) (x.1 3) sec pay age) b k = xI μ b k := fun k => by rw [nr b (by omega)]
  have kb : xKd (STM μ (AD b π n) (x.1 3) sec pay age) b = 6 := by unfold xKd; rw [STM_1]; exact b0
  refine ⟨xsI (STM μ (AD b π n) (x.1 3) sec pay age) b 6 (x.1 3 + 1), fun Q => ?_, ?_, (hfr.mono fun q hq => t0 q hq.1 (by omega)).tr (FR.sI ⟨by omega, by omega⟩)⟩
  · show Rn G 40 0 [some (.ref b), some (.ref (AD b π n)), some (.int sec), some (.int pay), some (.int age)] [] μ Q = _
    simp (disch := first | assumption | (simp only [MM_Kd, rI_Kd, rJ_Kd, sI_Kd, sJ_Kd, sR_Kd]; assumption) | omega | decide) only [q40_0, q40_0N, q40_1, q40_1N, q40_2, q40_5, q40_6, q40_7, q40_9, q40_12, q40_12N, q40_13, q40_14, q40_17, q40_18, q40_19, q40_22, hc21, g3, ib, xaf_s, xaf_v, va_rf_s, xix_n, nI_clamp, xk1_i, xk1_a, xk1_u, xk1_n, xk1_l, xk1_d, true_and, and_true, ↓reduceIte, Nat.reduceAdd, xtup]
  · have far : ∀ j, j < 8 → j ≠ n → ∀ q, AD b π j ≤ q → q < AD b π j + 6 → xI (xsI (STM μ (AD b π n) (x.1 3) sec pay age) b 6 (x.1 3 + 1)) q = xI μ q := by
      intro j hj hji q h1 h2
      have : π j ≠ π n := fun z => hji (h.2.1.2.1 j n hj hn z)
      have hj7 : b + 7 ≤ AD b π j := by unfold AD; omega
      rw [sI_n (by omega)]
      apply nr
      unfold AD at *; omega
    have js : ∀ j, j < 19 → j ≠ 2 → j ≠ 3 → zJoin sec pay age x.1 n j = x.1 j := by
      intro j h1 h2 h3
      unfold zJoin
      rw [up_n h3, up_n h2, up_n (by omega), up_n (by omega), up_n (by omega), up_n (by omega)]
      exact zZer_o (by omega)
    have f1 : (xsI (STM μ (AD b π n) (x.1 3) sec pay age) b 6 (x.1 3 + 1)).1 = μ.1 := by rw [sI_1, STM_1]
    have f2 : xR (xsI (STM μ (AD b π n) (x.1 3) sec pay age) b 6 (x.1 3 + 1)) = xR μ := by rw [sI_R, STM_R]
    have f3 : xJ (xsI (STM μ (AD b π n) (x.1 3) sec pay age) b 6 (x.1 3 + 1)) = xJ μ := by rw [sI_J, STM_J]
    have hSH' := hSH.of f1 (by rw [f2])
    have hRW' := h.2.1.of f1 f2
    refine ⟨hSH', hRW', ⟨?_, ?_, ?_, ?_, ?_, fun k hk => ?_, fun k hk => ?_, fun k hk => ?_⟩, fun i hi hi8 => ?_, fun i hi hi8 => ?_⟩
    · dsimp only; rw [sI_e]; unfold zJoin; rw [up_e]
    · dsimp only; rw [sI_k (by omega), ib, js 0 (by omega) (by omega) (by omega)]; exact g0
    · dsimp only; rw [f3, js 1 (by omega) (by omega) (by omega)]; exact gf
    · dsimp only; rw [sI_k (by omega), ib, js 4 (by omega) (by omega) (by omega)]; exact g4
    · dsimp only; rw [sI_k (by omega), ib, js 5 (by omega) (by omega) (by omega)]; exact g5
    · dsimp only; rw [sI_n (by omega), nr _ (by omega), js _ (by omega) (by omega) (by omega)]; exact gs k hk
    · dsimp only; rw [sI_n (by omega), sI_n (by omega), sI_n (by omega), nr _ (by omega), nr _ (by omega), nr _ (by omega), js _ (by omega) (by omega) (by omega), js _ (by omega) (by omega) (by omega), js _ (by omega) (by omega) (by omega)]; exact gr k hk
    · rw [f3]; exact gσ k hk
    · dsimp only
      by_cases hin : i = n
      · subst hin
        have zw : ∀ w, w < 75 → mw (zJoin sec pay age x.1 i) i w = if w = 3 then age else if w = 2 then pay else if w = 1 then sec else if w = 0 then x.1 3 else 0 := by
          intro w hw
          rw [mw_at hw]
          unfold zJoin
          rw [up_n (by omega), up_n (by omega)]
          by_cases e3 : w = 3
          · subst e3; rw [up_e]; rfl
          · rw [up_n (by omega), if_neg e3]
            by_cases e2 : w = 2
            · subst e2; rw [up_e]; rfl
            · rw [up_n (by omega), if_neg e2]
              by_cases e1 : w = 1
              · subst e1; rw [up_e]; rfl
              · rw [up_n (by omega), if_neg e1]
                by_cases e0 : w = 0
                · subst e0; rw [Nat.add_zero, up_e]; rfl
                · rw [up_n (by omega), if_neg e0]
                  unfold zZer; rw [if_pos (by omega)]
        refine (STM_MV (v := mw (zJoin sec pay age x.1 i) i) (μ := μ) (a := AD b π i) (num := x.1 3) (sec := sec) (pay := pay) (age := age) ?_ ?_ ?_ ?_ (fun w w1 w2 => ?_)).of fun q q1 q2 => sI_n (by omega)
        · rw [zw 0 (by omega)]; rfl
        · rw [zw 1 (by omega)]; rfl
        · rw [zw 2 (by omega)]; rfl
        · rw [zw 3 (by omega)]; rfl
        · rw [zw w (by omega), if_neg (by omega), if_neg (by omega), if_neg (by omega), if_neg (by omega)]
      · have ew : mw (zJoin sec pay age x.1 n) i = mw x.1 i := by
          unfold zJoin
          rw [mw_out (by omega), mw_out (by omega), mw_out (by omega), mw_out (by omega), mw_out (by omega), mw_out (by omega)]
          exact mw_cg fun j h1 h2 => zZer_o (by omega)
        rw [ew]
        exact (h.2.2.2.1 i (by omega) hi8).of (far i hi8 hin)
    · rw [far i hi8 (by omega) _ (Nat.le_refl _) (by omega)]; exact h.2.2.2.2 i (by omega) hi8
end CHG
