/-! THE CLASS: SET, UNDO, THE BUFFER -/
theorem ch_ok : ∀ q : Fin 127, vp_nar .char (nI q) = nI q ∧ ((nI q).toUInt32 % 65536).toInt32 = nI q := by decide +kernel
/-- the limits of settings lie where they lay -/
def CTX (G : xCtx) (μ : xMem) : Prop := ∀ j, j < 3 → xKd μ (G.1 j) = 0 ∧ ∃ f, G.2 (G.1 j) = some (4, f) ∧ ∀ i, i < 4 → f i = xsv j i
def CBF (μ : xMem) (o L : Nat) (tx : Nat → Int32) : Prop := L ≤ 60 ∧ xI μ (o + 443) 1 = nI L ∧ ∀ k, k < L → xI μ (o + 444) k = tx k ∧ ¬ bad (tx k) 33 126
section PB5
variable {G : xCtx} {μ : xMem} {Q : xOut → xMem → Prop} {o n k c p g t b L : Nat} {π : Nat → Nat} {S : Nat → ST} {x : ST} {tx : Nat → Int32}
theorem c78 (hX : CTX G μ) (h : CST μ o c g n π t S x) (k v : Int32) : CRES G 78 [.int k, .int v] (kd3 0 1 1) μ o c t S x (pSet k v x) := by
  obtain ⟨hC, hs, hH, hg, hI, hSC⟩ := h
  have hC0 := hC
  have hn8 := hI.1.2.2.1
  obtain ⟨ko, ⟨o0, o1, o2, o3, o4⟩, ⟨k1, k1r⟩, -⟩ := hC
  obtain ⟨z1, fl, gl, el⟩ := hX 1 (by omega)
  obtain ⟨z2, fh, gh, eh⟩ := hX 2 (by omega)
  unfold pSet
  by_cases h1 : bad k 0 3
  · rw [if_pos h1]
    intro Q
    show Rn G 78 0 [some (.ref o), some (.int k), some (.int v), none] [] μ Q = _
    simp (disch := first | assumption | (simp only [MM_Kd, rI_Kd, rJ_Kd, sI_Kd, sJ_Kd, sR_Kd]; assumption) | omega | decide) only [q78_0, q78_1, q78_4, q78_7, q78_10, q78_17, q78_18, q78_21, q78_22, q78_22T, q78_23, q78_26, q78_27, q78_27T, q78_28, q78_31, q78_34, q78_37, q78_44, q78_44N, q78_45, q78_48, q78_48N, q78_49, q78_52, q78_55, q78_55N, q78_56, q78_59, q78_62, q78_63, q78_63T, q78_64, q78_65, q78_65N, q78_66, q78_69, q78_72, q78_73, q78_74, q78_75, q78_76, c106, h1, c00, not_true_eq_false, kd_1, xaf_s, xaf_v, va_rf_s, xix_n, nI_clamp, xk1_i, xk1_a, xk1_u, xk1_n, xk1_l, xk1_d, true_and, and_true, ↓reduceIte, Nat.reduceAdd, xtup]
  · rw [if_neg h1]
    obtain ⟨i, -, i3, rfl⟩ := rng (v := k) (lo := 0) (hi := 3) (by omega) (by omega) h1
    have eL : fl i = setLo (nI i) ∧ fh i = setHi (nI i) := by
      rw [el i (by omega), eh i (by omega)]
      have : i = 0 ∨ i = 1 ∨ i = 2 ∨ i = 3 := by omega
      rcases this with rfl | rfl | rfl | rfl <;> decide
    obtain ⟨eL, eH⟩ := eL
    by_cases h2 : bad v (setLo (nI i)) (setHi (nI i))
    · rw [if_pos h2]
      intro Q
      show Rn G 78 0 [some (.ref o), some (.int (nI i)), some (.int v), none] [] μ Q = _
      simp (disch := first | assumption | (simp only [MM_Kd, rI_Kd, rJ_Kd, sI_Kd, sJ_Kd, sR_Kd]; assumption) | omega | decide) only [q78_22T z1 gl, q78_27T z2 gh, q78_0, q78_1, q78_4, q78_7, q78_10, q78_17, q78_18, q78_21, q78_23, q78_26, q78_28, q78_31, q78_34, q78_37, q78_44, q78_44N, q78_45, q78_48, q78_48N, q78_49, q78_52, q78_55, q78_55N, q78_56, q78_59, q78_62, q78_63, q78_63T, q78_64, q78_65, q78_65N, q78_66, q78_69, q78_72, q78_73, q78_74, q78_75, q78_76, c106, c104, h1, eL, eH, h2, c10, c00, not_true_eq_false, not_false_eq_true, kd_2, xaf_s, xaf_v, va_rf_s, xix_n, nI_clamp, xk1_i, xk1_a, xk1_u, xk1_n, xk1_l, xk1_d, true_and, and_true, ↓reduceIte, Nat.reduceAdd, xtup]
    · rw [if_neg h2]
      have cl : (nI i).toNatClampNeg = i := nI_clamp (by omega)
      rw [cl]
      obtain ⟨μ1, e1, hH1, hs1, hC1, hSC1, hF1⟩ := c5 (G := G) hC0 hs hSC hI hg hH
      obtain ⟨b0, ⟨b1, u1⟩, ⟨b2, u2⟩, ⟨b3, u3⟩, ⟨b4, u4⟩, ⟨b5, u5⟩, ⟨b6, u6⟩, r0, r1, r2, r3, r4, r5⟩ := hSC1.1
      obtain ⟨g3, g0, gf, g4, g5, gs, gr, gσ⟩ := hSC1.2.2.1
      have ko' := hC1.1
      have o0' := hC1.2.1.1
      have gsi := gs i (by omega)
      have hfr : FR μ1 (xsI μ1 (o + 1 + 1) i v) (fun q => o + 1 ≤ q ∧ q < o + 1 + 7) := FR.sI ⟨by omega, by omega⟩
      have hx' : ∀ j, j ≠ 6 + i → up x.1 (6 + i) v j = x.1 j := fun j h1 => up_n h1
      refine ⟨xsI μ1 (o + 1 + 1) i v, g, n, π, fun Q => ?_, CST.fin hC1 hs1 hH1 (Nat.le_succ c) (hfr.fs.mono fun q hq => ⟨by omega, by omega⟩) hg ?_ ?_, fsn hF1 (hfr.fs.mono fun q hq => ⟨by omega, by omega⟩)⟩
      · show Rn G 78 0 [some (.ref o), some (.int (nI i)), some (.int v), none] [] μ Q = _
        simp (disch := first | assumption | (simp only [MM_Kd, rI_Kd, rJ_Kd, sI_Kd, sJ_Kd, sR_Kd]; assumption) | omega | decide) only [q78_22T z1 gl, q78_27T z2 gh, q78_0, q78_1, q78_4, q78_7, q78_10, q78_17, q78_18, q78_21, q78_23, q78_26, q78_28, q78_31, q78_34, q78_37, q78_44, q78_44N, q78_45, q78_48, q78_48N, q78_49, q78_52, q78_55, q78_55N, q78_56, q78_59, q78_62, q78_63, q78_63T, q78_64, q78_65, q78_65N, q78_66, q78_69, q78_72, q78_73, q78_74, q78_75, q78_76, c106, c104, h1, eL, eH, h2, c10, c00, o0, o2, e1, o0', r0, u1, gsi, not_true_eq_false, not_false_eq_true, rI_Kd, rI_Ln, rI_R, rI_J, rJ_Kd, rJ_Ln, rJ_R, rJ_I, sI_Kd, sI_Ln, sI_R, sI_J, sJ_Kd, sJ_Ln, sJ_R, sJ_I, sR_Kd, sR_Ln, sR_I, sR_J, xaf_s, xaf_v, va_rf_s, xix_n, nI_clamp, xk1_i, xk1_a, xk1_u, xk1_n, xk1_l, xk1_d, true_and, and_true, ↓reduceIte, Nat.reduceAdd, xtup]
      · obtain ⟨i1, i2, i3'⟩ := hI.up (Nat.le_succ c)
        obtain ⟨a1, a2, a3, a4, a5, a6, a7, a8, a9⟩ := i1
        refine ⟨⟨?_, ?_, a3, ?_, ?_, ?_, ?_, ?_, fun k hk => ?_⟩, i2, fun q hq => ?_⟩
        · dsimp only; rw [hx' 0 (by omega)]; exact a1
        · dsimp only; rw [hx' 2 (by omega)]; exact a2
        · dsimp only; rw [hx' 1 (by omega)]; exact a4
        · dsimp only
          by_cases hi : i = 0
          · subst hi
            obtain ⟨q, q1, q2, q3⟩ := rng (v := v) (lo := 600) (hi := 900) (by omega) (by omega) h2
            exact ⟨q, q1, q2, by rw [up_e]; exact q3⟩
          · rw [hx' 6 (by omega)]; exact a5
        · dsimp only
          by_cases hi : i = 1
          · subst hi
            obtain ⟨q, q1, q2, q3⟩ := rng (v := v) (lo := 1) (hi := 60) (by omega) (by omega) h2
            exact ⟨q, q1, q2, by rw [up_e]; exact q3⟩
          · rw [hx' 7 (by omega)]; exact a6
        · dsimp only
          by_cases hi : i = 2
          · subst hi
            obtain ⟨q, q1, q2, q3⟩ := rng (v := v) (lo := 0) (hi := 50) (by omega) (by omega) h2
            exact ⟨q, q2, by rw [up_e]; exact q3⟩
          · rw [hx' 8 (by omega)]; exact a7
        · dsimp only
          by_cases hi : i = 3
          · subst hi
            obtain ⟨q, q1, q2, q3⟩ := rng (v := v) (lo := 1) (hi := 20) (by omega) (by omega) h2
            exact ⟨q, q1, q2, by rw [up_e]; exact q3⟩
          · rw [hx' 9 (by omega)]; exact a8
        · dsimp only; rw [hx' _ (by omega), hx' _ (by omega), hx' _ (by omega)]; exact a9 k hk
        · dsimp only; rw [mw_out (by omega)]; exact i3' q hq
      · refine hSC1.glob hfr ⟨?_, ?_, ?_, ?_, ?_, fun k hk => ?_, fun k hk => ?_, gσ⟩ (fun q hq => by dsimp only; rw [mw_out (by omega)])
        · dsimp only; rw [hx' 3 (by omega), sI_n (by omega)]; exact g3
        · dsimp only; rw [hx' 0 (by omega), sI_n (by omega)]; exact g0
        · dsimp only; rw [hx' 1 (by omega)]; exact gf
        · dsimp only; rw [hx' 4 (by omega), sI_n (by omega)]; exact g4
        · dsimp only; rw [hx' 5 (by omega), sI_n (by omega)]; exact g5
        · dsimp only
          by_cases hk' : k = i
          · subst hk'; rw [sI_e, up_e]
          · rw [sI_k hk', hx' _ (by omega)]; exact gs k hk
        · dsimp only
          have w2 : ∀ q, q ≠ o + 1 + 1 → xI (xsI μ1 (o + 1 + 1) i v) q = xI μ1 q := fun q hq => sI_n hq
          rw [hx' _ (by omega), hx' _ (by omega), hx' _ (by omega), w2 _ (by omega), w2 _ (by omega), w2 _ (by omega)]; exact gr k hk
theorem c84_0 (h : CST μ o c g n π 0 S x) : Cn G 84 [.ref o] μ Q = Q (.inr 2) (xex μ) := by
  obtain ⟨hC, -, ⟨f, -, -, -, h2, -⟩, -⟩ := h
  obtain ⟨ko, ⟨o0, o1, o2, o3, o4⟩, ⟨k1, k1r⟩, -⟩ := hC
  have h2' : xI μ (o + 111) 2 = 0 := h2
  show Rn G 84 0 [some (.ref o)] [] μ Q = _
  simp (disch := first | assumption | (simp only [MM_Kd, rI_Kd, rJ_Kd, sI_Kd, sJ_Kd, sR_Kd]; assumption) | omega | decide) only [q84_0, q84_0N, q84_1, q84_4, q84_7, q84_10, q84_13, q84_20, q84_20N, q84_21, q84_24, q84_24N, q84_25, q84_28, q84_31, q84_31N, q84_32, q84_35, q84_38, o2, h2', not_true_eq_false, xaf_s, xaf_v, va_rf_s, xix_n, nI_clamp, xk1_i, xk1_a, xk1_u, xk1_n, xk1_l, xk1_d, true_and, and_true, ↓reduceIte, Nat.reduceAdd, xtup]
theorem c84 (h : CST μ o c g n π (t + 1) S x) : ∃ μ' g' n' π', (∀ Q, Cn G 84 [.ref o] μ Q = Q (.inl (some (.int (nI t)))) μ') ∧ CST μ' o c g' n' π' t S (S t) ∧ FS μ μ' (fun q => o ≤ q ∧ q < o + 443) := by
  obtain ⟨hC, hs, hH, hg, hI, hSC⟩ := h
  obtain ⟨f0, f1, f2, f3, f4, f5⟩ := hH
  obtain ⟨μ1, g', n', π', e1, e2, e3, e4, e5, e6, e7, e8⟩ := c6 (G := G) hC hs ⟨hSC.1, hSC.2.1⟩ ⟨f0, f1, f2, f3, f4, f5⟩
  obtain ⟨ko, ⟨o0, o1, o2, o3, o4⟩, ⟨k1, k1r⟩, -⟩ := hC
  have nz : ¬ nI (t + 1) = (0 : Int32) := by rw [show (0 : Int32) = nI 0 from rfl, nI_eq (by omega) (by omega)]; omega
  have ko' := e4.1
  have o2' := e4.2.1.2.2.1
  have k1' := e4.2.2.1.1
  have i2 : xI μ1 (o + 111) 2 = nI t := by obtain ⟨_, _, _, _, q, _⟩ := e2; exact q
  refine ⟨μ1, g', n', π', fun Q => ?_, ⟨e4, e3, e2, e5, e6, e7⟩, e8.mono fun q hq => by omega⟩
  show Rn G 84 0 [some (.ref o)] [] μ Q = _
  simp (disch := first | assumption | (simp only [MM_Kd, rI_Kd, rJ_Kd, sI_Kd, sJ_Kd, sR_Kd]; assumption) | omega | decide) only [q84_0, q84_0N, q84_1, q84_4, q84_7, q84_10, q84_13, q84_20, q84_20N, q84_21, q84_24, q84_24N, q84_25, q84_28, q84_31, q84_31N, q84_32, q84_35, q84_38, o0, o2, f4, nz, e1, o2', i2, not_false_eq_true, xaf_s, xaf_v, va_rf_s, xix_n, nI_clamp, xk1_i, xk1_a, xk1_u, xk1_n, xk1_l, xk1_d, true_and, and_true, ↓reduceIte, Nat.reduceAdd, xtup]
theorem c80 (hC : CSH μ o) (hB : CBF μ o L tx) (code : Int32) : Cn G 80 [.ref o, .int code] μ Q = if bad code 33 126 then Q (.inr 1) (xex μ) else if L = 60 then Q (.inr 2) (xex μ) else Q (.inl (some (.int (nI (L + 1))))) (xsI (xsI μ (o + 444) L code) (o + 443) 1 (nI (L + 1))) := by
  obtain ⟨ko, ⟨o0, o1, o2, o3, o4⟩, ⟨k1, k1r⟩, -, ⟨k3, k3r⟩, ⟨k4, k4l⟩, k5⟩ := hC
  obtain ⟨hL, l1, -⟩ := hB
  show Rn G 80 0 [some (.ref o), some (.int code)] [] μ Q = _
  by_cases h1 : bad code 33 126
  · simp (disch := first | assumption | (simp only [MM_Kd, rI_Kd, rJ_Kd, sI_Kd, sJ_Kd, sR_Kd]; assumption) | omega | decide) only [q80_0, q80_1, q80_3, q80_5, q80_8, q80_11, q80_14, q80_21, q80_21N, q80_22, q80_25, q80_28, q80_31, q80_34, q80_41, q80_41N, q80_42, q80_45, q80_46, q80_49, q80_49N, q80_50, q80_53, q80_56, c104, h1, c00, not_true_eq_false, xaf_s, xaf_v, va_rf_s, xix_n, nI_clamp, xk1_i, xk1_a, xk1_u, xk1_n, xk1_l, xk1_d, true_and, and_true, ↓reduceIte, Nat.reduceAdd, xtup]
  · have c1 : ∀ Q, Cn G 1 [.ref (o + 443)] μ Q = Q (.inl (some (.int (if L < 60 then 0 else 1)))) μ := by
      intro Q
      have e : (nI L < (60 : Int32)) = (L < 60) := propext (nI_ltI (b := 60) (by omega) (by omega))
      show Rn G 1 0 [some (.ref (o + 443))] [] μ Q = _
      by_cases h : L < 60
      · simp (disch := first | assumption | (simp only [MM_Kd, rI_Kd, rJ_Kd, sI_Kd, sJ_Kd, sR_Kd]; assumption) | omega | decide) only [q1_0, q1_0N, q1_1, q1_4, q1_6, q1_9, q1_10, q1_13, q1_14, l1, e, h, xaf_s, xaf_v, va_rf_s, xix_n, nI_clamp, xk1_i, xk1_a, xk1_u, xk1_n, xk1_l, xk1_d, true_and, and_true, ↓reduceIte, Nat.reduceAdd, xtup]
      · simp (disch := first | assumption | (simp only [MM_Kd, rI_Kd, rJ_Kd, sI_Kd, sJ_Kd, sR_Kd]; assumption) | omega | decide) only [q1_0, q1_0N, q1_1, q1_4, q1_6, q1_9, q1_10, q1_13, q1_14, l1, e, h, xaf_s, xaf_v, va_rf_s, xix_n, nI_clamp, xk1_i, xk1_a, xk1_u, xk1_n, xk1_l, xk1_d, true_and, and_true, ↓reduceIte, Nat.reduceAdd, xtup]
    by_cases h2 : L = 60
    · have h2' : ¬ L < 60 := by omega
      simp (disch := first | assumption | (simp only [MM_Kd, rI_Kd, rJ_Kd, sI_Kd, sJ_Kd, sR_Kd]; assumption) | omega | decide) only [q80_0, q80_1, q80_3, q80_5, q80_8, q80_11, q80_14, q80_21, q80_21N, q80_22, q80_25, q80_28, q80_31, q80_34, q80_41, q80_41N, q80_42, q80_45, q80_46, q80_49, q80_49N, q80_50, q80_53, q80_56, c104, h1, c10, o3, c1, h2', eq_true h2, not_false_eq_true, xaf_s, xaf_v, va_rf_s, xix_n, nI_clamp, xk1_i, xk1_a, xk1_u, xk1_n, xk1_l, xk1_d, true_and, and_true, ↓reduceIte, Nat.reduceAdd, xtup]
    · have h2' : L < 60 := by omega
      obtain ⟨q, q1, q2, rfl⟩ := rng (v := code) (lo := 33) (hi := 126) (by omega) (by omega) h1
      obtain ⟨w1, w2⟩ := ch_ok ⟨q, by omega⟩
      dsimp only at w1 w2
      have hL0 : (nI L < (0 : Int32)) = False := by apply eq_false; rw [show (0 : Int32) = nI 0 from rfl, nI_ltI (by omega) (by omega)]; omega
      have hL60 : ((60 : Int32) ≤ nI L) = False := by apply eq_false; rw [show (60 : Int32) = nI 60 from rfl, nI_leI (by omega) (by omega)]; omega
      have j1 : ∀ v, xI (xsI μ (o + 444) L v) (o + 443) 1 = nI L := fun v => by rw [sI_n (by omega)]; exact l1
      have c2 : ∀ Q, Cn G 2 [.ref (o + 443), .int (nI q)] μ Q = Q (.inl none) (xsI (xsI μ (o + 444) L (nI q)) (o + 443) 1 (nI (L + 1))) := by
        intro Q
        show Rn G 2 0 [some (.ref (o + 443)), some (.int (nI q))] [] μ Q = _
        simp (disch := first | assumption | (simp only [MM_Kd, rI_Kd, rJ_Kd, sI_Kd, sJ_Kd, sR_Kd]; assumption) | omega | decide) only [q2_0, q2_0N, q2_1, q2_4, q2_7, q2_7N, q2_8, q2_11, q2_13, q2_16, q2_16N, q2_17, q2_20, q2_20N, q2_21, q2_24, q2_25, q2_26, q2_27, q2_27N, q2_28, q2_29, q2_32, q2_33, q2_34, q2_37, l1, hL0, hL60, k3r, k4l, w1, w2, j1, nI_1, rI_Kd, rI_Ln, rI_R, rI_J, rJ_Kd, rJ_Ln, rJ_R, rJ_I, sI_Kd, sI_Ln, sI_R, sI_J, sJ_Kd, sJ_Ln, sJ_R, sJ_I, sR_Kd, sR_Ln, sR_I, sR_J, xaf_s, xaf_v, va_rf_s, xix_n, nI_clamp, xk1_i, xk1_a, xk1_u, xk1_n, xk1_l, xk1_d, true_and, and_true, ↓reduceIte, Nat.reduceAdd, xtup]
      have j2 : ∀ μ v, xI (xsI μ (o + 443) 1 v) (o + 443) 1 = v := fun μ v => sI_e
      simp (disch := first | assumption | (simp only [MM_Kd, rI_Kd, rJ_Kd, sI_Kd, sJ_Kd, sR_Kd]; assumption) | omega | decide) only [q80_0, q80_1, q80_3, q80_5, q80_8, q80_11, q80_14, q80_21, q80_21N, q80_22, q80_25, q80_28, q80_31, q80_34, q80_41, q80_41N, q80_42, q80_45, q80_46, q80_49, q80_49N, q80_50, q80_53, q80_56, c104, h1, c10, c00, o3, c1, c2, h2', h2, j2, not_true_eq_false, not_false_eq_true, rI_Kd, rI_Ln, rI_R, rI_J, rJ_Kd, rJ_Ln, rJ_R, rJ_I, sI_Kd, sI_Ln, sI_R, sI_J, sJ_Kd, sJ_Ln, sJ_R, sJ_I, sR_Kd, sR_Ln, sR_I, sR_J, xaf_s, xaf_v, va_rf_s, xix_n, nI_clamp, xk1_i, xk1_a, xk1_u, xk1_n, xk1_l, xk1_d, true_and, and_true, ↓reduceIte, Nat.reduceAdd, xtup]
theorem c81 (hC : CSH μ o) (hB : CBF μ o L tx) : Cn G 81 [.ref o] μ Q = Q (.inl (some (.int (nI L)))) (xsI μ (o + 443) 1 0) := by
  obtain ⟨ko, ⟨o0, o1, o2, o3, o4⟩, ⟨k1, k1r⟩, -, ⟨k3, k3r⟩, ⟨k4, k4l⟩, k5⟩ := hC
  obtain ⟨hL, l1, -⟩ := hB
  show Rn G 81 0 [some (.ref o), none] [] μ Q = _
  simp (disch := first | assumption | (simp only [MM_Kd, rI_Kd, rJ_Kd, sI_Kd, sJ_Kd, sR_Kd]; assumption) | omega | decide) only [q81_0, q81_0N, q81_1, q81_4, q81_7, q81_8, q81_8N, q81_9, q81_12, q81_13, q81_16, q81_17, o3, l1, rI_Kd, rI_Ln, rI_R, rI_J, rJ_Kd, rJ_Ln, rJ_R, rJ_I, sI_Kd, sI_Ln, sI_R, sI_J, sJ_Kd, sJ_Ln, sJ_R, sJ_I, sR_Kd, sR_Ln, sR_I, sR_J, xaf_s, xaf_v, va_rf_s, xix_n, nI_clamp, xk1_i, xk1_a, xk1_u, xk1_n, xk1_l, xk1_d, true_and, and_true, ↓reduceIte, Nat.reduceAdd, xtup]
theorem c3 (hC : CSH μ o) (hB : CBF μ o L tx) (hk : k < L) : Cn G 3 [.ref (o + 443), .int (nI k)] μ Q = Q (.inl (some (.int (tx k)))) μ := by
  obtain ⟨ko, ⟨o0, o1, o2, o3, o4⟩, ⟨k1, k1r⟩, -, ⟨k3, k3r⟩, ⟨k4, k4l⟩, k5⟩ := hC
  obtain ⟨hL, l1, l2⟩ := hB
  have hL0 : (nI k < (0 : Int32)) = False := by apply eq_false; rw [show (0 : Int32) = nI 0 from rfl, nI_ltI (by omega) (by omega)]; omega
  have hL60 : ((60 : Int32) ≤ nI k) = False := by apply eq_false; rw [show (60 : Int32) = nI 60 from rfl, nI_leI (by omega) (by omega)]; omega
  have e := (l2 k hk).1
  show Rn G 3 0 [some (.ref (o + 443)), some (.int (nI k))] [] μ Q = _
  simp (disch := first | assumption | (simp only [MM_Kd, rI_Kd, rJ_Kd, sI_Kd, sJ_Kd, sR_Kd]; assumption) | omega | decide) only [q3_0, q3_1, q3_4, q3_5, q3_7, q3_10, q3_10N, q3_11, q3_14, q3_15, q3_16, q3_19, q3_20, hL0, hL60, k3r, k4l, e, xaf_s, xaf_v, va_rf_s, xix_n, nI_clamp, xk1_i, xk1_a, xk1_u, xk1_n, xk1_l, xk1_d, true_and, and_true, ↓reduceIte, Nat.reduceAdd, xtup]
theorem c89 (h : CST μ o c g n π t S x) (what : Int32) : Cn G 89 [.ref o, .int what] μ Q = if bad what 0 5 then Q (.inr 1) (xex μ) else Q (.inl (some (.long (x.2 what.toNatClampNeg)))) μ := by
  obtain ⟨hC, hs, hH, hg, hI, hSC⟩ := h
  obtain ⟨ko, ⟨o0, o1, o2, o3, o4⟩, ⟨k1, k1r⟩, -⟩ := hC
  obtain ⟨b0, ⟨b1, u1⟩, ⟨b2, u2⟩, ⟨b3, u3⟩, ⟨b4, u4⟩, ⟨b5, u5⟩, ⟨b6, u6⟩, r0, r1, r2, r3, r4, r5⟩ := hSC.1
  show Rn G 89 0 [some (.ref o), some (.int what)] [] μ Q = _
  by_cases h1 : bad what 0 5
  · simp (disch := first | assumption | (simp only [MM_Kd, rI_Kd, rJ_Kd, sI_Kd, sJ_Kd, sR_Kd]; assumption) | omega | decide) only [q89_0, q89_1, q89_2, q89_3, q89_6, q89_9, q89_12, q89_19, q89_19N, q89_20, q89_23, q89_26, q89_27, q89_28, c104, h1, c00, not_true_eq_false, xaf_s, xaf_v, va_rf_s, xix_n, nI_clamp, xk1_i, xk1_a, xk1_u, xk1_n, xk1_l, xk1_d, true_and, and_true, ↓reduceIte, Nat.reduceAdd, xtup]
  · obtain ⟨w, -, w5, rfl⟩ := rng (v := what) (lo := 0) (hi := 5) (by omega) (by omega) h1
    have e := hSC.2.2.1.2.2.2.2.2.2.2 w (by omega)
    simp (disch := first | assumption | (simp only [MM_Kd, rI_Kd, rJ_Kd, sI_Kd, sJ_Kd, sR_Kd]; assumption) | omega | decide) only [q89_0, q89_1, q89_2, q89_3, q89_6, q89_9, q89_12, q89_19, q89_19N, q89_20, q89_23, q89_26, q89_27, q89_28, c104, h1, c10, o0, r5, u6, e, not_false_eq_true, xaf_s, xaf_v, va_rf_s, xix_n, nI_clamp, xk1_i, xk1_a, xk1_u, xk1_n, xk1_l, xk1_d, true_and, and_true, ↓reduceIte, Nat.reduceAdd, xtup]
theorem c90 (h : CST μ o c g n π t S x) (what : Int32) : Cn G 90 [.ref o, .int what] μ Q = if bad what 0 3 then Q (.inr 0) (xex μ) else Q (.inl (some (.int (x.1 (6 + what.toNatClampNeg))))) μ := by
  obtain ⟨hC, hs, hH, hg, hI, hSC⟩ := h
  obtain ⟨ko, ⟨o0, o1, o2, o3, o4⟩, ⟨k1, k1r⟩, -⟩ := hC
  obtain ⟨b0, ⟨b1, u1⟩, ⟨b2, u2⟩, ⟨b3, u3⟩, ⟨b4, u4⟩, ⟨b5, u5⟩, ⟨b6, u6⟩, r0, r1, r2, r3, r4, r5⟩ := hSC.1
  show Rn G 90 0 [some (.ref o), some (.int what)] [] μ Q = _
  by_cases h1 : bad what 0 3
  · simp (disch := first | assumption | (simp only [MM_Kd, rI_Kd, rJ_Kd, sI_Kd, sJ_Kd, sR_Kd]; assumption) | omega | decide) only [q90_0, q90_1, q90_4, q90_7, q90_10, q90_17, q90_17N, q90_18, q90_21, q90_24, q90_25, q90_25T, q90_26, c106, h1, c00, not_true_eq_false, xaf_s, xaf_v, va_rf_s, xix_n, nI_clamp, xk1_i, xk1_a, xk1_u, xk1_n, xk1_l, xk1_d, true_and, and_true, ↓reduceIte, Nat.reduceAdd, xtup]
  · obtain ⟨w, -, w5, rfl⟩ := rng (v := what) (lo := 0) (hi := 3) (by omega) (by omega) h1
    have e := hSC.2.2.1.2.2.2.2.2.1 w (by omega)
    simp (disch := first | assumption | (simp only [MM_Kd, rI_Kd, rJ_Kd, sI_Kd, sJ_Kd, sR_Kd]; assumption) | omega | decide) only [q90_0, q90_1, q90_4, q90_7, q90_10, q90_17, q90_17N, q90_18, q90_21, q90_24, q90_25, q90_25T, q90_26, c106, h1, c10, o0, r0, u1, e, not_false_eq_true, xaf_s, xaf_v, va_rf_s, xix_n, nI_clamp, xk1_i, xk1_a, xk1_u, xk1_n, xk1_l, xk1_d, true_and, and_true, ↓reduceIte, Nat.reduceAdd, xtup]
end PB5
