/-! THE CLASS: A MONTH, ON -/
theorem zLap1_1 {p : Nat} : ∀ k s, zLap1 p k s 1 = s 1 := by
  intro k
  induction k with
  | zero => intro s; rfl
  | succ k ih =>
    intro s
    unfold zLap1
    by_cases h : s 7 ≤ s 0 - mDueM s p 0
    · rw [if_pos h, ih, up_n (by omega)]; exact (mSh_n (by omega)).trans (up_n (by omega))
    · rw [if_neg h]
theorem zLap1_w {p w : Nat} : ∀ k s, k < 63 → w < 10 → zLap1 p k s (19 + 75 * p + w) = s (19 + 75 * p + w) := by
  intro k
  induction k with
  | zero => intro s _ _; rfl
  | succ k ih =>
    intro s hk hw
    unfold zLap1
    by_cases h : s 7 ≤ s 0 - mDueM s p 0
    · rw [if_pos h, ih _ (by omega) hw, up_n (by omega)]; exact (mSh_n (by omega)).trans (up_n (by omega))
    · rw [if_neg h]
section MN2C
variable {G : xCtx} {μ : xMem} {a b f n k c p g F A B S lo hi t : Nat} {π : Nat → Nat} {x y : ST}
theorem lap_step (h : SC μ b π n y) (hG : GI y.1 g n F) (hM : MI (mw y.1 k) S (g - 60) (g + 1)) (hk : k < n) (hg : g < 99990) : ∃ μ', (∀ Q l5, ∃ l5', Rn G 57 29 [some (.ref b), some (.int (y.1 0 - y.1 7)), some (.ref (b + 5)), some (.int (nI 8)), some (.int (nI k)), l5] [] μ Q = Rn G 57 61 [some (.ref b), some (.int (y.1 0 - y.1 7)), some (.ref (b + 5)), some (.int (nI 8)), some (.int (nI k)), l5'] [] μ' Q) ∧ SC μ' b π n (zLap k y) ∧ FR μ μ' (TP b π k) ∧ (zLap k y).1 0 = y.1 0 ∧ (zLap k y).1 7 = y.1 7 := by
  have h0 := h
  have hk8 : k < 8 := by have := hG.2.2.1; omega
  have hb := h.hb hk8
  have hb0 := hb
  have hmv := h.2.2.2.1 k hk hk8
  have hrow := (h.2.1.1 k hk8).2
  have hAD : AD b π k = b + 7 + 6 * π k := rfl
  have hlo : b + 7 ≤ AD b π k := by rw [hAD]; omega
  obtain ⟨hSH, hRW, hGV, -, -⟩ := h
  obtain ⟨b0, ⟨b1, u1⟩, ⟨b2, u2⟩, ⟨b3, u3⟩, ⟨b4, u4⟩, ⟨b5, u5⟩, ⟨b6, u6⟩, r0, r1, r2, r3, r4, r5⟩ := hSH
  obtain ⟨m2, m3, m4, m5, m6, m7, m8, m9, m1, f, N, hl⟩ := hmv.w
  obtain ⟨d1, d2, d3, d4, d5⟩ := hM.at (by omega)
  have hN : N = zLts y.1 k := by
    have := hl.2.2.2.2.1
    rw [mw_at (by omega), d4] at this
    exact ((nI_eq (by omega) (by have := hl.2.1; omega)).mp this).symm
  have hc23 := fun Q => c23 (G := G) (Q := Q) hb0 m2 (by rw [m7]; exact d5.imp id And.left)
  have hG0 := hGV
  obtain ⟨g3, g0, gf, g4, g5, gs, gr, gσ⟩ := hGV
  obtain ⟨h0', ⟨h1, e1⟩, h2, ⟨h3', e3⟩, ⟨h4, e4⟩, ⟨h5, e5⟩, p0, p1, p2, p3, p4⟩ := hb
  have hfr0 : FR μ μ (TP b π k) := FR.rf
  obtain ⟨z1, z2, z3⟩ := zLap1_ok (p := k) (S := S) hk8 (by omega) N y.1 (by have := hl.2.1; omega) hG hM (by rw [hN]; exact d4)
  have zz : zLap k y = (zLap1 k N y.1, y.2) := by unfold zLap; rw [hN]
  have za : (zLap k y).1 0 = y.1 0 ∧ (zLap k y).1 7 = y.1 7 := by
    rw [zz]; exact ⟨z3 0 (by omega) (by omega) (by omega), z3 7 (by omega) (by omega) (by omega)⟩
  obtain ⟨μ1, d, w1, w2, w3, w4⟩ := c17_loop (G := G) (p := k) (S := S) (a := AD b π k) hk8 (by omega) N μ y.1 f 0 (by have := hl.2.1; omega) hb0 hl hG hM (Nat.zero_add N) (by have := hl.2.1; omega)
  have hfr : FR μ μ1 (TP b π k) := w4.mono fun q hq => Or.inr (Or.inr (by rw [hq]; omega))
  generalize hA : AD b π k = a at *
  have l4' := hl.2.2.2.1
  rcases d5 with h7 | ⟨h7, hz0⟩
  · have i7 : xI μ a 7 = 0 := by rw [m7]; exact h7
    have hc17 : ∀ Q, Cn G 17 [.ref (a + 2), .int (y.1 0 - y.1 7)] μ Q = Q (.inl (some (.int (nI d)))) μ1 := by
      intro Q
      have e := w1 Q
      rw [Nat.zero_add, show (nI 0 : Int32) = 0 from rfl] at e
      show Rn G 17 0 [some (.ref (a + 2)), some (.int (y.1 0 - y.1 7)), none, none] [] μ Q = _
      simp (disch := first | assumption | (simp only [MM_Kd, rI_Kd, rJ_Kd, sI_Kd, sJ_Kd, sR_Kd]; assumption) | omega | decide) only [q17_0, q17_1, q17_4, q17_5, q17_6, l4', xaf_s, xaf_v, va_rf_s, xix_n, nI_clamp, xk1_i, xk1_a, xk1_u, xk1_n, xk1_l, xk1_d, true_and, and_true, ↓reduceIte, Nat.reduceAdd, xtup]
      exact e
    have b0' : xKd μ1 b = 6 := by unfold xKd; rw [w4.1]; exact b0
    refine ⟨xsI μ1 b 9 (y.1 4 + nI d), fun Q l5 => ⟨some (.ref a), ?_⟩, ?_, ?_, za⟩
    · simp (disch := first | assumption | (simp only [MM_Kd, rI_Kd, rJ_Kd, sI_Kd, sJ_Kd, sR_Kd]; assumption) | omega | decide) only [q57_0, q57_0N, q57_1, q57_4, q57_4N, q57_5, q57_8, q57_9, q57_9T, q57_10, q57_11, q57_12, q57_12N, q57_13, q57_16, q57_16N, q57_17, q57_17N, q57_18, q57_18T, q57_19, q57_20, q57_21, q57_25, q57_26, q57_29, q57_29N, q57_30, q57_32, q57_33, q57_33N, q57_35, q57_35N, q57_37, q57_40, q57_43, q57_43N, q57_44, q57_45, q57_48, q57_48N, q57_50, q57_53, q57_54, q57_57, q57_58, q57_64, q57_67, hrow, u5, hc23, i7, c10, p1, hc17, g4, rI_Kd, rI_Ln, rI_R, rI_J, rJ_Kd, rJ_Ln, rJ_R, rJ_I, sI_Kd, sI_Ln, sI_R, sI_J, sJ_Kd, sJ_Ln, sJ_R, sJ_I, sR_Kd, sR_Ln, sR_I, sR_J, xaf_s, xaf_v, va_rf_s, xix_n, nI_clamp, xk1_i, xk1_a, xk1_u, xk1_n, xk1_l, xk1_d, true_and, and_true, ↓reduceIte, Nat.reduceAdd, xtup]
    · rw [zz]
      refine h0.step hk hk8 (hfr.tr (FR.sI (Or.inl rfl))) ?_ ?_ ?_
      · have nb : ∀ q, q < b + 7 → xI μ1 q = xI μ q := fun q hq => (w4.2.2.2 q (by omega)).1
        refine hG0.of (fun q q1 q2 => ?_) (fun j hj => ?_) ?_ ?_ (fun j hj => ?_) (fun j hj j1 j4 => ?_)
        · rw [sI_n (by omega)]; exact nb q (by omega)
        · rw [sI_k hj, nb b (by omega)]
        · rw [sI_e]; exact w3.symm
        · rw [sI_J, (w4.2.2.2 b (by omega)).2]; dsimp only; rw [zLap1_1]; exact gf
        · rw [sI_J, (w4.2.2.2 (b + 6) (by omega)).2]; exact gσ j hj
        · exact z3 j j1 j4 (by omega)
      · obtain ⟨f', n', w2⟩ := w2
        obtain ⟨a1, a2, a3, a4, a5, a6, a7, a8, a9, -⟩ := hmv
        have nr : ∀ q, q ≠ a + 2 → q ≠ b → xI (xsI μ1 b 9 (y.1 4 + nI d)) q = xI μ q := fun q h1 h2 => by rw [sI_n h2]; exact (w4.2.2.2 q h1).1
        have wk : ∀ w, w < 10 → mw (zLap1 k N y.1) k w = mw y.1 k w := fun w hw => by
          rw [mw_at (by omega), mw_at (by omega), zLap1_w N y.1 (by have := hl.2.1; omega) hw]
        rw [hA]
        refine ⟨?_, ?_, ?_, ?_, ?_, ?_, ?_, ?_, fun j hj => ?_, f', n', w2.of fun q q1 q2 => ?_⟩
        · rw [nr a (by omega) (by omega)]; exact a1
        · rw [nr a (by omega) (by omega), wk 0 (by omega)]; exact a2
        · rw [nr a (by omega) (by omega), wk 1 (by omega)]; exact a3
        · rw [nr a (by omega) (by omega), wk 2 (by omega)]; exact a4
        · rw [nr a (by omega) (by omega), wk 3 (by omega)]; exact a5
        · rw [nr a (by omega) (by omega), wk 7 (by omega)]; exact a6
        · rw [nr a (by omega) (by omega), wk 8 (by omega)]; exact a7
        · rw [nr a (by omega) (by omega), wk 9 (by omega)]; exact a8
        · rw [nr (a + 1) (by omega) (by omega), wk (4 + j) (by omega)]; exact a9 j hj
        · exact sI_n (by omega)
      · intro j hj hji
        exact z3.mw hji
    · exact hfr.tr (FR.sI (Or.inl rfl))
  · have i7 : xI μ a 7 = 1 := by rw [m7]; exact h7
    have hzz : zLap k y = y := by unfold zLap; rw [hz0]; rfl
    refine ⟨μ, fun Q l5 => ⟨some (.ref a), ?_⟩, by rw [hzz]; exact h0, hfr0, za⟩
    simp (disch := first | assumption | (simp only [MM_Kd, rI_Kd, rJ_Kd, sI_Kd, sJ_Kd, sR_Kd]; assumption) | omega | decide) only [q57_0, q57_0N, q57_1, q57_4, q57_4N, q57_5, q57_8, q57_9, q57_9T, q57_10, q57_11, q57_12, q57_12N, q57_13, q57_16, q57_16N, q57_17, q57_17N, q57_18, q57_18T, q57_19, q57_20, q57_21, q57_25, q57_26, q57_29, q57_29N, q57_30, q57_32, q57_33, q57_33N, q57_35, q57_35N, q57_37, q57_40, q57_43, q57_43N, q57_44, q57_45, q57_48, q57_48N, q57_50, q57_53, q57_54, q57_57, q57_58, q57_64, q57_67, hrow, u5, hc23, i7, c10, c00, rI_Kd, rI_Ln, rI_R, rI_J, rJ_Kd, rJ_Ln, rJ_R, rJ_I, sI_Kd, sI_Ln, sI_R, sI_J, sJ_Kd, sJ_Ln, sJ_R, sJ_I, sR_Kd, sR_Ln, sR_I, sR_J, xaf_s, xaf_v, va_rf_s, xix_n, nI_clamp, xk1_i, xk1_a, xk1_u, xk1_n, xk1_l, xk1_d, true_and, and_true, ↓reduceIte, Nat.reduceAdd, xtup]
theorem c57 (h : SC μ b π n x) (hI : Ph x g n F A B (fun _ v => MI v S (g - 60) (g + 1))) (hg : g < 10300) : ∃ μ', (∀ Q, Cn G 57 [.ref b] μ Q = Q (.inl none) μ') ∧ SC μ' b π n (itr zLap n x) ∧ FR μ μ' (BK b) := by
  have hn8 := hI.1.2.2.1
  have key : ∀ k i μ, i + k = 8 → SC μ b π n (itr zLap (min i n) x) → (itr zLap (min i n) x).1 0 = x.1 0 ∧ (itr zLap (min i n) x).1 7 = x.1 7 → ∃ μ', (∀ Q l5, Rn G 57 23 [some (.ref b), some (.int (x.1 0 - x.1 7)), some (.ref (b + 5)), some (.int (nI 8)), some (.int (nI i)), l5] [] μ Q = Q (.inl none) μ') ∧ SC μ' b π n (itr zLap n x) ∧ FR μ μ' (BK b) := by
    intro k
    induction k with
    | zero =>
      intro i μ hi h _
      have h2 : 8 ≤ i := by omega
      rw [Nat.min_eq_right (by omega)] at h
      refine ⟨μ, fun Q l5 => ?_, h, FR.rf⟩
      rw [q57_23]
      simp (disch := first | assumption | (simp only [MM_Kd, rI_Kd, rJ_Kd, sI_Kd, sJ_Kd, sR_Kd]; assumption) | omega | decide) only [q57_0, q57_0N, q57_1, q57_4, q57_4N, q57_5, q57_8, q57_9, q57_9T, q57_10, q57_11, q57_12, q57_12N, q57_13, q57_16, q57_16N, q57_17, q57_17N, q57_18, q57_18T, q57_19, q57_20, q57_21, q57_25, q57_26, q57_29, q57_29N, q57_30, q57_32, q57_33, q57_33N, q57_35, q57_35N, q57_37, q57_40, q57_43, q57_43N, q57_44, q57_45, q57_48, q57_48N, q57_50, q57_53, q57_54, q57_57, q57_58, q57_61, q57_64, q57_67, nI_leI, h2, xaf_s, xaf_v, va_rf_s, xix_n, nI_clamp, xk1_i, xk1_a, xk1_u, xk1_n, xk1_l, xk1_d, true_and, and_true, ↓reduceIte, Nat.reduceAdd, xtup]
    | succ k ih =>
      intro i μ hi h h07
      have h2 : ¬ 8 ≤ i := by omega
      by_cases hin : i < n
      · rw [Nat.min_eq_left (by omega)] at h h07
        obtain ⟨p1, p2, p3⟩ := itr_lap hI (by omega) i (by omega)
        have m1 := p3 i hin
        dsimp only at m1
        rw [if_neg (by omega)] at m1
        obtain ⟨μ1, s1, s2, s3, s4⟩ := lap_step (G := G) h p1 m1 hin (by omega)
        rw [h07.1, h07.2] at s1 s4
        have s2' : SC μ1 b π n (itr zLap (min (i + 1) n) x) := by rw [Nat.min_eq_left (by omega)]; exact s2
        obtain ⟨μ', w1, w2, w3⟩ := ih (i + 1) μ1 (by omega) s2' (by rw [Nat.min_eq_left (by omega)]; exact s4)
        refine ⟨μ', fun Q l5 => ?_, w2, (s3.mono (TP_BK (h.2.1.1 i (by omega)).1)).tr w3⟩
        obtain ⟨l5', e⟩ := s1 Q l5
        rw [q57_23]
        simp (disch := first | assumption | (simp only [MM_Kd, rI_Kd, rJ_Kd, sI_Kd, sJ_Kd, sR_Kd]; assumption) | omega | decide) only [q57_0, q57_0N, q57_1, q57_4, q57_4N, q57_5, q57_8, q57_9, q57_9T, q57_10, q57_11, q57_12, q57_12N, q57_13, q57_16, q57_16N, q57_17, q57_17N, q57_18, q57_18T, q57_19, q57_20, q57_21, q57_25, q57_26, q57_30, q57_32, q57_33, q57_33N, q57_35, q57_35N, q57_37, q57_40, q57_43, q57_43N, q57_44, q57_45, q57_48, q57_48N, q57_50, q57_53, q57_54, q57_57, q57_58, q57_61, q57_64, q57_67, nI_leI, h2, xaf_s, xaf_v, va_rf_s, xix_n, nI_clamp, xk1_i, xk1_a, xk1_u, xk1_n, xk1_l, xk1_d, true_and, and_true, ↓reduceIte, Nat.reduceAdd, xtup]
        rw [e]
        simp (disch := first | assumption | (simp only [MM_Kd, rI_Kd, rJ_Kd, sI_Kd, sJ_Kd, sR_Kd]; assumption) | omega | decide) only [q57_61, q57_64, nI_1, xaf_s, xaf_v, va_rf_s, xix_n, nI_clamp, xk1_i, xk1_a, xk1_u, xk1_n, xk1_l, xk1_d, true_and, and_true, ↓reduceIte, Nat.reduceAdd, xtup]
        exact w1 Q _
      · rw [Nat.min_eq_right (by omega)] at h h07
        have hb := h.hb (show i < 8 by omega)
        have hrow := (h.2.1.1 i (by omega)).2
        have h0 := h.2.2.2.2 i (by omega) (by omega)
        have hc23 := fun Q => c23_0 (G := G) (Q := Q) hb h0
        have b5 := h.1.2.2.2.2.2.1.1
        have u5 := h.1.2.2.2.2.2.1.2
        obtain ⟨h0', -⟩ := hb
        have h' : SC μ b π n (itr zLap (min (i + 1) n) x) := by rw [Nat.min_eq_right (by omega)]; exact h
        obtain ⟨μ', w1, w2, w3⟩ := ih (i + 1) μ (by omega) h' (by rw [Nat.min_eq_right (by omega)]; exact h07)
        refine ⟨μ', fun Q l5 => ?_, w2, w3⟩
        rw [q57_23]
        simp (disch := first | exact Or.inl b5 | first | assumption | (simp only [MM_Kd, rI_Kd, rJ_Kd, sI_Kd, sJ_Kd, sR_Kd]; assumption) | omega | decide) only [q57_0, q57_0N, q57_1, q57_4, q57_4N, q57_5, q57_8, q57_9, q57_9T, q57_10, q57_11, q57_12, q57_12N, q57_13, q57_16, q57_16N, q57_17, q57_17N, q57_18, q57_18T, q57_19, q57_20, q57_21, q57_25, q57_26, q57_29, q57_29N, q57_30, q57_32, q57_33, q57_33N, q57_35, q57_35N, q57_37, q57_40, q57_43, q57_43N, q57_44, q57_45, q57_48, q57_48N, q57_50, q57_53, q57_54, q57_57, q57_58, q57_61, q57_64, q57_67, nI_leI, h2, hrow, u5, hc23, c00, nI_1, xaf_s, xaf_v, va_rf_s, xix_n, nI_clamp, xk1_i, xk1_a, xk1_u, xk1_n, xk1_l, xk1_d, true_and, and_true, ↓reduceIte, Nat.reduceAdd, xtup]
        exact w1 Q _
  have h0 : SC μ b π n (itr zLap (min 0 n) x) := by rw [Nat.zero_min]; exact h
  obtain ⟨μ', w1, w2, w3⟩ := key 8 0 μ (by omega) h0 (by rw [Nat.zero_min]; exact ⟨rfl, rfl⟩)
  refine ⟨μ', fun Q => ?_, w2, w3⟩
  obtain ⟨-, g0, -, -, -, gs, -⟩ := h.2.2.1
  have gs1 := gs 1 (by omega)
  obtain ⟨b0, ⟨b1, u1⟩, ⟨b2, u2⟩, ⟨b3, u3⟩, ⟨b4, u4⟩, ⟨b5, u5⟩, ⟨b6, u6⟩, r0, r1, r2, r3, r4, r5⟩ := h.1
  have w1' := w1 Q none
  rw [show (nI 0 : Int32) = 0 from rfl] at w1'
  show Rn G 57 0 [some (.ref b), none, none, none, none, none] [] μ Q = _
  simp (disch := first | assumption | (simp only [MM_Kd, rI_Kd, rJ_Kd, sI_Kd, sJ_Kd, sR_Kd]; assumption) | omega | decide) only [q57_0, q57_0N, q57_1, q57_4, q57_4N, q57_5, q57_8, q57_9, q57_9T, q57_10, q57_11, q57_12, q57_12N, q57_13, q57_16, q57_16N, q57_17, q57_17N, q57_18, q57_18T, q57_19, q57_20, q57_21, q57_25, q57_26, q57_29, q57_29N, q57_30, q57_32, q57_33, q57_33N, q57_35, q57_35N, q57_37, q57_40, q57_43, q57_43N, q57_44, q57_45, q57_48, q57_48N, q57_50, q57_53, q57_54, q57_57, q57_58, q57_61, q57_64, q57_67, r0, u1, xl1, nc1, g0, gs1, Nat.reduceAdd, r4, u5, xaf_s, xaf_v, va_rf_s, xix_n, nI_clamp, xk1_i, xk1_a, xk1_u, xk1_n, xk1_l, xk1_d, true_and, and_true, ↓reduceIte, Nat.reduceAdd, xtup]
  exact w1'
theorem out_step (h : SC μ b π n y) (hG : GI y.1 g n F) (hM : MI (mw y.1 k) S lo hi) (hw : hi - lo < 62) (hk : k < n) (hF : F < 2 ^ 31) : ∃ μ', (∀ Q l4, ∃ l4', Rn G 58 15 [some (.ref b), some (.ref (b + 5)), some (.int (nI 8)), some (.int (nI k)), l4] [] μ Q = Rn G 58 98 [some (.ref b), some (.ref (b + 5)), some (.int (nI 8)), some (.int (nI k)), l4'] [] μ' Q) ∧ SC μ' b π n (zOut k y) ∧ FR μ μ' (TP b π k) := by
  have h0 := h
  have hk8 : k < 8 := by have := hG.2.2.1; omega
  have hb := h.hb hk8
  have hmv := h.2.2.2.1 k hk hk8
  have hrow := (h.2.1.1 k hk8).2
  have hAD : AD b π k = b + 7 + 6 * π k := rfl
  have hlo : b + 7 ≤ AD b π k := by rw [hAD]; omega
  obtain ⟨hSH, hRW, hGV, -, -⟩ := h
  obtain ⟨b0, ⟨b1, u1⟩, ⟨b2, u2⟩, ⟨b3, u3⟩, ⟨b4, u4⟩, ⟨b5, u5⟩, ⟨b6, u6⟩, r0, r1, r2, r3, r4, r5⟩ := hSH
  obtain ⟨m2, m3, m4, m5, m6, m7, m8, m9, m1, -⟩ := hmv.w
  obtain ⟨d1, d2, d3, d4, d5⟩ := hM.at (by omega)
  obtain ⟨fu, fu1, fu2⟩ := hG.2.2.2.1
  obtain ⟨pe, pe1, pe2⟩ : ∃ e, e < 2 ^ 31 ∧ y.1 (19 + 75 * k + 8) = nI e := by
    obtain ⟨-, -, -, ⟨e, e1, e2⟩, -⟩ := hM
    rw [mw_at (by omega)] at e2; exact ⟨e, e1, e2⟩
  have hG0 := hGV
  obtain ⟨g3, g0, gf, g4, g5, gs, gr, gσ⟩ := hGV
  obtain ⟨h0', -⟩ := hb
  have hfr0 : FR μ μ (TP b π k) := FR.rf
  have t1 : TP b π k b := Or.inl rfl
  have t2 : TP b π k (b + 6) := Or.inr (Or.inl rfl)
  generalize hA : AD b π k = a at *
  have i8 : xI μ a 8 = nI pe := by rw [m8, pe2]
  have gf' : xJ μ b 8 = (nI fu).toInt64 := by rw [gf, fu1]
  rcases d5 with h7 | ⟨h7, -⟩
  · have i7 : xI μ a 7 = 0 := by rw [m7]; exact h7
    have hz : zOut k y = y := if_neg (by rw [h7]; decide)
    refine ⟨μ, fun Q l4 => ⟨some (.ref a), ?_⟩, by rw [hz]; exact h0, hfr0⟩
    simp (disch := first | assumption | (simp only [MM_Kd, rI_Kd, rJ_Kd, sI_Kd, sJ_Kd, sR_Kd]; assumption) | omega | decide) only [q58_0, q58_0N, q58_1, q58_4, q58_4N, q58_5, q58_5N, q58_6, q58_6T, q58_7, q58_8, q58_9, q58_11, q58_12, q58_15, q58_15N, q58_16, q58_17, q58_18, q58_18N, q58_20, q58_20N, q58_22, q58_25, q58_28, q58_28N, q58_30, q58_33, q58_36, q58_36N, q58_37, q58_40, q58_40N, q58_42, q58_45, q58_46, q58_47, q58_50, q58_50N, q58_51, q58_52, q58_55, q58_55N, q58_57, q58_60, q58_61, q58_62, q58_65, q58_65N, q58_66, q58_69, q58_70, q58_71, q58_72, q58_72N, q58_74, q58_77, q58_78, q58_79, q58_80, q58_83, q58_83N, q58_84, q58_87, q58_88, q58_89, q58_90, q58_90N, q58_92, q58_95, q58_96, q58_97, q58_101, q58_104, hrow, u5, m2, i7, c10, c00, rI_Kd, rI_Ln, rI_R, rI_J, rJ_Kd, rJ_Ln, rJ_R, rJ_I, sI_Kd, sI_Ln, sI_R, sI_J, sJ_Kd, sJ_Ln, sJ_R, sJ_I, sR_Kd, sR_Ln, sR_I, sR_J, xaf_s, xaf_v, va_rf_s, xix_n, nI_clamp, xk1_i, xk1_a, xk1_u, xk1_n, xk1_l, xk1_d, true_and, and_true, ↓reduceIte, Nat.reduceAdd, xtup]
  · have i7 : xI μ a 7 = 1 := by rw [m7]; exact h7
    have hz : zOut k y = zOut1 k y := if_pos h7
    by_cases hc : nI pe ≤ nI fu
    · have hc' : ((nI pe).toInt64 ≤ (nI fu).toInt64) := by rw [le_l]; exact hc
      have hc'' : ¬ ((nI fu).toInt64 < (nI pe).toInt64) := Int64.not_lt.mpr hc'
      have hz1 : zOut1 k y = (up y.1 1 (nI fu - nI pe), up y.2 3 (y.2 3 + (nI pe).toInt64)) := by
        unfold zOut1; rw [pe2, fu1, if_pos hc]
      have hc3 := (nI_leI pe1 (by omega)).mp hc
      refine ⟨xsJ (xsJ μ b 8 ((nI fu).toInt64 - (nI pe).toInt64)) (b + 6) 3 (xJ μ (b + 6) 3 + (nI pe).toInt64), fun Q l4 => ⟨some (.ref a), ?_⟩, ?_, (FR.sJ t1).tr (FR.sJ t2)⟩
      · simp (disch := first | assumption | (simp only [MM_Kd, rI_Kd, rJ_Kd, sI_Kd, sJ_Kd, sR_Kd]; assumption) | omega | decide) only [q58_0, q58_0N, q58_1, q58_4, q58_4N, q58_5, q58_5N, q58_6, q58_6T, q58_7, q58_8, q58_9, q58_11, q58_12, q58_15, q58_15N, q58_16, q58_17, q58_18, q58_18N, q58_20, q58_20N, q58_22, q58_25, q58_28, q58_28N, q58_30, q58_33, q58_36, q58_36N, q58_37, q58_40, q58_40N, q58_42, q58_45, q58_46, q58_47, q58_50, q58_50N, q58_51, q58_52, q58_55, q58_55N, q58_57, q58_60, q58_61, q58_62, q58_65, q58_65N, q58_66, q58_69, q58_70, q58_71, q58_72, q58_72N, q58_74, q58_77, q58_78, q58_79, q58_80, q58_83, q58_83N, q58_84, q58_87, q58_88, q58_89, q58_90, q58_90N, q58_92, q58_95, q58_96, q58_97, q58_101, q58_104, hrow, u5, m2, i7, i8, gf', c10, cmp_lt, hc'', r5, u6, xl3, nc3, sJ_n, rI_Kd, rI_Ln, rI_R, rI_J, rJ_Kd, rJ_Ln, rJ_R, rJ_I, sI_Kd, sI_Ln, sI_R, sI_J, sJ_Kd, sJ_Ln, sJ_R, sJ_I, sR_Kd, sR_Ln, sR_I, sR_J, xaf_s, xaf_v, va_rf_s, xix_n, nI_clamp, xk1_i, xk1_a, xk1_u, xk1_n, xk1_l, xk1_d, true_and, and_true, ↓reduceIte, Nat.reduceAdd, xtup]
      · rw [hz, hz1]
        refine h0.step hk hk8 ((FR.sJ t1).tr (FR.sJ t2)) ?_ ?_ ?_
        · refine hG0.of (fun q q1 q2 => rfl) (fun j hj => rfl) ?_ ?_ (fun j hj => ?_) (fun j hj j1 j4 => ?_)
          · dsimp only; rw [up_n (by omega)]; exact g4
          · dsimp only; rw [sJ_n (by omega), sJ_e, up_e, pk_sub hc3, nI_l (by omega), nI_l (by omega), nI_l (by omega), lN_sub hc3]
          · dsimp only
            by_cases hj0 : j = 3
            · subst hj0; rw [sJ_e, up_e, gσ 3 (by omega)]
            · rw [sJ_k hj0, up_n hj0, sJ_n (by omega)]; exact gσ j hj
          · dsimp only; rw [up_n (by omega)]
        · dsimp only
          rw [hA, mw_out (by omega)]
          exact hmv.of fun q _ _ => rfl
        · intro j _ hj
          dsimp only
          rw [mw_out (by omega)]
    · have hc' : ¬ ((nI pe).toInt64 ≤ (nI fu).toInt64) := by rw [le_l]; exact hc
      have hc'' : ((nI fu).toInt64 < (nI pe).toInt64) := Int64.not_le.mp hc'
      have hz1 : zOut1 k y = (y.1, up y.2 4 (y.2 4 + (nI pe).toInt64)) := by
        unfold zOut1; rw [pe2, fu1, if_neg hc]
      refine ⟨xsJ μ (b + 6) 4 (xJ μ (b + 6) 4 + (nI pe).toInt64), fun Q l4 => ⟨some (.ref a), ?_⟩, ?_, FR.sJ t2⟩
      · simp (disch := first | assumption | (simp only [MM_Kd, rI_Kd, rJ_Kd, sI_Kd, sJ_Kd, sR_Kd]; assumption) | omega | decide) only [q58_0, q58_0N, q58_1, q58_4, q58_4N, q58_5, q58_5N, q58_6, q58_6T, q58_7, q58_8, q58_9, q58_11, q58_12, q58_15, q58_15N, q58_16, q58_17, q58_18, q58_18N, q58_20, q58_20N, q58_22, q58_25, q58_28, q58_28N, q58_30, q58_33, q58_36, q58_36N, q58_37, q58_40, q58_40N, q58_42, q58_45, q58_46, q58_47, q58_50, q58_50N, q58_51, q58_52, q58_55, q58_55N, q58_57, q58_60, q58_61, q58_62, q58_65, q58_65N, q58_66, q58_69, q58_70, q58_71, q58_72, q58_72N, q58_74, q58_77, q58_78, q58_79, q58_80, q58_83, q58_83N, q58_84, q58_87, q58_88, q58_89, q58_90, q58_90N, q58_92, q58_95, q58_96, q58_97, q58_101, q58_104, hrow, u5, m2, i7, i8, gf', c10, cmp_lt, hc'', r5, u6, xl4, nc4, sJ_n, rI_Kd, rI_Ln, rI_R, rI_J, rJ_Kd, rJ_Ln, rJ_R, rJ_I, sI_Kd, sI_Ln, sI_R, sI_J, sJ_Kd, sJ_Ln, sJ_R, sJ_I, sR_Kd, sR_Ln, sR_I, sR_J, xaf_s, xaf_v, va_rf_s, xix_n, nI_clamp, xk1_i, xk1_a, xk1_u, xk1_n, xk1_l, xk1_d, true_and, and_true, ↓reduceIte, Nat.reduceAdd, xtup]
      · rw [hz, hz1]
        refine h0.step hk hk8 (FR.sJ t2) ?_ ?_ ?_
        · refine hG0.of (fun q q1 q2 => rfl) (fun j hj => rfl) g4 ?_ (fun j hj => ?_) (fun j hj j1 j4 => rfl)
          · rw [sJ_n (by omega)]; exact gf
          · dsimp only
            by_cases hj0 : j = 4
            · subst hj0; rw [sJ_e, up_e, gσ 4 (by omega)]
            · rw [sJ_k hj0, up_n hj0]; exact gσ j hj
        · rw [hA]; exact hmv.of fun q _ _ => rfl
        · intro j _ hj; rfl
theorem c58 (h : SC μ b π n x) (hI : Ph x g n F A B (fun _ v => MI v S lo hi)) (hw : hi - lo < 62) (hF : F < 2 ^ 31) : ∃ μ', (∀ Q, Cn G 58 [.ref b] μ Q = Q (.inl none) μ') ∧ SC μ' b π n (itr zOut n x) ∧ FR μ μ' (BK b) := by
  have hn8 := hI.1.2.2.1
  have key : ∀ k i μ, i + k = 8 → SC μ b π n (itr zOut (min i n) x) → ∃ μ', (∀ Q l4, Rn G 58 10 [some (.ref b), some (.ref (b + 5)), some (.int (nI 8)), some (.int (nI i)), l4] [] μ Q = Q (.inl none) μ') ∧ SC μ' b π n (itr zOut n x) ∧ FR μ μ' (BK b) := by
    intro k
    induction k with
    | zero =>
      intro i μ hi h
      have h2 : 8 ≤ i := by omega
      rw [Nat.min_eq_right (by omega)] at h
      refine ⟨μ, fun Q l4 => ?_, h, FR.rf⟩
      rw [q58_10]
      simp (disch := first | assumption | (simp only [MM_Kd, rI_Kd, rJ_Kd, sI_Kd, sJ_Kd, sR_Kd]; assumption) | omega | decide) only [q58_0, q58_0N, q58_1, q58_4, q58_4N, q58_5, q58_5N, q58_6, q58_6T, q58_7, q58_8, q58_9, q58_11, q58_12, q58_15, q58_15N, q58_16, q58_17, q58_18, q58_18N, q58_20, q58_20N, q58_22, q58_25, q58_28, q58_28N, q58_30, q58_33, q58_36, q58_36N, q58_37, q58_40, q58_40N, q58_42, q58_45, q58_46, q58_47, q58_50, q58_50N, q58_51, q58_52, q58_55, q58_55N, q58_57, q58_60, q58_61, q58_62, q58_65, q58_65N, q58_66, q58_69, q58_70, q58_71, q58_72, q58_72N, q58_74, q58_77, q58_78, q58_79, q58_80, q58_83, q58_83N, q58_84, q58_87, q58_88, q58_89, q58_90, q58_90N, q58_92, q58_95, q58_96, q58_97, q58_98, q58_101, q58_104, nI_leI, h2, xaf_s, xaf_v, va_rf_s, xix_n, nI_clamp, xk1_i, xk1_a, xk1_u, xk1_n, xk1_l, xk1_d, true_and, and_true, ↓reduceIte, Nat.reduceAdd, xtup]
    | succ k ih =>
      intro i μ hi h
      have h2 : ¬ 8 ≤ i := by omega
      by_cases hin : i < n
      · rw [Nat.min_eq_left (by omega)] at h
        obtain ⟨p1, p2, p3⟩ := itr_out hI hF i (by omega)
        obtain ⟨μ1, s1, s2, s3⟩ := out_step (G := G) h p1 (p3 i hin) hw hin hF
        have s2' : SC μ1 b π n (itr zOut (min (i + 1) n) x) := by rw [Nat.min_eq_left (by omega)]; exact s2
        obtain ⟨μ', w1, w2, w3⟩ := ih (i + 1) μ1 (by omega) s2'
        refine ⟨μ', fun Q l4 => ?_, w2, (s3.mono (TP_BK (h.2.1.1 i (by omega)).1)).tr w3⟩
        obtain ⟨l4', e⟩ := s1 Q l4
        rw [q58_10]
        simp (disch := first | assumption | (simp only [MM_Kd, rI_Kd, rJ_Kd, sI_Kd, sJ_Kd, sR_Kd]; assumption) | omega | decide) only [q58_0, q58_0N, q58_1, q58_4, q58_4N, q58_5, q58_5N, q58_6, q58_6T, q58_7, q58_8, q58_9, q58_11, q58_12, q58_16, q58_17, q58_18, q58_18N, q58_20, q58_20N, q58_22, q58_25, q58_28, q58_28N, q58_30, q58_33, q58_36, q58_36N, q58_37, q58_40, q58_40N, q58_42, q58_45, q58_46, q58_47, q58_50, q58_50N, q58_51, q58_52, q58_55, q58_55N, q58_57, q58_60, q58_61, q58_62, q58_65, q58_65N, q58_66, q58_69, q58_70, q58_71, q58_72, q58_72N, q58_74, q58_77, q58_78, q58_79, q58_80, q58_83, q58_83N, q58_84, q58_87, q58_88, q58_89, q58_90, q58_90N, q58_92, q58_95, q58_96, q58_97, q58_98, q58_101, q58_104, nI_leI, h2, xaf_s, xaf_v, va_rf_s, xix_n, nI_clamp, xk1_i, xk1_a, xk1_u, xk1_n, xk1_l, xk1_d, true_and, and_true, ↓reduceIte, Nat.reduceAdd, xtup]
        rw [e]
        simp (disch := first | assumption | (simp only [MM_Kd, rI_Kd, rJ_Kd, sI_Kd, sJ_Kd, sR_Kd]; assumption) | omega | decide) only [q58_98, q58_101, nI_1, xaf_s, xaf_v, va_rf_s, xix_n, nI_clamp, xk1_i, xk1_a, xk1_u, xk1_n, xk1_l, xk1_d, true_and, and_true, ↓reduceIte, Nat.reduceAdd, xtup]
        exact w1 Q _
      · rw [Nat.min_eq_right (by omega)] at h
        have hb := h.hb (show i < 8 by omega)
        have hrow := (h.2.1.1 i (by omega)).2
        have h0 := h.2.2.2.2 i (by omega) (by omega)
        have b5 := h.1.2.2.2.2.2.1.1
        have u5 := h.1.2.2.2.2.2.1.2
        obtain ⟨h0', -⟩ := hb
        have h' : SC μ b π n (itr zOut (min (i + 1) n) x) := by rw [Nat.min_eq_right (by omega)]; exact h
        obtain ⟨μ', w1, w2, w3⟩ := ih (i + 1) μ (by omega) h'
        refine ⟨μ', fun Q l4 => ?_, w2, w3⟩
        rw [q58_10]
        simp (disch := first | exact Or.inl b5 | first | assumption | (simp only [MM_Kd, rI_Kd, rJ_Kd, sI_Kd, sJ_Kd, sR_Kd]; assumption) | omega | decide) only [q58_0, q58_0N, q58_1, q58_4, q58_4N, q58_5, q58_5N, q58_6, q58_6T, q58_7, q58_8, q58_9, q58_11, q58_12, q58_15, q58_15N, q58_16, q58_17, q58_18, q58_18N, q58_20, q58_20N, q58_22, q58_25, q58_28, q58_28N, q58_30, q58_33, q58_36, q58_36N, q58_37, q58_40, q58_40N, q58_42, q58_45, q58_46, q58_47, q58_50, q58_50N, q58_51, q58_52, q58_55, q58_55N, q58_57, q58_60, q58_61, q58_62, q58_65, q58_65N, q58_66, q58_69, q58_70, q58_71, q58_72, q58_72N, q58_74, q58_77, q58_78, q58_79, q58_80, q58_83, q58_83N, q58_84, q58_87, q58_88, q58_89, q58_90, q58_90N, q58_92, q58_95, q58_96, q58_97, q58_98, q58_101, q58_104, nI_leI, h2, hrow, u5, h0, c00, nI_1, xaf_s, xaf_v, va_rf_s, xix_n, nI_clamp, xk1_i, xk1_a, xk1_u, xk1_n, xk1_l, xk1_d, true_and, and_true, ↓reduceIte, Nat.reduceAdd, xtup]
        exact w1 Q _
  have h0 : SC μ b π n (itr zOut (min 0 n) x) := by rw [Nat.zero_min]; exact h
  obtain ⟨μ', w1, w2, w3⟩ := key 8 0 μ (by omega) h0
  refine ⟨μ', fun Q => ?_, w2, w3⟩
  obtain ⟨b0, ⟨b1, u1⟩, ⟨b2, u2⟩, ⟨b3, u3⟩, ⟨b4, u4⟩, ⟨b5, u5⟩, ⟨b6, u6⟩, r0, r1, r2, r3, r4, r5⟩ := h.1
  have w1' := w1 Q none
  rw [show (nI 0 : Int32) = 0 from rfl] at w1'
  show Rn G 58 0 [some (.ref b), none, none, none, none] [] μ Q = _
  simp (disch := first | assumption | (simp only [MM_Kd, rI_Kd, rJ_Kd, sI_Kd, sJ_Kd, sR_Kd]; assumption) | omega | decide) only [q58_0, q58_0N, q58_1, q58_4, q58_4N, q58_5, q58_5N, q58_6, q58_6T, q58_7, q58_8, q58_9, q58_11, q58_12, q58_15, q58_15N, q58_16, q58_17, q58_18, q58_18N, q58_20, q58_20N, q58_22, q58_25, q58_28, q58_28N, q58_30, q58_33, q58_36, q58_36N, q58_37, q58_40, q58_40N, q58_42, q58_45, q58_46, q58_47, q58_50, q58_50N, q58_51, q58_52, q58_55, q58_55N, q58_57, q58_60, q58_61, q58_62, q58_65, q58_65N, q58_66, q58_69, q58_70, q58_71, q58_72, q58_72N, q58_74, q58_77, q58_78, q58_79, q58_80, q58_83, q58_83N, q58_84, q58_87, q58_88, q58_89, q58_90, q58_90N, q58_92, q58_95, q58_96, q58_97, q58_98, q58_101, q58_104, r4, u5, xaf_s, xaf_v, va_rf_s, xix_n, nI_clamp, xk1_i, xk1_a, xk1_u, xk1_n, xk1_l, xk1_d, true_and, and_true, ↓reduceIte, Nat.reduceAdd, xtup]
  exact w1'
end MN2C
