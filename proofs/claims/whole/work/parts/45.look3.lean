/-! THE CLASS: LOOKS AT A SCHEME -/
theorem zLc_a {s : Nat → Int32} {p c : Nat} : ∀ k i a, zLc s p c k i a = a + zLc s p c k i 0 := by
  intro k
  induction k with
  | zero => intro i a; exact (nI_a0 a).symm
  | succ k ih =>
    intro i a
    simp only [zLc]
    rw [ih (i + 1) (a + _), ih (i + 1) (0 + _), Int32.zero_add, Int32.add_assoc]
section LKC
variable {G : xCtx} {μ : xMem} {Q : xOut → xMem → Prop} {a b f n k c p g F A B S lo hi t : Nat} {π : Nat → Nat} {x : ST}
/-- what is known of a row -/
theorem SC.row (h : SC μ b π n x) {i : Nat} (hi : i < 8) : xKd μ (b + 5) = 13 ∧ xLn μ (b + 5) = 8 ∧ xR μ (b + 5) i = some (AD b π i) ∧ xKd μ (AD b π i) = 4 ∧ xR μ (AD b π i) 0 = some (AD b π i + 1) ∧ xR μ (AD b π i) 1 = some (AD b π i + 2) ∧ xKd μ (AD b π i + 2) = 3 := by
  have hb := h.hb hi
  exact ⟨h.1.2.2.2.2.2.1.1, h.1.2.2.2.2.2.1.2, (h.2.1.1 i hi).2, hb.1, hb.2.2.2.2.2.2.1, hb.2.2.2.2.2.2.2.1, hb.2.2.1⟩
theorem c35 (h : SC μ b π n x) (hG : GI x.1 g n F) (id : Int32) : (pFind x.1 id = -1 → Cn G 35 [.ref b, .int id] μ Q = Q (.inl (some .null)) μ) ∧ ∀ p, p < n → pFind x.1 id = nI p → Cn G 35 [.ref b, .int id] μ Q = Q (.inl (some (.ref (AD b π p)))) μ := by
  have hn8 := hG.2.2.1
  have key : ∀ k i l5, i + k = 8 → (mfind (fun p => x.1 (19 + 75 * p)) id (n - i) i = -1 → Rn G 35 11 [some (.ref b), some (.int id), some (.ref (b + 5)), some (.int (nI 8)), some (.int (nI i)), l5] [] μ Q = Q (.inl (some .null)) μ) ∧ ∀ p, p < n → mfind (fun p => x.1 (19 + 75 * p)) id (n - i) i = nI p → Rn G 35 11 [some (.ref b), some (.int id), some (.ref (b + 5)), some (.int (nI 8)), some (.int (nI i)), l5] [] μ Q = Q (.inl (some (.ref (AD b π p)))) μ := by
    intro k
    induction k with
    | zero =>
      intro i l5 hi
      have h2 : 8 ≤ i := by omega
      refine ⟨fun _ => ?_, fun p hp z => ?_⟩
      · rw [q35_11]
        simp (disch := first | assumption | (simp only [MM_Kd, rI_Kd, rJ_Kd, sI_Kd, sJ_Kd, sR_Kd]; assumption) | omega | decide) only [q35_0, q35_0N, q35_1, q35_4, q35_4N, q35_5, q35_5N, q35_6, q35_6T, q35_7, q35_8, q35_9, q35_13, q35_14, q35_17, q35_17N, q35_18, q35_20, q35_21, q35_21N, q35_23, q35_23N, q35_25, q35_28, q35_31, q35_31N, q35_33, q35_36, q35_37, q35_40, q35_40N, q35_42, q35_42N, q35_43, q35_46, q35_49, q35_50, q35_50N, nI_leI, h2, xaf_s, xaf_v, va_rf_s, xix_n, nI_clamp, xk1_i, xk1_a, xk1_u, xk1_n, xk1_l, xk1_d, true_and, and_true, ↓reduceIte, Nat.reduceAdd, xtup]
      · rw [show n - i = 0 by omega] at z
        exact absurd z.symm (nI_ne1 (by omega))
    | succ k ih =>
      intro i l5 hi
      have h2 : ¬ 8 ≤ i := by omega
      obtain ⟨b5, u5, hrow, hk4, -⟩ := h.row (show i < 8 by omega)
      have ih' := ih (i + 1) (some (.ref (AD b π i))) (by omega)
      by_cases hin : i < n
      · obtain ⟨m2, m3, -⟩ := (h.2.2.2.1 i hin (by omega)).w
        have e : n - i = (n - (i + 1)) + 1 := by omega
        rw [e]
        unfold mfind
        by_cases hid : x.1 (19 + 75 * i) = id
        · rw [if_pos hid]
          refine ⟨fun z => absurd z (nI_ne1 (by omega)), fun p hp z => ?_⟩
          have := (nI_eq (by omega) (by omega)).mp z
          subst this
          rw [q35_11]
          simp (disch := first | exact Or.inl b5 | first | assumption | (simp only [MM_Kd, rI_Kd, rJ_Kd, sI_Kd, sJ_Kd, sR_Kd]; assumption) | omega | decide) only [q35_0, q35_0N, q35_1, q35_4, q35_4N, q35_5, q35_5N, q35_6, q35_6T, q35_7, q35_8, q35_9, q35_13, q35_14, q35_17, q35_17N, q35_18, q35_20, q35_21, q35_21N, q35_23, q35_23N, q35_25, q35_28, q35_31, q35_31N, q35_33, q35_36, q35_37, q35_40, q35_40N, q35_42, q35_42N, q35_43, q35_46, q35_49, q35_50, q35_50N, nI_leI, h2, hrow, u5, m2, m3, eq_true hid, c10, not_true_eq_false, xaf_s, xaf_v, va_rf_s, xix_n, nI_clamp, xk1_i, xk1_a, xk1_u, xk1_n, xk1_l, xk1_d, true_and, and_true, ↓reduceIte, Nat.reduceAdd, xtup]
        · rw [if_neg hid]
          refine ⟨fun z => ?_, fun p hp z => ?_⟩
          · rw [q35_11]
            simp (disch := first | exact Or.inl b5 | first | assumption | (simp only [MM_Kd, rI_Kd, rJ_Kd, sI_Kd, sJ_Kd, sR_Kd]; assumption) | omega | decide) only [q35_0, q35_0N, q35_1, q35_4, q35_4N, q35_5, q35_5N, q35_6, q35_6T, q35_7, q35_8, q35_9, q35_13, q35_14, q35_17, q35_17N, q35_18, q35_20, q35_21, q35_21N, q35_23, q35_23N, q35_25, q35_28, q35_31, q35_31N, q35_33, q35_36, q35_37, q35_40, q35_40N, q35_42, q35_42N, q35_43, q35_46, q35_49, q35_50, q35_50N, nI_leI, h2, hrow, u5, m2, m3, hid, c10, not_false_eq_true, nI_1, xaf_s, xaf_v, va_rf_s, xix_n, nI_clamp, xk1_i, xk1_a, xk1_u, xk1_n, xk1_l, xk1_d, true_and, and_true, ↓reduceIte, Nat.reduceAdd, xtup]
            exact ih'.1 z
          · rw [q35_11]
            simp (disch := first | exact Or.inl b5 | first | assumption | (simp only [MM_Kd, rI_Kd, rJ_Kd, sI_Kd, sJ_Kd, sR_Kd]; assumption) | omega | decide) only [q35_0, q35_0N, q35_1, q35_4, q35_4N, q35_5, q35_5N, q35_6, q35_6T, q35_7, q35_8, q35_9, q35_13, q35_14, q35_17, q35_17N, q35_18, q35_20, q35_21, q35_21N, q35_23, q35_23N, q35_25, q35_28, q35_31, q35_31N, q35_33, q35_36, q35_37, q35_40, q35_40N, q35_42, q35_42N, q35_43, q35_46, q35_49, q35_50, q35_50N, nI_leI, h2, hrow, u5, m2, m3, hid, c10, not_false_eq_true, nI_1, xaf_s, xaf_v, va_rf_s, xix_n, nI_clamp, xk1_i, xk1_a, xk1_u, xk1_n, xk1_l, xk1_d, true_and, and_true, ↓reduceIte, Nat.reduceAdd, xtup]
            exact ih'.2 p hp z
      · have h0 := h.2.2.2.2 i (by omega) (by omega)
        rw [show n - i = 0 by omega]
        rw [show n - (i + 1) = 0 by omega] at ih'
        refine ⟨fun z => ?_, fun p hp z => absurd z.symm (nI_ne1 (by omega))⟩
        rw [q35_11]
        simp (disch := first | exact Or.inl b5 | first | assumption | (simp only [MM_Kd, rI_Kd, rJ_Kd, sI_Kd, sJ_Kd, sR_Kd]; assumption) | omega | decide) only [q35_0, q35_0N, q35_1, q35_4, q35_4N, q35_5, q35_5N, q35_6, q35_6T, q35_7, q35_8, q35_9, q35_13, q35_14, q35_17, q35_17N, q35_18, q35_20, q35_21, q35_21N, q35_23, q35_23N, q35_25, q35_28, q35_31, q35_31N, q35_33, q35_36, q35_37, q35_40, q35_40N, q35_42, q35_42N, q35_43, q35_46, q35_49, q35_50, q35_50N, nI_leI, h2, hrow, u5, h0, c00, nI_1, xaf_s, xaf_v, va_rf_s, xix_n, nI_clamp, xk1_i, xk1_a, xk1_u, xk1_n, xk1_l, xk1_d, true_and, and_true, ↓reduceIte, Nat.reduceAdd, xtup]
        exact ih'.1 rfl
  have hk := key 8 0 none (by omega)
  have e0 : mfind (fun p => x.1 (19 + 75 * p)) id (n - 0) 0 = pFind x.1 id := by
    unfold pFind; rw [hG.2.1, nI_clamp (by omega), Nat.sub_zero]
  rw [e0, show (nI 0 : Int32) = 0 from rfl] at hk
  obtain ⟨b0, ⟨b1, u1⟩, ⟨b2, u2⟩, ⟨b3, u3⟩, ⟨b4, u4⟩, ⟨b5, u5⟩, ⟨b6, u6⟩, r0, r1, r2, r3, r4, r5⟩ := h.1
  refine ⟨fun z => ?_, fun p hp z => ?_⟩
  · show Rn G 35 0 [some (.ref b), some (.int id), none, none, none, none] [] μ Q = _
    simp (disch := first | assumption | (simp only [MM_Kd, rI_Kd, rJ_Kd, sI_Kd, sJ_Kd, sR_Kd]; assumption) | omega | decide) only [q35_0, q35_0N, q35_1, q35_4, q35_4N, q35_5, q35_5N, q35_6, q35_6T, q35_7, q35_8, q35_9, q35_13, q35_14, q35_17, q35_17N, q35_18, q35_20, q35_21, q35_21N, q35_23, q35_23N, q35_25, q35_28, q35_31, q35_31N, q35_33, q35_36, q35_37, q35_40, q35_40N, q35_42, q35_42N, q35_43, q35_46, q35_49, q35_50, q35_50N, r4, u5, xaf_s, xaf_v, va_rf_s, xix_n, nI_clamp, xk1_i, xk1_a, xk1_u, xk1_n, xk1_l, xk1_d, true_and, and_true, ↓reduceIte, Nat.reduceAdd, xtup]
    exact hk.1 z
  · show Rn G 35 0 [some (.ref b), some (.int id), none, none, none, none] [] μ Q = _
    simp (disch := first | assumption | (simp only [MM_Kd, rI_Kd, rJ_Kd, sI_Kd, sJ_Kd, sR_Kd]; assumption) | omega | decide) only [q35_0, q35_0N, q35_1, q35_4, q35_4N, q35_5, q35_5N, q35_6, q35_6T, q35_7, q35_8, q35_9, q35_13, q35_14, q35_17, q35_17N, q35_18, q35_20, q35_21, q35_21N, q35_23, q35_23N, q35_25, q35_28, q35_31, q35_31N, q35_33, q35_36, q35_37, q35_40, q35_40N, q35_42, q35_42N, q35_43, q35_46, q35_49, q35_50, q35_50N, r4, u5, xaf_s, xaf_v, va_rf_s, xix_n, nI_clamp, xk1_i, xk1_a, xk1_u, xk1_n, xk1_l, xk1_d, true_and, and_true, ↓reduceIte, Nat.reduceAdd, xtup]
    exact hk.2 p hp z
theorem c37 (h : SC μ b π n x) (hn8 : n ≤ 8) : Cn G 37 [.ref b] μ Q = Q (.inl (some (if n < 8 then .ref (AD b π n) else .null))) μ := by
  have key : ∀ k i l4, i + k = 8 → i ≤ n → Rn G 37 10 [some (.ref b), some (.ref (b + 5)), some (.int (nI 8)), some (.int (nI i)), l4] [] μ Q = Q (.inl (some (if n < 8 then .ref (AD b π n) else .null))) μ := by
    intro k
    induction k with
    | zero =>
      intro i l4 hi hin
      have h2 : 8 ≤ i := by omega
      have h8 : ¬ n < 8 := by omega
      rw [q37_10]
      simp (disch := first | assumption | (simp only [MM_Kd, rI_Kd, rJ_Kd, sI_Kd, sJ_Kd, sR_Kd]; assumption) | omega | decide) only [q37_0, q37_0N, q37_1, q37_4, q37_4N, q37_5, q37_5N, q37_6, q37_6T, q37_7, q37_8, q37_9, q37_11, q37_12, q37_15, q37_15N, q37_16, q37_17, q37_18, q37_18N, q37_20, q37_20N, q37_22, q37_25, q37_28, q37_28N, q37_30, q37_30N, q37_31, q37_34, q37_37, q37_38, q37_38N, nI_leI, h2, h8, xaf_s, xaf_v, va_rf_s, xix_n, nI_clamp, xk1_i, xk1_a, xk1_u, xk1_n, xk1_l, xk1_d, true_and, and_true, ↓reduceIte, Nat.reduceAdd, xtup]
    | succ k ih =>
      intro i l4 hi hin
      have h2 : ¬ 8 ≤ i := by omega
      obtain ⟨b5, u5, hrow, hk4, -⟩ := h.row (show i < 8 by omega)
      by_cases hlt : i < n
      · obtain ⟨m2, -⟩ := (h.2.2.2.1 i hlt (by omega)).w
        rw [q37_10]
        simp (disch := first | exact Or.inl b5 | first | assumption | (simp only [MM_Kd, rI_Kd, rJ_Kd, sI_Kd, sJ_Kd, sR_Kd]; assumption) | omega | decide) only [q37_0, q37_0N, q37_1, q37_4, q37_4N, q37_5, q37_5N, q37_6, q37_6T, q37_7, q37_8, q37_9, q37_11, q37_12, q37_15, q37_15N, q37_16, q37_17, q37_18, q37_18N, q37_20, q37_20N, q37_22, q37_25, q37_28, q37_28N, q37_30, q37_30N, q37_31, q37_34, q37_37, q37_38, q37_38N, nI_leI, h2, hrow, u5, m2, c10, not_false_eq_true, nI_1, xaf_s, xaf_v, va_rf_s, xix_n, nI_clamp, xk1_i, xk1_a, xk1_u, xk1_n, xk1_l, xk1_d, true_and, and_true, ↓reduceIte, Nat.reduceAdd, xtup]
        exact ih (i + 1) _ (by omega) (by omega)
      · have : i = n := by omega
        subst this
        have h0 := h.2.2.2.2 i (by omega) (by omega)
        have h8 : i < 8 := by omega
        rw [q37_10]
        simp (disch := first | exact Or.inl b5 | first | assumption | (simp only [MM_Kd, rI_Kd, rJ_Kd, sI_Kd, sJ_Kd, sR_Kd]; assumption) | omega | decide) only [q37_0, q37_0N, q37_1, q37_4, q37_4N, q37_5, q37_5N, q37_6, q37_6T, q37_7, q37_8, q37_9, q37_11, q37_12, q37_15, q37_15N, q37_16, q37_17, q37_18, q37_18N, q37_20, q37_20N, q37_22, q37_25, q37_28, q37_28N, q37_30, q37_30N, q37_31, q37_34, q37_37, q37_38, q37_38N, nI_leI, h2, hrow, u5, h0, c00, not_true_eq_false, h8, xaf_s, xaf_v, va_rf_s, xix_n, nI_clamp, xk1_i, xk1_a, xk1_u, xk1_n, xk1_l, xk1_d, true_and, and_true, ↓reduceIte, Nat.reduceAdd, xtup]
  have hk := key 8 0 none (by omega) (by omega)
  rw [show (nI 0 : Int32) = 0 from rfl] at hk
  obtain ⟨b0, ⟨b1, u1⟩, ⟨b2, u2⟩, ⟨b3, u3⟩, ⟨b4, u4⟩, ⟨b5, u5⟩, ⟨b6, u6⟩, r0, r1, r2, r3, r4, r5⟩ := h.1
  show Rn G 37 0 [some (.ref b), none, none, none, none] [] μ Q = _
  simp (disch := first | assumption | (simp only [MM_Kd, rI_Kd, rJ_Kd, sI_Kd, sJ_Kd, sR_Kd]; assumption) | omega | decide) only [q37_0, q37_0N, q37_1, q37_4, q37_4N, q37_5, q37_5N, q37_6, q37_6T, q37_7, q37_8, q37_9, q37_11, q37_12, q37_15, q37_15N, q37_16, q37_17, q37_18, q37_18N, q37_20, q37_20N, q37_22, q37_25, q37_28, q37_28N, q37_30, q37_30N, q37_31, q37_34, q37_37, q37_38, q37_38N, r4, u5, xaf_s, xaf_v, va_rf_s, xix_n, nI_clamp, xk1_i, xk1_a, xk1_u, xk1_n, xk1_l, xk1_d, true_and, and_true, ↓reduceIte, Nat.reduceAdd, xtup]
  exact hk
theorem c36 (h : SC μ b π n x) (hn8 : n ≤ 8) {P : Nat} (hP : P < 2 ^ 31) : Cn G 36 [.ref b, .int (nI P)] μ Q = Q (.inl (some (if P < n then .ref (AD b π P) else .null))) μ := by
  obtain ⟨b0, ⟨b1, u1⟩, ⟨b2, u2⟩, ⟨b3, u3⟩, ⟨b4, u4⟩, ⟨b5, u5⟩, ⟨b6, u6⟩, r0, r1, r2, r3, r4, r5⟩ := h.1
  have z0 : ¬ nI P < 0 := by rw [show (0 : Int32) = nI 0 from rfl, nI_ltI (by omega) (by omega)]; omega
  have z8 : (nI P < (8 : Int32)) = (P < 8) := propext (nI_ltI (b := 8) (by omega) (by omega))
  show Rn G 36 0 [some (.ref b), some (.int (nI P)), none] [] μ Q = _
  by_cases h8 : P < 8
  · obtain ⟨-, -, hrow, hk4, -⟩ := h.row h8
    by_cases hn : P < n
    · obtain ⟨m2, -⟩ := (h.2.2.2.1 P hn h8).w
      simp (disch := first | exact Or.inl b5 | first | assumption | (simp only [MM_Kd, rI_Kd, rJ_Kd, sI_Kd, sJ_Kd, sR_Kd]; assumption) | omega | decide) only [q36_0, q36_1, q36_4, q36_5, q36_7, q36_10, q36_11, q36_11N, q36_12, q36_12N, q36_13, q36_16, q36_17, q36_18, q36_18N, q36_19, q36_19N, q36_20, q36_23, q36_26, q36_26N, q36_27, q36_30, q36_31, q36_31N, z0, z8, h8, hn, r4, hrow, u5, m2, c10, xaf_s, xaf_v, va_rf_s, xix_n, nI_clamp, xk1_i, xk1_a, xk1_u, xk1_n, xk1_l, xk1_d, true_and, and_true, ↓reduceIte, Nat.reduceAdd, xtup]
    · have h0 := h.2.2.2.2 P (by omega) h8
      simp (disch := first | exact Or.inl b5 | first | assumption | (simp only [MM_Kd, rI_Kd, rJ_Kd, sI_Kd, sJ_Kd, sR_Kd]; assumption) | omega | decide) only [q36_0, q36_1, q36_4, q36_5, q36_7, q36_10, q36_11, q36_11N, q36_12, q36_12N, q36_13, q36_16, q36_17, q36_18, q36_18N, q36_19, q36_19N, q36_20, q36_23, q36_26, q36_26N, q36_27, q36_30, q36_31, q36_31N, z0, z8, h8, hn, r4, hrow, u5, h0, c00, xaf_s, xaf_v, va_rf_s, xix_n, nI_clamp, xk1_i, xk1_a, xk1_u, xk1_n, xk1_l, xk1_d, true_and, and_true, ↓reduceIte, Nat.reduceAdd, xtup]
  · have hn : ¬ P < n := by omega
    simp (disch := first | exact Or.inl b5 | first | assumption | (simp only [MM_Kd, rI_Kd, rJ_Kd, sI_Kd, sJ_Kd, sR_Kd]; assumption) | omega | decide) only [q36_0, q36_1, q36_4, q36_5, q36_7, q36_10, q36_11, q36_11N, q36_12, q36_12N, q36_13, q36_16, q36_17, q36_18, q36_18N, q36_19, q36_19N, q36_20, q36_23, q36_26, q36_26N, q36_27, q36_30, q36_31, q36_31N, z0, z8, h8, hn, xaf_s, xaf_v, va_rf_s, xix_n, nI_clamp, xk1_i, xk1_a, xk1_u, xk1_n, xk1_l, xk1_d, true_and, and_true, ↓reduceIte, Nat.reduceAdd, xtup]
theorem c60 (h : SC μ b π n x) (hn8 : n ≤ 8) : Cn G 60 [.ref b] μ Q = Q (.inl (some (.int (itr (fun (_ : Nat) (a : Int32) => a + 1) n 0)))) μ := by
  have key : ∀ k i l5, i + k = 8 → Rn G 60 13 [some (.ref b), some (.int (itr (fun (_ : Nat) (a : Int32) => a + 1) (min i n) 0)), some (.ref (b + 5)), some (.int (nI 8)), some (.int (nI i)), l5] [] μ Q = Q (.inl (some (.int (itr (fun (_ : Nat) (a : Int32) => a + 1) n 0)))) μ := by
    intro k
    induction k with
    | zero =>
      intro i l5 hi
      have h2 : 8 ≤ i := by omega
      rw [Nat.min_eq_right (by omega), q60_13]
      simp (disch := first | assumption | (simp only [MM_Kd, rI_Kd, rJ_Kd, sI_Kd, sJ_Kd, sR_Kd]; assumption) | omega | decide) only [q60_0, q60_1, q60_2, q60_2N, q60_3, q60_6, q60_6N, q60_7, q60_7N, q60_8, q60_8T, q60_9, q60_10, q60_11, q60_15, q60_16, q60_19, q60_19N, q60_20, q60_22, q60_23, q60_23N, q60_25, q60_26, q60_26N, q60_28, q60_31, q60_34, q60_35, q60_36, q60_39, q60_42, q60_43, nI_leI, h2, xaf_s, xaf_v, va_rf_s, xix_n, nI_clamp, xk1_i, xk1_a, xk1_u, xk1_n, xk1_l, xk1_d, true_and, and_true, ↓reduceIte, Nat.reduceAdd, xtup]
    | succ k ih =>
      intro i l5 hi
      have h2 : ¬ 8 ≤ i := by omega
      obtain ⟨b5, u5, hrow, hk4, hr0, hr1, hk3⟩ := h.row (show i < 8 by omega)
      have ih' := fun l => ih (i + 1) l (by omega)
      by_cases hin : i < n
      · obtain ⟨m2, m3, m4, m5, m6, m7, m8, m9, m1, fi, ni, hl⟩ := (h.2.2.2.1 i hin (by omega)).w
        rw [Nat.min_eq_left (show i + 1 ≤ n by omega), show itr (fun (_ : Nat) (a : Int32) => a + 1) (i + 1) 0 = (fun (_ : Nat) (a : Int32) => a + 1) i (itr (fun (_ : Nat) (a : Int32) => a + 1) i 0) from rfl] at ih'
        rw [Nat.min_eq_left (show i ≤ n by omega)]
        generalize itr (fun (_ : Nat) (a : Int32) => a + 1) i 0 = acc at *
        rw [q60_13]
        simp (disch := first | exact Or.inl b5 | first | assumption | (simp only [MM_Kd, rI_Kd, rJ_Kd, sI_Kd, sJ_Kd, sR_Kd]; assumption) | omega | decide) only [q60_0, q60_1, q60_2, q60_2N, q60_3, q60_6, q60_6N, q60_7, q60_7N, q60_8, q60_8T, q60_9, q60_10, q60_11, q60_15, q60_16, q60_19, q60_19N, q60_20, q60_22, q60_23, q60_23N, q60_25, q60_26, q60_26N, q60_28, q60_31, q60_34, q60_35, q60_36, q60_39, q60_42, q60_43, nI_leI, h2, hrow, u5, m2, c107, or_true, nI_1, xaf_s, xaf_v, va_rf_s, xix_n, nI_clamp, xk1_i, xk1_a, xk1_u, xk1_n, xk1_l, xk1_d, true_and, and_true, ↓reduceIte, Nat.reduceAdd, xtup]
        exact ih' _
      · have h0 := h.2.2.2.2 i (by omega) (by omega)
        have hc23 := fun Q => c23_0 (G := G) (Q := Q) (h.hb (show i < 8 by omega)) h0
        rw [Nat.min_eq_right (show n ≤ i + 1 by omega)] at ih'
        rw [Nat.min_eq_right (show n ≤ i by omega), q60_13]
        simp (disch := first | exact Or.inl b5 | first | assumption | (simp only [MM_Kd, rI_Kd, rJ_Kd, sI_Kd, sJ_Kd, sR_Kd]; assumption) | omega | decide) only [q60_0, q60_1, q60_2, q60_2N, q60_3, q60_6, q60_6N, q60_7, q60_7N, q60_8, q60_8T, q60_9, q60_10, q60_11, q60_15, q60_16, q60_19, q60_19N, q60_20, q60_22, q60_23, q60_23N, q60_25, q60_26, q60_26N, q60_28, q60_31, q60_34, q60_35, q60_36, q60_39, q60_42, q60_43, nI_leI, h2, hrow, u5, h0, hc23, c00, c107, true_or, nI_a0, nI_1, xaf_s, xaf_v, va_rf_s, xix_n, nI_clamp, xk1_i, xk1_a, xk1_u, xk1_n, xk1_l, xk1_d, true_and, and_true, ↓reduceIte, Nat.reduceAdd, xtup]
        exact ih' _
  have hk := key 8 0 none (by omega)
  rw [Nat.zero_min, show (nI 0 : Int32) = 0 from rfl] at hk
  obtain ⟨b0, ⟨b1, u1⟩, ⟨b2, u2⟩, ⟨b3, u3⟩, ⟨b4, u4⟩, ⟨b5, u5⟩, ⟨b6, u6⟩, r0, r1, r2, r3, r4, r5⟩ := h.1
  show Rn G 60 0 [some (.ref b), none, none, none, none, none] [] μ Q = _
  simp (disch := first | assumption | (simp only [MM_Kd, rI_Kd, rJ_Kd, sI_Kd, sJ_Kd, sR_Kd]; assumption) | omega | decide) only [q60_0, q60_1, q60_2, q60_2N, q60_3, q60_6, q60_6N, q60_7, q60_7N, q60_8, q60_8T, q60_9, q60_10, q60_11, q60_15, q60_16, q60_19, q60_19N, q60_20, q60_22, q60_23, q60_23N, q60_25, q60_26, q60_26N, q60_28, q60_31, q60_34, q60_35, q60_36, q60_39, q60_42, q60_43, r4, u5, xaf_s, xaf_v, va_rf_s, xix_n, nI_clamp, xk1_i, xk1_a, xk1_u, xk1_n, xk1_l, xk1_d, true_and, and_true, ↓reduceIte, Nat.reduceAdd, xtup]
  exact hk
theorem c61 (h : SC μ b π n x) (hn8 : n ≤ 8) (hr7 : ∀ i, i < n → x.1 (19 + 75 * i + 7) = 0 ∨ x.1 (19 + 75 * i + 7) = 1) : Cn G 61 [.ref b] μ Q = Q (.inl (some (.int (itr (fun p a => a + x.1 (19 + 75 * p + 7)) n 0)))) μ := by
  have key : ∀ k i l5, i + k = 8 → Rn G 61 13 [some (.ref b), some (.int (itr (fun p a => a + x.1 (19 + 75 * p + 7)) (min i n) 0)), some (.ref (b + 5)), some (.int (nI 8)), some (.int (nI i)), l5] [] μ Q = Q (.inl (some (.int (itr (fun p a => a + x.1 (19 + 75 * p + 7)) n 0)))) μ := by
    intro k
    induction k with
    | zero =>
      intro i l5 hi
      have h2 : 8 ≤ i := by omega
      rw [Nat.min_eq_right (by omega), q61_13]
      simp (disch := first | assumption | (simp only [MM_Kd, rI_Kd, rJ_Kd, sI_Kd, sJ_Kd, sR_Kd]; assumption) | omega | decide) only [q61_0, q61_1, q61_2, q61_2N, q61_3, q61_6, q61_6N, q61_7, q61_7N, q61_8, q61_8T, q61_9, q61_10, q61_11, q61_15, q61_16, q61_19, q61_19N, q61_20, q61_22, q61_23, q61_23N, q61_25, q61_26, q61_26N, q61_28, q61_31, q61_34, q61_34N, q61_36, q61_39, q61_42, q61_43, q61_46, q61_47, q61_50, q61_51, q61_52, q61_55, q61_58, q61_59, nI_leI, h2, xaf_s, xaf_v, va_rf_s, xix_n, nI_clamp, xk1_i, xk1_a, xk1_u, xk1_n, xk1_l, xk1_d, true_and, and_true, ↓reduceIte, Nat.reduceAdd, xtup]
    | succ k ih =>
      intro i l5 hi
      have h2 : ¬ 8 ≤ i := by omega
      obtain ⟨b5, u5, hrow, hk4, hr0, hr1, hk3⟩ := h.row (show i < 8 by omega)
      have ih' := fun l => ih (i + 1) l (by omega)
      by_cases hin : i < n
      · obtain ⟨m2, m3, m4, m5, m6, m7, m8, m9, m1, fi, ni, hl⟩ := (h.2.2.2.1 i hin (by omega)).w
        rw [Nat.min_eq_left (show i + 1 ≤ n by omega), show itr (fun p a => a + x.1 (19 + 75 * p + 7)) (i + 1) 0 = (fun p a => a + x.1 (19 + 75 * p + 7)) i (itr (fun p a => a + x.1 (19 + 75 * p + 7)) i 0) from rfl] at ih'
        rw [Nat.min_eq_left (show i ≤ n by omega)]
        generalize itr (fun p a => a + x.1 (19 + 75 * p + 7)) i 0 = acc at *
        rcases hr7 i hin with h7 | h7
        · have i7 : xI μ (AD b π i) 7 = 0 := by rw [m7]; exact h7
          dsimp only at ih'
          rw [h7] at ih'
          rw [q61_13]
          simp (disch := first | exact Or.inl b5 | first | assumption | (simp only [MM_Kd, rI_Kd, rJ_Kd, sI_Kd, sJ_Kd, sR_Kd]; assumption) | omega | decide) only [q61_0, q61_1, q61_2, q61_2N, q61_3, q61_6, q61_6N, q61_7, q61_7N, q61_8, q61_8T, q61_9, q61_10, q61_11, q61_15, q61_16, q61_19, q61_19N, q61_20, q61_22, q61_23, q61_23N, q61_25, q61_26, q61_26N, q61_28, q61_31, q61_34, q61_34N, q61_36, q61_39, q61_42, q61_43, q61_46, q61_47, q61_50, q61_51, q61_52, q61_55, q61_58, q61_59, nI_leI, h2, hrow, u5, m2, i7, c00, c10, c107, true_or, nI_1, xaf_s, xaf_v, va_rf_s, xix_n, nI_clamp, xk1_i, xk1_a, xk1_u, xk1_n, xk1_l, xk1_d, true_and, and_true, ↓reduceIte, Nat.reduceAdd, xtup]
          exact ih' _
        · have i7 : xI μ (AD b π i) 7 = 1 := by rw [m7]; exact h7
          dsimp only at ih'
          rw [h7] at ih'
          rw [q61_13]
          simp (disch := first | exact Or.inl b5 | first | assumption | (simp only [MM_Kd, rI_Kd, rJ_Kd, sI_Kd, sJ_Kd, sR_Kd]; assumption) | omega | decide) only [q61_0, q61_1, q61_2, q61_2N, q61_3, q61_6, q61_6N, q61_7, q61_7N, q61_8, q61_8T, q61_9, q61_10, q61_11, q61_15, q61_16, q61_19, q61_19N, q61_20, q61_22, q61_23, q61_23N, q61_25, q61_26, q61_26N, q61_28, q61_31, q61_34, q61_34N, q61_36, q61_39, q61_42, q61_43, q61_46, q61_47, q61_50, q61_51, q61_52, q61_55, q61_58, q61_59, nI_leI, h2, hrow, u5, m2, i7, c00, c10, c107, or_true, nI_1, xaf_s, xaf_v, va_rf_s, xix_n, nI_clamp, xk1_i, xk1_a, xk1_u, xk1_n, xk1_l, xk1_d, true_and, and_true, ↓reduceIte, Nat.reduceAdd, xtup]
          exact ih' _
      · have h0 := h.2.2.2.2 i (by omega) (by omega)
        have hc23 := fun Q => c23_0 (G := G) (Q := Q) (h.hb (show i < 8 by omega)) h0
        rw [Nat.min_eq_right (show n ≤ i + 1 by omega)] at ih'
        rw [Nat.min_eq_right (show n ≤ i by omega), q61_13]
        simp (disch := first | exact Or.inl b5 | first | assumption | (simp only [MM_Kd, rI_Kd, rJ_Kd, sI_Kd, sJ_Kd, sR_Kd]; assumption) | omega | decide) only [q61_0, q61_1, q61_2, q61_2N, q61_3, q61_6, q61_6N, q61_7, q61_7N, q61_8, q61_8T, q61_9, q61_10, q61_11, q61_15, q61_16, q61_19, q61_19N, q61_20, q61_22, q61_23, q61_23N, q61_25, q61_26, q61_26N, q61_28, q61_31, q61_34, q61_34N, q61_36, q61_39, q61_42, q61_43, q61_46, q61_47, q61_50, q61_51, q61_52, q61_55, q61_58, q61_59, nI_leI, h2, hrow, u5, h0, hc23, c00, c107, true_or, nI_a0, nI_1, xaf_s, xaf_v, va_rf_s, xix_n, nI_clamp, xk1_i, xk1_a, xk1_u, xk1_n, xk1_l, xk1_d, true_and, and_true, ↓reduceIte, Nat.reduceAdd, xtup]
        exact ih' _
  have hk := key 8 0 none (by omega)
  rw [Nat.zero_min, show (nI 0 : Int32) = 0 from rfl] at hk
  obtain ⟨b0, ⟨b1, u1⟩, ⟨b2, u2⟩, ⟨b3, u3⟩, ⟨b4, u4⟩, ⟨b5, u5⟩, ⟨b6, u6⟩, r0, r1, r2, r3, r4, r5⟩ := h.1
  show Rn G 61 0 [some (.ref b), none, none, none, none, none] [] μ Q = _
  simp (disch := first | assumption | (simp only [MM_Kd, rI_Kd, rJ_Kd, sI_Kd, sJ_Kd, sR_Kd]; assumption) | omega | decide) only [q61_0, q61_1, q61_2, q61_2N, q61_3, q61_6, q61_6N, q61_7, q61_7N, q61_8, q61_8T, q61_9, q61_10, q61_11, q61_15, q61_16, q61_19, q61_19N, q61_20, q61_22, q61_23, q61_23N, q61_25, q61_26, q61_26N, q61_28, q61_31, q61_34, q61_34N, q61_36, q61_39, q61_42, q61_43, q61_46, q61_47, q61_50, q61_51, q61_52, q61_55, q61_58, q61_59, r4, u5, xaf_s, xaf_v, va_rf_s, xix_n, nI_clamp, xk1_i, xk1_a, xk1_u, xk1_n, xk1_l, xk1_d, true_and, and_true, ↓reduceIte, Nat.reduceAdd, xtup]
  exact hk
theorem c62 (h : SC μ b π n x) (hn8 : n ≤ 8) : Cn G 62 [.ref b] μ Q = Q (.inl (some (.int (itr (fun p a => a + x.1 (19 + 75 * p + 10)) n 0)))) μ := by
  have key : ∀ k i l5, i + k = 8 → Rn G 62 13 [some (.ref b), some (.int (itr (fun p a => a + x.1 (19 + 75 * p + 10)) (min i n) 0)), some (.ref (b + 5)), some (.int (nI 8)), some (.int (nI i)), l5] [] μ Q = Q (.inl (some (.int (itr (fun p a => a + x.1 (19 + 75 * p + 10)) n 0)))) μ := by
    intro k
    induction k with
    | zero =>
      intro i l5 hi
      have h2 : 8 ≤ i := by omega
      rw [Nat.min_eq_right (by omega), q62_13]
      simp (disch := first | assumption | (simp only [MM_Kd, rI_Kd, rJ_Kd, sI_Kd, sJ_Kd, sR_Kd]; assumption) | omega | decide) only [q62_0, q62_1, q62_2, q62_2N, q62_3, q62_6, q62_6N, q62_7, q62_7N, q62_8, q62_8T, q62_9, q62_10, q62_11, q62_15, q62_16, q62_19, q62_19N, q62_20, q62_22, q62_23, q62_23N, q62_25, q62_26, q62_26N, q62_28, q62_31, q62_34, q62_34N, q62_36, q62_39, q62_42, q62_45, q62_46, q62_47, q62_48, q62_51, q62_54, q62_55, nI_leI, h2, xaf_s, xaf_v, va_rf_s, xix_n, nI_clamp, xk1_i, xk1_a, xk1_u, xk1_n, xk1_l, xk1_d, true_and, and_true, ↓reduceIte, Nat.reduceAdd, xtup]
    | succ k ih =>
      intro i l5 hi
      have h2 : ¬ 8 ≤ i := by omega
      obtain ⟨b5, u5, hrow, hk4, hr0, hr1, hk3⟩ := h.row (show i < 8 by omega)
      have ih' := fun l => ih (i + 1) l (by omega)
      by_cases hin : i < n
      · obtain ⟨m2, m3, m4, m5, m6, m7, m8, m9, m1, fi, ni, hl⟩ := (h.2.2.2.1 i hin (by omega)).w
        rw [Nat.min_eq_left (show i + 1 ≤ n by omega), show itr (fun p a => a + x.1 (19 + 75 * p + 10)) (i + 1) 0 = (fun p a => a + x.1 (19 + 75 * p + 10)) i (itr (fun p a => a + x.1 (19 + 75 * p + 10)) i 0) from rfl] at ih'
        rw [Nat.min_eq_left (show i ≤ n by omega)]
        generalize itr (fun p a => a + x.1 (19 + 75 * p + 10)) i 0 = acc at *
        have i4 : xI μ (AD b π i + 2) 4 = x.1 (19 + 75 * i + 10) := by
          rw [hl.2.2.2.1, ← hl.2.2.2.2.1, mw_at (by omega)]
        rw [q62_13]
        simp (disch := first | exact Or.inl b5 | first | assumption | (simp only [MM_Kd, rI_Kd, rJ_Kd, sI_Kd, sJ_Kd, sR_Kd]; assumption) | omega | decide) only [q62_0, q62_1, q62_2, q62_2N, q62_3, q62_6, q62_6N, q62_7, q62_7N, q62_8, q62_8T, q62_9, q62_10, q62_11, q62_15, q62_16, q62_19, q62_19N, q62_20, q62_22, q62_23, q62_23N, q62_25, q62_26, q62_26N, q62_28, q62_31, q62_34, q62_34N, q62_36, q62_39, q62_42, q62_45, q62_46, q62_47, q62_48, q62_51, q62_54, q62_55, nI_leI, h2, hrow, u5, m2, i4, hr1, c10, nI_1, xaf_s, xaf_v, va_rf_s, xix_n, nI_clamp, xk1_i, xk1_a, xk1_u, xk1_n, xk1_l, xk1_d, true_and, and_true, ↓reduceIte, Nat.reduceAdd, xtup]
        exact ih' _
      · have h0 := h.2.2.2.2 i (by omega) (by omega)
        have hc23 := fun Q => c23_0 (G := G) (Q := Q) (h.hb (show i < 8 by omega)) h0
        rw [Nat.min_eq_right (show n ≤ i + 1 by omega)] at ih'
        rw [Nat.min_eq_right (show n ≤ i by omega), q62_13]
        simp (disch := first | exact Or.inl b5 | first | assumption | (simp only [MM_Kd, rI_Kd, rJ_Kd, sI_Kd, sJ_Kd, sR_Kd]; assumption) | omega | decide) only [q62_0, q62_1, q62_2, q62_2N, q62_3, q62_6, q62_6N, q62_7, q62_7N, q62_8, q62_8T, q62_9, q62_10, q62_11, q62_15, q62_16, q62_19, q62_19N, q62_20, q62_22, q62_23, q62_23N, q62_25, q62_26, q62_26N, q62_28, q62_31, q62_34, q62_34N, q62_36, q62_39, q62_42, q62_45, q62_46, q62_47, q62_48, q62_51, q62_54, q62_55, nI_leI, h2, hrow, u5, h0, hc23, c00, c107, true_or, nI_a0, nI_1, xaf_s, xaf_v, va_rf_s, xix_n, nI_clamp, xk1_i, xk1_a, xk1_u, xk1_n, xk1_l, xk1_d, true_and, and_true, ↓reduceIte, Nat.reduceAdd, xtup]
        exact ih' _
  have hk := key 8 0 none (by omega)
  rw [Nat.zero_min, show (nI 0 : Int32) = 0 from rfl] at hk
  obtain ⟨b0, ⟨b1, u1⟩, ⟨b2, u2⟩, ⟨b3, u3⟩, ⟨b4, u4⟩, ⟨b5, u5⟩, ⟨b6, u6⟩, r0, r1, r2, r3, r4, r5⟩ := h.1
  show Rn G 62 0 [some (.ref b), none, none, none, none, none] [] μ Q = _
  simp (disch := first | assumption | (simp only [MM_Kd, rI_Kd, rJ_Kd, sI_Kd, sJ_Kd, sR_Kd]; assumption) | omega | decide) only [q62_0, q62_1, q62_2, q62_2N, q62_3, q62_6, q62_6N, q62_7, q62_7N, q62_8, q62_8T, q62_9, q62_10, q62_11, q62_15, q62_16, q62_19, q62_19N, q62_20, q62_22, q62_23, q62_23N, q62_25, q62_26, q62_26N, q62_28, q62_31, q62_34, q62_34N, q62_36, q62_39, q62_42, q62_45, q62_46, q62_47, q62_48, q62_51, q62_54, q62_55, r4, u5, xaf_s, xaf_v, va_rf_s, xix_n, nI_clamp, xk1_i, xk1_a, xk1_u, xk1_n, xk1_l, xk1_d, true_and, and_true, ↓reduceIte, Nat.reduceAdd, xtup]
  exact hk
theorem c63 (h : SC μ b π n x) (hn8 : n ≤ 8) (hr7 : ∀ i, i < n → x.1 (19 + 75 * i + 7) = 0 ∨ x.1 (19 + 75 * i + 7) = 1) : Cn G 63 [.ref b, .int (nI c)] μ Q = Q (.inl (some (.int (itr (wStep x.1 c 3) n 0)))) μ := by
  have key : ∀ k i l6, i + k = 8 → Rn G 63 14 [some (.ref b), some (.int (nI c)), some (.int (itr (wStep x.1 c 3) (min i n) 0)), some (.ref (b + 5)), some (.int (nI 8)), some (.int (nI i)), l6] [] μ Q = Q (.inl (some (.int (itr (wStep x.1 c 3) n 0)))) μ := by
    intro k
    induction k with
    | zero =>
      intro i l6 hi
      have h2 : 8 ≤ i := by omega
      rw [Nat.min_eq_right (by omega), q63_14]
      simp (disch := first | assumption | (simp only [MM_Kd, rI_Kd, rJ_Kd, sI_Kd, sJ_Kd, sR_Kd]; assumption) | omega | decide) only [q63_0, q63_1, q63_2, q63_2N, q63_3, q63_6, q63_6N, q63_7, q63_7N, q63_8, q63_8T, q63_9, q63_11, q63_12, q63_16, q63_18, q63_21, q63_21N, q63_22, q63_24, q63_25, q63_25N, q63_27, q63_28, q63_28N, q63_30, q63_33, q63_36, q63_36N, q63_38, q63_41, q63_42, q63_45, q63_46, q63_49, q63_50, q63_53, q63_54, q63_55, q63_58, q63_61, q63_62, nI_leI, h2, xaf_s, xaf_v, va_rf_s, xix_n, nI_clamp, xk1_i, xk1_a, xk1_u, xk1_n, xk1_l, xk1_d, true_and, and_true, ↓reduceIte, Nat.reduceAdd, xtup]
    | succ k ih =>
      intro i l6 hi
      have h2 : ¬ 8 ≤ i := by omega
      obtain ⟨b5, u5, hrow, hk4, hr0, hr1, hk3⟩ := h.row (show i < 8 by omega)
      have ih' := fun l => ih (i + 1) l (by omega)
      by_cases hin : i < n
      · obtain ⟨m2, m3, m4, m5, m6, m7, m8, m9, m1, fi, ni, hl⟩ := (h.2.2.2.1 i hin (by omega)).w
        rw [Nat.min_eq_left (show i + 1 ≤ n by omega), show itr (wStep x.1 c 3) (i + 1) 0 = (wStep x.1 c 3) i (itr (wStep x.1 c 3) i 0) from rfl] at ih'
        rw [Nat.min_eq_left (show i ≤ n by omega)]
        generalize itr (wStep x.1 c 3) i 0 = acc at *
        have hc23 := fun Q => c23 (G := G) (Q := Q) (h.hb (show i < 8 by omega)) m2 (by rw [m7]; exact hr7 i hin)
        rcases hr7 i hin with h7 | h7
        · have i7 : xI μ (AD b π i) 7 = 0 := by rw [m7]; exact h7
          have n7 : ¬ x.1 (19 + 75 * i + 7) = 1 := by rw [h7]; decide
          by_cases hs : x.1 (19 + 75 * i + 1) = nI c
          · have e1 : wStep x.1 c 3 i acc = acc + 1 := by unfold wStep; rw [if_pos rfl, if_pos ⟨n7, hs⟩]
            rw [e1] at ih'
            rw [q63_14]
            simp (disch := first | exact Or.inl b5 | first | assumption | (simp only [MM_Kd, rI_Kd, rJ_Kd, sI_Kd, sJ_Kd, sR_Kd]; assumption) | omega | decide) only [q63_0, q63_1, q63_2, q63_2N, q63_3, q63_6, q63_6N, q63_7, q63_7N, q63_8, q63_8T, q63_9, q63_11, q63_12, q63_16, q63_18, q63_21, q63_21N, q63_22, q63_24, q63_25, q63_25N, q63_27, q63_28, q63_28N, q63_30, q63_33, q63_36, q63_36N, q63_38, q63_41, q63_42, q63_45, q63_46, q63_49, q63_50, q63_53, q63_54, q63_55, q63_58, q63_61, q63_62, nI_leI, h2, hrow, u5, hc23, i7, m4, eq_true hs, c10, c107, or_true, not_true_eq_false, nI_1, xaf_s, xaf_v, va_rf_s, xix_n, nI_clamp, xk1_i, xk1_a, xk1_u, xk1_n, xk1_l, xk1_d, true_and, and_true, ↓reduceIte, Nat.reduceAdd, xtup]
            exact ih' _
          · have e1 : wStep x.1 c 3 i acc = acc := by unfold wStep; rw [if_pos rfl, if_neg (fun z => hs z.2)]; exact nI_a0 _
            rw [e1] at ih'
            rw [q63_14]
            simp (disch := first | exact Or.inl b5 | first | assumption | (simp only [MM_Kd, rI_Kd, rJ_Kd, sI_Kd, sJ_Kd, sR_Kd]; assumption) | omega | decide) only [q63_0, q63_1, q63_2, q63_2N, q63_3, q63_6, q63_6N, q63_7, q63_7N, q63_8, q63_8T, q63_9, q63_11, q63_12, q63_16, q63_18, q63_21, q63_21N, q63_22, q63_24, q63_25, q63_25N, q63_27, q63_28, q63_28N, q63_30, q63_33, q63_36, q63_36N, q63_38, q63_41, q63_42, q63_45, q63_46, q63_49, q63_50, q63_53, q63_54, q63_55, q63_58, q63_61, q63_62, nI_leI, h2, hrow, u5, hc23, i7, m4, hs, c10, c107, true_or, not_false_eq_true, nI_a0, nI_1, xaf_s, xaf_v, va_rf_s, xix_n, nI_clamp, xk1_i, xk1_a, xk1_u, xk1_n, xk1_l, xk1_d, true_and, and_true, ↓reduceIte, Nat.reduceAdd, xtup]
            exact ih' _
        · have i7 : xI μ (AD b π i) 7 = 1 := by rw [m7]; exact h7
          have e1 : wStep x.1 c 3 i acc = acc := by unfold wStep; rw [if_pos rfl, if_neg (fun z => z.1 h7)]; exact nI_a0 _
          rw [e1] at ih'
          rw [q63_14]
          simp (disch := first | exact Or.inl b5 | first | assumption | (simp only [MM_Kd, rI_Kd, rJ_Kd, sI_Kd, sJ_Kd, sR_Kd]; assumption) | omega | decide) only [q63_0, q63_1, q63_2, q63_2N, q63_3, q63_6, q63_6N, q63_7, q63_7N, q63_8, q63_8T, q63_9, q63_11, q63_12, q63_16, q63_18, q63_21, q63_21N, q63_22, q63_24, q63_25, q63_25N, q63_27, q63_28, q63_28N, q63_30, q63_33, q63_36, q63_36N, q63_38, q63_41, q63_42, q63_45, q63_46, q63_49, q63_50, q63_53, q63_54, q63_55, q63_58, q63_61, q63_62, nI_leI, h2, hrow, u5, hc23, i7, c00, c10, c107, true_or, nI_a0, nI_1, xaf_s, xaf_v, va_rf_s, xix_n, nI_clamp, xk1_i, xk1_a, xk1_u, xk1_n, xk1_l, xk1_d, true_and, and_true, ↓reduceIte, Nat.reduceAdd, xtup]
          exact ih' _
      · have h0 := h.2.2.2.2 i (by omega) (by omega)
        have hc23 := fun Q => c23_0 (G := G) (Q := Q) (h.hb (show i < 8 by omega)) h0
        rw [Nat.min_eq_right (show n ≤ i + 1 by omega)] at ih'
        rw [Nat.min_eq_right (show n ≤ i by omega), q63_14]
        simp (disch := first | exact Or.inl b5 | first | assumption | (simp only [MM_Kd, rI_Kd, rJ_Kd, sI_Kd, sJ_Kd, sR_Kd]; assumption) | omega | decide) only [q63_0, q63_1, q63_2, q63_2N, q63_3, q63_6, q63_6N, q63_7, q63_7N, q63_8, q63_8T, q63_9, q63_11, q63_12, q63_16, q63_18, q63_21, q63_21N, q63_22, q63_24, q63_25, q63_25N, q63_27, q63_28, q63_28N, q63_30, q63_33, q63_36, q63_36N, q63_38, q63_41, q63_42, q63_45, q63_46, q63_49, q63_50, q63_53, q63_54, q63_55, q63_58, q63_61, q63_62, nI_leI, h2, hrow, u5, h0, hc23, c00, c107, true_or, nI_a0, nI_1, xaf_s, xaf_v, va_rf_s, xix_n, nI_clamp, xk1_i, xk1_a, xk1_u, xk1_n, xk1_l, xk1_d, true_and, and_true, ↓reduceIte, Nat.reduceAdd, xtup]
        exact ih' _
  have hk := key 8 0 none (by omega)
  rw [Nat.zero_min, show (nI 0 : Int32) = 0 from rfl] at hk
  obtain ⟨b0, ⟨b1, u1⟩, ⟨b2, u2⟩, ⟨b3, u3⟩, ⟨b4, u4⟩, ⟨b5, u5⟩, ⟨b6, u6⟩, r0, r1, r2, r3, r4, r5⟩ := h.1
  show Rn G 63 0 [some (.ref b), some (.int (nI c)), none, none, none, none, none] [] μ Q = _
  simp (disch := first | assumption | (simp only [MM_Kd, rI_Kd, rJ_Kd, sI_Kd, sJ_Kd, sR_Kd]; assumption) | omega | decide) only [q63_0, q63_1, q63_2, q63_2N, q63_3, q63_6, q63_6N, q63_7, q63_7N, q63_8, q63_8T, q63_9, q63_11, q63_12, q63_16, q63_18, q63_21, q63_21N, q63_22, q63_24, q63_25, q63_25N, q63_27, q63_28, q63_28N, q63_30, q63_33, q63_36, q63_36N, q63_38, q63_41, q63_42, q63_45, q63_46, q63_49, q63_50, q63_53, q63_54, q63_55, q63_58, q63_61, q63_62, r4, u5, xaf_s, xaf_v, va_rf_s, xix_n, nI_clamp, xk1_i, xk1_a, xk1_u, xk1_n, xk1_l, xk1_d, true_and, and_true, ↓reduceIte, Nat.reduceAdd, xtup]
  exact hk
theorem c64 (h : SC μ b π n x) (hn8 : n ≤ 8) (hc : c < 3) : Cn G 64 [.ref b, .int (nI c)] μ Q = Q (.inl (some (.int (itr (wStep x.1 c 4) n 0)))) μ := by
  have key : ∀ k i l6, i + k = 8 → Rn G 64 14 [some (.ref b), some (.int (nI c)), some (.int (itr (wStep x.1 c 4) (min i n) 0)), some (.ref (b + 5)), some (.int (nI 8)), some (.int (nI i)), l6] [] μ Q = Q (.inl (some (.int (itr (wStep x.1 c 4) n 0)))) μ := by
    intro k
    induction k with
    | zero =>
      intro i l6 hi
      have h2 : 8 ≤ i := by omega
      rw [Nat.min_eq_right (by omega), q64_14]
      simp (disch := first | assumption | (simp only [MM_Kd, rI_Kd, rJ_Kd, sI_Kd, sJ_Kd, sR_Kd]; assumption) | omega | decide) only [q64_0, q64_1, q64_2, q64_2N, q64_3, q64_6, q64_6N, q64_7, q64_7N, q64_8, q64_8T, q64_9, q64_11, q64_12, q64_16, q64_18, q64_21, q64_21N, q64_22, q64_24, q64_25, q64_25N, q64_27, q64_28, q64_28N, q64_30, q64_33, q64_36, q64_36N, q64_38, q64_39, q64_42, q64_45, q64_46, q64_47, q64_48, q64_51, q64_54, q64_55, nI_leI, h2, xaf_s, xaf_v, va_rf_s, xix_n, nI_clamp, xk1_i, xk1_a, xk1_u, xk1_n, xk1_l, xk1_d, true_and, and_true, ↓reduceIte, Nat.reduceAdd, xtup]
    | succ k ih =>
      intro i l6 hi
      have h2 : ¬ 8 ≤ i := by omega
      obtain ⟨b5, u5, hrow, hk4, hr0, hr1, hk3⟩ := h.row (show i < 8 by omega)
      have ih' := fun l => ih (i + 1) l (by omega)
      by_cases hin : i < n
      · obtain ⟨m2, m3, m4, m5, m6, m7, m8, m9, m1, fi, ni, hl⟩ := (h.2.2.2.1 i hin (by omega)).w
        rw [Nat.min_eq_left (show i + 1 ≤ n by omega), show itr (wStep x.1 c 4) (i + 1) 0 = (wStep x.1 c 4) i (itr (wStep x.1 c 4) i 0) from rfl] at ih'
        rw [Nat.min_eq_left (show i ≤ n by omega)]
        generalize itr (wStep x.1 c 4) i 0 = acc at *
        have hc24 := fun Q => c24 (G := G) (Q := Q) (h.hb (show i < 8 by omega)) hc
        have e1 : wStep x.1 c 4 i acc = acc + x.1 (19 + 75 * i + (4 + c)) := by unfold wStep; rw [if_neg (by omega), if_pos rfl]
        have i1 := m1 c hc
        rw [e1] at ih'
        rw [q64_14]
        simp (disch := first | exact Or.inl b5 | first | assumption | (simp only [MM_Kd, rI_Kd, rJ_Kd, sI_Kd, sJ_Kd, sR_Kd]; assumption) | omega | decide) only [q64_0, q64_1, q64_2, q64_2N, q64_3, q64_6, q64_6N, q64_7, q64_7N, q64_8, q64_8T, q64_9, q64_11, q64_12, q64_16, q64_18, q64_21, q64_21N, q64_22, q64_24, q64_25, q64_25N, q64_27, q64_28, q64_28N, q64_30, q64_33, q64_36, q64_36N, q64_38, q64_39, q64_42, q64_45, q64_46, q64_47, q64_48, q64_51, q64_54, q64_55, nI_leI, h2, hrow, u5, m2, hc24, i1, c10, nI_1, xaf_s, xaf_v, va_rf_s, xix_n, nI_clamp, xk1_i, xk1_a, xk1_u, xk1_n, xk1_l, xk1_d, true_and, and_true, ↓reduceIte, Nat.reduceAdd, xtup]
        exact ih' _
      · have h0 := h.2.2.2.2 i (by omega) (by omega)
        have hc23 := fun Q => c23_0 (G := G) (Q := Q) (h.hb (show i < 8 by omega)) h0
        rw [Nat.min_eq_right (show n ≤ i + 1 by omega)] at ih'
        rw [Nat.min_eq_right (show n ≤ i by omega), q64_14]
        simp (disch := first | exact Or.inl b5 | first | assumption | (simp only [MM_Kd, rI_Kd, rJ_Kd, sI_Kd, sJ_Kd, sR_Kd]; assumption) | omega | decide) only [q64_0, q64_1, q64_2, q64_2N, q64_3, q64_6, q64_6N, q64_7, q64_7N, q64_8, q64_8T, q64_9, q64_11, q64_12, q64_16, q64_18, q64_21, q64_21N, q64_22, q64_24, q64_25, q64_25N, q64_27, q64_28, q64_28N, q64_30, q64_33, q64_36, q64_36N, q64_38, q64_39, q64_42, q64_45, q64_46, q64_47, q64_48, q64_51, q64_54, q64_55, nI_leI, h2, hrow, u5, h0, hc23, c00, c107, true_or, nI_a0, nI_1, xaf_s, xaf_v, va_rf_s, xix_n, nI_clamp, xk1_i, xk1_a, xk1_u, xk1_n, xk1_l, xk1_d, true_and, and_true, ↓reduceIte, Nat.reduceAdd, xtup]
        exact ih' _
  have hk := key 8 0 none (by omega)
  rw [Nat.zero_min, show (nI 0 : Int32) = 0 from rfl] at hk
  obtain ⟨b0, ⟨b1, u1⟩, ⟨b2, u2⟩, ⟨b3, u3⟩, ⟨b4, u4⟩, ⟨b5, u5⟩, ⟨b6, u6⟩, r0, r1, r2, r3, r4, r5⟩ := h.1
  show Rn G 64 0 [some (.ref b), some (.int (nI c)), none, none, none, none, none] [] μ Q = _
  simp (disch := first | assumption | (simp only [MM_Kd, rI_Kd, rJ_Kd, sI_Kd, sJ_Kd, sR_Kd]; assumption) | omega | decide) only [q64_0, q64_1, q64_2, q64_2N, q64_3, q64_6, q64_6N, q64_7, q64_7N, q64_8, q64_8T, q64_9, q64_11, q64_12, q64_16, q64_18, q64_21, q64_21N, q64_22, q64_24, q64_25, q64_25N, q64_27, q64_28, q64_28N, q64_30, q64_33, q64_36, q64_36N, q64_38, q64_39, q64_42, q64_45, q64_46, q64_47, q64_48, q64_51, q64_54, q64_55, r4, u5, xaf_s, xaf_v, va_rf_s, xix_n, nI_clamp, xk1_i, xk1_a, xk1_u, xk1_n, xk1_l, xk1_d, true_and, and_true, ↓reduceIte, Nat.reduceAdd, xtup]
  exact hk
theorem c65 (h : SC μ b π n x) (hn8 : n ≤ 8) (hc : c < 3) : Cn G 65 [.ref b, .int (nI c)] μ Q = Q (.inl (some (.int (itr (wStep x.1 c 5) n 0)))) μ := by
  have key : ∀ k i l6, i + k = 8 → Rn G 65 14 [some (.ref b), some (.int (nI c)), some (.int (itr (wStep x.1 c 5) (min i n) 0)), some (.ref (b + 5)), some (.int (nI 8)), some (.int (nI i)), l6] [] μ Q = Q (.inl (some (.int (itr (wStep x.1 c 5) n 0)))) μ := by
    intro k
    induction k with
    | zero =>
      intro i l6 hi
      have h2 : 8 ≤ i := by omega
      rw [Nat.min_eq_right (by omega), q65_14]
      simp (disch := first | assumption | (simp only [MM_Kd, rI_Kd, rJ_Kd, sI_Kd, sJ_Kd, sR_Kd]; assumption) | omega | decide) only [q65_0, q65_1, q65_2, q65_2N, q65_3, q65_6, q65_6N, q65_7, q65_7N, q65_8, q65_8T, q65_9, q65_11, q65_12, q65_16, q65_18, q65_21, q65_21N, q65_22, q65_24, q65_25, q65_25N, q65_27, q65_28, q65_28N, q65_30, q65_33, q65_36, q65_36N, q65_38, q65_41, q65_42, q65_45, q65_48, q65_49, q65_50, q65_51, q65_54, q65_57, q65_58, nI_leI, h2, xaf_s, xaf_v, va_rf_s, xix_n, nI_clamp, xk1_i, xk1_a, xk1_u, xk1_n, xk1_l, xk1_d, true_and, and_true, ↓reduceIte, Nat.reduceAdd, xtup]
    | succ k ih =>
      intro i l6 hi
      have h2 : ¬ 8 ≤ i := by omega
      obtain ⟨b5, u5, hrow, hk4, hr0, hr1, hk3⟩ := h.row (show i < 8 by omega)
      have ih' := fun l => ih (i + 1) l (by omega)
      by_cases hin : i < n
      · obtain ⟨m2, m3, m4, m5, m6, m7, m8, m9, m1, fi, ni, hl⟩ := (h.2.2.2.1 i hin (by omega)).w
        rw [Nat.min_eq_left (show i + 1 ≤ n by omega), show itr (wStep x.1 c 5) (i + 1) 0 = (wStep x.1 c 5) i (itr (wStep x.1 c 5) i 0) from rfl] at ih'
        rw [Nat.min_eq_left (show i ≤ n by omega)]
        generalize itr (wStep x.1 c 5) i 0 = acc at *
        have hc14 := fun Q => c14 (G := G) (Q := Q) (h.hb (show i < 8 by omega)) hl hc
        have hN : ni = zLts x.1 i := by
          unfold zLts
          have := hl.2.2.2.2.1
          rw [mw_at (by omega)] at this
          rw [this, nI_clamp (by have := hl.2.1; omega)]
        have e1 : wStep x.1 c 5 i acc = acc + zLc x.1 i c ni 0 0 := by unfold wStep; rw [if_neg (by omega), if_neg (by omega), if_pos rfl, ← hN, zLc_a]
        rw [e1] at ih'
        rw [q65_14]
        simp (disch := first | exact Or.inl b5 | first | assumption | (simp only [MM_Kd, rI_Kd, rJ_Kd, sI_Kd, sJ_Kd, sR_Kd]; assumption) | omega | decide) only [q65_0, q65_1, q65_2, q65_2N, q65_3, q65_6, q65_6N, q65_7, q65_7N, q65_8, q65_8T, q65_9, q65_11, q65_12, q65_16, q65_18, q65_21, q65_21N, q65_22, q65_24, q65_25, q65_25N, q65_27, q65_28, q65_28N, q65_30, q65_33, q65_36, q65_36N, q65_38, q65_41, q65_42, q65_45, q65_48, q65_49, q65_50, q65_51, q65_54, q65_57, q65_58, nI_leI, h2, hrow, u5, m2, hr1, hc14, c10, nI_1, xaf_s, xaf_v, va_rf_s, xix_n, nI_clamp, xk1_i, xk1_a, xk1_u, xk1_n, xk1_l, xk1_d, true_and, and_true, ↓reduceIte, Nat.reduceAdd, xtup]
        exact ih' _
      · have h0 := h.2.2.2.2 i (by omega) (by omega)
        have hc23 := fun Q => c23_0 (G := G) (Q := Q) (h.hb (show i < 8 by omega)) h0
        rw [Nat.min_eq_right (show n ≤ i + 1 by omega)] at ih'
        rw [Nat.min_eq_right (show n ≤ i by omega), q65_14]
        simp (disch := first | exact Or.inl b5 | first | assumption | (simp only [MM_Kd, rI_Kd, rJ_Kd, sI_Kd, sJ_Kd, sR_Kd]; assumption) | omega | decide) only [q65_0, q65_1, q65_2, q65_2N, q65_3, q65_6, q65_6N, q65_7, q65_7N, q65_8, q65_8T, q65_9, q65_11, q65_12, q65_16, q65_18, q65_21, q65_21N, q65_22, q65_24, q65_25, q65_25N, q65_27, q65_28, q65_28N, q65_30, q65_33, q65_36, q65_36N, q65_38, q65_41, q65_42, q65_45, q65_48, q65_49, q65_50, q65_51, q65_54, q65_57, q65_58, nI_leI, h2, hrow, u5, h0, hc23, c00, c107, true_or, nI_a0, nI_1, xaf_s, xaf_v, va_rf_s, xix_n, nI_clamp, xk1_i, xk1_a, xk1_u, xk1_n, xk1_l, xk1_d, true_and, and_true, ↓reduceIte, Nat.reduceAdd, xtup]
        exact ih' _
  have hk := key 8 0 none (by omega)
  rw [Nat.zero_min, show (nI 0 : Int32) = 0 from rfl] at hk
  obtain ⟨b0, ⟨b1, u1⟩, ⟨b2, u2⟩, ⟨b3, u3⟩, ⟨b4, u4⟩, ⟨b5, u5⟩, ⟨b6, u6⟩, r0, r1, r2, r3, r4, r5⟩ := h.1
  show Rn G 65 0 [some (.ref b), some (.int (nI c)), none, none, none, none, none] [] μ Q = _
  simp (disch := first | assumption | (simp only [MM_Kd, rI_Kd, rJ_Kd, sI_Kd, sJ_Kd, sR_Kd]; assumption) | omega | decide) only [q65_0, q65_1, q65_2, q65_2N, q65_3, q65_6, q65_6N, q65_7, q65_7N, q65_8, q65_8T, q65_9, q65_11, q65_12, q65_16, q65_18, q65_21, q65_21N, q65_22, q65_24, q65_25, q65_25N, q65_27, q65_28, q65_28N, q65_30, q65_33, q65_36, q65_36N, q65_38, q65_41, q65_42, q65_45, q65_48, q65_49, q65_50, q65_51, q65_54, q65_57, q65_58, r4, u5, xaf_s, xaf_v, va_rf_s, xix_n, nI_clamp, xk1_i, xk1_a, xk1_u, xk1_n, xk1_l, xk1_d, true_and, and_true, ↓reduceIte, Nat.reduceAdd, xtup]
  exact hk
theorem itr_n {n : Nat} : itr (fun (_ : Nat) (a : Int32) => a + 1) n 0 = nI n := by
  induction n with
  | zero => rfl
  | succ n ih => show itr (fun (_ : Nat) (a : Int32) => a + 1) n 0 + 1 = _; rw [ih, nI_1]
end LKC
