/-! THE CLASS: PENSIONS -/
theorem MV.w {μ : xMem} {a p : Nat} {s : Nat → Int32} (h : MV μ a (mw s p)) : xI μ a 2 = 1 ∧ xI μ a 3 = s (19 + 75 * p) ∧ xI μ a 4 = s (19 + 75 * p + 1) ∧ xI μ a 5 = s (19 + 75 * p + 2) ∧ xI μ a 6 = s (19 + 75 * p + 3) ∧ xI μ a 7 = s (19 + 75 * p + 7) ∧ xI μ a 8 = s (19 + 75 * p + 8) ∧ xI μ a 9 = s (19 + 75 * p + 9) ∧ (∀ k, k < 3 → xI μ (a + 1) k = s (19 + 75 * p + (4 + k))) ∧ ∃ f n, LT μ a (mw s p) f n := by
  obtain ⟨a1, a2, a3, a4, a5, a6, a7, a8, a9, a10⟩ := h
  rw [mw_at (by omega)] at a2 a3 a4 a5 a6 a7 a8
  exact ⟨a1, a2, a3, a4, a5, a6, a7, a8, fun k hk => by rw [a9 k hk, mw_at (by omega)], a10⟩
theorem nPs_t0 {q c c' : Nat} {e h : Nat → Nat} : ∀ k i a, nPs q c 0 e h k i a = nPs q c' 0 e h k i a := by
  intro k
  induction k with
  | zero => intro i a; rfl
  | succ k ih =>
    intro i a
    simp only [nPs, ite_self]
    exact ih _ _
section PNS
variable {G : xCtx} {μ : xMem} {Q : xOut → xMem → Prop} {a b f n k c p g F S lo hi t : Nat} {v s : Nat → Int32} {σ : Nat → Int64} {π : Nat → Nat} {x : ST}
theorem c51 (hS : SH μ b) (hb : HB μ a) (hG : GV μ b s σ) (hM : MV μ a (mw s p)) {q : Nat} {e h : Nat → Nat} (hq : q ≤ 9999) (hqs : s (19 + 75 * p + 2) = nI q) (he : ∀ k, k < 3 → e k ≤ 20500) (hes : ∀ k, k < 3 → s (19 + 75 * p + (4 + k)) = nI (e k)) (hh : ∀ k, k < 3 → 20 ≤ h k ∧ h k ≤ 200) (hhs : ∀ k, k < 3 → s (10 + 3 * k + 1) = nI (h k)) (ht : t ≤ 240) (hc : c < 3) : Cn G 51 [.ref b, .ref a, .int (nI c), .int (nI t)] μ Q = Q (.inl (some (.long (lN (nPs q c t e h 3 0 0))))) μ := by
  obtain ⟨b0, ⟨b1, u1⟩, ⟨b2, u2⟩, ⟨b3, u3⟩, ⟨b4, u4⟩, ⟨b5, u5⟩, ⟨b6, u6⟩, r0, r1, r2, r3, r4, r5⟩ := hS
  obtain ⟨h0, ⟨h1, e1⟩, h2, -, -, -, p0, p1, -⟩ := hb
  obtain ⟨-, -, -, m5, -, -, -, -, m1, -⟩ := hM.w
  obtain ⟨-, -, -, -, -, -, g3, -⟩ := hG
  have z3 : (3 : Int32) = nI 3 := rfl
  have z12 : (12 : Int32) = nI 12 := rfl
  have key : ∀ k i acc l7 l8 l9, i + k = 3 → Rn G 51 6 [some (.ref b), some (.ref a), some (.int (nI c)), some (.int (nI t)), some (.long (lN acc)), none, some (.int (nI i)), l7, l8, l9] [] μ Q = Q (.inl (some (.long (lN (nPs q c t e h k i acc))))) μ := by
    intro k
    induction k with
    | zero =>
      intro i acc l7 l8 l9 hi
      have h2' : 3 ≤ i := by omega
      rw [q51_6]
      simp (disch := first | assumption | (simp only [MM_Kd, rI_Kd, rJ_Kd, sI_Kd, sJ_Kd, sR_Kd]; assumption) | omega | decide) only [q51_0, q51_1, q51_3, q51_4, q51_8, q51_9, q51_12, q51_12N, q51_13, q51_16, q51_18, q51_18T, q51_19, q51_21, q51_22, q51_25, q51_26, q51_29, q51_30, q51_31, q51_32, q51_34, q51_36, q51_36N, q51_37, q51_40, q51_42, q51_42T, q51_43, q51_44, q51_46, q51_48, q51_50, q51_53, q51_53N, q51_54, q51_57, q51_58, q51_60, q51_61, q51_63, q51_64, q51_65, q51_68, q51_69, q51_70, q51_72, q51_75, q51_78, q51_80, z3, nI_leI, h2', nPs, xaf_s, xaf_v, va_rf_s, xix_n, nI_clamp, xk1_i, xk1_a, xk1_u, xk1_n, xk1_l, xk1_d, true_and, and_true, ↓reduceIte, Nat.reduceAdd, xtup]
    | succ k ih =>
      intro i acc l7 l8 l9 hi
      have h2' : ¬ 3 ≤ i := by omega
      have hi3 : i < 3 := by omega
      have ⟨w1, w2⟩ := nPs_term (c := c) hq (he i hi3) ht (hh i hi3).1
      have hh' := hh i hi3
      have he' := he i hi3
      have d0 : ¬ nI (12 * h i) ≤ (0 : Int32) := by rw [show (0 : Int32) = nI 0 from rfl, nI_leI (by omega) (by omega)]; omega
      have d1 : ¬ (nI (12 * h i)).toInt64 = (0 : Int64) := by
        rw [nI_l (by omega), show (0 : Int64) = lN 0 from rfl, lN_eq (by omega) (by omega)]; omega
      have i1 : xI μ (a + 1) i = nI (e i) := by rw [m1 i hi3, hes i hi3]
      have i2 : xI μ (b + 3) i = nI (h i) := by rw [(g3 i hi3).2.1, hhs i hi3]
      have i3 : xI μ a 5 = nI q := by rw [m5, hqs]
      have el : ∀ X, X ≤ 240 → (nI q).toInt64 * (nI (e i + X)).toInt64 / (nI (12 * h i)).toInt64 = lN (q * (e i + X) / (12 * h i)) := by
        intro X hX
        have hb : q * (e i + X) ≤ 9999 * 20740 := Nat.mul_le_mul hq (by omega)
        rw [nI_l (by omega), nI_l (by omega), nI_l (by omega), lN_mul, pk_lDiv (by omega) (by omega) (by omega)]
      by_cases hx : i = c
      · subst hx
        have e9 := el t ht
        rw [q51_6]
        simp (disch := first | assumption | (simp only [MM_Kd, rI_Kd, rJ_Kd, sI_Kd, sJ_Kd, sR_Kd]; assumption) | omega | decide) only [q51_0, q51_1, q51_3, q51_4, q51_8, q51_9, q51_12, q51_12N, q51_13, q51_16, q51_18, q51_18T, q51_19, q51_21, q51_22, q51_25, q51_26, q51_29, q51_30, q51_31, q51_32, q51_34, q51_36, q51_36N, q51_37, q51_40, q51_42, q51_42T, q51_43, q51_44, q51_46, q51_48, q51_50, q51_53, q51_53N, q51_54, q51_57, q51_58, q51_60, q51_61, q51_63, q51_64, q51_65, q51_68, q51_69, q51_70, q51_72, q51_75, q51_78, q51_80, z3, nI_leI, h2', p0, e1, i1, i2, i3, r2, u3, z12, pk_mul, nI_add, d0, d1, e9, lN_add, nI_1, not_true_eq_false, not_false_eq_true, xaf_s, xaf_v, va_rf_s, xix_n, nI_clamp, xk1_i, xk1_a, xk1_u, xk1_n, xk1_l, xk1_d, true_and, and_true, ↓reduceIte, Nat.reduceAdd, xtup]
        rw [ih (i + 1) _ _ _ _ (by omega)]
        simp only [nPs, ↓reduceIte]
      · have hx' : ¬ nI i = nI c := fun z => hx ((nI_eq (by omega) (by omega)).mp z)
        have e9 := el 0 (by omega)
        rw [Nat.add_zero] at e9
        rw [q51_6]
        simp (disch := first | assumption | (simp only [MM_Kd, rI_Kd, rJ_Kd, sI_Kd, sJ_Kd, sR_Kd]; assumption) | omega | decide) only [q51_0, q51_1, q51_3, q51_4, q51_8, q51_9, q51_12, q51_12N, q51_13, q51_16, q51_18, q51_18T, q51_19, q51_21, q51_22, q51_25, q51_26, q51_29, q51_30, q51_31, q51_32, q51_34, q51_36, q51_36N, q51_37, q51_40, q51_42, q51_42T, q51_43, q51_44, q51_46, q51_48, q51_50, q51_53, q51_53N, q51_54, q51_57, q51_58, q51_60, q51_61, q51_63, q51_64, q51_65, q51_68, q51_69, q51_70, q51_72, q51_75, q51_78, q51_80, z3, nI_leI, h2', p0, e1, i1, i2, i3, r2, u3, z12, pk_mul, nI_a0, hx', d0, d1, e9, lN_add, nI_1, not_true_eq_false, not_false_eq_true, xaf_s, xaf_v, va_rf_s, xix_n, nI_clamp, xk1_i, xk1_a, xk1_u, xk1_n, xk1_l, xk1_d, true_and, and_true, ↓reduceIte, Nat.reduceAdd, xtup]
        rw [ih (i + 1) _ _ _ _ (by omega)]
        simp only [nPs, hx, ↓reduceIte, Nat.add_zero]
  show Rn G 51 0 [some (.ref b), some (.ref a), some (.int (nI c)), some (.int (nI t)), none, none, none, none, none, none] [] μ Q = _
  simp only [q51_0, q51_1, q51_3, q51_4, xk1_i]
  exact key 3 0 0 none none none (by omega)
theorem c48 (hS : SH μ b) (hb : HB μ a) (hG : GV μ b s σ) (hM : MV μ a (mw s p)) {A6 ag : Nat} (hA : s 6 = nI A6) (hag : s (19 + 75 * p + 3) = nI ag) (h9 : A6 ≤ 1000) (h9' : ag ≤ 1000) : Cn G 48 [.ref b, .ref a] μ Q = Q (.inl (some (.int (nI (A6 - ag))))) μ := by
  obtain ⟨b0, ⟨b1, u1⟩, ⟨b2, u2⟩, ⟨b3, u3⟩, ⟨b4, u4⟩, ⟨b5, u5⟩, ⟨b6, u6⟩, r0, r1, r2, r3, r4, r5⟩ := hS
  obtain ⟨h0, -⟩ := hb
  obtain ⟨-, -, -, -, m6, -⟩ := hM.w
  obtain ⟨-, -, -, -, -, g1, -⟩ := hG
  have i1 : xI μ (b + 1) 0 = nI A6 := by rw [g1 0 (by omega)]; exact hA
  have i2 : xI μ a 6 = nI ag := by rw [m6, hag]
  have hcond : (nI A6 - nI ag ≤ (0 : Int32)) = (A6 ≤ ag) := propext (early_le (by omega) (by omega))
  show Rn G 48 0 [some (.ref b), some (.ref a), none] [] μ Q = _
  by_cases h : A6 ≤ ag
  · simp (disch := first | assumption | (simp only [MM_Kd, rI_Kd, rJ_Kd, sI_Kd, sJ_Kd, sR_Kd]; assumption) | omega | decide) only [q48_0, q48_0N, q48_1, q48_4, q48_5, q48_5T, q48_6, q48_6N, q48_7, q48_10, q48_11, q48_12, q48_13, q48_16, q48_17, q48_20, q48_21, r0, u1, i1, i2, xl0, nc0, hcond, h, xaf_s, xaf_v, va_rf_s, xix_n, nI_clamp, xk1_i, xk1_a, xk1_u, xk1_n, xk1_l, xk1_d, true_and, and_true, ↓reduceIte, Nat.reduceAdd, xtup]
    rw [show A6 - ag = 0 by omega]; rfl
  · simp (disch := first | assumption | (simp only [MM_Kd, rI_Kd, rJ_Kd, sI_Kd, sJ_Kd, sR_Kd]; assumption) | omega | decide) only [q48_0, q48_0N, q48_1, q48_4, q48_5, q48_5T, q48_6, q48_6N, q48_7, q48_10, q48_11, q48_12, q48_13, q48_16, q48_17, q48_20, q48_21, r0, u1, i1, i2, xl0, nc0, hcond, h, xaf_s, xaf_v, va_rf_s, xix_n, nI_clamp, xk1_i, xk1_a, xk1_u, xk1_n, xk1_l, xk1_d, true_and, and_true, ↓reduceIte, Nat.reduceAdd, xtup]
    rw [pk_sub (by omega)]
theorem c210 {i j : Nat} (hi : i < 2 ^ 31) (hj : j < 2 ^ 31) : Cn G 210 [.int (nI i), .int (nI j)] μ Q = Q (.inl (some (.int (nI (min i j))))) μ := by
  show Rn G 210 0 [some (.int (nI i)), some (.int (nI j))] [] μ Q = _
  by_cases h : j < i
  · simp (disch := first | assumption | (simp only [MM_Kd, rI_Kd, rJ_Kd, sI_Kd, sJ_Kd, sR_Kd]; assumption) | omega | decide) only [q210_0, q210_1, q210_2, q210_5, q210_6, q210_9, q210_10, nI_ltI, h, xaf_s, xaf_v, va_rf_s, xix_n, nI_clamp, xk1_i, xk1_a, xk1_u, xk1_n, xk1_l, xk1_d, true_and, and_true, ↓reduceIte, Nat.reduceAdd, xtup]
    rw [Nat.min_eq_right (by omega)]
  · simp (disch := first | assumption | (simp only [MM_Kd, rI_Kd, rJ_Kd, sI_Kd, sJ_Kd, sR_Kd]; assumption) | omega | decide) only [q210_0, q210_1, q210_2, q210_5, q210_6, q210_9, q210_10, nI_ltI, h, xaf_s, xaf_v, va_rf_s, xix_n, nI_clamp, xk1_i, xk1_a, xk1_u, xk1_n, xk1_l, xk1_d, true_and, and_true, ↓reduceIte, Nat.reduceAdd, xtup]
    rw [Nat.min_eq_left (by omega)]
/-- what the pension is by, in numbers -/
theorem vPB_n (hG : GI s g n F) (hM : MI (mw s p) S lo hi) (hS : S ≤ 20500) (hr : s (19 + 75 * p + 7) = 0) (hc : c < 3) (hk : k ≤ 240) : ∃ (A6 ag q : Nat) (e h : Nat → Nat), A6 ≤ 900 ∧ ag ≤ 960 ∧ s 6 = nI A6 ∧ s (19 + 75 * p + 3) = nI ag ∧ q ≤ 9999 ∧ s (19 + 75 * p + 2) = nI q ∧ (∀ k, k < 3 → e k ≤ 20500) ∧ (∀ k, k < 3 → s (19 + 75 * p + (4 + k)) = nI (e k)) ∧ (∀ k, k < 3 → 20 ≤ h k ∧ h k ≤ 200) ∧ (∀ k, k < 3 → s (10 + 3 * k + 1) = nI (h k)) ∧
    vPB s p (nI c) (nI k) = (if 120 < A6 - ag - min k (A6 - ag) then 0 else nI (nPs q c (if s (19 + 75 * p + 9) = 1 then 0 else min k (A6 - ag)) e h 3 0 0 - 4 * (A6 - ag - min k (A6 - ag)) * nPs q c (if s (19 + 75 * p + 9) = 1 then 0 else min k (A6 - ag)) e h 3 0 0 / 1000)) := by
  obtain ⟨q, e, h, q1, q2, q3, q4, q5, q6⟩ := pen_of hG hM hS
  obtain ⟨A6, a1, a2, a3⟩ := hG.2.2.2.2.1
  obtain ⟨-, -, ⟨ag, g1, g2⟩, -⟩ := hM
  rw [mw_at (by omega)] at g2
  refine ⟨A6, ag, q, e, h, a2, g1, a3, g2, q1, q2, q3, q4, q5, q6, ?_⟩
  have n7 : ¬ s (19 + 75 * p + 7) = 1 := by rw [hr]; decide
  have on : vOn s p (nI k) = nI (min k (A6 - ag)) := by
    unfold vOn
    rw [a3, g2]
    by_cases h1 : ag ≤ A6
    · have : ¬ nI A6 - nI ag < 0 := by
        rw [pk_sub h1, show (0 : Int32) = nI 0 from rfl, nI_ltI (by omega) (by omega)]; omega
      rw [if_neg this, pk_sub h1]
      by_cases h2 : k < A6 - ag
      · rw [if_pos ((nI_ltI (by omega) (by omega)).mpr h2), Nat.min_eq_left (by omega)]
      · rw [if_neg (fun z => h2 ((nI_ltI (by omega) (by omega)).mp z)), Nat.min_eq_right (by omega)]
    · have : nI A6 - nI ag < 0 := by
        rw [Int32.lt_iff_toInt_lt, pk_sub_toInt (by omega) (by omega)]
        have : (0 : Int32).toInt = 0 := rfl
        omega
      rw [if_pos this, show A6 - ag = 0 by omega, Nat.min_zero]
      have : ¬ nI k < 0 := by
        rw [show (0 : Int32) = nI 0 from rfl, nI_ltI (by omega) (by omega)]; omega
      rw [if_neg this]; rfl
  unfold vPB
  rw [if_neg n7, on, a3, g2]
  have ht : (if s (19 + 75 * p + 9) = 1 then 0 else min k (A6 - ag)) ≤ 240 := by split <;> omega
  have hti : (if s (19 + 75 * p + 9) = 1 then (0 : Int32) else nI (min k (A6 - ag))) = nI (if s (19 + 75 * p + 9) = 1 then 0 else min k (A6 - ag)) := by split <;> rfl
  rw [hti]
  generalize hX : (if s (19 + 75 * p + 9) = 1 then 0 else min k (A6 - ag)) = X at *
  have hmn : min k (A6 - ag) ≤ A6 - ag := Nat.min_le_right _ _
  have h1 := mPs_n (p := p) (c := c) (t := X) q1 q2 q3 q4 ht q5 q6 (by omega) 3 0 0 (by omega)
  have h2 := nPs_le (c := c) (t := X) q1 q3 ht q5 3 0 0 (by omega) (by omega)
  by_cases h4 : ag ≤ A6
  · rw [pk_sub h4, pk_sub hmn]
    have h120 : ((120 : Int32) < nI (A6 - ag - min k (A6 - ag))) ↔ 120 < A6 - ag - min k (A6 - ag) := nI_ltI (a := 120) (by omega) (by omega)
    by_cases h3 : 120 < A6 - ag - min k (A6 - ag)
    · rw [if_pos (h120.mpr h3), if_pos h3]
    · rw [if_neg (fun z => h3 (h120.mp z)), if_neg h3]
      exact mPen_n h1 h2 (by omega)
  · have e0 : A6 - ag = 0 := by omega
    rw [e0, Nat.min_zero, show (nI 0 : Int32) = 0 from rfl, nI_s0]
    have hneg : nI A6 - nI ag ≤ 0 := (early_le (by omega) (by omega)).mpr (by omega)
    have hn120 : ¬ (120 : Int32) < nI A6 - nI ag := by
      intro z
      exact absurd (Int32.lt_of_lt_of_le z hneg) (by decide)
    rw [if_neg hn120, if_neg (by omega), mPen_neg hneg]
    have h1' : mPs s p (nI c) (nI X) 3 0 0 = nI (nPs q c X e h 3 0 0) := h1
    rw [h1']
    simp
theorem c50 (hS : SH μ b) (hb : HB μ a) (hG : GV μ b s σ) (hM : MV μ a (mw s p)) (hI : GI s g n F) (hm : MI (mw s p) S lo hi) (hs : S ≤ 20500) (hc : c < 3) (hk : k ≤ 240) : Cn G 50 [.ref b, .ref a, .int (nI c), .int (nI k)] μ Q = Q (.inl (some (.int (vPB s p (nI c) (nI k))))) μ := by
  have hS0 := hS
  have hb0 := hb
  have h79 : (s (19 + 75 * p + 7) = 0 ∨ s (19 + 75 * p + 7) = 1) ∧ (s (19 + 75 * p + 9) = 0 ∨ s (19 + 75 * p + 9) = 1) := by
    obtain ⟨-, -, -, -, a5, n', b1, b2, b3, b4, -⟩ := hm
    rw [mw_at (by omega)] at a5 b4
    exact ⟨b4.imp id And.left, a5⟩
  obtain ⟨h0, -⟩ := hb
  obtain ⟨b0, -⟩ := hS
  obtain ⟨-, -, -, -, -, m7, m8, m9, -⟩ := hM.w
  show Rn G 50 0 [some (.ref b), some (.ref a), some (.int (nI c)), some (.int (nI k)), none, none, none, none, none] [] μ Q = _
  rcases h79.1 with h7 | h7
  · obtain ⟨A6, ag, q, e, h, w1, w2, w3, w4, w5, w6, w7, w8, w9, w10, w11⟩ := vPB_n hI hm hs h7 hc hk
    rw [w11]
    have hc48 := fun Q => c48 (G := G) (Q := Q) hS0 hb0 hG hM w3 w4 (by omega) (by omega)
    have hmn : min k (A6 - ag) ≤ A6 - ag := Nat.min_le_right _ _
    have hmk : min k (A6 - ag) ≤ 240 := Nat.le_trans (Nat.min_le_left _ _) hk
    have hc51 := fun t ht Q => c51 (G := G) (Q := Q) (t := t) hS0 hb0 hG hM w5 w6 w7 w8 w9 w10 ht hc
    have i7 : xI μ a 7 = 0 := by rw [m7]; exact h7
    have z1000 : ¬ (1000 : Int64) = 0 := by decide
    have hmin := fun Q => c210 (G := G) (μ := μ) (Q := Q) (i := k) (j := A6 - ag) (by omega) (by omega)
    generalize min k (A6 - ag) = M at *
    have sb : nI (A6 - ag) - nI M = nI (A6 - ag - M) := pk_sub hmn
    have h120 : (nI (A6 - ag - M) ≤ (120 : Int32)) = (A6 - ag - M ≤ 120) := propext (nI_leI (b := 120) (by omega) (by omega))
    by_cases h3 : 120 < A6 - ag - M
    · have h3' : ¬ A6 - ag - M ≤ 120 := by omega
      rw [if_pos h3]
      simp (disch := first | assumption | (simp only [MM_Kd, rI_Kd, rJ_Kd, sI_Kd, sJ_Kd, sR_Kd]; assumption) | omega | decide) only [q50_0, q50_0N, q50_1, q50_4, q50_7, q50_7N, q50_8, q50_11, q50_12, q50_12N, q50_13, q50_13N, q50_14, q50_17, q50_19, q50_20, q50_22, q50_25, q50_27, q50_29, q50_31, q50_32, q50_34, q50_36, q50_38, q50_41, q50_42, q50_43, q50_43N, q50_44, q50_44N, q50_45, q50_46, q50_46N, q50_47, q50_50, q50_53, q50_54, q50_57, q50_59, q50_62, q50_64, q50_66, q50_67, q50_69, q50_70, q50_71, q50_73, q50_74, q50_77, q50_78, q50_79, q50_80, i7, hc48, hmin, sb, h120, h3', xaf_s, xaf_v, va_rf_s, xix_n, nI_clamp, xk1_i, xk1_a, xk1_u, xk1_n, xk1_l, xk1_d, true_and, and_true, ↓reduceIte, Nat.reduceAdd, xtup]
    · have h3' : A6 - ag - M ≤ 120 := by omega
      rw [if_neg h3]
      have fin : ∀ X, X ≤ 240 → (lN (nPs q c X e h 3 0 0) - (4 * nI (A6 - ag - M)).toInt64 * lN (nPs q c X e h 3 0 0) / 1000).toInt32 = nI (nPs q c X e h 3 0 0 - 4 * (A6 - ag - M) * nPs q c X e h 3 0 0 / 1000) := by
        intro X hX
        have hT := nPs_le (c := c) (t := X) w5 w7 hX w9 3 0 0 (by omega) (by omega)
        generalize nPs q c X e h 3 0 0 = T at *
        generalize A6 - ag - M = y at *
        have b1 : 4 * y * T ≤ 480 * 3000000 := Nat.mul_le_mul (by omega) hT
        have b2 : 4 * y * T ≤ 480 * T := Nat.mul_le_mul_right _ (by omega)
        have b3 : 4 * y * T / 1000 ≤ T := by
          have : 4 * y * T / 1000 ≤ 480 * T / 1000 := Nat.div_le_div_right b2
          omega
        rw [show (4 : Int32) = nI 4 from rfl, pk_mul, nI_l (by omega), lN_mul, show (1000 : Int64) = lN 1000 from rfl, pk_lDiv (by omega) (by omega) (by omega), lN_sub b3, lN_i]
      rcases h79.2 with h9 | h9
      · have i9 : xI μ a 9 = 0 := by rw [m9]; exact h9
        have n9 : ¬ s (19 + 75 * p + 9) = 1 := by rw [h9]; decide
        have fin' := fin M hmk
        have hc51' := fun Q => hc51 M hmk Q
        rw [if_neg n9]
        simp (disch := first | assumption | (simp only [MM_Kd, rI_Kd, rJ_Kd, sI_Kd, sJ_Kd, sR_Kd]; assumption) | omega | decide) only [q50_0, q50_0N, q50_1, q50_4, q50_7, q50_7N, q50_8, q50_11, q50_12, q50_12N, q50_13, q50_13N, q50_14, q50_17, q50_19, q50_20, q50_22, q50_25, q50_27, q50_29, q50_31, q50_32, q50_34, q50_36, q50_38, q50_41, q50_42, q50_43, q50_43N, q50_44, q50_44N, q50_45, q50_46, q50_46N, q50_47, q50_50, q50_53, q50_54, q50_57, q50_59, q50_62, q50_64, q50_66, q50_67, q50_69, q50_70, q50_71, q50_73, q50_74, q50_77, q50_78, q50_79, q50_80, i7, i9, hc48, hmin, sb, h120, h3', hc51', z1000, fin', not_false_eq_true, xaf_s, xaf_v, va_rf_s, xix_n, nI_clamp, xk1_i, xk1_a, xk1_u, xk1_n, xk1_l, xk1_d, true_and, and_true, ↓reduceIte, Nat.reduceAdd, xtup]
      · have i9 : xI μ a 9 = 1 := by rw [m9]; exact h9
        have fin' := fin 0 (by omega)
        have hc51' := fun Q => hc51 0 (by omega) Q
        rw [show (nI 0 : Int32) = 0 from rfl] at hc51'
        rw [if_pos h9]
        simp (disch := first | assumption | (simp only [MM_Kd, rI_Kd, rJ_Kd, sI_Kd, sJ_Kd, sR_Kd]; assumption) | omega | decide) only [q50_0, q50_0N, q50_1, q50_4, q50_7, q50_7N, q50_8, q50_11, q50_12, q50_12N, q50_13, q50_13N, q50_14, q50_17, q50_19, q50_20, q50_22, q50_25, q50_27, q50_29, q50_31, q50_32, q50_34, q50_36, q50_38, q50_41, q50_42, q50_43, q50_43N, q50_44, q50_44N, q50_45, q50_46, q50_46N, q50_47, q50_50, q50_53, q50_54, q50_57, q50_59, q50_62, q50_64, q50_66, q50_67, q50_69, q50_70, q50_71, q50_73, q50_74, q50_77, q50_78, q50_79, q50_80, i7, i9, hc48, hmin, sb, h120, h3', hc51', z1000, fin', c10, not_false_eq_true, xaf_s, xaf_v, va_rf_s, xix_n, nI_clamp, xk1_i, xk1_a, xk1_u, xk1_n, xk1_l, xk1_d, true_and, and_true, ↓reduceIte, Nat.reduceAdd, xtup]
  · have i7 : xI μ a 7 = 1 := by rw [m7]; exact h7
    have e : vPB s p (nI c) (nI k) = s (19 + 75 * p + 8) := by unfold vPB; rw [if_pos h7]
    rw [e]
    simp (disch := first | assumption | (simp only [MM_Kd, rI_Kd, rJ_Kd, sI_Kd, sJ_Kd, sR_Kd]; assumption) | omega | decide) only [q50_0, q50_0N, q50_1, q50_4, q50_7, q50_7N, q50_8, q50_11, q50_12, q50_12N, q50_13, q50_13N, q50_14, q50_17, q50_19, q50_20, q50_22, q50_25, q50_27, q50_29, q50_31, q50_32, q50_34, q50_36, q50_38, q50_41, q50_42, q50_43, q50_43N, q50_44, q50_44N, q50_45, q50_46, q50_46N, q50_47, q50_50, q50_53, q50_54, q50_57, q50_59, q50_62, q50_64, q50_66, q50_67, q50_69, q50_70, q50_71, q50_73, q50_74, q50_77, q50_78, q50_79, q50_80, i7, m8, c10, xaf_s, xaf_v, va_rf_s, xix_n, nI_clamp, xk1_i, xk1_a, xk1_u, xk1_n, xk1_l, xk1_d, true_and, and_true, ↓reduceIte, Nat.reduceAdd, xtup]
/-- a pension at rest, early by E months at most -/
theorem rest_pen (hI : GI s g n F) (hm : MI (mw s p) S lo hi) (hs : S ≤ 20500) (h7 : s (19 + 75 * p + 7) = 0) (hc : c < 3) (h120 : s 6 - s (19 + 75 * p + 3) ≤ 120) : vPB s p (nI c) 0 = mPen s p 0 0 (s 6 - s (19 + 75 * p + 3)) ∧ (s 6 - s (19 + 75 * p + 3) ≤ 0 → vPB s p (nI c) 0 = mPen s p 0 0 0) := by
  obtain ⟨A6, ag, q, e, h, w1, w2, w3, w4, w5, w6, w7, w8, w9, w10, w11⟩ := vPB_n hI hm hs h7 hc (k := 0) (by omega)
  have w11' : vPB s p (nI c) 0 = if 120 < A6 - ag - min 0 (A6 - ag) then 0 else nI (nPs q c (if s (19 + 75 * p + 9) = 1 then 0 else min 0 (A6 - ag)) e h 3 0 0 - 4 * (A6 - ag - min 0 (A6 - ag)) * nPs q c (if s (19 + 75 * p + 9) = 1 then 0 else min 0 (A6 - ag)) e h 3 0 0 / 1000) := w11
  rw [w11', Nat.zero_min, ite_self, Nat.sub_zero, nPs_t0 (c' := 0), w3, w4]
  rw [w3, w4] at h120
  have h1 := mPs_n (p := p) (c := 0) (t := 0) w5 w6 w7 w8 (by omega) w9 w10 (by omega) 3 0 0 (by omega)
  have h1' : mPs s p 0 0 3 0 0 = nI (nPs q 0 0 e h 3 0 0) := h1
  have h2 := nPs_le (c := 0) (t := 0) w5 w7 (by omega) w9 3 0 0 (by omega) (by omega)
  by_cases h4 : A6 ≤ ag
  · have hneg : nI A6 - nI ag ≤ 0 := (early_le (by omega) (by omega)).mpr h4
    rw [show A6 - ag = 0 by omega, if_neg (by omega)]
    have z : (0 : Int32) ≤ 0 := by decide
    refine ⟨?_, fun _ => ?_⟩
    · rw [mPen_neg hneg, h1']; simp
    · rw [mPen_neg z, h1']; simp
  · rw [pk_sub (by omega)] at h120 ⊢
    have h5 : A6 - ag ≤ 120 := (nI_leI (b := 120) (by omega) (by omega)).mp h120
    rw [if_neg (by omega)]
    refine ⟨(mPen_n (c := 0) (t := 0) h1 h2 h5).symm, fun z => ?_⟩
    have := (nI_leI (b := 0) (by omega) (by omega)).mp z
    omega
/-- a member is put to rest -/
theorem c49 (hS : SH μ b) (hb : HB μ a) (hG : GV μ b s σ) (hM : MV μ a (mw s p)) (hI : GI s g n F) (hm : MI (mw s p) S lo hi) (hs : S ≤ 20500) (hw : hi - lo < 62) : Cn G 49 [.ref b, .ref a] μ Q = Q (.inl none) (xsI (xsI (xsI (xsI μ a 8 (vPB s p (nI (zOwn s p)) 0)) a 7 1) (a + 2) 3 0) (a + 2) 4 0) := by
  have hb0 := hb
  obtain ⟨d1, d2, -⟩ := hm.at (by omega)
  have hc50 := fun Q => c50 (G := G) (Q := Q) hS hb hG hM hI hm hs d1 (k := 0) (by omega)
  rw [show (nI 0 : Int32) = 0 from rfl] at hc50
  obtain ⟨h0, ⟨h1, e1⟩, h2, -, -, -, p0, p1, -⟩ := hb
  obtain ⟨b0, -⟩ := hS
  obtain ⟨-, -, m4, -, -, m7, m8, m9, -⟩ := hM.w
  have i4 : xI μ a 4 = nI (zOwn s p) := by rw [m4]; exact d2
  have hc18 := fun Q => c18 (G := G) (Q := Q) (μ := xsI (xsI μ a 8 (vPB s p (nI (zOwn s p)) 0)) a 7 1) (a := a) (hb0.of rfl rfl rfl)
  show Rn G 49 0 [some (.ref b), some (.ref a)] [] μ Q = _
  simp (disch := first | assumption | (simp only [MM_Kd, rI_Kd, rJ_Kd, sI_Kd, sJ_Kd, sR_Kd]; assumption) | omega | decide) only [q49_0, q49_0N, q49_1, q49_1N, q49_2, q49_2N, q49_3, q49_3N, q49_4, q49_7, q49_8, q49_11, q49_14, q49_14N, q49_15, q49_16, q49_19, q49_19N, q49_20, q49_23, q49_26, i4, hc50, hc18, p1, rI_Kd, rI_Ln, rI_R, rI_J, rJ_Kd, rJ_Ln, rJ_R, rJ_I, sI_Kd, sI_Ln, sI_R, sI_J, sJ_Kd, sJ_Ln, sJ_R, sJ_I, sR_Kd, sR_Ln, sR_I, sR_J, xaf_s, xaf_v, va_rf_s, xix_n, nI_clamp, xk1_i, xk1_a, xk1_u, xk1_n, xk1_l, xk1_d, true_and, and_true, ↓reduceIte, Nat.reduceAdd, xtup]
theorem MV_rest (hM : MV μ a (mw s p)) {P E : Int32} (hP : P = mPen s p 0 0 E) : MV (xsI (xsI (xsI (xsI μ a 8 P) a 7 1) (a + 2) 3 0) (a + 2) 4 0) a (mw (zRet s p E) p) := by
  obtain ⟨a1, a2, a3, a4, a5, a6, a7, a8, a9, f, n, a10⟩ := hM
  unfold zRet
  rw [mw_in (by omega), mw_in (by omega), mw_in (by omega), ← hP]
  refine ⟨?_, ?_, ?_, ?_, ?_, ?_, ?_, ?_, fun k hk => ?_, 0, 0, by omega, by omega, ?_, ?_, ?_, fun k hk => absurd hk (by omega)⟩
  · simp only [xI_sI, xJ_sJ, rJ_I, sJ_I, sI_J, rI_J, Nat.add_left_cancel_iff, Nat.reduceEqDiff, Nat.add_eq_left, Nat.left_eq_add, false_and, true_and, and_true, and_false, ↓reduceIte]; exact a1
  · rw [up_n (by omega), up_n (by omega), up_n (by omega)]; simp only [xI_sI, xJ_sJ, rJ_I, sJ_I, sI_J, rI_J, Nat.add_left_cancel_iff, Nat.reduceEqDiff, Nat.add_eq_left, Nat.left_eq_add, false_and, true_and, and_true, and_false, ↓reduceIte]; exact a2
  · rw [up_n (by omega), up_n (by omega), up_n (by omega)]; simp only [xI_sI, xJ_sJ, rJ_I, sJ_I, sI_J, rI_J, Nat.add_left_cancel_iff, Nat.reduceEqDiff, Nat.add_eq_left, Nat.left_eq_add, false_and, true_and, and_true, and_false, ↓reduceIte]; exact a3
  · rw [up_n (by omega), up_n (by omega), up_n (by omega)]; simp only [xI_sI, xJ_sJ, rJ_I, sJ_I, sI_J, rI_J, Nat.add_left_cancel_iff, Nat.reduceEqDiff, Nat.add_eq_left, Nat.left_eq_add, false_and, true_and, and_true, and_false, ↓reduceIte]; exact a4
  · rw [up_n (by omega), up_n (by omega), up_n (by omega)]; simp only [xI_sI, xJ_sJ, rJ_I, sJ_I, sI_J, rI_J, Nat.add_left_cancel_iff, Nat.reduceEqDiff, Nat.add_eq_left, Nat.left_eq_add, false_and, true_and, and_true, and_false, ↓reduceIte]; exact a5
  · rw [up_n (by omega), up_e]; simp only [xI_sI, xJ_sJ, rJ_I, sJ_I, sI_J, rI_J, Nat.add_left_cancel_iff, Nat.reduceEqDiff, Nat.add_eq_left, Nat.left_eq_add, false_and, true_and, and_true, and_false, ↓reduceIte]
  · rw [up_n (by omega), up_n (by omega), up_e]; simp only [xI_sI, xJ_sJ, rJ_I, sJ_I, sI_J, rI_J, Nat.add_left_cancel_iff, Nat.reduceEqDiff, Nat.add_eq_left, Nat.left_eq_add, false_and, true_and, and_true, and_false, ↓reduceIte]
  · rw [up_n (by omega), up_n (by omega), up_n (by omega)]; simp only [xI_sI, xJ_sJ, rJ_I, sJ_I, sI_J, rI_J, Nat.add_left_cancel_iff, Nat.reduceEqDiff, Nat.add_eq_left, Nat.left_eq_add, false_and, true_and, and_true, and_false, ↓reduceIte]; exact a8
  · rw [up_n (by omega), up_n (by omega), up_n (by omega)]; simp only [xI_sI, xJ_sJ, rJ_I, sJ_I, sI_J, rI_J, Nat.add_left_cancel_iff, Nat.reduceEqDiff, Nat.add_eq_left, Nat.left_eq_add, false_and, true_and, and_true, and_false, ↓reduceIte]; exact a9 k hk
  · simp only [xI_sI, xJ_sJ, rJ_I, sJ_I, sI_J, rI_J, Nat.add_left_cancel_iff, Nat.reduceEqDiff, Nat.add_eq_left, Nat.left_eq_add, false_and, true_and, and_true, and_false, ↓reduceIte]; rfl
  · simp only [xI_sI, xJ_sJ, rJ_I, sJ_I, sI_J, rI_J, Nat.add_left_cancel_iff, Nat.reduceEqDiff, Nat.add_eq_left, Nat.left_eq_add, false_and, true_and, and_true, and_false, ↓reduceIte]; rfl
  · rw [up_e]; rfl
theorem c56 (hS : SH μ b) (hb : HB μ a) (hG : GV μ b s σ) (hM : MV μ a (mw s p)) (hc : c < 3) (hd : s (19 + 75 * p + 1) = nI c) : Cn G 56 [.ref b, .ref a] μ Q = Q (.inl (some (.int (zDue s p c)))) μ := by
  obtain ⟨b0, ⟨b1, u1⟩, ⟨b2, u2⟩, ⟨b3, u3⟩, ⟨b4, u4⟩, ⟨b5, u5⟩, ⟨b6, u6⟩, r0, r1, r2, r3, r4, r5⟩ := hS
  obtain ⟨h0, -⟩ := hb
  obtain ⟨-, -, m4, m5, -⟩ := hM.w
  obtain ⟨-, -, -, -, -, -, g3, -⟩ := hG
  have i4 : xI μ a 4 = nI c := by rw [m4]; exact hd
  have i2 := (g3 c hc).1
  show Rn G 56 0 [some (.ref b), some (.ref a), none] [] μ Q = _
  simp (disch := first | assumption | (simp only [MM_Kd, rI_Kd, rJ_Kd, sI_Kd, sJ_Kd, sR_Kd]; assumption) | omega | decide) only [q56_0, q56_0N, q56_1, q56_4, q56_5, q56_6, q56_9, q56_12, q56_12N, q56_13, q56_16, q56_16N, q56_17, q56_20, q56_21, q56_21T, q56_22, q56_23, q56_26, q56_27, q56_30, q56_31, i4, c105, sec_ok hc, c10, m5, i2, r1, u2, h1000, not_false_eq_true, xaf_s, xaf_v, va_rf_s, xix_n, nI_clamp, xk1_i, xk1_a, xk1_u, xk1_n, xk1_l, xk1_d, true_and, and_true, ↓reduceIte, Nat.reduceAdd, xtup]
  rfl
end PNS
