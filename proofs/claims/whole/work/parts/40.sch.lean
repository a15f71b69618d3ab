/-! THE CLASS: A SCHEME -/
/-- the memory changes in the rows P alone -/
def FR (μ μ' : xMem) (P : Nat → Prop) : Prop := μ'.1 = μ.1 ∧ μ'.2.1 = μ.2.1 ∧ xR μ' = xR μ ∧ ∀ q, ¬ P q → xI μ' q = xI μ q ∧ xJ μ' q = xJ μ q
theorem FR.rf {μ : xMem} {P : Nat → Prop} : FR μ μ P := ⟨rfl, rfl, rfl, fun _ _ => ⟨rfl, rfl⟩⟩
theorem FR.tr {μ μ' μ'' : xMem} {P : Nat → Prop} (h : FR μ μ' P) (h' : FR μ' μ'' P) : FR μ μ'' P :=
  ⟨h'.1.trans h.1, h'.2.1.trans h.2.1, h'.2.2.1.trans h.2.2.1, fun q hq => ⟨(h'.2.2.2 q hq).1.trans (h.2.2.2 q hq).1, (h'.2.2.2 q hq).2.trans (h.2.2.2 q hq).2⟩⟩
theorem FR.mono {μ μ' : xMem} {P P' : Nat → Prop} (h : FR μ μ' P) (hp : ∀ q, P q → P' q) : FR μ μ' P' :=
  ⟨h.1, h.2.1, h.2.2.1, fun q hq => h.2.2.2 q fun z => hq (hp q z)⟩
theorem FR.sI {μ : xMem} {a k : Nat} {v : Int32} {P : Nat → Prop} (h : P a) : FR μ (xsI μ a k v) P :=
  ⟨rfl, rfl, rfl, fun q hq => ⟨sI_n fun z => hq (z ▸ h), rfl⟩⟩
theorem FR.sJ {μ : xMem} {a k : Nat} {v : Int64} {P : Nat → Prop} (h : P a) : FR μ (xsJ μ a k v) P :=
  ⟨rfl, rfl, rfl, fun q hq => ⟨rfl, sJ_n fun z => hq (z ▸ h)⟩⟩
def SH (μ : xMem) (b : Nat) : Prop := xKd μ b = 6 ∧ (xKd μ (b + 1) = 9 ∧ xLn μ (b + 1) = 4) ∧ (xKd μ (b + 2) = 9 ∧ xLn μ (b + 2) = 3) ∧ (xKd μ (b + 3) = 9 ∧ xLn μ (b + 3) = 3) ∧ (xKd μ (b + 4) = 11 ∧ xLn μ (b + 4) = 3) ∧ (xKd μ (b + 5) = 13 ∧ xLn μ (b + 5) = 8) ∧ (xKd μ (b + 6) = 12 ∧ xLn μ (b + 6) = 6) ∧
  xR μ b 0 = some (b + 1) ∧ xR μ b 1 = some (b + 2) ∧ xR μ b 2 = some (b + 3) ∧ xR μ b 3 = some (b + 4) ∧ xR μ b 4 = some (b + 5) ∧ xR μ b 5 = some (b + 6)
def AD (b : Nat) (π : Nat → Nat) (i : Nat) : Nat := b + 7 + 6 * π i
def RWS (μ : xMem) (b : Nat) (π : Nat → Nat) : Prop := (∀ i, i < 8 → π i < 8 ∧ xR μ (b + 5) i = some (AD b π i)) ∧ (∀ i j, i < 8 → j < 8 → π i = π j → i = j) ∧ ∀ j, j < 8 → HB μ (b + 7 + 6 * j)
def GV (μ : xMem) (b : Nat) (s : Nat → Int32) (σ : Nat → Int64) : Prop := xI μ b 6 = s 3 ∧ xI μ b 7 = s 0 ∧ xJ μ b 8 = (s 1).toInt64 ∧ xI μ b 9 = s 4 ∧ xI μ b 10 = s 5 ∧ (∀ k, k < 4 → xI μ (b + 1) k = s (6 + k)) ∧ (∀ k, k < 3 → xI μ (b + 2) k = s (10 + 3 * k) ∧ xI μ (b + 3) k = s (10 + 3 * k + 1) ∧ xI μ (b + 4) k = s (12 + 3 * k)) ∧ ∀ k, k < 6 → xJ μ (b + 6) k = σ k
def SC (μ : xMem) (b : Nat) (π : Nat → Nat) (n : Nat) (x : ST) : Prop := SH μ b ∧ RWS μ b π ∧ GV μ b x.1 x.2 ∧ (∀ i, i < n → i < 8 → MV μ (AD b π i) (mw x.1 i)) ∧ ∀ i, n ≤ i → i < 8 → xI μ (AD b π i) 2 = 0
theorem SH.of {μ μ' : xMem} {b : Nat} (h : SH μ b) (h1 : μ'.1 = μ.1) (h2 : xR μ' b = xR μ b) : SH μ' b := by
  unfold SH xKd xLn at *; rw [h1, h2]; exact h
theorem RWS.of {μ μ' : xMem} {b : Nat} {π : Nat → Nat} (h : RWS μ b π) (h1 : μ'.1 = μ.1) (h2 : xR μ' = xR μ) : RWS μ' b π := by
  unfold RWS at *; rw [h2]
  exact ⟨h.1, h.2.1, fun j hj => (h.2.2 j hj).of h1 (by rw [h2]) (by rw [h2])⟩
/-- the rows that a step at member i may change -/
def TP (b : Nat) (π : Nat → Nat) (i : Nat) (q : Nat) : Prop := q = b ∨ q = b + 6 ∨ (AD b π i ≤ q ∧ q < AD b π i + 6)
theorem SC.hb {μ : xMem} {b n i : Nat} {π : Nat → Nat} {x : ST} (h : SC μ b π n x) (hi : i < 8) : HB μ (AD b π i) := h.2.1.2.2 (π i) (h.2.1.1 i hi).1
theorem SC.step {μ μ' : xMem} {b n i : Nat} {π : Nat → Nat} {x x' : ST} (h : SC μ b π n x) (hi : i < n) (hi8 : i < 8) (hF : FR μ μ' (TP b π i)) (hG : GV μ' b x'.1 x'.2) (hM : MV μ' (AD b π i) (mw x'.1 i)) (ho : ∀ j, j < n → j ≠ i → mw x'.1 j = mw x.1 j) : SC μ' b π n x' := by
  obtain ⟨a1, a2, a3, a4, a5⟩ := h
  have far : ∀ j, j < 8 → j ≠ i → ∀ q, AD b π j ≤ q → q < AD b π j + 6 → xI μ' q = xI μ q := by
    intro j hj hji q h1 h2
    refine (hF.2.2.2 q ?_).1
    have : π j ≠ π i := fun z => hji (a2.2.1 j i hj hi8 z)
    unfold TP AD at *
    rintro (z | z | z) <;> omega
  refine ⟨a1.of hF.1 (by rw [hF.2.2.1]), a2.of hF.1 hF.2.2.1, hG, fun j hj hj8 => ?_, fun j hj hj8 => ?_⟩
  · by_cases hji : j = i
    · subst hji; exact hM
    · rw [ho j hj hji]; exact (a4 j hj hj8).of (far j hj8 hji)
  · rw [far j hj8 (by omega) (AD b π j) (Nat.le_refl _) (by omega)]; exact a5 j hj hj8
/-- only the fund and the sums, and what lapsed, change -/
theorem GV.of {μ μ' : xMem} {b : Nat} {s s' : Nat → Int32} {σ σ' : Nat → Int64} (h : GV μ b s σ) (e : ∀ q, b + 1 ≤ q → q < b + 6 → xI μ' q = xI μ q) (e0 : ∀ j, j ≠ 9 → xI μ' b j = xI μ b j) (e9 : xI μ' b 9 = s' 4) (e8 : xJ μ' b 8 = (s' 1).toInt64) (e6 : ∀ k, k < 6 → xJ μ' (b + 6) k = σ' k) (hs : ∀ j, j < 19 → j ≠ 1 → j ≠ 4 → s' j = s j) : GV μ' b s' σ' := by
  obtain ⟨a1, a2, a3, a4, a5, a6, a7, a8⟩ := h
  refine ⟨?_, ?_, e8, e9, ?_, fun k hk => ?_, fun k hk => ?_, e6⟩
  · rw [e0 6 (by omega), hs 3 (by omega) (by omega) (by omega)]; exact a1
  · rw [e0 7 (by omega), hs 0 (by omega) (by omega) (by omega)]; exact a2
  · rw [e0 10 (by omega), hs 5 (by omega) (by omega) (by omega)]; exact a5
  · rw [e _ (by omega) (by omega), hs _ (by omega) (by omega) (by omega)]; exact a6 k hk
  · rw [e _ (by omega) (by omega), e _ (by omega) (by omega), e _ (by omega) (by omega), hs _ (by omega) (by omega) (by omega), hs _ (by omega) (by omega) (by omega), hs _ (by omega) (by omega) (by omega)]; exact a7 k hk
theorem toInt_l (x : Int32) : x.toInt64.toInt = x.toInt := Int32.toInt_toInt64 x
theorem le_l (x z : Int32) : (x.toInt64 ≤ z.toInt64) = (x ≤ z) := by
  apply propext; rw [Int64.le_iff_toInt_le, Int32.le_iff_toInt_le, toInt_l, toInt_l]
theorem nI_ladd {a d : Nat} (h : a + d < 2 ^ 31) : (nI a).toInt64 + (nI d).toInt64 = (nI (a + d)).toInt64 := by
  rw [nI_l (by omega), nI_l (by omega), nI_l h, lN_add]
section SCH
variable {G : xCtx} {μ : xMem} {Q : xOut → xMem → Prop} {a b f n k c p g F S : Nat} {v s : Nat → Int32} {π : Nat → Nat} {x : ST}
theorem c13 (hb : HB μ a) (hl : LT μ a (mw s p) f n) : Cn G 13 [.ref (a + 2), .int (s 0), .int (s 8)] μ Q = Q (.inl (some (.int (zCosts s p n 0 0)))) μ := by
  have hb0 := hb
  have hl0 := hl
  obtain ⟨l1, l2, l3, l4, l5, l6⟩ := hl
  obtain ⟨h0, ⟨h1, e1⟩, h2, -⟩ := hb
  have key : ∀ k i acc, i + k = n → Rn G 13 5 [some (.ref (a + 2)), some (.int (s 0)), some (.int (s 8)), some (.int acc), some (.int (nI i))] [] μ Q = Q (.inl (some (.int (zCosts s p k i acc)))) μ := by
    intro k
    induction k with
    | zero =>
      intro i acc hi
      have h2' : n ≤ i := by omega
      rw [q13_5]
      simp (disch := first | assumption | (simp only [MM_Kd, rI_Kd, rJ_Kd, sI_Kd, sJ_Kd, sR_Kd]; assumption) | omega | decide) only [q13_0, q13_1, q13_2, q13_3, q13_7, q13_7N, q13_8, q13_11, q13_14, q13_15, q13_15N, q13_16, q13_18, q13_19, q13_20, q13_23, q13_24, q13_25, q13_28, q13_31, q13_32, l4, nI_leI, h2', zCosts, xaf_s, xaf_v, va_rf_s, xix_n, nI_clamp, xk1_i, xk1_a, xk1_u, xk1_n, xk1_l, xk1_d, true_and, and_true, ↓reduceIte, Nat.reduceAdd, xtup]
    | succ k ih =>
      intro i acc hi
      have h2' : ¬ n ≤ i := by omega
      have e := fun Q => c12 (G := G) (Q := Q) hb0 hl0 (show i < n by omega) (s 0) (s 8)
      have ec : wC (mw s p (11 + i)) (s 0) (s 8) = mCost s p i := by
        rw [mw_at (by omega)]; rfl
      rw [ec] at e
      rw [q13_5]
      simp (disch := first | assumption | (simp only [MM_Kd, rI_Kd, rJ_Kd, sI_Kd, sJ_Kd, sR_Kd]; assumption) | omega | decide) only [q13_0, q13_1, q13_2, q13_3, q13_7, q13_7N, q13_8, q13_11, q13_14, q13_15, q13_15N, q13_16, q13_18, q13_19, q13_20, q13_23, q13_24, q13_25, q13_28, q13_31, q13_32, l4, nI_leI, h2', e, nI_1, xaf_s, xaf_v, va_rf_s, xix_n, nI_clamp, xk1_i, xk1_a, xk1_u, xk1_n, xk1_l, xk1_d, true_and, and_true, ↓reduceIte, Nat.reduceAdd, xtup]
      exact ih (i + 1) _ (by omega)
  show Rn G 13 0 [some (.ref (a + 2)), some (.int (s 0)), some (.int (s 8)), none, none] [] μ Q = _
  simp only [q13_0, q13_1, q13_2, q13_3, xk1_i]
  exact key n 0 0 (by omega)
theorem c14 (hb : HB μ a) (hl : LT μ a (mw s p) f n) (hc : c < 3) : Cn G 14 [.ref (a + 2), .int (nI c)] μ Q = Q (.inl (some (.int (zLc s p c n 0 0)))) μ := by
  have hb0 := hb
  obtain ⟨l1, l2, l3, l4, l5, l6⟩ := hl
  obtain ⟨h0, ⟨h1, e1⟩, h2, -⟩ := hb
  have key : ∀ k i acc, i + k = n → Rn G 14 4 [some (.ref (a + 2)), some (.int (nI c)), some (.int acc), some (.int (nI i))] [] μ Q = Q (.inl (some (.int (zLc s p c k i acc)))) μ := by
    intro k
    induction k with
    | zero =>
      intro i acc hi
      have h2' : n ≤ i := by omega
      rw [q14_4]
      simp (disch := first | assumption | (simp only [MM_Kd, rI_Kd, rJ_Kd, sI_Kd, sJ_Kd, sR_Kd]; assumption) | omega | decide) only [q14_0, q14_1, q14_2, q14_3, q14_5, q14_5N, q14_6, q14_9, q14_12, q14_13, q14_13N, q14_14, q14_15, q14_18, q14_19, q14_22, q14_23, q14_26, q14_27, q14_30, q14_31, q14_32, q14_35, q14_38, q14_39, l4, nI_leI, h2', zLc, xaf_s, xaf_v, va_rf_s, xix_n, nI_clamp, xk1_i, xk1_a, xk1_u, xk1_n, xk1_l, xk1_d, true_and, and_true, ↓reduceIte, Nat.reduceAdd, xtup]
    | succ k ih =>
      intro i acc hi
      have h2' : ¬ n ≤ i := by omega
      have e := fun Q => c11' (G := G) (Q := Q) hb0 l1 l3 (show i ≤ 61 by omega)
      have ec : xI μ (a + 5) ((f + i) % 61) = mDueS s p i := by
        rw [(l6 i (by omega)).2.2, mw_at (by omega)]; rfl
      rw [ec] at e
      by_cases h3 : mDueS s p i = nI c
      · rw [q14_4]
        simp (disch := first | assumption | (simp only [MM_Kd, rI_Kd, rJ_Kd, sI_Kd, sJ_Kd, sR_Kd]; assumption) | omega | decide) only [q14_0, q14_1, q14_2, q14_3, q14_5, q14_5N, q14_6, q14_9, q14_12, q14_13, q14_13N, q14_14, q14_15, q14_18, q14_19, q14_22, q14_23, q14_26, q14_27, q14_30, q14_31, q14_32, q14_35, q14_38, q14_39, l4, nI_leI, h2', e, eq_true h3, c107, or_true, not_true_eq_false, nI_1, xaf_s, xaf_v, va_rf_s, xix_n, nI_clamp, xk1_i, xk1_a, xk1_u, xk1_n, xk1_l, xk1_d, true_and, and_true, ↓reduceIte, Nat.reduceAdd, xtup]
        rw [ih (i + 1) _ (by omega)]
        simp only [zLc, h3, ↓reduceIte]
      · rw [q14_4]
        simp (disch := first | assumption | (simp only [MM_Kd, rI_Kd, rJ_Kd, sI_Kd, sJ_Kd, sR_Kd]; assumption) | omega | decide) only [q14_0, q14_1, q14_2, q14_3, q14_5, q14_5N, q14_6, q14_9, q14_12, q14_13, q14_13N, q14_14, q14_15, q14_18, q14_19, q14_22, q14_23, q14_26, q14_27, q14_30, q14_31, q14_32, q14_35, q14_38, q14_39, l4, nI_leI, h2', e, h3, c107, true_or, not_true_eq_false, not_false_eq_true, nI_1, xaf_s, xaf_v, va_rf_s, xix_n, nI_clamp, xk1_i, xk1_a, xk1_u, xk1_n, xk1_l, xk1_d, true_and, and_true, ↓reduceIte, Nat.reduceAdd, xtup]
        rw [ih (i + 1) _ (by omega)]
        simp only [zLc, h3, ↓reduceIte]
  show Rn G 14 0 [some (.ref (a + 2)), some (.int (nI c)), none, none] [] μ Q = _
  simp only [q14_0, q14_1, q14_2, q14_3, xk1_i]
  exact key n 0 0 (by omega)
/-- late months lapse -/
theorem c17_loop (hp : p < 8) (hg : g < 99990) {N : Nat} : ∀ k μ s f j, k < 62 → HB μ a → LT μ a (mw s p) f k → GI s g n F → MI (mw s p) S (g - 60) (g + 1) → j + k = N → N < 100 → ∃ μ' d, (∀ Q, Rn G 17 7 [some (.ref (a + 2)), some (.int (s 0 - s 7)), some (.int (nI N)), some (.int (nI j))] [] μ Q = Q (.inl (some (.int (nI (j + d))))) μ') ∧ (∃ f n, LT μ' a (mw (zLap1 p k s) p) f n) ∧ zLap1 p k s 4 = s 4 + nI d ∧ FR μ μ' (fun q => q = a + 2) := by
  intro k
  induction k with
  | zero =>
    intro μ s f j _ hb hl hG hM hj hN
    obtain ⟨l1, l2, l3, l4, l5, l6⟩ := hl
    obtain ⟨h0, ⟨h1, e1⟩, h2, -⟩ := hb
    have h2' : N ≤ j := by omega
    refine ⟨μ, 0, fun Q => ?_, ⟨f, 0, l1, l2, l3, l4, l5, l6⟩, (nI_a0 _).symm, FR.rf⟩
    have z0 : nI N - nI 0 = nI N := nI_s0 _
    rw [q17_7]
    simp (disch := first | assumption | (simp only [MM_Kd, rI_Kd, rJ_Kd, sI_Kd, sJ_Kd, sR_Kd]; assumption) | omega | decide) only [q17_0, q17_0N, q17_1, q17_4, q17_5, q17_6, q17_8, q17_9, q17_12, q17_12N, q17_13, q17_16, q17_16N, q17_17, q17_18, q17_21, q17_21T, q17_22, q17_23, q17_26, q17_26N, q17_27, q17_27N, q17_28, q17_29, q17_32, q17_35, q17_35N, q17_36, q17_37, q17_40, q17_41, q17_42, q17_45, q17_48, q17_51, q17_52, q17_52N, q17_53, q17_56, q17_57, l4, nI_leI, h2', z0, xaf_s, xaf_v, va_rf_s, xix_n, nI_clamp, xk1_i, xk1_a, xk1_u, xk1_n, xk1_l, xk1_d, true_and, and_true, ↓reduceIte, Nat.reduceAdd, xtup]
    rw [show j + 0 = N by omega]
  | succ k ih =>
    intro μ s f j hk hb hl hG hM hj hN
    have hb0 := hb
    have hl0 := hl
    obtain ⟨l1, l2, l3, l4, l5, l6⟩ := hl
    obtain ⟨h0, ⟨h1, e1⟩, h2, ⟨h3', e3⟩, ⟨h4, e4⟩, ⟨h5, e5⟩, p0, p1, p2, p3, p4⟩ := hb
    have hn : s (19 + 75 * p + 10) = nI (k + 1) := by rw [← mw_at (s := s) (p := p) (w := 10) (by omega)]; exact l5
    obtain ⟨w, w1, w2, w3, w4, -, w5, -⟩ := late0 hM (by omega) hn (by omega) (by omega)
    obtain ⟨l, la, lb, lc⟩ := hG.2.2.2.2.2.1
    have hN' : ¬ N ≤ j := by omega
    have ec0 : xI μ (a + 3) ((f + 0) % 61) = nI (w / 16384) := by
      have := (l6 0 (by omega)).1
      rw [this, ← w5, mw_at (by omega)]; rfl
    have hlt : (f + 0) % 61 < 61 := Nat.mod_lt _ (by omega)
    have hc8 := fun k hk Q => c8 (G := G) (Q := Q) (k := k) hb0 l1 l3 hk
    have e0 := fun Q => hc8 0 (by omega) Q
    have e1' := fun Q => hc8 1 (by omega) Q
    rw [show (nI 0 : Int32) = 0 from rfl] at e0
    rw [show (nI 1 : Int32) = 1 from rfl] at e1'
    have hcond : (s 7 ≤ s 0 - mDueM s p 0) = ¬ (s 0 - s 7 < nI (w / 16384)) := by
      rw [hG.1, w5, lc, pk_sub (by omega), nI_leI (by omega) (by omega)]
      rw [Int32.lt_iff_toInt_lt, pk_sub_toInt (by omega) (by omega), nI_toInt (by omega)]
      apply propext; omega
    by_cases hc : s 7 ≤ s 0 - mDueM s p 0
    · have hc' := hc
      rw [hcond] at hc'
      have ho : only p s (up (mDrop s p k) 4 (s 4 + 1)) := (only.drop (by omega)).tr (only.up (by omega))
      obtain ⟨f1, f1a, f1b⟩ := hG.2.2.2.1
      have e1 : up (mDrop s p k) 4 (s 4 + 1) 1 = s 1 := by rw [up_n (by omega)]; exact (mSh_n (by omega)).trans (up_n (by omega))
      have hG' : GI (up (mDrop s p k) 4 (s 4 + 1)) g n F := ho.GI hG ⟨f1, by rw [e1]; exact f1a, f1b⟩
      have em : mw (up (mDrop s p k) 4 (s 4 + 1)) p = vDrop (mw s p) k := by rw [mw_out (by omega), mw_drop (by omega)]
      have hM' : MI (mw (up (mDrop s p k) 4 (s 4 + 1)) p) S (g - 60) (g + 1) := by
        rw [em]
        exact (hM.mono (Nat.le_succ S) (Nat.le_refl _) (Nat.le_refl _)).drop (by rw [mw_at (by omega)]; exact hn) (by omega) (by omega)
      have hl' := LT_drop hl0
      rw [← em] at hl'
      obtain ⟨μ', d, r1, r2, r3, r4⟩ := ih (xsI (xsI μ (a + 2) 3 (nI ((f + 1) % 61))) (a + 2) 4 (nI k)) _ _ (j + 1) (by omega) (hb0.of rfl rfl rfl) hl' hG' hM' (by omega) hN
      have g0 : up (mDrop s p k) 4 (s 4 + 1) 0 = s 0 := by rw [up_n (by omega)]; exact (mSh_n (by omega)).trans (up_n (by omega))
      have g7 : up (mDrop s p k) 4 (s 4 + 1) 7 = s 7 := by rw [up_n (by omega)]; exact (mSh_n (by omega)).trans (up_n (by omega))
      rw [g0, g7] at r1
      refine ⟨μ', d + 1, fun Q => ?_, ?_, ?_, ((FR.sI (P := fun q => q = a + 2) rfl).tr (FR.sI (P := fun q => q = a + 2) rfl)).tr r4⟩
      · have i4 : ∀ x, xI (xsI μ (a + 2) 3 x) (a + 2) 4 = nI (k + 1) := fun x => by rw [sI_k (by omega)]; exact l4
        rw [q17_7]
        simp (disch := first | assumption | (simp only [MM_Kd, rI_Kd, rJ_Kd, sI_Kd, sJ_Kd, sR_Kd]; assumption) | omega | decide) only [q17_0, q17_0N, q17_1, q17_4, q17_5, q17_6, q17_8, q17_9, q17_12, q17_12N, q17_13, q17_16, q17_16N, q17_17, q17_18, q17_21, q17_21T, q17_22, q17_23, q17_26, q17_26N, q17_27, q17_27N, q17_28, q17_29, q17_32, q17_35, q17_35N, q17_36, q17_37, q17_40, q17_41, q17_42, q17_45, q17_48, q17_51, q17_52, q17_52N, q17_53, q17_56, q17_57, nI_leI, hN', e0, e1', p2, e3, ec0, hc', nI_1, i4, nI_s1, rI_Kd, rI_Ln, rI_R, rI_J, rJ_Kd, rJ_Ln, rJ_R, rJ_I, sI_Kd, sI_Ln, sI_R, sI_J, sJ_Kd, sJ_Ln, sJ_R, sJ_I, sR_Kd, sR_Ln, sR_I, sR_J, xaf_s, xaf_v, va_rf_s, xix_n, nI_clamp, xk1_i, xk1_a, xk1_u, xk1_n, xk1_l, xk1_d, true_and, and_true, ↓reduceIte, Nat.reduceAdd, xtup]
        rw [r1 Q, show j + 1 + d = j + (d + 1) by omega]
      · simp only [zLap1, hc, ↓reduceIte]; exact r2
      · simp only [zLap1, hc, ↓reduceIte]; rw [r3, up_e, ← nI_1]; exact (Int32.add_assoc _ _ _).trans (by rw [Int32.add_comm 1 (nI d)])
    · have hc' : s 0 - s 7 < nI (w / 16384) := by
        rw [hcond] at hc; exact Classical.byContradiction fun z => hc z
      refine ⟨μ, 0, fun Q => ?_, ?_, ?_, FR.rf⟩
      · have e9 : nI N - nI (k + 1) = nI (j + 0) := by rw [pk_sub (by omega)]; congr 1; omega
        rw [q17_7]
        simp (disch := first | assumption | (simp only [MM_Kd, rI_Kd, rJ_Kd, sI_Kd, sJ_Kd, sR_Kd]; assumption) | omega | decide) only [q17_0, q17_0N, q17_1, q17_4, q17_5, q17_6, q17_8, q17_9, q17_12, q17_12N, q17_13, q17_16, q17_16N, q17_17, q17_18, q17_21, q17_21T, q17_22, q17_23, q17_26, q17_26N, q17_27, q17_27N, q17_28, q17_29, q17_32, q17_35, q17_35N, q17_36, q17_37, q17_40, q17_41, q17_42, q17_45, q17_48, q17_51, q17_52, q17_52N, q17_53, q17_56, q17_57, nI_leI, hN', e0, p2, e3, ec0, hc', l4, e9, rI_Kd, rI_Ln, rI_R, rI_J, rJ_Kd, rJ_Ln, rJ_R, rJ_I, sI_Kd, sI_Ln, sI_R, sI_J, sJ_Kd, sJ_Ln, sJ_R, sJ_I, sR_Kd, sR_Ln, sR_I, sR_J, xaf_s, xaf_v, va_rf_s, xix_n, nI_clamp, xk1_i, xk1_a, xk1_u, xk1_n, xk1_l, xk1_d, true_and, and_true, ↓reduceIte, Nat.reduceAdd, xtup]
      · simp only [zLap1, hc, ↓reduceIte]; exact ⟨f, k + 1, hl0⟩
      · simp only [zLap1, hc, ↓reduceIte]; exact (nI_a0 _).symm
end SCH
