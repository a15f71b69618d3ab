/-! THE REFERENCE: SMALL METHODS -/
/-- the reference's cells -/
def MS (μ : xMem) (m : Nat) : Prop := xKd μ m = 8 ∧ (xKd μ (m + 1) = 9 ∧ xLn μ (m + 1) = 619) ∧ (xKd μ (m + 2) = 9 ∧ xLn μ (m + 2) = 619) ∧ (xKd μ (m + 3) = 9 ∧ xLn μ (m + 3) = 3714) ∧ (xKd μ (m + 4) = 12 ∧ xLn μ (m + 4) = 6) ∧ (xKd μ (m + 5) = 12 ∧ xLn μ (m + 5) = 6) ∧ (xKd μ (m + 6) = 12 ∧ xLn μ (m + 6) = 36) ∧ (xKd μ (m + 7) = 9 ∧ xLn μ (m + 7) = 60) ∧
  xR μ m 1 = some (m + 1) ∧ xR μ m 2 = some (m + 2) ∧ xR μ m 3 = some (m + 3) ∧ xR μ m 4 = some (m + 4) ∧ xR μ m 5 = some (m + 5) ∧ xR μ m 6 = some (m + 6) ∧ xR μ m 8 = some (m + 7)
theorem va_rf_s (a : Nat) : va_rf (some a) = .ref a := rfl
theorem xk1_i (x : Int32) : xk1 (some (.int x)) = some (.int x) := rfl
theorem xk1_a (x : Nat) : xk1 (some (.ref x)) = some (.ref x) := rfl
theorem xk1_u : xk1 (some .null) = some .null := rfl
theorem xk1_n : xk1 none = none := rfl
theorem xk1_l (x : Int64) : xk1 (some (.long x)) = none := rfl
theorem xk1_d (x : UInt64) : xk1 (some (.double x)) = none := rfl
theorem xaf_s {G : xCtx} {y pc nest q t : Nat} {ls : List (Option Value)} {rs : List Value} {Q : xOut → xMem → Prop} {v : Value} {μ : xMem} : xaf G y pc nest q t ls rs Q (.inl (some v)) μ = Rn G y (pc + 3) ls (v :: rs) μ Q := rfl
theorem xaf_v {G : xCtx} {y pc nest q t : Nat} {ls : List (Option Value)} {rs : List Value} {Q : xOut → xMem → Prop} {μ : xMem} : xaf G y pc nest q t ls rs Q (.inl none) μ = Rn G y (pc + 3) ls rs μ Q := rfl
theorem xix_n {n N : Nat} (h : n < N) (hN : N < 2 ^ 31) : xix (nI n) N = True := by
  apply eq_true
  exact nI_in h hN
theorem xtup (a b : Value) (l : List Value) : (some a).toList ++ l = a :: l := rfl
section MD1
variable {G : xCtx} {μ : xMem} {Q : xOut → xMem → Prop} {m : Nat}
theorem s110 (v lo hi : Int32) : Cn G 110 [.int v, .int lo, .int hi] μ Q = Q (.inl (some (.int (if v < lo ∨ hi < v then 0 else 1)))) μ := by
  show Rn G 110 0 [some (.int v), some (.int lo), some (.int hi)] [] μ Q = _
  simp only [q110_0, q110_1, q110_2, q110_5, q110_6, q110_7, q110_10, q110_11, q110_14]
  by_cases h1 : v < lo
  · simp only [h1, true_or, ↓reduceIte]
    rw [q110_15 (Or.inl rfl)]
  · by_cases h2 : hi < v
    · simp only [h1, h2, or_true, ↓reduceIte]
      rw [q110_15 (Or.inl rfl)]
    · simp only [h1, h2, or_self, ↓reduceIte]
      rw [q110_15 (Or.inr rfl)]
theorem s112 (p w : Nat) : Cn G 112 [.int (nI p), .int (nI w)] μ Q = Q (.inl (some (.int (nI (19 + 75 * p + w))))) μ := by
  show Rn G 112 0 [some (.int (nI p)), some (.int (nI w))] [] μ Q = _
  simp only [q112_0, q112_2, q112_4, q112_5, q112_6, q112_7, q112_8, q112_9]
  rw [show (19 : Int32) + 75 * nI p + nI w = nI (19 + 75 * p + w) by rw [← nI_add, ← nI_add, ← pk_mul]; rfl]
theorem s112_0 (p : Nat) : Cn G 112 [.int (nI p), .int 0] μ Q = Q (.inl (some (.int (nI (19 + 75 * p))))) μ := s112 p 0
theorem s112_1 (p : Nat) : Cn G 112 [.int (nI p), .int 1] μ Q = Q (.inl (some (.int (nI (19 + 75 * p + 1))))) μ := s112 p 1
theorem s112_2 (p : Nat) : Cn G 112 [.int (nI p), .int 2] μ Q = Q (.inl (some (.int (nI (19 + 75 * p + 2))))) μ := s112 p 2
theorem s112_3 (p : Nat) : Cn G 112 [.int (nI p), .int 3] μ Q = Q (.inl (some (.int (nI (19 + 75 * p + 3))))) μ := s112 p 3
theorem s112_7 (p : Nat) : Cn G 112 [.int (nI p), .int 7] μ Q = Q (.inl (some (.int (nI (19 + 75 * p + 7))))) μ := s112 p 7
theorem s112_8 (p : Nat) : Cn G 112 [.int (nI p), .int 8] μ Q = Q (.inl (some (.int (nI (19 + 75 * p + 8))))) μ := s112 p 8
theorem s112_9 (p : Nat) : Cn G 112 [.int (nI p), .int 9] μ Q = Q (.inl (some (.int (nI (19 + 75 * p + 9))))) μ := s112 p 9
theorem s112_10 (p : Nat) : Cn G 112 [.int (nI p), .int 10] μ Q = Q (.inl (some (.int (nI (19 + 75 * p + 10))))) μ := s112 p 10
/-- the first of k places from i on where f is x -/
def mfind (f : Nat → Int32) (x : Int32) : Nat → Nat → Int32
  | 0, _ => -1
  | k + 1, i => if f i = x then nI i else mfind f x k (i + 1)
theorem s113_loop (hm : MS μ m) {n : Nat} (hn : xI μ (m + 1) 2 = nI n) (h8 : n ≤ 8) (x : Int32) : ∀ k i, i + k = n → Rn G 113 2 [some (.ref m), some (.int x), some (.int (nI i))] [] μ Q = Q (.inl (some (.int (mfind (fun p => xI μ (m + 1) (19 + 75 * p)) x k i)))) μ := by
  obtain ⟨k0, ⟨k1, n1⟩, -, -, -, -, -, -, r1, -⟩ := hm
  have h0 : xix 2 619 := by unfold xix; decide
  have hc : (2 : Int32).toNatClampNeg = 2 := rfl
  intro k
  induction k with
  | zero =>
    intro i hi
    have h2 : n ≤ i := by omega
    rw [q113_2]
    simp (disch := first | assumption | omega) only [q113_0, q113_1, q113_3, q113_3N, q113_4, q113_7, q113_8, q113_8T, q113_9, q113_12, q113_12N, q113_13, q113_16, q113_17, q113_18, q113_21, q113_21T, q113_22, q113_23, q113_26, q113_27, q113_28, q113_31, q113_34, q113_35, r1, n1, h0, hc, hn, nI_leI, h2, xaf_s, xaf_v, va_rf_s, xix_n, nI_clamp, xk1_i, xk1_a, xk1_u, xk1_n, xk1_l, xk1_d, true_and, and_true, ↓reduceIte, Nat.reduceAdd, xtup]
    rfl
  | succ k ih =>
    intro i hi
    have h2 : ¬ n ≤ i := by omega
    rw [q113_2]
    simp (disch := first | assumption | omega) only [q113_0, q113_1, q113_3, q113_3N, q113_4, q113_7, q113_8, q113_8T, q113_9, q113_12, q113_12N, q113_13, q113_16, q113_17, q113_18, q113_21, q113_21T, q113_22, q113_23, q113_26, q113_27, q113_28, q113_31, q113_34, q113_35, s112_0, r1, n1, h0, hc, hn, nI_leI, h2, nI_1, xaf_s, xaf_v, va_rf_s, xix_n, nI_clamp, xk1_i, xk1_a, xk1_u, xk1_n, xk1_l, xk1_d, true_and, and_true, ↓reduceIte, Nat.reduceAdd, xtup]
    rw [ih (i + 1) (by omega)]
    simp only [mfind]
    by_cases hf : xI μ (m + 1) (19 + 75 * i) = x <;> simp [hf]
theorem s113 (hm : MS μ m) {n : Nat} (hn : xI μ (m + 1) 2 = nI n) (h8 : n ≤ 8) (x : Int32) : Cn G 113 [.ref m, .int x] μ Q = Q (.inl (some (.int (mfind (fun p => xI μ (m + 1) (19 + 75 * p)) x n 0)))) μ := by
  show Rn G 113 0 [some (.ref m), some (.int x), none] [] μ Q = _
  simp only [q113_0, q113_1, xk1_i]
  exact s113_loop hm hn h8 x n 0 (by omega)
theorem s111 (v : Int32) : Cn G 111 [.int v] μ Q = Q (.inl (some (.int (if v < 0 ∨ 2 < v then 0 else 1)))) μ := by
  show Rn G 111 0 [some (.int v)] [] μ Q = _
  simp only [q111_0, q111_1, q111_2, q111_3, s110, xaf_s, xaf_v, va_rf_s, xix_n, nI_clamp, xk1_i, xk1_a, xk1_u, xk1_n, xk1_l, xk1_d, true_and, and_true, ↓reduceIte, Nat.reduceAdd, xtup]
  rw [q111_6 (by split <;> simp)]
theorem s114 (hm : MS μ m) (x : Int32) : Cn G 114 [.ref m, .int x] μ Q = Q (.inl (some (.int (if x = 0 then 1 else 0)))) (xsI μ m 0 x) := by
  show Rn G 114 0 [some (.ref m), some (.int x)] [] μ Q = _
  obtain ⟨k0, -⟩ := hm
  simp (disch := first | assumption | omega) only [q114_0, q114_1, q114_2, q114_5, q114_6, q114_9, q114_10, q114_13, ite_not, xaf_s, xaf_v, va_rf_s, xix_n, nI_clamp, xk1_i, xk1_a, xk1_u, xk1_n, xk1_l, xk1_d, true_and, and_true, ↓reduceIte, Nat.reduceAdd, xtup]
  by_cases h : x = 0
  · simp only [h, ↓reduceIte]
    rw [q114_14 (Or.inr rfl)]
  · simp only [h, ↓reduceIte]
    rw [q114_14 (Or.inl rfl)]
/-- section sec's word w: 10 + 3 sec + w -/
theorem s118 (hm : MS μ m) {c : Nat} (h : c < 3) : Cn G 118 [.ref m, .int (nI c)] μ Q = Q (.inl (some (.int (xI μ (m + 1) (10 + 3 * c))))) μ := by
  obtain ⟨k0, ⟨k1, n1⟩, -, -, -, -, -, -, r1, -⟩ := hm
  show Rn G 118 0 [some (.ref m), some (.int (nI c))] [] μ Q = _
  have e : (10 : Int32) + 3 * nI c = nI (10 + 3 * c) := by rw [← nI_add, ← pk_mul]; rfl
  simp (disch := first | assumption | omega) only [q118_0, q118_0N, q118_1, q118_4, q118_6, q118_7, q118_8, q118_9, q118_10, q118_10T, q118_11, r1, n1, e, xaf_s, xaf_v, va_rf_s, xix_n, nI_clamp, xk1_i, xk1_a, xk1_u, xk1_n, xk1_l, xk1_d, true_and, and_true, ↓reduceIte, Nat.reduceAdd, xtup]
theorem s119 (hm : MS μ m) {c : Nat} (h : c < 3) : Cn G 119 [.ref m, .int (nI c)] μ Q = Q (.inl (some (.int (if xI μ (m + 1) (12 + 3 * c) = 1 then 1 else 0)))) μ := by
  obtain ⟨k0, ⟨k1, n1⟩, -, -, -, -, -, -, r1, -⟩ := hm
  show Rn G 119 0 [some (.ref m), some (.int (nI c))] [] μ Q = _
  have e : (10 : Int32) + 3 * nI c + 2 = nI (12 + 3 * c) := by rw [show 12 + 3 * c = 10 + 3 * c + 2 by omega, ← nI_add, ← nI_add, ← pk_mul]; rfl
  by_cases hv : xI μ (m + 1) (12 + 3 * c) = 1
  · simp (disch := first | assumption | omega | decide) only [q119_0, q119_0N, q119_1, q119_4, q119_6, q119_7, q119_8, q119_9, q119_10, q119_11, q119_12, q119_12T, q119_13, q119_14, q119_17, q119_18, q119_21, q119_22, r1, n1, e, hv, not_true_eq_false, xaf_s, xaf_v, va_rf_s, xix_n, nI_clamp, xk1_i, xk1_a, xk1_u, xk1_n, xk1_l, xk1_d, true_and, and_true, ↓reduceIte, Nat.reduceAdd, xtup]
  · simp (disch := first | assumption | omega | decide) only [q119_0, q119_0N, q119_1, q119_4, q119_6, q119_7, q119_8, q119_9, q119_10, q119_11, q119_12, q119_12T, q119_13, q119_14, q119_17, q119_18, q119_21, q119_22, r1, n1, e, hv, not_false_eq_true, xaf_s, xaf_v, va_rf_s, xix_n, nI_clamp, xk1_i, xk1_a, xk1_u, xk1_n, xk1_l, xk1_d, true_and, and_true, ↓reduceIte, Nat.reduceAdd, xtup]
end MD1
