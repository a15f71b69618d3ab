/-! THE REFERENCE: late months, pensions -/
theorem nI_11 (k : Nat) : (11 : Int32) + nI k = nI (11 + k) := by rw [← nI_add]; rfl
theorem nI_4 (k : Nat) : (4 : Int32) + nI k = nI (4 + k) := by rw [← nI_add]; rfl
theorem nc0 : (0 : Int32).toNatClampNeg = 0 := rfl
theorem nc1 : (1 : Int32).toNatClampNeg = 1 := rfl
theorem nc2 : (2 : Int32).toNatClampNeg = 2 := rfl
theorem nc3 : (3 : Int32).toNatClampNeg = 3 := rfl
theorem nc4 : (4 : Int32).toNatClampNeg = 4 := rfl
theorem nc5 : (5 : Int32).toNatClampNeg = 5 := rfl
theorem nc6 : (6 : Int32).toNatClampNeg = 6 := rfl
theorem nc7 : (7 : Int32).toNatClampNeg = 7 := rfl
theorem nc8 : (8 : Int32).toNatClampNeg = 8 := rfl
theorem nc9 : (9 : Int32).toNatClampNeg = 9 := rfl
theorem xl0 {N : Nat} (h : 0 < N) : xix 0 N = True := by apply eq_true; intro z; rcases z with z | z; exact absurd z (by decide); rw [nc0] at z; omega
theorem xl1 {N : Nat} (h : 1 < N) : xix 1 N = True := by apply eq_true; intro z; rcases z with z | z; exact absurd z (by decide); rw [nc1] at z; omega
theorem xl2 {N : Nat} (h : 2 < N) : xix 2 N = True := by apply eq_true; intro z; rcases z with z | z; exact absurd z (by decide); rw [nc2] at z; omega
theorem xl3 {N : Nat} (h : 3 < N) : xix 3 N = True := by apply eq_true; intro z; rcases z with z | z; exact absurd z (by decide); rw [nc3] at z; omega
theorem xl4 {N : Nat} (h : 4 < N) : xix 4 N = True := by apply eq_true; intro z; rcases z with z | z; exact absurd z (by decide); rw [nc4] at z; omega
theorem xl5 {N : Nat} (h : 5 < N) : xix 5 N = True := by apply eq_true; intro z; rcases z with z | z; exact absurd z (by decide); rw [nc5] at z; omega
theorem xl6 {N : Nat} (h : 6 < N) : xix 6 N = True := by apply eq_true; intro z; rcases z with z | z; exact absurd z (by decide); rw [nc6] at z; omega
theorem xl7 {N : Nat} (h : 7 < N) : xix 7 N = True := by apply eq_true; intro z; rcases z with z | z; exact absurd z (by decide); rw [nc7] at z; omega
theorem xl8 {N : Nat} (h : 8 < N) : xix 8 N = True := by apply eq_true; intro z; rcases z with z | z; exact absurd z (by decide); rw [nc8] at z; omega
theorem xl9 {N : Nat} (h : 9 < N) : xix 9 N = True := by apply eq_true; intro z; rcases z with z | z; exact absurd z (by decide); rw [nc9] at z; omega
/-- a late month's word, what it says -/
def mLate (s : Nat → Int32) (p k : Nat) : Int32 := s (19 + 75 * p + (11 + k))
def mDueM (s : Nat → Int32) (p k : Nat) : Int32 := mLate s p k / 16384
def mDueS (s : Nat → Int32) (p k : Nat) : Int32 := mLate s p k / 4096 - mLate s p k / 4096 / 4 * 4
def mDue (s : Nat → Int32) (p k : Nat) : Int32 := mLate s p k - mLate s p k / 4096 * 4096
def mCost (s : Nat → Int32) (p k : Nat) : Int32 := mDue s p k + mDue s p k * s 8 * (s 0 - mDueM s p k) / 1000
section MD2
variable {G : xCtx} {μ : xMem} {Q : xOut → xMem → Prop} {m : Nat}
theorem s120 (hm : MS μ m) {p k : Nat} (hp : p < 8) (hk : k < 64) : Cn G 120 [.ref m, .int (nI p), .int (nI k)] μ Q = Q (.inl (some (.int (mDueM (xI μ (m + 1)) p k)))) μ := by
  obtain ⟨k0, ⟨k1, n1⟩, -, -, -, -, -, -, r1, -⟩ := hm
  show Rn G 120 0 [some (.ref m), some (.int (nI p)), some (.int (nI k))] [] μ Q = _
  have h1 : ¬ (16384 : Int32) = 0 := by decide
  simp (disch := first | assumption | omega | decide) only [q120_0, q120_0N, q120_1, q120_4, q120_5, q120_7, q120_8, q120_9, q120_12, q120_12T, q120_13, q120_16, q120_17, s112, nI_11, r1, n1, h1, not_false_eq_true, xaf_s, xaf_v, va_rf_s, xix_n, nI_clamp, xk1_i, xk1_a, xk1_u, xk1_n, xk1_l, xk1_d, true_and, and_true, ↓reduceIte, Nat.reduceAdd, xtup]
  rfl
theorem s121 (hm : MS μ m) {p k : Nat} (hp : p < 8) (hk : k < 64) : Cn G 121 [.ref m, .int (nI p), .int (nI k)] μ Q = Q (.inl (some (.int (mDueS (xI μ (m + 1)) p k)))) μ := by
  obtain ⟨k0, ⟨k1, n1⟩, -, -, -, -, -, -, r1, -⟩ := hm
  show Rn G 121 0 [some (.ref m), some (.int (nI p)), some (.int (nI k))] [] μ Q = _
  have h1 : ¬ (4096 : Int32) = 0 := by decide
  have h2 : ¬ (4 : Int32) = 0 := by decide
  simp (disch := first | assumption | omega | decide) only [q121_0, q121_0N, q121_1, q121_4, q121_5, q121_7, q121_8, q121_9, q121_12, q121_12T, q121_13, q121_16, q121_17, q121_18, q121_19, s112, nI_11, r1, n1, h1, h2, not_false_eq_true, xaf_s, xaf_v, va_rf_s, xix_n, nI_clamp, xk1_i, xk1_a, xk1_u, xk1_n, xk1_l, xk1_d, true_and, and_true, ↓reduceIte, Nat.reduceAdd, xtup]
  rfl
theorem s122 (hm : MS μ m) {p k : Nat} (hp : p < 8) (hk : k < 64) : Cn G 122 [.ref m, .int (nI p), .int (nI k)] μ Q = Q (.inl (some (.int (mDue (xI μ (m + 1)) p k)))) μ := by
  obtain ⟨k0, ⟨k1, n1⟩, -, -, -, -, -, -, r1, -⟩ := hm
  show Rn G 122 0 [some (.ref m), some (.int (nI p)), some (.int (nI k))] [] μ Q = _
  have h1 : ¬ (4096 : Int32) = 0 := by decide
  simp (disch := first | assumption | omega | decide) only [q122_0, q122_0N, q122_1, q122_4, q122_5, q122_7, q122_8, q122_9, q122_12, q122_12T, q122_13, q122_16, q122_17, s112, nI_11, r1, n1, h1, not_false_eq_true, xaf_s, xaf_v, va_rf_s, xix_n, nI_clamp, xk1_i, xk1_a, xk1_u, xk1_n, xk1_l, xk1_d, true_and, and_true, ↓reduceIte, Nat.reduceAdd, xtup]
  rfl
theorem s123 (hm : MS μ m) {p k : Nat} (hp : p < 8) (hk : k < 64) : Cn G 123 [.ref m, .int (nI p), .int (nI k)] μ Q = Q (.inl (some (.int (mCost (xI μ (m + 1)) p k)))) μ := by
  have hm0 := hm
  obtain ⟨k0, ⟨k1, n1⟩, -, -, -, -, -, -, r1, -⟩ := hm
  show Rn G 123 0 [some (.ref m), some (.int (nI p)), some (.int (nI k)), none] [] μ Q = _
  have h1 : ¬ (1000 : Int32) = 0 := by decide
  simp (disch := first | assumption | omega | decide) only [q123_0, q123_0N, q123_1, q123_2, q123_3, q123_6, q123_7, q123_8, q123_9, q123_9N, q123_10, q123_13, q123_15, q123_15T, q123_16, q123_17, q123_17N, q123_18, q123_21, q123_22, q123_22T, q123_23, q123_23N, q123_24, q123_25, q123_26, q123_29, q123_30, q123_31, q123_34, q123_35, q123_36, s122 hm0, s120 hm0, r1, n1, h1, xl8, xl0, nc8, nc0, not_false_eq_true, xaf_s, xaf_v, va_rf_s, xix_n, nI_clamp, xk1_i, xk1_a, xk1_u, xk1_n, xk1_l, xk1_d, true_and, and_true, ↓reduceIte, Nat.reduceAdd, xtup]
  rfl
end MD2
