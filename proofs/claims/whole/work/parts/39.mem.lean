/-! THE CLASS: A MEMBER -/
theorem xor_nn {x z : Int32} (hx : 0 ≤ x) (hz : 0 ≤ z) : 0 ≤ x ^^^ z := by
  have key : ∀ w : Int32, 0 ≤ w ↔ w.toBitVec.msb = false := by
    intro w
    rw [Int32.le_iff_toInt_le]
    show (0 : Int) ≤ w.toBitVec.toInt ↔ _
    constructor
    · intro h
      rcases hb : w.toBitVec.msb with _ | _
      · rfl
      · have := BitVec.toInt_neg_of_msb_true hb; omega
    · exact BitVec.toInt_nonneg_of_msb_false
  rw [key] at *
  rw [Int32.toBitVec_xor, BitVec.msb_xor, hx, hz]; rfl
theorem nI_nn {a : Nat} (h : a < 2 ^ 31) : 0 ≤ nI a := by
  rw [show (0 : Int32) = nI 0 from rfl, nI_leI (by omega) h]; omega
def wM (w : Int32) : Int32 := w / 16384
def wD (w : Int32) : Int32 := w - w / 4096 * 4096
def wS (w : Int32) : Int32 := w / 4096 - w / 4096 / 4 * 4
/-- a member's block -/
def HB (μ : xMem) (a : Nat) : Prop := xKd μ a = 4 ∧ (xKd μ (a + 1) = 9 ∧ xLn μ (a + 1) = 3) ∧ xKd μ (a + 2) = 3 ∧ (xKd μ (a + 3) = 9 ∧ xLn μ (a + 3) = 61) ∧ (xKd μ (a + 4) = 9 ∧ xLn μ (a + 4) = 61) ∧ (xKd μ (a + 5) = 9 ∧ xLn μ (a + 5) = 61) ∧
  xR μ a 0 = some (a + 1) ∧ xR μ a 1 = some (a + 2) ∧ xR μ (a + 2) 0 = some (a + 3) ∧ xR μ (a + 2) 1 = some (a + 4) ∧ xR μ (a + 2) 2 = some (a + 5)
theorem HB.of {μ μ' : xMem} {a : Nat} (h : HB μ a) (h1 : μ'.1 = μ.1) (h2 : xR μ' a = xR μ a) (h3 : xR μ' (a + 2) = xR μ (a + 2)) : HB μ' a := by
  unfold HB xKd xLn at *; rw [h1, h2, h3]; exact h
/-- the ring of late months: first place f, n of them -/
def LT (μ : xMem) (a : Nat) (v : Nat → Int32) (f n : Nat) : Prop := f < 61 ∧ n ≤ 61 ∧ xI μ (a + 2) 3 = nI f ∧ xI μ (a + 2) 4 = nI n ∧ v 10 = nI n ∧
  ∀ k, k < n → xI μ (a + 3) ((f + k) % 61) = wM (v (11 + k)) ∧ xI μ (a + 4) ((f + k) % 61) = wD (v (11 + k)) ∧ xI μ (a + 5) ((f + k) % 61) = wS (v (11 + k))
def MV (μ : xMem) (a : Nat) (v : Nat → Int32) : Prop := xI μ a 2 = 1 ∧ xI μ a 3 = v 0 ∧ xI μ a 4 = v 1 ∧ xI μ a 5 = v 2 ∧ xI μ a 6 = v 3 ∧ xI μ a 7 = v 7 ∧ xI μ a 8 = v 8 ∧ xI μ a 9 = v 9 ∧ (∀ k, k < 3 → xI μ (a + 1) k = v (4 + k)) ∧ ∃ f n, LT μ a v f n
theorem LT.of {μ μ' : xMem} {a f n : Nat} {v : Nat → Int32} (h : LT μ a v f n) (e : ∀ q, a + 2 ≤ q → q < a + 6 → xI μ' q = xI μ q) : LT μ' a v f n := by
  obtain ⟨a1, a2, a3, a4, a5, a6⟩ := h
  refine ⟨a1, a2, ?_, ?_, a5, fun k hk => ?_⟩
  · rw [e _ (by omega) (by omega)]; exact a3
  · rw [e _ (by omega) (by omega)]; exact a4
  · rw [e _ (by omega) (by omega), e _ (by omega) (by omega), e _ (by omega) (by omega)]; exact a6 k hk
theorem MV.of {μ μ' : xMem} {a : Nat} {v : Nat → Int32} (h : MV μ a v) (e : ∀ q, a ≤ q → q < a + 6 → xI μ' q = xI μ q) : MV μ' a v := by
  obtain ⟨a1, a2, a3, a4, a5, a6, a7, a8, a9, f, n, a10⟩ := h
  have e0 := e a (by omega) (by omega)
  have e1 := e (a + 1) (by omega) (by omega)
  refine ⟨by rw [e0]; exact a1, by rw [e0]; exact a2, by rw [e0]; exact a3, by rw [e0]; exact a4, by rw [e0]; exact a5, by rw [e0]; exact a6, by rw [e0]; exact a7, by rw [e0]; exact a8, by rw [e1]; exact a9, f, n, a10.of fun q h1 h2 => e q (by omega) h2⟩
theorem n61 : (61 : Int32) = nI 61 := rfl
section MB
variable {G : xCtx} {μ : xMem} {Q : xOut → xMem → Prop} {a f n k c : Nat} {v : Nat → Int32}
theorem c209 {i d : Nat} (hi : i < 2 ^ 31) (h0 : 0 < d) (hd : d < 2 ^ 31) : Cn G 209 [.int (nI i), .int (nI d)] μ Q = Q (.inl (some (.int (nI (i % d))))) μ := by
  have h1 : ¬ nI d = (0 : Int32) := by rw [show (0 : Int32) = nI 0 from rfl, nI_eq hd (by omega)]; omega
  have h2 : 0 ≤ nI i ^^^ nI d := xor_nn (nI_nn hi) (nI_nn hd)
  show Rn G 209 0 [some (.int (nI i)), some (.int (nI d)), none] [] μ Q = _
  simp only [q209_0, q209_1, q209_2, q209_3, q209_4, q209_5, q209_6, q209_7, q209_10, q209_11, q209_14, q209_15, q209_16, q209_17, q209_18, q209_19, h1, h2, pk_rem hi h0 hd, not_false_eq_true, xaf_s, xaf_v, va_rf_s, xix_n, nI_clamp, xk1_i, xk1_a, xk1_u, xk1_n, xk1_l, xk1_d, true_and, and_true, ↓reduceIte, Nat.reduceAdd, xtup]
theorem c8 (hb : HB μ a) (hf : f < 61) (h3 : xI μ (a + 2) 3 = nI f) (hk : k ≤ 61) : Cn G 8 [.ref (a + 2), .int (nI k)] μ Q = Q (.inl (some (.int (nI ((f + k) % 61))))) μ := by
  obtain ⟨h0, ⟨h1, e1⟩, h2, -⟩ := hb
  show Rn G 8 0 [some (.ref (a + 2)), some (.int (nI k))] [] μ Q = _
  simp (disch := first | assumption | (simp only [MM_Kd, rI_Kd, rJ_Kd, sI_Kd, sJ_Kd, sR_Kd]; assumption) | omega | decide) only [q8_0, q8_0N, q8_1, q8_4, q8_5, q8_6, q8_8, q8_11, h3, nI_add, n61, c209, xaf_s, xaf_v, va_rf_s, xix_n, nI_clamp, xk1_i, xk1_a, xk1_u, xk1_n, xk1_l, xk1_d, true_and, and_true, ↓reduceIte, Nat.reduceAdd, xtup]
theorem c9 (hb : HB μ a) (hf : f < 61) (h3 : xI μ (a + 2) 3 = nI f) (hk : k ≤ 61) : Cn G 9 [.ref (a + 2), .int (nI k)] μ Q = Q (.inl (some (.int (xI μ (a + 3) ((f + k) % 61))))) μ := by
  have hb0 := hb
  have hl : (f + k) % 61 < 61 := Nat.mod_lt _ (by omega)
  obtain ⟨h0, ⟨h1, e1⟩, h2, ⟨h3', e3⟩, ⟨h4, e4⟩, ⟨h5, e5⟩, p0, p1, p2, p3, p4⟩ := hb
  show Rn G 9 0 [some (.ref (a + 2)), some (.int (nI k))] [] μ Q = _
  simp (disch := first | assumption | (simp only [MM_Kd, rI_Kd, rJ_Kd, sI_Kd, sJ_Kd, sR_Kd]; assumption) | omega | decide) only [q9_0, q9_0N, q9_1, q9_4, q9_4N, q9_5, q9_6, q9_9, q9_9T, q9_10, c8 hb0 hf h3 hk, p2, e3, xaf_s, xaf_v, va_rf_s, xix_n, nI_clamp, xk1_i, xk1_a, xk1_u, xk1_n, xk1_l, xk1_d, true_and, and_true, ↓reduceIte, Nat.reduceAdd, xtup]
theorem c10' (hb : HB μ a) (hf : f < 61) (h3 : xI μ (a + 2) 3 = nI f) (hk : k ≤ 61) : Cn G 10 [.ref (a + 2), .int (nI k)] μ Q = Q (.inl (some (.int (xI μ (a + 4) ((f + k) % 61))))) μ := by
  have hb0 := hb
  have hl : (f + k) % 61 < 61 := Nat.mod_lt _ (by omega)
  obtain ⟨h0, ⟨h1, e1⟩, h2, ⟨h3', e3⟩, ⟨h4, e4⟩, ⟨h5, e5⟩, p0, p1, p2, p3, p4⟩ := hb
  show Rn G 10 0 [some (.ref (a + 2)), some (.int (nI k))] [] μ Q = _
  simp (disch := first | assumption | (simp only [MM_Kd, rI_Kd, rJ_Kd, sI_Kd, sJ_Kd, sR_Kd]; assumption) | omega | decide) only [q10_0, q10_0N, q10_1, q10_4, q10_4N, q10_5, q10_6, q10_9, q10_9T, q10_10, c8 hb0 hf h3 hk, p3, e4, xaf_s, xaf_v, va_rf_s, xix_n, nI_clamp, xk1_i, xk1_a, xk1_u, xk1_n, xk1_l, xk1_d, true_and, and_true, ↓reduceIte, Nat.reduceAdd, xtup]
theorem c11' (hb : HB μ a) (hf : f < 61) (h3 : xI μ (a + 2) 3 = nI f) (hk : k ≤ 61) : Cn G 11 [.ref (a + 2), .int (nI k)] μ Q = Q (.inl (some (.int (xI μ (a + 5) ((f + k) % 61))))) μ := by
  have hb0 := hb
  have hl : (f + k) % 61 < 61 := Nat.mod_lt _ (by omega)
  obtain ⟨h0, ⟨h1, e1⟩, h2, ⟨h3', e3⟩, ⟨h4, e4⟩, ⟨h5, e5⟩, p0, p1, p2, p3, p4⟩ := hb
  show Rn G 11 0 [some (.ref (a + 2)), some (.int (nI k))] [] μ Q = _
  simp (disch := first | assumption | (simp only [MM_Kd, rI_Kd, rJ_Kd, sI_Kd, sJ_Kd, sR_Kd]; assumption) | omega | decide) only [q11_0, q11_0N, q11_1, q11_4, q11_4N, q11_5, q11_6, q11_9, q11_9T, q11_10, c8 hb0 hf h3 hk, p4, e5, xaf_s, xaf_v, va_rf_s, xix_n, nI_clamp, xk1_i, xk1_a, xk1_u, xk1_n, xk1_l, xk1_d, true_and, and_true, ↓reduceIte, Nat.reduceAdd, xtup]
def wC (w gone int : Int32) : Int32 := wD w + wD w * int * (gone - wM w) / 1000
theorem c12 (hb : HB μ a) (hl : LT μ a v f n) (hk : k < n) (gone int : Int32) : Cn G 12 [.ref (a + 2), .int (nI k), .int gone, .int int] μ Q = Q (.inl (some (.int (wC (v (11 + k)) gone int)))) μ := by
  have hb0 := hb
  obtain ⟨l1, l2, l3, l4, l5, l6⟩ := hl
  obtain ⟨m1, m2, m3⟩ := l6 k hk
  have hlt : (f + k) % 61 < 61 := Nat.mod_lt _ (by omega)
  obtain ⟨h0, ⟨h1, e1⟩, h2, ⟨h3', e3⟩, ⟨h4, e4⟩, ⟨h5, e5⟩, p0, p1, p2, p3, p4⟩ := hb
  have hc8 := fun Q => c8 (G := G) (Q := Q) hb0 l1 l3 (show k ≤ 61 by omega)
  show Rn G 12 0 [some (.ref (a + 2)), some (.int (nI k)), some (.int gone), some (.int int), none, none] [] μ Q = _
  simp (disch := first | assumption | (simp only [MM_Kd, rI_Kd, rJ_Kd, sI_Kd, sJ_Kd, sR_Kd]; assumption) | omega | decide) only [q12_0, q12_0N, q12_1, q12_2, q12_5, q12_7, q12_7N, q12_8, q12_11, q12_13, q12_13T, q12_14, q12_16, q12_18, q12_20, q12_21, q12_22, q12_23, q12_23N, q12_24, q12_27, q12_29, q12_29T, q12_30, q12_31, q12_32, q12_35, q12_36, q12_37, hc8, p2, p3, e3, e4, m1, m2, h1000, not_false_eq_true, xaf_s, xaf_v, va_rf_s, xix_n, nI_clamp, xk1_i, xk1_a, xk1_u, xk1_n, xk1_l, xk1_d, true_and, and_true, ↓reduceIte, Nat.reduceAdd, xtup]
  rfl
theorem c104 (x lo hi : Int32) : Cn G 104 [.int x, .int lo, .int hi] μ Q = Q (.inl (some (.int (if bad x lo hi then 0 else 1)))) μ := by
  show Rn G 104 0 [some (.int x), some (.int lo), some (.int hi)] [] μ Q = _
  by_cases h1 : x < lo
  · simp (disch := first | assumption | (simp only [MM_Kd, rI_Kd, rJ_Kd, sI_Kd, sJ_Kd, sR_Kd]; assumption) | omega | decide) only [q104_0, q104_1, q104_2, q104_5, q104_6, q104_7, q104_10, q104_11, q104_14, q104_15, h1, bad, true_or, xaf_s, xaf_v, va_rf_s, xix_n, nI_clamp, xk1_i, xk1_a, xk1_u, xk1_n, xk1_l, xk1_d, true_and, and_true, ↓reduceIte, Nat.reduceAdd, xtup]
  · by_cases h2 : hi < x
    · simp (disch := first | assumption | (simp only [MM_Kd, rI_Kd, rJ_Kd, sI_Kd, sJ_Kd, sR_Kd]; assumption) | omega | decide) only [q104_0, q104_1, q104_2, q104_5, q104_6, q104_7, q104_10, q104_11, q104_14, q104_15, h1, h2, bad, or_true, xaf_s, xaf_v, va_rf_s, xix_n, nI_clamp, xk1_i, xk1_a, xk1_u, xk1_n, xk1_l, xk1_d, true_and, and_true, ↓reduceIte, Nat.reduceAdd, xtup]
    · simp (disch := first | assumption | (simp only [MM_Kd, rI_Kd, rJ_Kd, sI_Kd, sJ_Kd, sR_Kd]; assumption) | omega | decide) only [q104_0, q104_1, q104_2, q104_5, q104_6, q104_7, q104_10, q104_11, q104_14, q104_15, h1, h2, bad, or_self, xaf_s, xaf_v, va_rf_s, xix_n, nI_clamp, xk1_i, xk1_a, xk1_u, xk1_n, xk1_l, xk1_d, true_and, and_true, ↓reduceIte, Nat.reduceAdd, xtup]
theorem c105 (x : Int32) : Cn G 105 [.int x] μ Q = Q (.inl (some (.int (if bad x 0 2 then 0 else 1)))) μ := by
  have b3 : (3 ≤ x) = (2 < x) := by
    apply propext; rw [Int32.le_iff_toInt_le, Int32.lt_iff_toInt_lt]
    have e3 : (3 : Int32).toInt = 3 := rfl
    have e2 : (2 : Int32).toInt = 2 := rfl
    omega
  show Rn G 105 0 [some (.int x)] [] μ Q = _
  by_cases h1 : x < 0
  · simp (disch := first | assumption | (simp only [MM_Kd, rI_Kd, rJ_Kd, sI_Kd, sJ_Kd, sR_Kd]; assumption) | omega | decide) only [q105_0, q105_1, q105_4, q105_5, q105_6, q105_9, q105_10, q105_13, q105_14, h1, bad, true_or, xaf_s, xaf_v, va_rf_s, xix_n, nI_clamp, xk1_i, xk1_a, xk1_u, xk1_n, xk1_l, xk1_d, true_and, and_true, ↓reduceIte, Nat.reduceAdd, xtup]
  · by_cases h2 : 2 < x
    · simp (disch := first | assumption | (simp only [MM_Kd, rI_Kd, rJ_Kd, sI_Kd, sJ_Kd, sR_Kd]; assumption) | omega | decide) only [q105_0, q105_1, q105_4, q105_5, q105_6, q105_9, q105_10, q105_13, q105_14, b3, h1, h2, bad, or_true, xaf_s, xaf_v, va_rf_s, xix_n, nI_clamp, xk1_i, xk1_a, xk1_u, xk1_n, xk1_l, xk1_d, true_and, and_true, ↓reduceIte, Nat.reduceAdd, xtup]
    · simp (disch := first | assumption | (simp only [MM_Kd, rI_Kd, rJ_Kd, sI_Kd, sJ_Kd, sR_Kd]; assumption) | omega | decide) only [q105_0, q105_1, q105_4, q105_5, q105_6, q105_9, q105_10, q105_13, q105_14, b3, h1, h2, bad, or_self, xaf_s, xaf_v, va_rf_s, xix_n, nI_clamp, xk1_i, xk1_a, xk1_u, xk1_n, xk1_l, xk1_d, true_and, and_true, ↓reduceIte, Nat.reduceAdd, xtup]
theorem c106 (x : Int32) : Cn G 106 [.int x] μ Q = Q (.inl (some (.int (if bad x 0 3 then 0 else 1)))) μ := by
  have b3 : (4 ≤ x) = (3 < x) := by
    apply propext; rw [Int32.le_iff_toInt_le, Int32.lt_iff_toInt_lt]
    have e3 : (4 : Int32).toInt = 4 := rfl
    have e2 : (3 : Int32).toInt = 3 := rfl
    omega
  show Rn G 106 0 [some (.int x)] [] μ Q = _
  by_cases h1 : x < 0
  · simp (disch := first | assumption | (simp only [MM_Kd, rI_Kd, rJ_Kd, sI_Kd, sJ_Kd, sR_Kd]; assumption) | omega | decide) only [q106_0, q106_1, q106_4, q106_5, q106_6, q106_9, q106_10, q106_13, q106_14, h1, bad, true_or, xaf_s, xaf_v, va_rf_s, xix_n, nI_clamp, xk1_i, xk1_a, xk1_u, xk1_n, xk1_l, xk1_d, true_and, and_true, ↓reduceIte, Nat.reduceAdd, xtup]
  · by_cases h2 : 3 < x
    · simp (disch := first | assumption | (simp only [MM_Kd, rI_Kd, rJ_Kd, sI_Kd, sJ_Kd, sR_Kd]; assumption) | omega | decide) only [q106_0, q106_1, q106_4, q106_5, q106_6, q106_9, q106_10, q106_13, q106_14, b3, h1, h2, bad, or_true, xaf_s, xaf_v, va_rf_s, xix_n, nI_clamp, xk1_i, xk1_a, xk1_u, xk1_n, xk1_l, xk1_d, true_and, and_true, ↓reduceIte, Nat.reduceAdd, xtup]
    · simp (disch := first | assumption | (simp only [MM_Kd, rI_Kd, rJ_Kd, sI_Kd, sJ_Kd, sR_Kd]; assumption) | omega | decide) only [q106_0, q106_1, q106_4, q106_5, q106_6, q106_9, q106_10, q106_13, q106_14, b3, h1, h2, bad, or_self, xaf_s, xaf_v, va_rf_s, xix_n, nI_clamp, xk1_i, xk1_a, xk1_u, xk1_n, xk1_l, xk1_d, true_and, and_true, ↓reduceIte, Nat.reduceAdd, xtup]
theorem c107 {x : Int32} (hx : x = 0 ∨ x = 1) : Cn G 107 [.int x] μ Q = Q (.inl (some (.int x))) μ := by
  show Rn G 107 0 [some (.int x)] [] μ Q = _
  rcases hx with rfl | rfl
  · simp (disch := first | assumption | (simp only [MM_Kd, rI_Kd, rJ_Kd, sI_Kd, sJ_Kd, sR_Kd]; assumption) | omega | decide) only [q107_0, q107_1, q107_4, q107_5, q107_8, q107_9, c00, xaf_s, xaf_v, va_rf_s, xix_n, nI_clamp, xk1_i, xk1_a, xk1_u, xk1_n, xk1_l, xk1_d, true_and, and_true, ↓reduceIte, Nat.reduceAdd, xtup]
  · simp (disch := first | assumption | (simp only [MM_Kd, rI_Kd, rJ_Kd, sI_Kd, sJ_Kd, sR_Kd]; assumption) | omega | decide) only [q107_0, q107_1, q107_4, q107_5, q107_8, q107_9, c10, xaf_s, xaf_v, va_rf_s, xix_n, nI_clamp, xk1_i, xk1_a, xk1_u, xk1_n, xk1_l, xk1_d, true_and, and_true, ↓reduceIte, Nat.reduceAdd, xtup]
theorem sec_ok (hc : c < 3) : ¬ bad (nI c) 0 2 := by
  intro z
  rcases z with z | z
  · rw [show (0 : Int32) = nI 0 from rfl, nI_ltI (by omega) (by omega)] at z; omega
  · rw [show (2 : Int32) = nI 2 from rfl, nI_ltI (by omega) (by omega)] at z; omega
theorem c23 (hb : HB μ a) (h2 : xI μ a 2 = 1) (h7 : xI μ a 7 = 0 ∨ xI μ a 7 = 1) : Cn G 23 [.ref a] μ Q = Q (.inl (some (.int (if xI μ a 7 = 0 then 1 else 0)))) μ := by
  obtain ⟨h0, -⟩ := hb
  show Rn G 23 0 [some (.ref a)] [] μ Q = _
  rcases h7 with h7 | h7
  · simp (disch := first | assumption | (simp only [MM_Kd, rI_Kd, rJ_Kd, sI_Kd, sJ_Kd, sR_Kd]; assumption) | omega | decide) only [q23_0, q23_0N, q23_1, q23_4, q23_7, q23_7N, q23_8, q23_11, q23_14, q23_15, q23_18, q23_19, h2, h7, c10, c00, not_true_eq_false, not_false_eq_true, xaf_s, xaf_v, va_rf_s, xix_n, nI_clamp, xk1_i, xk1_a, xk1_u, xk1_n, xk1_l, xk1_d, true_and, and_true, ↓reduceIte, Nat.reduceAdd, xtup]
  · simp (disch := first | assumption | (simp only [MM_Kd, rI_Kd, rJ_Kd, sI_Kd, sJ_Kd, sR_Kd]; assumption) | omega | decide) only [q23_0, q23_0N, q23_1, q23_4, q23_7, q23_7N, q23_8, q23_11, q23_14, q23_15, q23_18, q23_19, h2, h7, c10, c00, not_true_eq_false, not_false_eq_true, xaf_s, xaf_v, va_rf_s, xix_n, nI_clamp, xk1_i, xk1_a, xk1_u, xk1_n, xk1_l, xk1_d, true_and, and_true, ↓reduceIte, Nat.reduceAdd, xtup]
theorem c23_0 (hb : HB μ a) (h2 : xI μ a 2 = 0) : Cn G 23 [.ref a] μ Q = Q (.inl (some (.int 0))) μ := by
  obtain ⟨h0, -⟩ := hb
  show Rn G 23 0 [some (.ref a)] [] μ Q = _
  simp (disch := first | assumption | (simp only [MM_Kd, rI_Kd, rJ_Kd, sI_Kd, sJ_Kd, sR_Kd]; assumption) | omega | decide) only [q23_0, q23_0N, q23_1, q23_4, q23_7, q23_7N, q23_8, q23_11, q23_14, q23_15, q23_18, q23_19, h2, c00, xaf_s, xaf_v, va_rf_s, xix_n, nI_clamp, xk1_i, xk1_a, xk1_u, xk1_n, xk1_l, xk1_d, true_and, and_true, ↓reduceIte, Nat.reduceAdd, xtup]
theorem c24 (hb : HB μ a) (hc : c < 3) : Cn G 24 [.ref a, .int (nI c)] μ Q = Q (.inl (some (.int (xI μ (a + 1) c)))) μ := by
  obtain ⟨h0, ⟨h1, e1⟩, -, -, -, -, p0, -⟩ := hb
  show Rn G 24 0 [some (.ref a), some (.int (nI c))] [] μ Q = _
  simp (disch := first | assumption | (simp only [MM_Kd, rI_Kd, rJ_Kd, sI_Kd, sJ_Kd, sR_Kd]; assumption) | omega | decide) only [q24_0, q24_1, q24_4, q24_7, q24_7N, q24_8, q24_11, q24_12, q24_12T, q24_13, q24_16, q24_17, c105, sec_ok hc, p0, e1, c10, xaf_s, xaf_v, va_rf_s, xix_n, nI_clamp, xk1_i, xk1_a, xk1_u, xk1_n, xk1_l, xk1_d, true_and, and_true, ↓reduceIte, Nat.reduceAdd, xtup]
theorem c25 (hb : HB μ a) (hc : c < 3) (x : Int32) : Cn G 25 [.ref a, .int (nI c), .int x] μ Q = Q (.inl none) (xsI μ (a + 1) c (xI μ (a + 1) c + x)) := by
  obtain ⟨h0, ⟨h1, e1⟩, -, -, -, -, p0, -⟩ := hb
  show Rn G 25 0 [some (.ref a), some (.int (nI c)), some (.int x)] [] μ Q = _
  simp (disch := first | assumption | (simp only [MM_Kd, rI_Kd, rJ_Kd, sI_Kd, sJ_Kd, sR_Kd]; assumption) | omega | decide) only [q25_0, q25_1, q25_4, q25_7, q25_7N, q25_8, q25_11, q25_12, q25_13, q25_13T, q25_14, q25_15, q25_16, q25_17, c105, sec_ok hc, p0, e1, c10, xaf_s, xaf_v, va_rf_s, xix_n, nI_clamp, xk1_i, xk1_a, xk1_u, xk1_n, xk1_l, xk1_d, true_and, and_true, ↓reduceIte, Nat.reduceAdd, xtup]
/-- a late month is put in -/
theorem c15 (hb : HB μ a) (hl : LT μ a v f n) (hn : n < 61) (mo du se : Int32) : Cn G 15 [.ref (a + 2), .int mo, .int du, .int se] μ Q = Q (.inl none) (xsI (xsI (xsI (xsI μ (a + 3) ((f + n) % 61) mo) (a + 4) ((f + n) % 61) du) (a + 5) ((f + n) % 61) se) (a + 2) 4 (nI (n + 1))) := by
  have hb0 := hb
  obtain ⟨l1, l2, l3, l4, l5, l6⟩ := hl
  have hlt : (f + n) % 61 < 61 := Nat.mod_lt _ (by omega)
  have hn' : ¬ 61 ≤ n := by omega
  obtain ⟨h0, ⟨h1, e1⟩, h2, ⟨h3', e3⟩, ⟨h4, e4⟩, ⟨h5, e5⟩, p0, p1, p2, p3, p4⟩ := hb
  have hc8 := fun Q => c8 (G := G) (Q := Q) hb0 l1 l3 (show n ≤ 61 by omega)
  show Rn G 15 0 [some (.ref (a + 2)), some (.int mo), some (.int du), some (.int se), none] [] μ Q = _
  simp (disch := first | assumption | (simp only [MM_Kd, rI_Kd, rJ_Kd, sI_Kd, sJ_Kd, sR_Kd]; assumption) | omega | decide) only [q15_0, q15_0N, q15_1, q15_4, q15_6, q15_9, q15_9N, q15_10, q15_10N, q15_11, q15_14, q15_17, q15_19, q15_19N, q15_20, q15_23, q15_25, q15_26, q15_27, q15_27N, q15_28, q15_31, q15_33, q15_34, q15_35, q15_35N, q15_36, q15_39, q15_41, q15_42, q15_43, q15_43N, q15_44, q15_45, q15_48, q15_49, q15_50, q15_53, hc8, l4, n61, nI_leI, hn', p2, p3, p4, e3, e4, e5, sI_n, nI_1, rI_Kd, rI_Ln, rI_R, rI_J, rJ_Kd, rJ_Ln, rJ_R, rJ_I, sI_Kd, sI_Ln, sI_R, sI_J, sJ_Kd, sJ_Ln, sJ_R, sJ_I, sR_Kd, sR_Ln, sR_I, sR_J, xaf_s, xaf_v, va_rf_s, xix_n, nI_clamp, xk1_i, xk1_a, xk1_u, xk1_n, xk1_l, xk1_d, true_and, and_true, ↓reduceIte, Nat.reduceAdd, xtup]
theorem LT_add (hl : LT μ a v f n) (hn : n < 61) {w : Int32} : LT (xsI (xsI (xsI (xsI μ (a + 3) ((f + n) % 61) (wM w)) (a + 4) ((f + n) % 61) (wD w)) (a + 5) ((f + n) % 61) (wS w)) (a + 2) 4 (nI (n + 1))) a (up (up v (11 + n) w) 10 (nI (n + 1))) f (n + 1) := by
  obtain ⟨l1, l2, l3, l4, l5, l6⟩ := hl
  refine ⟨l1, by omega, ?_, sI_e, up_e, fun k hk => ?_⟩
  · rw [sI_k (by omega), sI_n (by omega), sI_n (by omega), sI_n (by omega)]; exact l3
  · rw [up_n (by omega)]
    simp only [xI_sI, xJ_sJ, rJ_I, sJ_I, sI_J, rI_J, Nat.add_left_cancel_iff, Nat.reduceEqDiff, Nat.add_eq_left, Nat.left_eq_add, false_and, true_and, and_true, and_false, ↓reduceIte]
    by_cases h : k = n
    · subst h
      simp only [up_e, ↓reduceIte, and_self]
    · have hne : (f + k) % 61 ≠ (f + n) % 61 := by omega
      obtain ⟨m1, m2, m3⟩ := l6 k (by omega)
      rw [if_neg hne, if_neg hne, if_neg hne, up_n (by omega)]
      exact ⟨m1, m2, m3⟩
theorem c16 (hb : HB μ a) (hl : LT μ a v f (n + 1)) : Cn G 16 [.ref (a + 2)] μ Q = Q (.inl none) (xsI (xsI μ (a + 2) 3 (nI ((f + 1) % 61))) (a + 2) 4 (nI n)) := by
  have hb0 := hb
  obtain ⟨l1, l2, l3, l4, l5, l6⟩ := hl
  have hn' : (nI (n + 1) ≤ (0 : Int32)) = False := by apply eq_false; rw [show (0 : Int32) = nI 0 from rfl, nI_leI (by omega) (by omega)]; omega
  obtain ⟨h0, ⟨h1, e1⟩, h2, ⟨h3', e3⟩, ⟨h4, e4⟩, ⟨h5, e5⟩, p0, p1, p2, p3, p4⟩ := hb
  have hc8 := fun Q => c8 (G := G) (Q := Q) (k := 1) hb0 l1 l3 (by omega)
  rw [show (nI 1 : Int32) = 1 from rfl] at hc8
  show Rn G 16 0 [some (.ref (a + 2))] [] μ Q = _
  have i4 : ∀ x, xI (xsI μ (a + 2) 3 x) (a + 2) 4 = nI (n + 1) := fun x => by rw [sI_k (by omega)]; exact l4
  simp (disch := first | assumption | (simp only [MM_Kd, rI_Kd, rJ_Kd, sI_Kd, sJ_Kd, sR_Kd]; assumption) | omega | decide) only [q16_0, q16_0N, q16_1, q16_4, q16_7, q16_7N, q16_8, q16_8N, q16_9, q16_10, q16_13, q16_16, q16_16N, q16_17, q16_18, q16_21, q16_22, q16_23, q16_26, hc8, l4, i4, hn', nI_s1, rI_Kd, rI_Ln, rI_R, rI_J, rJ_Kd, rJ_Ln, rJ_R, rJ_I, sI_Kd, sI_Ln, sI_R, sI_J, sJ_Kd, sJ_Ln, sJ_R, sJ_I, sR_Kd, sR_Ln, sR_I, sR_J, xaf_s, xaf_v, va_rf_s, xix_n, nI_clamp, xk1_i, xk1_a, xk1_u, xk1_n, xk1_l, xk1_d, true_and, and_true, ↓reduceIte, Nat.reduceAdd, xtup]
theorem LT_drop (hl : LT μ a v f (n + 1)) : LT (xsI (xsI μ (a + 2) 3 (nI ((f + 1) % 61))) (a + 2) 4 (nI n)) a (vDrop v n) ((f + 1) % 61) n := by
  obtain ⟨l1, l2, l3, l4, l5, l6⟩ := hl
  refine ⟨Nat.mod_lt _ (by omega), by omega, by rw [sI_k (by omega), sI_e], sI_e, ?_, fun k hk => ?_⟩
  · unfold vDrop; rw [if_neg (by omega), if_pos rfl]
  · rw [sI_n (by omega), sI_n (by omega), sI_n (by omega), sI_n (by omega), sI_n (by omega), sI_n (by omega)]
    have e : ((f + 1) % 61 + k) % 61 = (f + (k + 1)) % 61 := by omega
    have e2 : vDrop v n (11 + k) = v (11 + (k + 1)) := by unfold vDrop; rw [if_pos (by omega)]; rfl
    rw [e, e2]
    exact l6 (k + 1) (by omega)
theorem c18 (hb : HB μ a) : Cn G 18 [.ref (a + 2)] μ Q = Q (.inl none) (xsI (xsI μ (a + 2) 3 0) (a + 2) 4 0) := by
  obtain ⟨h0, ⟨h1, e1⟩, h2, -⟩ := hb
  show Rn G 18 0 [some (.ref (a + 2))] [] μ Q = _
  simp (disch := first | assumption | (simp only [MM_Kd, rI_Kd, rJ_Kd, sI_Kd, sJ_Kd, sR_Kd]; assumption) | omega | decide) only [q18_0, q18_0N, q18_1, q18_2, q18_5, q18_5N, q18_6, q18_7, q18_10, rI_Kd, rI_Ln, rI_R, rI_J, rJ_Kd, rJ_Ln, rJ_R, rJ_I, sI_Kd, sI_Ln, sI_R, sI_J, sJ_Kd, sJ_Ln, sJ_R, sJ_I, sR_Kd, sR_Ln, sR_I, sR_J, xaf_s, xaf_v, va_rf_s, xix_n, nI_clamp, xk1_i, xk1_a, xk1_u, xk1_n, xk1_l, xk1_d, true_and, and_true, ↓reduceIte, Nat.reduceAdd, xtup]
end MB
