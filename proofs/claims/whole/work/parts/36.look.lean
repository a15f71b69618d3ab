/-! THE REFERENCE: LOOKS -/
theorem nI_eqk (w k : Nat) (h : w < 2 ^ 31) (hk : k < 2 ^ 31) : (nI w = nI k) = (w = k) := propext (nI_eq h hk)
def zLc (s : Nat → Int32) (p c : Nat) : Nat → Nat → Int32 → Int32
  | 0, _, a => a
  | k + 1, i, a => zLc s p c k (i + 1) (a + if mDueS s p i = nI c then 1 else 0)
def wStep (s : Nat → Int32) (c w : Nat) (p : Nat) (a : Int32) : Int32 :=
  if w = 3 then a + (if ¬ s (19 + 75 * p + 7) = 1 ∧ s (19 + 75 * p + 1) = nI c then 1 else 0)
  else if w = 4 then a + s (19 + 75 * p + (4 + c)) else if w = 5 then zLc s p c (zLts s p) 0 a else a
def vSec (s : Nat → Int32) (c w : Nat) : Int32 := if w < 3 then s (10 + 3 * c + w) else itr (wStep s c w) (s 2).toNatClampNeg 0
def zCosts (s : Nat → Int32) (p : Nat) : Nat → Nat → Int32 → Int32
  | 0, _, a => a
  | k + 1, i, a => zCosts s p k (i + 1) (a + mCost s p i)
def vMem (s : Nat → Int32) (p w : Nat) : Int32 :=
  if w = 8 then (if s (19 + 75 * p + 7) = 1 then s (19 + 75 * p + 8) else mPen s p 0 0 0)
  else if w = 11 then zCosts s p (zLts s p) 0 0 else s (19 + 75 * p + w)
def vLate (s : Nat → Int32) (p k w : Nat) : Int32 := if w = 0 then mDueM s p k else if w = 1 then mDue s p k else if w = 2 then mDueS s p k else mCost s p k
def vCnt (s : Nat → Int32) (t w : Nat) : Int32 :=
  if w = 0 then s 0 else if w = 1 then s 2 else if w = 2 then itr (fun p a => a + s (19 + 75 * p + 7)) (s 2).toNatClampNeg 0 else if w = 3 then s 1
  else if w = 4 then itr (fun p a => a + s (19 + 75 * p + 10)) (s 2).toNatClampNeg 0 else if w = 5 then s 4 else if w = 6 then s 5 else nI t
def vOn (s : Nat → Int32) (p : Nat) (k : Int32) : Int32 :=
  if k < (if s 6 - s (19 + 75 * p + 3) < 0 then 0 else s 6 - s (19 + 75 * p + 3)) then k else (if s 6 - s (19 + 75 * p + 3) < 0 then 0 else s 6 - s (19 + 75 * p + 3))
def vPB (s : Nat → Int32) (p : Nat) (c k : Int32) : Int32 :=
  if s (19 + 75 * p + 7) = 1 then s (19 + 75 * p + 8)
  else if 120 < s 6 - s (19 + 75 * p + 3) - vOn s p k then 0
  else mPen s p c (if s (19 + 75 * p + 9) = 1 then 0 else vOn s p k) (s 6 - s (19 + 75 * p + 3) - vOn s p k)
def bStep (s : Nat → Int32) (p k : Nat) (y : Int32 × Int32) : Int32 × Int32 :=
  if nI k = s (19 + 75 * p + 1) ∨ ¬ s (12 + 3 * k) = 1 then
    (if y.1 = -1 ∨ y.2 < vPB s p (nI k) 12 ∨ (vPB s p (nI k) 12 = y.2 ∧ s (10 + 3 * k) < s (10 + 3 * y.1.toNatClampNeg)) then (nI k, vPB s p (nI k) 12) else y)
  else y
def vBest (s : Nat → Int32) (p : Nat) : Int32 := if s (19 + 75 * p + 7) = 1 then -1 else (itr (bStep s p) 3 (-1, 0)).1
section LK
variable {G : xCtx} {μ : xMem} {Q : xOut → xMem → Prop} {m t g n F p c : Nat} {x : ST}
theorem s150 (hm : MS μ m) {L : Nat} (hL : L ≤ 60) (h9 : xI μ m 9 = nI L) (code : Int32) : Cn G 150 [.ref m, .int code] (MM μ m x.1 x.2) Q = if bad code 33 126 then Q (.inl (some (.int 0))) (MM (xsI μ m 0 1) m x.1 x.2) else if L = 60 then Q (.inl (some (.int 0))) (MM (xsI μ m 0 2) m x.1 x.2) else Q (.inl (some (.int (nI (L + 1))))) (MM (xsI (xsI (xsI μ m 0 0) (m + 7) L code) m 9 (nI (L + 1))) m x.1 x.2) := by
  have hm0 := hm
  obtain ⟨k0, ⟨k1, n1⟩, -, -, ⟨k4, n4⟩, -, -, ⟨k7, n7⟩, r1, -, -, r4, -, -, r8⟩ := hm
  have h60 : (nI L = (60 : Int32)) = (L = 60) := nI_eqk L 60 (by omega) (by omega)
  have i9 : ∀ e, xI (xsI μ m 0 e) m 9 = nI L := fun e => by rw [sI_k (by omega)]; exact h9
  show Rn G 150 0 [some (.ref m), some (.int code)] [] (MM μ m x.1 x.2) Q = _
  by_cases h1 : bad code 33 126
  · simp (disch := first | assumption | (simp only [MM_Kd, rI_Kd, rJ_Kd, sI_Kd, sJ_Kd, sR_Kd, SV_Kd]; assumption) | omega | decide) only [q150_0, q150_0N, q150_1, q150_2, q150_4, q150_6, q150_9, q150_12, q150_13, q150_16, q150_16N, q150_17, q150_20, q150_22, q150_25, q150_26, q150_29, q150_30, q150_33, q150_36, q150_37, q150_38, q150_38N, q150_39, q150_42, q150_42N, q150_43, q150_46, q150_47, q150_48, q150_48N, q150_49, q150_50, q150_53, q150_54, q150_55, q150_58, q150_58N, q150_59, q150_62, s110, in_0 h1, s114' hm0, c10, h1, not_true_eq_false, not_false_eq_true, MM_Io, MM_Kd, MM_Ln, MM_R, MM_I, MM_J, MM_sI, MM_sJ, r1, n1, r4, n4, xaf_s, xaf_v, va_rf_s, xix_n, nI_clamp, xk1_i, xk1_a, xk1_u, xk1_n, xk1_l, xk1_d, true_and, and_true, ↓reduceIte, Nat.reduceAdd, xtup]
  · by_cases h2 : L = 60
    · simp (disch := first | assumption | (simp only [MM_Kd, rI_Kd, rJ_Kd, sI_Kd, sJ_Kd, sR_Kd, SV_Kd]; assumption) | omega | decide) only [q150_0, q150_0N, q150_1, q150_2, q150_4, q150_6, q150_9, q150_12, q150_13, q150_16, q150_16N, q150_17, q150_20, q150_22, q150_25, q150_26, q150_29, q150_30, q150_33, q150_36, q150_37, q150_38, q150_38N, q150_39, q150_42, q150_42N, q150_43, q150_46, q150_47, q150_48, q150_48N, q150_49, q150_50, q150_53, q150_54, q150_55, q150_58, q150_58N, q150_59, q150_62, s110, in_1 h1, s114' hm0, c10, c20, h1, h9, h60, eq_true h2, not_true_eq_false, not_false_eq_true, MM_Io, MM_Kd, MM_Ln, MM_R, MM_I, MM_J, MM_sI, MM_sJ, r1, n1, r4, n4, xaf_s, xaf_v, va_rf_s, xix_n, nI_clamp, xk1_i, xk1_a, xk1_u, xk1_n, xk1_l, xk1_d, true_and, and_true, ↓reduceIte, Nat.reduceAdd, xtup]
    · have i9' : ∀ k v, xI (xsI (xsI μ m 0 0) (m + 7) k v) m 9 = nI L := fun k v => by rw [sI_n (by omega)]; exact i9 0
      have j9 : ∀ μ v, xI (xsI μ m 9 v) m 9 = v := fun μ v => sI_e
      simp (disch := first | assumption | (simp only [MM_Kd, rI_Kd, rJ_Kd, sI_Kd, sJ_Kd, sR_Kd, SV_Kd]; assumption) | omega | decide) only [q150_0, q150_0N, q150_1, q150_2, q150_4, q150_6, q150_9, q150_12, q150_13, q150_16, q150_16N, q150_17, q150_20, q150_22, q150_25, q150_26, q150_29, q150_30, q150_33, q150_36, q150_37, q150_38, q150_38N, q150_39, q150_42, q150_42N, q150_43, q150_46, q150_47, q150_48, q150_48N, q150_49, q150_50, q150_53, q150_54, q150_55, q150_58, q150_58N, q150_59, q150_62, s110, in_1 h1, s114' hm0, c00, c10, c20, h1, h9, i9, i9', j9, h60, h2, nI_1, r8, n7, MM_sIo, not_true_eq_false, not_false_eq_true, rI_Kd, rI_Ln, rI_R, rI_J, rJ_Kd, rJ_Ln, rJ_R, rJ_I, sI_Kd, sI_Ln, sI_R, sI_J, sJ_Kd, sJ_Ln, sJ_R, sJ_I, sR_Kd, sR_Ln, sR_I, sR_J, MM_Io, MM_Kd, MM_Ln, MM_R, MM_I, MM_J, MM_sI, MM_sJ, r1, n1, r4, n4, xaf_s, xaf_v, va_rf_s, xix_n, nI_clamp, xk1_i, xk1_a, xk1_u, xk1_n, xk1_l, xk1_d, true_and, and_true, ↓reduceIte, Nat.reduceAdd, xtup]
theorem s151 (hm : MS μ m) : Cn G 151 [.ref m] (MM μ m x.1 x.2) Q = Q (.inl (some (.int (xI μ m 9)))) (MM (xsI (xsI μ m 0 0) m 9 0) m x.1 x.2) := by
  have hm0 := hm
  obtain ⟨k0, ⟨k1, n1⟩, -, -, ⟨k4, n4⟩, -, -, -, r1, -, -, r4, -⟩ := hm
  have i9 : ∀ e, xI (xsI μ m 0 e) m 9 = xI μ m 9 := fun e => sI_k (by omega)
  show Rn G 151 0 [some (.ref m), none] [] (MM μ m x.1 x.2) Q = _
  simp (disch := first | assumption | (simp only [MM_Kd, rI_Kd, rJ_Kd, sI_Kd, sJ_Kd, sR_Kd, SV_Kd]; assumption) | omega | decide) only [q151_0, q151_0N, q151_1, q151_2, q151_5, q151_5N, q151_6, q151_9, q151_10, q151_10N, q151_11, q151_12, q151_15, q151_16, MM_sIo, i9, rI_Kd, rI_Ln, rI_R, rI_J, rJ_Kd, rJ_Ln, rJ_R, rJ_I, sI_Kd, sI_Ln, sI_R, sI_J, sJ_Kd, sJ_Ln, sJ_R, sJ_I, sR_Kd, sR_Ln, sR_I, sR_J, MM_Io, MM_Kd, MM_Ln, MM_R, MM_I, MM_J, MM_sI, MM_sJ, r1, n1, r4, n4, xaf_s, xaf_v, va_rf_s, xix_n, nI_clamp, xk1_i, xk1_a, xk1_u, xk1_n, xk1_l, xk1_d, true_and, and_true, ↓reduceIte, Nat.reduceAdd, xtup]
theorem s160_a (hm : MS μ m) (ht : t < 6) (h7 : xI μ m 7 = nI t) {s : Nat → Int32} {σ : Nat → Int64} : ∀ k i, i + k = 619 → Rn G 160 33 [some (.ref m), some (.int (nI i))] [] (MM μ m (cpy (fun j => xI μ (m + 3) (619 * t + j)) s 0 i) σ) Q = Rn G 160 67 [some (.ref m), some (.int (nI 619))] [] (MM μ m (cpy (fun j => xI μ (m + 3) (619 * t + j)) s 0 619) σ) Q := by
  obtain ⟨k0, ⟨k1, n1⟩, -, ⟨k3, n3⟩, ⟨k4, n4⟩, -, -, -, r1, -, r3, r4, -⟩ := hm
  intro k
  induction k with
  | zero =>
    intro i hi
    have h2 : 619 ≤ i := by omega
    rw [q160_33]
    simp (disch := first | assumption | (simp only [MM_Kd, rI_Kd, rJ_Kd, sI_Kd, sJ_Kd, sR_Kd, SV_Kd]; assumption) | omega | decide) only [q160_0, q160_0N, q160_1, q160_1N, q160_2, q160_5, q160_8, q160_9, q160_12, q160_13, q160_16, q160_19, q160_20, q160_21, q160_21N, q160_22, q160_23, q160_26, q160_27, q160_28, q160_31, q160_32, q160_34, q160_37, q160_40, q160_40N, q160_41, q160_44, q160_45, q160_45N, q160_46, q160_49, q160_52, q160_52N, q160_53, q160_56, q160_57, q160_58, q160_59, q160_59T, q160_60, q160_61, q160_64, q160_68, q160_69, q160_70, q160_72, q160_75, q160_75N, q160_76, q160_79, q160_80, q160_80N, q160_81, q160_84, q160_86, q160_86N, q160_87, q160_90, q160_91, q160_92, q160_93, q160_94, q160_95, q160_98, q160_101, q160_101N, q160_102, q160_105, n619, nI_leI, h2, xaf_s, xaf_v, va_rf_s, xix_n, nI_clamp, xk1_i, xk1_a, xk1_u, xk1_n, xk1_l, xk1_d, true_and, and_true, ↓reduceIte, Nat.reduceAdd, xtup]
    rw [show i = 619 by omega]
  | succ k ih =>
    intro i hi
    have h2 : ¬ 619 ≤ i := by omega
    have e : up (cpy (fun j => xI μ (m + 3) (619 * t + j)) s 0 i) i (xI μ (m + 3) (619 * t + i)) = cpy (fun j => xI μ (m + 3) (619 * t + j)) s 0 (i + 1) := cpy_1'
    rw [q160_33]
    simp (disch := first | assumption | (simp only [MM_Kd, rI_Kd, rJ_Kd, sI_Kd, sJ_Kd, sR_Kd, SV_Kd]; assumption) | omega | decide) only [q160_0, q160_0N, q160_1, q160_1N, q160_2, q160_5, q160_8, q160_9, q160_12, q160_13, q160_16, q160_19, q160_20, q160_21, q160_21N, q160_22, q160_23, q160_26, q160_27, q160_28, q160_31, q160_32, q160_34, q160_37, q160_40, q160_40N, q160_41, q160_44, q160_45, q160_45N, q160_46, q160_49, q160_52, q160_52N, q160_53, q160_56, q160_57, q160_58, q160_59, q160_59T, q160_60, q160_61, q160_64, q160_68, q160_69, q160_70, q160_72, q160_75, q160_75N, q160_76, q160_79, q160_80, q160_80N, q160_81, q160_84, q160_86, q160_86N, q160_87, q160_90, q160_91, q160_92, q160_93, q160_94, q160_95, q160_98, q160_101, q160_101N, q160_102, q160_105, n619, nI_leI, nI_add, pk_mul, h2, h7, r3, n3, nI_1, MM_Io, e, MM_Kd, MM_Ln, MM_R, MM_I, MM_J, MM_sI, MM_sJ, r1, n1, r4, n4, xaf_s, xaf_v, va_rf_s, xix_n, nI_clamp, xk1_i, xk1_a, xk1_u, xk1_n, xk1_l, xk1_d, true_and, and_true, ↓reduceIte, Nat.reduceAdd, xtup]
    exact ih (i + 1) (by omega)
theorem s160_b (hm : MS μ m) (ht : t < 6) (h7 : xI μ m 7 = nI t) {s : Nat → Int32} {σ : Nat → Int64} : ∀ k i, i + k = 6 → Rn G 160 69 [some (.ref m), some (.int (nI i))] [] (MM μ m s (cpy (fun j => xJ μ (m + 6) (6 * t + j)) σ 0 i)) Q = Q (.inl (some (.int (nI t)))) (MM μ m s (cpy (fun j => xJ μ (m + 6) (6 * t + j)) σ 0 6)) := by
  obtain ⟨k0, ⟨k1, n1⟩, -, -, ⟨k4, n4⟩, -, ⟨k6, n6'⟩, -, r1, -, -, r4, -, r6, -⟩ := hm
  intro k
  induction k with
  | zero =>
    intro i hi
    have h2 : 6 ≤ i := by omega
    rw [q160_69]
    simp (disch := first | assumption | (simp only [MM_Kd, rI_Kd, rJ_Kd, sI_Kd, sJ_Kd, sR_Kd, SV_Kd]; assumption) | omega | decide) only [q160_0, q160_0N, q160_1, q160_1N, q160_2, q160_5, q160_8, q160_9, q160_12, q160_13, q160_16, q160_19, q160_20, q160_21, q160_21N, q160_22, q160_23, q160_26, q160_27, q160_28, q160_31, q160_32, q160_33, q160_34, q160_37, q160_40, q160_40N, q160_41, q160_44, q160_45, q160_45N, q160_46, q160_49, q160_52, q160_52N, q160_53, q160_56, q160_57, q160_58, q160_59, q160_59T, q160_60, q160_61, q160_64, q160_67, q160_68, q160_70, q160_72, q160_75, q160_75N, q160_76, q160_79, q160_80, q160_80N, q160_81, q160_84, q160_86, q160_86N, q160_87, q160_90, q160_91, q160_92, q160_93, q160_94, q160_95, q160_98, q160_101, q160_101N, q160_102, q160_105, n6, nI_leI, h2, h7, MM_Io, MM_Kd, MM_Ln, MM_R, MM_I, MM_J, MM_sI, MM_sJ, r1, n1, r4, n4, xaf_s, xaf_v, va_rf_s, xix_n, nI_clamp, xk1_i, xk1_a, xk1_u, xk1_n, xk1_l, xk1_d, true_and, and_true, ↓reduceIte, Nat.reduceAdd, xtup]
    rw [show i = 6 by omega]
  | succ k ih =>
    intro i hi
    have h2 : ¬ 6 ≤ i := by omega
    have e : up (cpy (fun j => xJ μ (m + 6) (6 * t + j)) σ 0 i) i (xJ μ (m + 6) (6 * t + i)) = cpy (fun j => xJ μ (m + 6) (6 * t + j)) σ 0 (i + 1) := cpy_1'
    rw [q160_69]
    simp (disch := first | assumption | (simp only [MM_Kd, rI_Kd, rJ_Kd, sI_Kd, sJ_Kd, sR_Kd, SV_Kd]; assumption) | omega | decide) only [q160_0, q160_0N, q160_1, q160_1N, q160_2, q160_5, q160_8, q160_9, q160_12, q160_13, q160_16, q160_19, q160_20, q160_21, q160_21N, q160_22, q160_23, q160_26, q160_27, q160_28, q160_31, q160_32, q160_33, q160_34, q160_37, q160_40, q160_40N, q160_41, q160_44, q160_45, q160_45N, q160_46, q160_49, q160_52, q160_52N, q160_53, q160_56, q160_57, q160_58, q160_59, q160_59T, q160_60, q160_61, q160_64, q160_67, q160_68, q160_70, q160_72, q160_75, q160_75N, q160_76, q160_79, q160_80, q160_80N, q160_81, q160_84, q160_86, q160_86N, q160_87, q160_90, q160_91, q160_92, q160_93, q160_94, q160_95, q160_98, q160_101, q160_101N, q160_102, q160_105, n6, nI_leI, nI_add, pk_mul, h2, h7, r6, n6', nI_1, MM_Io, MM_Jo, e, MM_Kd, MM_Ln, MM_R, MM_I, MM_J, MM_sI, MM_sJ, r1, n1, r4, n4, xaf_s, xaf_v, va_rf_s, xix_n, nI_clamp, xk1_i, xk1_a, xk1_u, xk1_n, xk1_l, xk1_d, true_and, and_true, ↓reduceIte, Nat.reduceAdd, xtup]
    exact ih (i + 1) (by omega)
theorem s160_0 (hm : MS μ m) (h7 : xI μ m 7 = 0) : Cn G 160 [.ref m] (MM μ m x.1 x.2) Q = Q (.inl (some (.int 0))) (MM (xsI μ m 0 1) m x.1 x.2) := by
  have hm0 := hm
  obtain ⟨k0, ⟨k1, n1⟩, -, -, ⟨k4, n4⟩, -, -, -, r1, -, -, r4, -⟩ := hm
  have z : (0 : Int32) ≤ 0 := by decide
  show Rn G 160 0 [some (.ref m), none] [] (MM μ m x.1 x.2) Q = _
  simp (disch := first | assumption | (simp only [MM_Kd, rI_Kd, rJ_Kd, sI_Kd, sJ_Kd, sR_Kd, SV_Kd]; assumption) | omega | decide) only [q160_0, q160_0N, q160_1, q160_1N, q160_2, q160_5, q160_8, q160_9, q160_12, q160_13, q160_16, q160_19, q160_20, q160_21, q160_21N, q160_22, q160_23, q160_26, q160_27, q160_28, q160_31, q160_32, q160_34, q160_37, q160_40, q160_40N, q160_41, q160_44, q160_45, q160_45N, q160_46, q160_49, q160_52, q160_52N, q160_53, q160_56, q160_57, q160_58, q160_59, q160_59T, q160_60, q160_61, q160_64, q160_68, q160_70, q160_72, q160_75, q160_75N, q160_76, q160_79, q160_80, q160_80N, q160_81, q160_84, q160_86, q160_86N, q160_87, q160_90, q160_91, q160_92, q160_93, q160_94, q160_95, q160_98, q160_101, q160_101N, q160_102, q160_105, h7, z, s114' hm0, c10, not_true_eq_false, not_false_eq_true, MM_Io, MM_Kd, MM_Ln, MM_R, MM_I, MM_J, MM_sI, MM_sJ, r1, n1, r4, n4, xaf_s, xaf_v, va_rf_s, xix_n, nI_clamp, xk1_i, xk1_a, xk1_u, xk1_n, xk1_l, xk1_d, true_and, and_true, ↓reduceIte, Nat.reduceAdd, xtup]
theorem s160_1 (hm : MS μ m) (ht : t < 6) (h7 : xI μ m 7 = nI (t + 1)) : Cn G 160 [.ref m] (MM μ m x.1 x.2) Q = Q (.inl (some (.int (nI t)))) (MM (xsI (xsI μ m 0 0) m 7 (nI t)) m (cpy (fun j => xI μ (m + 3) (619 * t + j)) x.1 0 619) (cpy (fun j => xJ μ (m + 6) (6 * t + j)) x.2 0 6)) := by
  have hm0 := hm
  obtain ⟨k0, ⟨k1, n1⟩, -, -, ⟨k4, n4⟩, -, -, -, r1, -, -, r4, -⟩ := hm
  have z : (nI (t + 1) ≤ (0 : Int32)) = False := by apply eq_false; rw [show (0 : Int32) = nI 0 from rfl, nI_leI (by omega) (by omega)]; omega
  have i7 : ∀ e, xI (xsI μ m 0 e) m 7 = nI (t + 1) := fun e => by rw [sI_k (by omega)]; exact h7
  have e1 := s160_a (G := G) (Q := Q) (μ := xsI (xsI μ m 0 0) m 7 (nI t)) hm0 ht sI_e (s := x.1) (σ := x.2) 619 0 (by omega)
  have e2 := s160_b (G := G) (Q := Q) (μ := xsI (xsI μ m 0 0) m 7 (nI t)) hm0 ht sI_e (s := cpy (fun j => xI (xsI (xsI μ m 0 0) m 7 (nI t)) (m + 3) (619 * t + j)) x.1 0 619) (σ := x.2) 6 0 (by omega)
  rw [cpy_0] at e1 e2
  show Rn G 160 0 [some (.ref m), none] [] (MM μ m x.1 x.2) Q = _
  simp (disch := first | assumption | (simp only [MM_Kd, rI_Kd, rJ_Kd, sI_Kd, sJ_Kd, sR_Kd, SV_Kd]; assumption) | omega | decide) only [q160_0, q160_0N, q160_1, q160_1N, q160_2, q160_5, q160_8, q160_9, q160_12, q160_13, q160_16, q160_19, q160_20, q160_21, q160_21N, q160_22, q160_23, q160_26, q160_27, q160_28, q160_31, q160_32, q160_34, q160_37, q160_40, q160_40N, q160_41, q160_44, q160_45, q160_45N, q160_46, q160_49, q160_52, q160_52N, q160_53, q160_56, q160_57, q160_58, q160_59, q160_59T, q160_60, q160_61, q160_64, q160_68, q160_70, q160_72, q160_75, q160_75N, q160_76, q160_79, q160_80, q160_80N, q160_81, q160_84, q160_86, q160_86N, q160_87, q160_90, q160_91, q160_92, q160_93, q160_94, q160_95, q160_98, q160_101, q160_101N, q160_102, q160_105, h7, i7, z, s114' hm0, c00, not_true_eq_false, not_false_eq_true, nI_s1, MM_sIo, rI_Kd, rI_Ln, rI_R, rI_J, rJ_Kd, rJ_Ln, rJ_R, rJ_I, sI_Kd, sI_Ln, sI_R, sI_J, sJ_Kd, sJ_Ln, sJ_R, sJ_I, sR_Kd, sR_Ln, sR_I, sR_J, MM_Io, MM_Kd, MM_Ln, MM_R, MM_I, MM_J, MM_sI, MM_sJ, r1, n1, r4, n4, xaf_s, xaf_v, va_rf_s, xix_n, nI_clamp, xk1_i, xk1_a, xk1_u, xk1_n, xk1_l, xk1_d, true_and, and_true, ↓reduceIte, Nat.reduceAdd, xtup]
  refine e1.trans ?_
  simp only [q160_67, q160_68, xk1_i]
  refine e2.trans ?_
  rw [sI_n (by omega), sI_n (by omega)]; rfl
theorem s161_lc (hm : MS μ m) (hp : p < 8) (hc : c < 3) {k0' : Nat} (hl : x.1 (19 + 75 * p + 10) = nI k0') (hk : k0' < 64) : ∀ k i a, i + k = k0' → Rn G 161 81 [some (.ref m), some (.int (nI c)), some (.int 5), some (.int a), some (.int (nI p)), some (.int (nI i))] [] (MM μ m x.1 x.2) Q = Rn G 161 129 [some (.ref m), some (.int (nI c)), some (.int 5), some (.int (zLc x.1 p c k i a)), some (.int (nI p)), some (.int (nI k0'))] [] (MM μ m x.1 x.2) Q := by
  have hm0 := hm
  obtain ⟨k0, ⟨k1, n1⟩, -, -, ⟨k4, n4⟩, -, -, -, r1, -, -, r4, -⟩ := hm
  intro k
  induction k with
  | zero =>
    intro i a hi
    have h2 : k0' ≤ i := by omega
    rw [q161_81]
    simp (disch := first | assumption | (simp only [MM_Kd, rI_Kd, rJ_Kd, sI_Kd, sJ_Kd, sR_Kd, SV_Kd]; assumption) | omega | decide) only [q161_0, q161_1, q161_2, q161_3, q161_5, q161_7, q161_7N, q161_8, q161_11, q161_12, q161_12T, q161_13, q161_16, q161_17, q161_18, q161_19, q161_22, q161_22N, q161_23, q161_25, q161_28, q161_31, q161_31N, q161_32, q161_35, q161_37, q161_38, q161_41, q161_41T, q161_42, q161_43, q161_46, q161_47, q161_50, q161_51, q161_52, q161_53, q161_54, q161_55, q161_56, q161_59, q161_59N, q161_60, q161_63, q161_65, q161_66, q161_67, q161_68, q161_71, q161_71T, q161_72, q161_75, q161_76, q161_77, q161_78, q161_79, q161_83, q161_83N, q161_84, q161_87, q161_89, q161_91, q161_94, q161_94T, q161_95, q161_98, q161_99, q161_100, q161_103, q161_104, q161_104N, q161_105, q161_107, q161_109, q161_112, q161_113, q161_116, q161_117, q161_120, q161_121, q161_122, q161_123, q161_126, q161_132, q161_135, q161_136, q161_137, q161_140, q161_140N, q161_141, q161_144, q161_146, q161_147, q161_148, q161_149, q161_150, q161_151, q161_152, q161_152T, q161_153, q161_156, q161_157, s112_10, hl, nI_leI, h2, zLc, MM_Kd, MM_Ln, MM_R, MM_I, MM_J, MM_sI, MM_sJ, r1, n1, r4, n4, xaf_s, xaf_v, va_rf_s, xix_n, nI_clamp, xk1_i, xk1_a, xk1_u, xk1_n, xk1_l, xk1_d, true_and, and_true, ↓reduceIte, Nat.reduceAdd, xtup]
    rw [show i = k0' by omega]
  | succ k ih =>
    intro i a hi
    have h2 : ¬ k0' ≤ i := by omega
    have h121 := fun Q => s121 (G := G) (Q := Q) (μ := MM μ m x.1 x.2) hm0 hp (k := i) (by omega)
    rw [MM_I] at h121
    by_cases h3 : mDueS x.1 p i = nI c
    · rw [q161_81]
      simp (disch := first | assumption | (simp only [MM_Kd, rI_Kd, rJ_Kd, sI_Kd, sJ_Kd, sR_Kd, SV_Kd]; assumption) | omega | decide) only [q161_0, q161_1, q161_2, q161_3, q161_5, q161_7, q161_7N, q161_8, q161_11, q161_12, q161_12T, q161_13, q161_16, q161_17, q161_18, q161_19, q161_22, q161_22N, q161_23, q161_25, q161_28, q161_31, q161_31N, q161_32, q161_35, q161_37, q161_38, q161_41, q161_41T, q161_42, q161_43, q161_46, q161_47, q161_50, q161_51, q161_52, q161_53, q161_54, q161_55, q161_56, q161_59, q161_59N, q161_60, q161_63, q161_65, q161_66, q161_67, q161_68, q161_71, q161_71T, q161_72, q161_75, q161_76, q161_77, q161_78, q161_79, q161_83, q161_83N, q161_84, q161_87, q161_89, q161_91, q161_94, q161_94T, q161_95, q161_98, q161_99, q161_100, q161_103, q161_104, q161_104N, q161_105, q161_107, q161_109, q161_112, q161_113, q161_116, q161_117, q161_120, q161_121, q161_122, q161_123, q161_126, q161_132, q161_135, q161_136, q161_137, q161_140, q161_140N, q161_141, q161_144, q161_146, q161_147, q161_148, q161_149, q161_150, q161_151, q161_152, q161_152T, q161_153, q161_156, q161_157, s112_10, hl, nI_leI, h2, h121, eq_true h3, not_true_eq_false, nI_1, MM_Kd, MM_Ln, MM_R, MM_I, MM_J, MM_sI, MM_sJ, r1, n1, r4, n4, xaf_s, xaf_v, va_rf_s, xix_n, nI_clamp, xk1_i, xk1_a, xk1_u, xk1_n, xk1_l, xk1_d, true_and, and_true, ↓reduceIte, Nat.reduceAdd, xtup]
      rw [ih (i + 1) _ (by omega)]
      simp only [zLc, h3, ↓reduceIte]
    · rw [q161_81]
      simp (disch := first | assumption | (simp only [MM_Kd, rI_Kd, rJ_Kd, sI_Kd, sJ_Kd, sR_Kd, SV_Kd]; assumption) | omega | decide) only [q161_0, q161_1, q161_2, q161_3, q161_5, q161_7, q161_7N, q161_8, q161_11, q161_12, q161_12T, q161_13, q161_16, q161_17, q161_18, q161_19, q161_22, q161_22N, q161_23, q161_25, q161_28, q161_31, q161_31N, q161_32, q161_35, q161_37, q161_38, q161_41, q161_41T, q161_42, q161_43, q161_46, q161_47, q161_50, q161_51, q161_52, q161_53, q161_54, q161_55, q161_56, q161_59, q161_59N, q161_60, q161_63, q161_65, q161_66, q161_67, q161_68, q161_71, q161_71T, q161_72, q161_75, q161_76, q161_77, q161_78, q161_79, q161_83, q161_83N, q161_84, q161_87, q161_89, q161_91, q161_94, q161_94T, q161_95, q161_98, q161_99, q161_100, q161_103, q161_104, q161_104N, q161_105, q161_107, q161_109, q161_112, q161_113, q161_116, q161_117, q161_120, q161_121, q161_122, q161_123, q161_126, q161_132, q161_135, q161_136, q161_137, q161_140, q161_140N, q161_141, q161_144, q161_146, q161_147, q161_148, q161_149, q161_150, q161_151, q161_152, q161_152T, q161_153, q161_156, q161_157, s112_10, hl, nI_leI, h2, h121, h3, not_true_eq_false, not_false_eq_true, nI_1, MM_Kd, MM_Ln, MM_R, MM_I, MM_J, MM_sI, MM_sJ, r1, n1, r4, n4, xaf_s, xaf_v, va_rf_s, xix_n, nI_clamp, xk1_i, xk1_a, xk1_u, xk1_n, xk1_l, xk1_d, true_and, and_true, ↓reduceIte, Nat.reduceAdd, xtup]
      rw [ih (i + 1) _ (by omega)]
      simp only [zLc, h3, ↓reduceIte]
theorem s161_p (hm : MS μ m) {w S lo hi : Nat} (hc : c < 3) (hw : w < 6) (hh : hi - lo < 62) (hn : x.1 2 = nI n) (hn8 : n ≤ 8) (hM : ∀ p, p < n → MI (mw x.1 p) S lo hi) : ∀ k i l5, i + k = n → Rn G 161 5 [some (.ref m), some (.int (nI c)), some (.int (nI w)), some (.int (itr (wStep x.1 c w) i 0)), some (.int (nI i)), l5] [] (MM μ m x.1 x.2) Q = Q (.inl (some (.int (if w < 3 then x.1 (10 + 3 * c + w) else itr (wStep x.1 c w) n 0)))) (MM μ m x.1 x.2) := by
  have hm0 := hm
  obtain ⟨k0, ⟨k1, n1⟩, -, -, ⟨k4, n4⟩, -, -, -, r1, -, -, r4, -⟩ := hm
  have w3 : (nI w = (3 : Int32)) = (w = 3) := nI_eqk w 3 (by omega) (by omega)
  have w4 : (nI w = (4 : Int32)) = (w = 4) := nI_eqk w 4 (by omega) (by omega)
  have w5 : (nI w = (5 : Int32)) = (w = 5) := nI_eqk w 5 (by omega) (by omega)
  have wl : ((3 : Int32) ≤ nI w) = (3 ≤ w) := propext (nI_leI (a := 3) (by omega) (by omega))
  intro k
  induction k with
  | zero =>
    intro i l5 hi
    have h2 : n ≤ i := by omega
    by_cases h3 : w < 3
    · have h3' : ¬ 3 ≤ w := by omega
      rw [q161_5]
      simp (disch := first | assumption | (simp only [MM_Kd, rI_Kd, rJ_Kd, sI_Kd, sJ_Kd, sR_Kd, SV_Kd]; assumption) | omega | decide) only [q161_0, q161_1, q161_2, q161_3, q161_7, q161_7N, q161_8, q161_11, q161_12, q161_12T, q161_13, q161_16, q161_17, q161_18, q161_19, q161_22, q161_22N, q161_23, q161_25, q161_28, q161_31, q161_31N, q161_32, q161_35, q161_37, q161_38, q161_41, q161_41T, q161_42, q161_43, q161_46, q161_47, q161_50, q161_51, q161_52, q161_53, q161_54, q161_55, q161_56, q161_59, q161_59N, q161_60, q161_63, q161_65, q161_66, q161_67, q161_68, q161_71, q161_71T, q161_72, q161_75, q161_76, q161_77, q161_78, q161_79, q161_83, q161_83N, q161_84, q161_87, q161_89, q161_91, q161_94, q161_94T, q161_95, q161_98, q161_99, q161_100, q161_103, q161_104, q161_104N, q161_105, q161_107, q161_109, q161_112, q161_113, q161_116, q161_117, q161_120, q161_121, q161_122, q161_123, q161_126, q161_132, q161_135, q161_136, q161_137, q161_140, q161_140N, q161_141, q161_144, q161_146, q161_147, q161_148, q161_149, q161_150, q161_151, q161_152, q161_152T, q161_153, q161_156, q161_157, hn, xl2, nc2, nI_leI, h2, wl, h3, h3', d10, nI_add, MM_Kd, MM_Ln, MM_R, MM_I, MM_J, MM_sI, MM_sJ, r1, n1, r4, n4, xaf_s, xaf_v, va_rf_s, xix_n, nI_clamp, xk1_i, xk1_a, xk1_u, xk1_n, xk1_l, xk1_d, true_and, and_true, ↓reduceIte, Nat.reduceAdd, xtup]
    · have h3' : 3 ≤ w := by omega
      rw [q161_5]
      simp (disch := first | assumption | (simp only [MM_Kd, rI_Kd, rJ_Kd, sI_Kd, sJ_Kd, sR_Kd, SV_Kd]; assumption) | omega | decide) only [q161_0, q161_1, q161_2, q161_3, q161_7, q161_7N, q161_8, q161_11, q161_12, q161_12T, q161_13, q161_16, q161_17, q161_18, q161_19, q161_22, q161_22N, q161_23, q161_25, q161_28, q161_31, q161_31N, q161_32, q161_35, q161_37, q161_38, q161_41, q161_41T, q161_42, q161_43, q161_46, q161_47, q161_50, q161_51, q161_52, q161_53, q161_54, q161_55, q161_56, q161_59, q161_59N, q161_60, q161_63, q161_65, q161_66, q161_67, q161_68, q161_71, q161_71T, q161_72, q161_75, q161_76, q161_77, q161_78, q161_79, q161_83, q161_83N, q161_84, q161_87, q161_89, q161_91, q161_94, q161_94T, q161_95, q161_98, q161_99, q161_100, q161_103, q161_104, q161_104N, q161_105, q161_107, q161_109, q161_112, q161_113, q161_116, q161_117, q161_120, q161_121, q161_122, q161_123, q161_126, q161_132, q161_135, q161_136, q161_137, q161_140, q161_140N, q161_141, q161_144, q161_146, q161_147, q161_148, q161_149, q161_150, q161_151, q161_152, q161_152T, q161_153, q161_156, q161_157, hn, xl2, nc2, nI_leI, h2, wl, h3, h3', d10, nI_add, MM_Kd, MM_Ln, MM_R, MM_I, MM_J, MM_sI, MM_sJ, r1, n1, r4, n4, xaf_s, xaf_v, va_rf_s, xix_n, nI_clamp, xk1_i, xk1_a, xk1_u, xk1_n, xk1_l, xk1_d, true_and, and_true, ↓reduceIte, Nat.reduceAdd, xtup]
      rw [show i = n by omega]
  | succ k ih =>
    intro i l5 hi
    have h2 : ¬ n ≤ i := by omega
    obtain ⟨d1, d2, d3, d4, -⟩ := (hM i (by omega)).at (by omega)
    have ih' := fun l5 => ih (i + 1) l5 (by omega)
    have hz : itr (wStep x.1 c w) (i + 1) 0 = wStep x.1 c w i (itr (wStep x.1 c w) i 0) := rfl
    rw [hz] at ih'
    generalize itr (wStep x.1 c w) i 0 = a at *
    have h138 := fun Q => s138 (G := G) (Q := Q) (x := x) hm0 (show i < 8 by omega)
    have hlc0 : (nI (zLts x.1 i) ≤ nI 0) = (zLts x.1 i ≤ 0) := propext (nI_leI (by omega) (by omega))
    by_cases h3 : w = 3
    · subst h3
      have f4 : ¬ (3 : Nat) = 4 := by omega
      have f5 : ¬ (3 : Nat) = 5 := by omega
      have tail : ∀ b l5, Rn G 161 78 [some (.ref m), some (.int (nI c)), some (.int (nI 3)), some (.int b), some (.int (nI i)), l5] [] (MM μ m x.1 x.2) Q = Rn G 161 5 [some (.ref m), some (.int (nI c)), some (.int (nI 3)), some (.int b), some (.int (nI (i + 1))), some (.int 0)] [] (MM μ m x.1 x.2) Q := by
        intro b l5
        by_cases hl : nI (zLts x.1 i) ≤ 0
        · simp (disch := first | assumption | (simp only [MM_Kd, rI_Kd, rJ_Kd, sI_Kd, sJ_Kd, sR_Kd, SV_Kd]; assumption) | omega | decide) only [q161_0, q161_1, q161_2, q161_3, q161_7, q161_7N, q161_8, q161_11, q161_12, q161_12T, q161_13, q161_16, q161_17, q161_18, q161_19, q161_22, q161_22N, q161_23, q161_25, q161_28, q161_31, q161_31N, q161_32, q161_35, q161_37, q161_38, q161_41, q161_41T, q161_42, q161_43, q161_46, q161_47, q161_50, q161_51, q161_52, q161_53, q161_54, q161_55, q161_56, q161_59, q161_59N, q161_60, q161_63, q161_65, q161_66, q161_67, q161_68, q161_71, q161_71T, q161_72, q161_75, q161_76, q161_77, q161_78, q161_79, q161_81, q161_83, q161_83N, q161_84, q161_87, q161_89, q161_91, q161_94, q161_94T, q161_95, q161_98, q161_99, q161_100, q161_103, q161_104, q161_104N, q161_105, q161_107, q161_109, q161_112, q161_113, q161_116, q161_117, q161_120, q161_121, q161_122, q161_123, q161_126, q161_129, q161_132, q161_135, q161_136, q161_137, q161_140, q161_140N, q161_141, q161_144, q161_146, q161_147, q161_148, q161_149, q161_150, q161_151, q161_152, q161_152T, q161_153, q161_156, q161_157, s112_10, d4, hl, nI_1, MM_Kd, MM_Ln, MM_R, MM_I, MM_J, MM_sI, MM_sJ, r1, n1, r4, n4, xaf_s, xaf_v, va_rf_s, xix_n, nI_clamp, xk1_i, xk1_a, xk1_u, xk1_n, xk1_l, xk1_d, true_and, and_true, ↓reduceIte, Nat.reduceAdd, xtup]
        · simp (disch := first | assumption | (simp only [MM_Kd, rI_Kd, rJ_Kd, sI_Kd, sJ_Kd, sR_Kd, SV_Kd]; assumption) | omega | decide) only [q161_0, q161_1, q161_2, q161_3, q161_7, q161_7N, q161_8, q161_11, q161_12, q161_12T, q161_13, q161_16, q161_17, q161_18, q161_19, q161_22, q161_22N, q161_23, q161_25, q161_28, q161_31, q161_31N, q161_32, q161_35, q161_37, q161_38, q161_41, q161_41T, q161_42, q161_43, q161_46, q161_47, q161_50, q161_51, q161_52, q161_53, q161_54, q161_55, q161_56, q161_59, q161_59N, q161_60, q161_63, q161_65, q161_66, q161_67, q161_68, q161_71, q161_71T, q161_72, q161_75, q161_76, q161_77, q161_78, q161_79, q161_81, q161_83, q161_83N, q161_84, q161_87, q161_89, q161_91, q161_94, q161_94T, q161_95, q161_98, q161_99, q161_100, q161_103, q161_104, q161_104N, q161_105, q161_107, q161_109, q161_112, q161_113, q161_116, q161_117, q161_120, q161_121, q161_122, q161_123, q161_126, q161_129, q161_132, q161_135, q161_136, q161_137, q161_140, q161_140N, q161_141, q161_144, q161_146, q161_147, q161_148, q161_149, q161_150, q161_151, q161_152, q161_152T, q161_153, q161_156, q161_157, s112_10, d4, hl, nI_1, w5, f5, not_false_eq_true, MM_Kd, MM_Ln, MM_R, MM_I, MM_J, MM_sI, MM_sJ, r1, n1, r4, n4, xaf_s, xaf_v, va_rf_s, xix_n, nI_clamp, xk1_i, xk1_a, xk1_u, xk1_n, xk1_l, xk1_d, true_and, and_true, ↓reduceIte, Nat.reduceAdd, xtup]
      by_cases h7 : x.1 (19 + 75 * i + 7) = 1
      · rw [q161_5]
        simp (disch := first | assumption | (simp only [MM_Kd, rI_Kd, rJ_Kd, sI_Kd, sJ_Kd, sR_Kd, SV_Kd]; assumption) | omega | decide) only [q161_0, q161_1, q161_2, q161_3, q161_7, q161_7N, q161_8, q161_11, q161_12, q161_12T, q161_13, q161_16, q161_17, q161_18, q161_19, q161_22, q161_22N, q161_23, q161_25, q161_28, q161_31, q161_31N, q161_32, q161_35, q161_37, q161_38, q161_41, q161_41T, q161_42, q161_43, q161_46, q161_47, q161_50, q161_51, q161_52, q161_53, q161_54, q161_55, q161_56, q161_59, q161_59N, q161_60, q161_63, q161_65, q161_66, q161_67, q161_68, q161_71, q161_71T, q161_72, q161_75, q161_76, q161_77, q161_79, q161_81, q161_83, q161_83N, q161_84, q161_87, q161_89, q161_91, q161_94, q161_94T, q161_95, q161_98, q161_99, q161_100, q161_103, q161_104, q161_104N, q161_105, q161_107, q161_109, q161_112, q161_113, q161_116, q161_117, q161_120, q161_121, q161_122, q161_123, q161_126, q161_129, q161_132, q161_135, q161_136, q161_137, q161_140, q161_140N, q161_141, q161_144, q161_146, q161_147, q161_148, q161_149, q161_150, q161_151, q161_152, q161_152T, q161_153, q161_156, q161_157, hn, xl2, nc2, nI_leI, h2, w3, w4, f4, h138, eq_true h7, c10, not_true_eq_false, not_false_eq_true, nI_a0, MM_Kd, MM_Ln, MM_R, MM_I, MM_J, MM_sI, MM_sJ, r1, n1, r4, n4, xaf_s, xaf_v, va_rf_s, xix_n, nI_clamp, xk1_i, xk1_a, xk1_u, xk1_n, xk1_l, xk1_d, true_and, and_true, ↓reduceIte, Nat.reduceAdd, xtup]
        have e1 : wStep x.1 c 3 i a = a := by unfold wStep; rw [if_pos rfl, if_neg (fun z => z.1 h7)]; exact nI_a0 a
        rw [e1] at ih'
        rw [tail]
        exact ih' _
      · by_cases h1 : x.1 (19 + 75 * i + 1) = nI c
        · rw [q161_5]
          simp (disch := first | assumption | (simp only [MM_Kd, rI_Kd, rJ_Kd, sI_Kd, sJ_Kd, sR_Kd, SV_Kd]; assumption) | omega | decide) only [q161_0, q161_1, q161_2, q161_3, q161_7, q161_7N, q161_8, q161_11, q161_12, q161_12T, q161_13, q161_16, q161_17, q161_18, q161_19, q161_22, q161_22N, q161_23, q161_25, q161_28, q161_31, q161_31N, q161_32, q161_35, q161_37, q161_38, q161_41, q161_41T, q161_42, q161_43, q161_46, q161_47, q161_50, q161_51, q161_52, q161_53, q161_54, q161_55, q161_56, q161_59, q161_59N, q161_60, q161_63, q161_65, q161_66, q161_67, q161_68, q161_71, q161_71T, q161_72, q161_75, q161_76, q161_77, q161_79, q161_81, q161_83, q161_83N, q161_84, q161_87, q161_89, q161_91, q161_94, q161_94T, q161_95, q161_98, q161_99, q161_100, q161_103, q161_104, q161_104N, q161_105, q161_107, q161_109, q161_112, q161_113, q161_116, q161_117, q161_120, q161_121, q161_122, q161_123, q161_126, q161_129, q161_132, q161_135, q161_136, q161_137, q161_140, q161_140N, q161_141, q161_144, q161_146, q161_147, q161_148, q161_149, q161_150, q161_151, q161_152, q161_152T, q161_153, q161_156, q161_157, hn, xl2, nc2, nI_leI, h2, w3, w4, f4, h138, h7, eq_true h1, c00, s112_1, not_true_eq_false, not_false_eq_true, nI_a0, MM_Kd, MM_Ln, MM_R, MM_I, MM_J, MM_sI, MM_sJ, r1, n1, r4, n4, xaf_s, xaf_v, va_rf_s, xix_n, nI_clamp, xk1_i, xk1_a, xk1_u, xk1_n, xk1_l, xk1_d, true_and, and_true, ↓reduceIte, Nat.reduceAdd, xtup]
          rw [tail]
          have e1 : wStep x.1 c 3 i a = a + 1 := by unfold wStep; rw [if_pos rfl, if_pos ⟨h7, h1⟩]
          rw [e1] at ih'
          exact ih' _
        · rw [q161_5]
          simp (disch := first | assumption | (simp only [MM_Kd, rI_Kd, rJ_Kd, sI_Kd, sJ_Kd, sR_Kd, SV_Kd]; assumption) | omega | decide) only [q161_0, q161_1, q161_2, q161_3, q161_7, q161_7N, q161_8, q161_11, q161_12, q161_12T, q161_13, q161_16, q161_17, q161_18, q161_19, q161_22, q161_22N, q161_23, q161_25, q161_28, q161_31, q161_31N, q161_32, q161_35, q161_37, q161_38, q161_41, q161_41T, q161_42, q161_43, q161_46, q161_47, q161_50, q161_51, q161_52, q161_53, q161_54, q161_55, q161_56, q161_59, q161_59N, q161_60, q161_63, q161_65, q161_66, q161_67, q161_68, q161_71, q161_71T, q161_72, q161_75, q161_76, q161_77, q161_79, q161_81, q161_83, q161_83N, q161_84, q161_87, q161_89, q161_91, q161_94, q161_94T, q161_95, q161_98, q161_99, q161_100, q161_103, q161_104, q161_104N, q161_105, q161_107, q161_109, q161_112, q161_113, q161_116, q161_117, q161_120, q161_121, q161_122, q161_123, q161_126, q161_129, q161_132, q161_135, q161_136, q161_137, q161_140, q161_140N, q161_141, q161_144, q161_146, q161_147, q161_148, q161_149, q161_150, q161_151, q161_152, q161_152T, q161_153, q161_156, q161_157, hn, xl2, nc2, nI_leI, h2, w3, w4, f4, h138, h7, h1, c00, s112_1, not_true_eq_false, not_false_eq_true, nI_a0, MM_Kd, MM_Ln, MM_R, MM_I, MM_J, MM_sI, MM_sJ, r1, n1, r4, n4, xaf_s, xaf_v, va_rf_s, xix_n, nI_clamp, xk1_i, xk1_a, xk1_u, xk1_n, xk1_l, xk1_d, true_and, and_true, ↓reduceIte, Nat.reduceAdd, xtup]
          rw [tail]
          have e1 : wStep x.1 c 3 i a = a := by unfold wStep; rw [if_pos rfl, if_neg (fun z => h1 z.2)]; exact nI_a0 a
          rw [e1] at ih'
          exact ih' _
    · by_cases h5 : w = 5
      · subst h5
        have f4 : ¬ (5 : Nat) = 4 := by omega
        have f3 : ¬ (5 : Nat) = 3 := by omega
        have e1 : wStep x.1 c 5 i a = zLc x.1 i c (zLts x.1 i) 0 a := by unfold wStep; rw [if_neg f3, if_neg f4, if_pos rfl]
        rw [e1] at ih'
        have e := s161_lc (G := G) (Q := Q) hm0 (show i < 8 by omega) hc d4 (by omega) (zLts x.1 i) 0 a (by omega)
        rw [q161_5]
        simp (disch := first | assumption | (simp only [MM_Kd, rI_Kd, rJ_Kd, sI_Kd, sJ_Kd, sR_Kd, SV_Kd]; assumption) | omega | decide) only [q161_0, q161_1, q161_2, q161_3, q161_7, q161_7N, q161_8, q161_11, q161_12, q161_12T, q161_13, q161_16, q161_17, q161_18, q161_19, q161_22, q161_22N, q161_23, q161_25, q161_28, q161_31, q161_31N, q161_32, q161_35, q161_37, q161_38, q161_41, q161_41T, q161_42, q161_43, q161_46, q161_47, q161_50, q161_51, q161_52, q161_53, q161_54, q161_55, q161_56, q161_59, q161_59N, q161_60, q161_63, q161_65, q161_66, q161_67, q161_68, q161_71, q161_71T, q161_72, q161_75, q161_76, q161_77, q161_78, q161_79, q161_83, q161_83N, q161_84, q161_87, q161_89, q161_91, q161_94, q161_94T, q161_95, q161_98, q161_99, q161_100, q161_103, q161_104, q161_104N, q161_105, q161_107, q161_109, q161_112, q161_113, q161_116, q161_117, q161_120, q161_121, q161_122, q161_123, q161_126, q161_129, q161_132, q161_135, q161_136, q161_137, q161_140, q161_140N, q161_141, q161_144, q161_146, q161_147, q161_148, q161_149, q161_150, q161_151, q161_152, q161_152T, q161_153, q161_156, q161_157, hn, xl2, nc2, nI_leI, h2, w3, w4, f3, f4, not_true_eq_false, not_false_eq_true, nI_a0, MM_Kd, MM_Ln, MM_R, MM_I, MM_J, MM_sI, MM_sJ, r1, n1, r4, n4, xaf_s, xaf_v, va_rf_s, xix_n, nI_clamp, xk1_i, xk1_a, xk1_u, xk1_n, xk1_l, xk1_d, true_and, and_true, ↓reduceIte, Nat.reduceAdd, xtup]
        refine e.trans ?_
        simp (disch := first | assumption | (simp only [MM_Kd, rI_Kd, rJ_Kd, sI_Kd, sJ_Kd, sR_Kd, SV_Kd]; assumption) | omega | decide) only [q161_129, q161_132, nI_1, xaf_s, xaf_v, va_rf_s, xix_n, nI_clamp, xk1_i, xk1_a, xk1_u, xk1_n, xk1_l, xk1_d, true_and, and_true, ↓reduceIte, Nat.reduceAdd, xtup]
        exact ih' _
      · have tail : ∀ b l5, Rn G 161 78 [some (.ref m), some (.int (nI c)), some (.int (nI w)), some (.int b), some (.int (nI i)), l5] [] (MM μ m x.1 x.2) Q = Rn G 161 5 [some (.ref m), some (.int (nI c)), some (.int (nI w)), some (.int b), some (.int (nI (i + 1))), some (.int 0)] [] (MM μ m x.1 x.2) Q := by
          intro b l5
          by_cases hl : nI (zLts x.1 i) ≤ 0
          · simp (disch := first | assumption | (simp only [MM_Kd, rI_Kd, rJ_Kd, sI_Kd, sJ_Kd, sR_Kd, SV_Kd]; assumption) | omega | decide) only [q161_0, q161_1, q161_2, q161_3, q161_7, q161_7N, q161_8, q161_11, q161_12, q161_12T, q161_13, q161_16, q161_17, q161_18, q161_19, q161_22, q161_22N, q161_23, q161_25, q161_28, q161_31, q161_31N, q161_32, q161_35, q161_37, q161_38, q161_41, q161_41T, q161_42, q161_43, q161_46, q161_47, q161_50, q161_51, q161_52, q161_53, q161_54, q161_55, q161_56, q161_59, q161_59N, q161_60, q161_63, q161_65, q161_66, q161_67, q161_68, q161_71, q161_71T, q161_72, q161_75, q161_76, q161_77, q161_78, q161_79, q161_81, q161_83, q161_83N, q161_84, q161_87, q161_89, q161_91, q161_94, q161_94T, q161_95, q161_98, q161_99, q161_100, q161_103, q161_104, q161_104N, q161_105, q161_107, q161_109, q161_112, q161_113, q161_116, q161_117, q161_120, q161_121, q161_122, q161_123, q161_126, q161_129, q161_132, q161_135, q161_136, q161_137, q161_140, q161_140N, q161_141, q161_144, q161_146, q161_147, q161_148, q161_149, q161_150, q161_151, q161_152, q161_152T, q161_153, q161_156, q161_157, s112_10, d4, hl, nI_1, MM_Kd, MM_Ln, MM_R, MM_I, MM_J, MM_sI, MM_sJ, r1, n1, r4, n4, xaf_s, xaf_v, va_rf_s, xix_n, nI_clamp, xk1_i, xk1_a, xk1_u, xk1_n, xk1_l, xk1_d, true_and, and_true, ↓reduceIte, Nat.reduceAdd, xtup]
          · simp (disch := first | assumption | (simp only [MM_Kd, rI_Kd, rJ_Kd, sI_Kd, sJ_Kd, sR_Kd, SV_Kd]; assumption) | omega | decide) only [q161_0, q161_1, q161_2, q161_3, q161_7, q161_7N, q161_8, q161_11, q161_12, q161_12T, q161_13, q161_16, q161_17, q161_18, q161_19, q161_22, q161_22N, q161_23, q161_25, q161_28, q161_31, q161_31N, q161_32, q161_35, q161_37, q161_38, q161_41, q161_41T, q161_42, q161_43, q161_46, q161_47, q161_50, q161_51, q161_52, q161_53, q161_54, q161_55, q161_56, q161_59, q161_59N, q161_60, q161_63, q161_65, q161_66, q161_67, q161_68, q161_71, q161_71T, q161_72, q161_75, q161_76, q161_77, q161_78, q161_79, q161_81, q161_83, q161_83N, q161_84, q161_87, q161_89, q161_91, q161_94, q161_94T, q161_95, q161_98, q161_99, q161_100, q161_103, q161_104, q161_104N, q161_105, q161_107, q161_109, q161_112, q161_113, q161_116, q161_117, q161_120, q161_121, q161_122, q161_123, q161_126, q161_129, q161_132, q161_135, q161_136, q161_137, q161_140, q161_140N, q161_141, q161_144, q161_146, q161_147, q161_148, q161_149, q161_150, q161_151, q161_152, q161_152T, q161_153, q161_156, q161_157, s112_10, d4, hl, nI_1, w5, h5, not_false_eq_true, MM_Kd, MM_Ln, MM_R, MM_I, MM_J, MM_sI, MM_sJ, r1, n1, r4, n4, xaf_s, xaf_v, va_rf_s, xix_n, nI_clamp, xk1_i, xk1_a, xk1_u, xk1_n, xk1_l, xk1_d, true_and, and_true, ↓reduceIte, Nat.reduceAdd, xtup]
        by_cases h4 : w = 4
        · subst h4
          have e1 : wStep x.1 c 4 i a = a + x.1 (19 + 75 * i + (4 + c)) := by unfold wStep; rw [if_neg h3, if_pos rfl]
          rw [e1] at ih'
          rw [q161_5]
          simp (disch := first | assumption | (simp only [MM_Kd, rI_Kd, rJ_Kd, sI_Kd, sJ_Kd, sR_Kd, SV_Kd]; assumption) | omega | decide) only [q161_0, q161_1, q161_2, q161_3, q161_7, q161_7N, q161_8, q161_11, q161_12, q161_12T, q161_13, q161_16, q161_17, q161_18, q161_19, q161_22, q161_22N, q161_23, q161_25, q161_28, q161_31, q161_31N, q161_32, q161_35, q161_37, q161_38, q161_41, q161_41T, q161_42, q161_43, q161_46, q161_47, q161_50, q161_51, q161_52, q161_53, q161_54, q161_55, q161_56, q161_59, q161_59N, q161_60, q161_63, q161_65, q161_66, q161_67, q161_68, q161_71, q161_71T, q161_72, q161_75, q161_76, q161_77, q161_79, q161_81, q161_83, q161_83N, q161_84, q161_87, q161_89, q161_91, q161_94, q161_94T, q161_95, q161_98, q161_99, q161_100, q161_103, q161_104, q161_104N, q161_105, q161_107, q161_109, q161_112, q161_113, q161_116, q161_117, q161_120, q161_121, q161_122, q161_123, q161_126, q161_129, q161_132, q161_135, q161_136, q161_137, q161_140, q161_140N, q161_141, q161_144, q161_146, q161_147, q161_148, q161_149, q161_150, q161_151, q161_152, q161_152T, q161_153, q161_156, q161_157, hn, xl2, nc2, nI_leI, h2, w3, w4, h3, s112, nI_4, not_true_eq_false, not_false_eq_true, nI_a0, MM_Kd, MM_Ln, MM_R, MM_I, MM_J, MM_sI, MM_sJ, r1, n1, r4, n4, xaf_s, xaf_v, va_rf_s, xix_n, nI_clamp, xk1_i, xk1_a, xk1_u, xk1_n, xk1_l, xk1_d, true_and, and_true, ↓reduceIte, Nat.reduceAdd, xtup]
          rw [tail]
          exact ih' _
        · have e1 : wStep x.1 c w i a = a := by unfold wStep; rw [if_neg h3, if_neg h4, if_neg h5]
          rw [e1] at ih'
          rw [q161_5]
          simp (disch := first | assumption | (simp only [MM_Kd, rI_Kd, rJ_Kd, sI_Kd, sJ_Kd, sR_Kd, SV_Kd]; assumption) | omega | decide) only [q161_0, q161_1, q161_2, q161_3, q161_7, q161_7N, q161_8, q161_11, q161_12, q161_12T, q161_13, q161_16, q161_17, q161_18, q161_19, q161_22, q161_22N, q161_23, q161_25, q161_28, q161_31, q161_31N, q161_32, q161_35, q161_37, q161_38, q161_41, q161_41T, q161_42, q161_43, q161_46, q161_47, q161_50, q161_51, q161_52, q161_53, q161_54, q161_55, q161_56, q161_59, q161_59N, q161_60, q161_63, q161_65, q161_66, q161_67, q161_68, q161_71, q161_71T, q161_72, q161_75, q161_76, q161_77, q161_79, q161_81, q161_83, q161_83N, q161_84, q161_87, q161_89, q161_91, q161_94, q161_94T, q161_95, q161_98, q161_99, q161_100, q161_103, q161_104, q161_104N, q161_105, q161_107, q161_109, q161_112, q161_113, q161_116, q161_117, q161_120, q161_121, q161_122, q161_123, q161_126, q161_129, q161_132, q161_135, q161_136, q161_137, q161_140, q161_140N, q161_141, q161_144, q161_146, q161_147, q161_148, q161_149, q161_150, q161_151, q161_152, q161_152T, q161_153, q161_156, q161_157, hn, xl2, nc2, nI_leI, h2, w3, w4, h3, h4, not_true_eq_false, not_false_eq_true, nI_a0, MM_Kd, MM_Ln, MM_R, MM_I, MM_J, MM_sI, MM_sJ, r1, n1, r4, n4, xaf_s, xaf_v, va_rf_s, xix_n, nI_clamp, xk1_i, xk1_a, xk1_u, xk1_n, xk1_l, xk1_d, true_and, and_true, ↓reduceIte, Nat.reduceAdd, xtup]
          rw [tail]
          exact ih' _
theorem s161 (hm : MS μ m) {w S lo hi : Nat} (hc : c < 3) (hw : w < 6) (hh : hi - lo < 62) (hG : GI x.1 g n F) (hM : ∀ p, p < n → MI (mw x.1 p) S lo hi) : Cn G 161 [.ref m, .int (nI c), .int (nI w)] (MM μ m x.1 x.2) Q = Q (.inl (some (.int (vSec x.1 c w)))) (MM μ m x.1 x.2) := by
  have hn8 := hG.2.2.1
  show Rn G 161 0 [some (.ref m), some (.int (nI c)), some (.int (nI w)), none, none, none] [] (MM μ m x.1 x.2) Q = _
  simp only [q161_0, q161_1, q161_2, q161_3, xk1_i]
  refine (s161_p hm hc hw hh hG.2.1 hn8 hM n 0 none (by omega)).trans ?_
  unfold vSec
  rw [hG.2.1, nI_clamp (by omega)]
theorem s162 (hm : MS μ m) {S lo hi : Nat} (hh : hi - lo < 62) (hG : GI x.1 g n F) (hM : ∀ p, p < n → MI (mw x.1 p) S lo hi) (sec what : Int32) : Cn G 162 [.ref m, .int sec, .int what] (MM μ m x.1 x.2) Q = if bad sec 0 2 then Q (.inl (some (.int 0))) (MM (xsI μ m 0 1) m x.1 x.2) else if bad what 0 5 then Q (.inl (some (.int 0))) (MM (xsI μ m 0 2) m x.1 x.2) else Q (.inl (some (.int (vSec x.1 sec.toNatClampNeg what.toNatClampNeg)))) (MM (xsI μ m 0 0) m x.1 x.2) := by
  have hm0 := hm
  obtain ⟨k0, ⟨k1, n1⟩, -, -, ⟨k4, n4⟩, -, -, -, r1, -, -, r4, -⟩ := hm
  show Rn G 162 0 [some (.ref m), some (.int sec), some (.int what)] [] (MM μ m x.1 x.2) Q = _
  by_cases h1 : bad sec 0 2
  · simp (disch := first | assumption | (simp only [MM_Kd, rI_Kd, rJ_Kd, sI_Kd, sJ_Kd, sR_Kd, SV_Kd]; assumption) | omega | decide) only [q162_0, q162_0N, q162_1, q162_2, q162_5, q162_8, q162_9, q162_12, q162_13, q162_14, q162_15, q162_18, q162_21, q162_22, q162_25, q162_26, q162_29, q162_32, q162_32N, q162_33, q162_34, q162_35, q162_38, q162_41, q162_42, s111, s110, in_0 h1, s114' hm0, c10, h1, not_true_eq_false, not_false_eq_true, MM_Kd, MM_Ln, MM_R, MM_I, MM_J, MM_sI, MM_sJ, r1, n1, r4, n4, xaf_s, xaf_v, va_rf_s, xix_n, nI_clamp, xk1_i, xk1_a, xk1_u, xk1_n, xk1_l, xk1_d, true_and, and_true, ↓reduceIte, Nat.reduceAdd, xtup]
  · obtain ⟨c, hc, rfl⟩ := sec3 h1
    by_cases h2 : bad what 0 5
    · simp (disch := first | assumption | (simp only [MM_Kd, rI_Kd, rJ_Kd, sI_Kd, sJ_Kd, sR_Kd, SV_Kd]; assumption) | omega | decide) only [q162_0, q162_0N, q162_1, q162_2, q162_5, q162_8, q162_9, q162_12, q162_13, q162_14, q162_15, q162_18, q162_21, q162_22, q162_25, q162_26, q162_29, q162_32, q162_32N, q162_33, q162_34, q162_35, q162_38, q162_41, q162_42, s111, s110, in_1 h1, in_0 h2, s114' hm0, c10, c20, h1, h2, not_true_eq_false, not_false_eq_true, MM_Kd, MM_Ln, MM_R, MM_I, MM_J, MM_sI, MM_sJ, r1, n1, r4, n4, xaf_s, xaf_v, va_rf_s, xix_n, nI_clamp, xk1_i, xk1_a, xk1_u, xk1_n, xk1_l, xk1_d, true_and, and_true, ↓reduceIte, Nat.reduceAdd, xtup]
    · obtain ⟨w, -, hw, rfl⟩ := rng (v := what) (lo := 0) (hi := 5) (by omega) (by omega) h2
      have h161 := fun Q => s161 (G := G) (Q := Q) (μ := xsI μ m 0 0) (x := x) hm0 (w := w) hc (by omega) hh hG hM
      simp (disch := first | assumption | (simp only [MM_Kd, rI_Kd, rJ_Kd, sI_Kd, sJ_Kd, sR_Kd, SV_Kd]; assumption) | omega | decide) only [q162_0, q162_0N, q162_1, q162_2, q162_5, q162_8, q162_9, q162_12, q162_13, q162_14, q162_15, q162_18, q162_21, q162_22, q162_25, q162_26, q162_29, q162_32, q162_32N, q162_33, q162_34, q162_35, q162_38, q162_41, q162_42, s111, s110, in_1 h1, in_1 h2, s114' hm0, h161, c10, c00, h1, h2, not_true_eq_false, not_false_eq_true, rI_Kd, rI_Ln, rI_R, rI_J, rJ_Kd, rJ_Ln, rJ_R, rJ_I, sI_Kd, sI_Ln, sI_R, sI_J, sJ_Kd, sJ_Ln, sJ_R, sJ_I, sR_Kd, sR_Ln, sR_I, sR_J, MM_Kd, MM_Ln, MM_R, MM_I, MM_J, MM_sI, MM_sJ, r1, n1, r4, n4, xaf_s, xaf_v, va_rf_s, xix_n, nI_clamp, xk1_i, xk1_a, xk1_u, xk1_n, xk1_l, xk1_d, true_and, and_true, ↓reduceIte, Nat.reduceAdd, xtup]
theorem s163 (hm : MS μ m) (hp : p < 8) {N : Nat} (hl : x.1 (19 + 75 * p + 10) = nI N) (hN : N < 64) : Cn G 163 [.ref m, .int (nI p)] (MM μ m x.1 x.2) Q = Q (.inl (some (.int (zCosts x.1 p N 0 0)))) (MM μ m x.1 x.2) := by
  have hm0 := hm
  obtain ⟨k0, ⟨k1, n1⟩, -, -, ⟨k4, n4⟩, -, -, -, r1, -, -, r4, -⟩ := hm
  have key : ∀ k i a, i + k = N → Rn G 163 4 [some (.ref m), some (.int (nI p)), some (.int a), some (.int (nI i))] [] (MM μ m x.1 x.2) Q = Q (.inl (some (.int (zCosts x.1 p k i a)))) (MM μ m x.1 x.2) := by
    intro k
    induction k with
    | zero =>
      intro i a hi
      have h2 : N ≤ i := by omega
      rw [q163_4]
      simp (disch := first | assumption | (simp only [MM_Kd, rI_Kd, rJ_Kd, sI_Kd, sJ_Kd, sR_Kd, SV_Kd]; assumption) | omega | decide) only [q163_0, q163_1, q163_2, q163_3, q163_5, q163_5N, q163_6, q163_9, q163_10, q163_12, q163_15, q163_15T, q163_16, q163_19, q163_20, q163_20N, q163_21, q163_22, q163_23, q163_26, q163_27, q163_28, q163_31, q163_34, q163_35, s112_10, hl, nI_leI, h2, zCosts, MM_Kd, MM_Ln, MM_R, MM_I, MM_J, MM_sI, MM_sJ, r1, n1, r4, n4, xaf_s, xaf_v, va_rf_s, xix_n, nI_clamp, xk1_i, xk1_a, xk1_u, xk1_n, xk1_l, xk1_d, true_and, and_true, ↓reduceIte, Nat.reduceAdd, xtup]
    | succ k ih =>
      intro i a hi
      have h2 : ¬ N ≤ i := by omega
      have h123 := fun Q => s123 (G := G) (Q := Q) (μ := MM μ m x.1 x.2) hm0 hp (k := i) (by omega)
      rw [MM_I] at h123
      rw [q163_4]
      simp (disch := first | assumption | (simp only [MM_Kd, rI_Kd, rJ_Kd, sI_Kd, sJ_Kd, sR_Kd, SV_Kd]; assumption) | omega | decide) only [q163_0, q163_1, q163_2, q163_3, q163_5, q163_5N, q163_6, q163_9, q163_10, q163_12, q163_15, q163_15T, q163_16, q163_19, q163_20, q163_20N, q163_21, q163_22, q163_23, q163_26, q163_27, q163_28, q163_31, q163_34, q163_35, s112_10, hl, nI_leI, h2, h123, nI_1, zCosts, MM_Kd, MM_Ln, MM_R, MM_I, MM_J, MM_sI, MM_sJ, r1, n1, r4, n4, xaf_s, xaf_v, va_rf_s, xix_n, nI_clamp, xk1_i, xk1_a, xk1_u, xk1_n, xk1_l, xk1_d, true_and, and_true, ↓reduceIte, Nat.reduceAdd, xtup]
      exact ih (i + 1) _ (by omega)
  show Rn G 163 0 [some (.ref m), some (.int (nI p)), none, none] [] (MM μ m x.1 x.2) Q = _
  simp only [q163_0, q163_1, q163_2, q163_3, xk1_i]
  exact key N 0 0 (by omega)
theorem q164_s {w : Nat} (hw : w < 12) {l0 l1 l2 : Option Value} {st : List Value} : Rn G 164 1 [l0, l1, l2] (.int (nI w) :: st) μ Q = if w = 8 then Rn G 164 28 [l0, l1, l2] st μ Q else if w = 11 then Rn G 164 59 [l0, l1, l2] st μ Q else Rn G 164 65 [l0, l1, l2] st μ Q := by
  have : w = 0 ∨ w = 1 ∨ w = 2 ∨ w = 3 ∨ w = 4 ∨ w = 5 ∨ w = 6 ∨ w = 7 ∨ w = 8 ∨ w = 9 ∨ w = 10 ∨ w = 11 := by omega
  rcases this with rfl | rfl | rfl | rfl | rfl | rfl | rfl | rfl | rfl | rfl | rfl | rfl
  · exact q164_1c0
  · exact q164_1c1
  · exact q164_1c2
  · exact q164_1c3
  · exact q164_1c4
  · exact q164_1c5
  · exact q164_1c6
  · exact q164_1c7
  · exact q164_1c8
  · exact q164_1c9
  · exact q164_1c10
  · exact q164_1c11
theorem s164 (hm : MS μ m) (hp : p < 8) {w S lo hi : Nat} (hh : hi - lo < 62) (hG : GI x.1 g n F) (hM : MI (mw x.1 p) S lo hi) (hw : w < 12) : Cn G 164 [.ref m, .int (nI p), .int (nI w)] (MM μ m x.1 x.2) Q = Q (.inl (some (.int (vMem x.1 p w)))) (MM μ m x.1 x.2) := by
  have hm0 := hm
  obtain ⟨k0, ⟨k1, n1⟩, -, -, ⟨k4, n4⟩, -, -, -, r1, -, -, r4, -⟩ := hm
  obtain ⟨d1, d2, d3, d4, -⟩ := hM.at (by omega)
  have h163 := fun Q => s163 (G := G) (Q := Q) (x := x) hm0 hp d4 (by omega)
  have h138 := fun Q => s138 (G := G) (Q := Q) (x := x) hm0 hp
  have h125 := fun Q => s125 (G := G) (Q := Q) (s := x.1) (σ := x.2) hm0 hp (share_ne hG) 0 0 0
  show Rn G 164 0 [some (.ref m), some (.int (nI p)), some (.int (nI w))] [] (MM μ m x.1 x.2) Q = _
  unfold vMem
  by_cases h8 : w = 8
  · subst h8
    by_cases h7 : x.1 (19 + 75 * p + 7) = 1
    · simp (disch := first | assumption | (simp only [MM_Kd, rI_Kd, rJ_Kd, sI_Kd, sJ_Kd, sR_Kd, SV_Kd]; assumption) | omega | decide) only [q164_0, q164_28, q164_28N, q164_29, q164_30, q164_33, q164_36, q164_36N, q164_37, q164_40, q164_41, q164_43, q164_46, q164_46T, q164_47, q164_50, q164_50N, q164_51, q164_52, q164_53, q164_54, q164_55, q164_58, q164_59, q164_59N, q164_60, q164_61, q164_64, q164_65, q164_65N, q164_66, q164_69, q164_70, q164_71, q164_74, q164_74T, q164_75, q164_s, h138, eq_true h7, c10, s112_8, MM_Kd, MM_Ln, MM_R, MM_I, MM_J, MM_sI, MM_sJ, r1, n1, r4, n4, xaf_s, xaf_v, va_rf_s, xix_n, nI_clamp, xk1_i, xk1_a, xk1_u, xk1_n, xk1_l, xk1_d, true_and, and_true, ↓reduceIte, Nat.reduceAdd, xtup]
    · simp (disch := first | assumption | (simp only [MM_Kd, rI_Kd, rJ_Kd, sI_Kd, sJ_Kd, sR_Kd, SV_Kd]; assumption) | omega | decide) only [q164_0, q164_28, q164_28N, q164_29, q164_30, q164_33, q164_36, q164_36N, q164_37, q164_40, q164_41, q164_43, q164_46, q164_46T, q164_47, q164_50, q164_50N, q164_51, q164_52, q164_53, q164_54, q164_55, q164_58, q164_59, q164_59N, q164_60, q164_61, q164_64, q164_65, q164_65N, q164_66, q164_69, q164_70, q164_71, q164_74, q164_74T, q164_75, q164_s, h138, h125, h7, s112_8, MM_Kd, MM_Ln, MM_R, MM_I, MM_J, MM_sI, MM_sJ, r1, n1, r4, n4, xaf_s, xaf_v, va_rf_s, xix_n, nI_clamp, xk1_i, xk1_a, xk1_u, xk1_n, xk1_l, xk1_d, true_and, and_true, ↓reduceIte, Nat.reduceAdd, xtup]
  · by_cases h11 : w = 11
    · subst h11
      simp (disch := first | assumption | (simp only [MM_Kd, rI_Kd, rJ_Kd, sI_Kd, sJ_Kd, sR_Kd, SV_Kd]; assumption) | omega | decide) only [q164_0, q164_28, q164_28N, q164_29, q164_30, q164_33, q164_36, q164_36N, q164_37, q164_40, q164_41, q164_43, q164_46, q164_46T, q164_47, q164_50, q164_50N, q164_51, q164_52, q164_53, q164_54, q164_55, q164_58, q164_59, q164_59N, q164_60, q164_61, q164_64, q164_65, q164_65N, q164_66, q164_69, q164_70, q164_71, q164_74, q164_74T, q164_75, q164_s, h163, h8, MM_Kd, MM_Ln, MM_R, MM_I, MM_J, MM_sI, MM_sJ, r1, n1, r4, n4, xaf_s, xaf_v, va_rf_s, xix_n, nI_clamp, xk1_i, xk1_a, xk1_u, xk1_n, xk1_l, xk1_d, true_and, and_true, ↓reduceIte, Nat.reduceAdd, xtup]
    · simp (disch := first | assumption | (simp only [MM_Kd, rI_Kd, rJ_Kd, sI_Kd, sJ_Kd, sR_Kd, SV_Kd]; assumption) | omega | decide) only [q164_0, q164_28, q164_28N, q164_29, q164_30, q164_33, q164_36, q164_36N, q164_37, q164_40, q164_41, q164_43, q164_46, q164_46T, q164_47, q164_50, q164_50N, q164_51, q164_52, q164_53, q164_54, q164_55, q164_58, q164_59, q164_59N, q164_60, q164_61, q164_64, q164_65, q164_65N, q164_66, q164_69, q164_70, q164_71, q164_74, q164_74T, q164_75, q164_s, h8, h11, s112, MM_Kd, MM_Ln, MM_R, MM_I, MM_J, MM_sI, MM_sJ, r1, n1, r4, n4, xaf_s, xaf_v, va_rf_s, xix_n, nI_clamp, xk1_i, xk1_a, xk1_u, xk1_n, xk1_l, xk1_d, true_and, and_true, ↓reduceIte, Nat.reduceAdd, xtup]
theorem s165 (hm : MS μ m) {S lo hi : Nat} (hh : hi - lo < 62) (hG : GI x.1 g n F) (hM : ∀ p, p < n → MI (mw x.1 p) S lo hi) (pl what : Int32) : Cn G 165 [.ref m, .int pl, .int what] (MM μ m x.1 x.2) Q = if pl < 0 ∨ bad what 0 11 then Q (.inl (some (.int 0))) (MM (xsI μ m 0 1) m x.1 x.2) else if x.1 2 ≤ pl then Q (.inl (some (.int (-1)))) (MM (xsI μ m 0 0) m x.1 x.2) else Q (.inl (some (.int (vMem x.1 pl.toNatClampNeg what.toNatClampNeg)))) (MM (xsI μ m 0 0) m x.1 x.2) := by
  have hm0 := hm
  obtain ⟨k0, ⟨k1, n1⟩, -, -, ⟨k4, n4⟩, -, -, -, r1, -, -, r4, -⟩ := hm
  have hn8 := hG.2.2.1
  show Rn G 165 0 [some (.ref m), some (.int pl), some (.int what)] [] (MM μ m x.1 x.2) Q = _
  by_cases h1 : pl < 0
  · simp (disch := first | assumption | (simp only [MM_Kd, rI_Kd, rJ_Kd, sI_Kd, sJ_Kd, sR_Kd, SV_Kd]; assumption) | omega | decide) only [q165_0, q165_0N, q165_1, q165_2, q165_5, q165_6, q165_7, q165_9, q165_12, q165_15, q165_16, q165_19, q165_20, q165_23, q165_26, q165_27, q165_28, q165_29, q165_29N, q165_30, q165_33, q165_34, q165_34T, q165_35, q165_38, q165_38N, q165_39, q165_40, q165_41, q165_44, q165_47, q165_48, s114' hm0, h1, c10, not_true_eq_false, not_false_eq_true, true_or, MM_Kd, MM_Ln, MM_R, MM_I, MM_J, MM_sI, MM_sJ, r1, n1, r4, n4, xaf_s, xaf_v, va_rf_s, xix_n, nI_clamp, xk1_i, xk1_a, xk1_u, xk1_n, xk1_l, xk1_d, true_and, and_true, ↓reduceIte, Nat.reduceAdd, xtup]
  · by_cases h2 : bad what 0 11
    · simp (disch := first | assumption | (simp only [MM_Kd, rI_Kd, rJ_Kd, sI_Kd, sJ_Kd, sR_Kd, SV_Kd]; assumption) | omega | decide) only [q165_0, q165_0N, q165_1, q165_2, q165_5, q165_6, q165_7, q165_9, q165_12, q165_15, q165_16, q165_19, q165_20, q165_23, q165_26, q165_27, q165_28, q165_29, q165_29N, q165_30, q165_33, q165_34, q165_34T, q165_35, q165_38, q165_38N, q165_39, q165_40, q165_41, q165_44, q165_47, q165_48, s110, in_0 h2, s114' hm0, h1, h2, c10, not_true_eq_false, not_false_eq_true, or_true, MM_Kd, MM_Ln, MM_R, MM_I, MM_J, MM_sI, MM_sJ, r1, n1, r4, n4, xaf_s, xaf_v, va_rf_s, xix_n, nI_clamp, xk1_i, xk1_a, xk1_u, xk1_n, xk1_l, xk1_d, true_and, and_true, ↓reduceIte, Nat.reduceAdd, xtup]
    · obtain ⟨w, -, hw, rfl⟩ := rng (v := what) (lo := 0) (hi := 11) (by omega) (by omega) h2
      obtain ⟨P, hP, rfl⟩ := i_pos h1
      have e2 := hG.2.1
      by_cases h3 : n ≤ P
      · simp (disch := first | assumption | (simp only [MM_Kd, rI_Kd, rJ_Kd, sI_Kd, sJ_Kd, sR_Kd, SV_Kd]; assumption) | omega | decide) only [q165_0, q165_0N, q165_1, q165_2, q165_5, q165_6, q165_7, q165_9, q165_12, q165_15, q165_16, q165_19, q165_20, q165_23, q165_26, q165_27, q165_28, q165_29, q165_29N, q165_30, q165_33, q165_34, q165_34T, q165_35, q165_38, q165_38N, q165_39, q165_40, q165_41, q165_44, q165_47, q165_48, s110, in_1 h2, s114' hm0, h1, h2, xl2, nc2, e2, nI_leI, h3, c10, c00, not_true_eq_false, not_false_eq_true, or_false, rI_Kd, rI_Ln, rI_R, rI_J, rJ_Kd, rJ_Ln, rJ_R, rJ_I, sI_Kd, sI_Ln, sI_R, sI_J, sJ_Kd, sJ_Ln, sJ_R, sJ_I, sR_Kd, sR_Ln, sR_I, sR_J, MM_Kd, MM_Ln, MM_R, MM_I, MM_J, MM_sI, MM_sJ, r1, n1, r4, n4, xaf_s, xaf_v, va_rf_s, xix_n, nI_clamp, xk1_i, xk1_a, xk1_u, xk1_n, xk1_l, xk1_d, true_and, and_true, ↓reduceIte, Nat.reduceAdd, xtup]
      · have h164 := fun Q => s164 (G := G) (Q := Q) (μ := xsI μ m 0 0) (x := x) hm0 (p := P) (by omega) (w := w) hh hG (hM P (by omega)) (by omega)
        simp (disch := first | assumption | (simp only [MM_Kd, rI_Kd, rJ_Kd, sI_Kd, sJ_Kd, sR_Kd, SV_Kd]; assumption) | omega | decide) only [q165_0, q165_0N, q165_1, q165_2, q165_5, q165_6, q165_7, q165_9, q165_12, q165_15, q165_16, q165_19, q165_20, q165_23, q165_26, q165_27, q165_28, q165_29, q165_29N, q165_30, q165_33, q165_34, q165_34T, q165_35, q165_38, q165_38N, q165_39, q165_40, q165_41, q165_44, q165_47, q165_48, s110, in_1 h2, s114' hm0, h164, h1, h2, xl2, nc2, e2, nI_leI, h3, c10, c00, not_true_eq_false, not_false_eq_true, or_false, rI_Kd, rI_Ln, rI_R, rI_J, rJ_Kd, rJ_Ln, rJ_R, rJ_I, sI_Kd, sI_Ln, sI_R, sI_J, sJ_Kd, sJ_Ln, sJ_R, sJ_I, sR_Kd, sR_Ln, sR_I, sR_J, MM_Kd, MM_Ln, MM_R, MM_I, MM_J, MM_sI, MM_sJ, r1, n1, r4, n4, xaf_s, xaf_v, va_rf_s, xix_n, nI_clamp, xk1_i, xk1_a, xk1_u, xk1_n, xk1_l, xk1_d, true_and, and_true, ↓reduceIte, Nat.reduceAdd, xtup]
theorem s166 (hm : MS μ m) (hp : p < 8) {k w : Nat} (hk : k < 64) (hw : w < 4) : Cn G 166 [.ref m, .int (nI p), .int (nI k), .int (nI w)] (MM μ m x.1 x.2) Q = Q (.inl (some (.int (vLate x.1 p k w)))) (MM μ m x.1 x.2) := by
  have hm0 := hm
  obtain ⟨k0, ⟨k1, n1⟩, -, -, ⟨k4, n4⟩, -, -, -, r1, -, -, r4, -⟩ := hm
  have h120 := fun Q => s120 (G := G) (Q := Q) (μ := MM μ m x.1 x.2) hm0 hp hk
  have h121 := fun Q => s121 (G := G) (Q := Q) (μ := MM μ m x.1 x.2) hm0 hp hk
  have h122 := fun Q => s122 (G := G) (Q := Q) (μ := MM μ m x.1 x.2) hm0 hp hk
  have h123 := fun Q => s123 (G := G) (Q := Q) (μ := MM μ m x.1 x.2) hm0 hp hk
  rw [MM_I] at h120 h121 h122 h123
  have w0 : (nI w = (0 : Int32)) = (w = 0) := nI_eqk w 0 (by omega) (by omega)
  have w1 : (nI w = (1 : Int32)) = (w = 1) := nI_eqk w 1 (by omega) (by omega)
  have w2 : (nI w = (2 : Int32)) = (w = 2) := nI_eqk w 2 (by omega) (by omega)
  show Rn G 166 0 [some (.ref m), some (.int (nI p)), some (.int (nI k)), some (.int (nI w))] [] (MM μ m x.1 x.2) Q = _
  unfold vLate
  by_cases e0 : w = 0
  · simp (disch := first | assumption | (simp only [MM_Kd, rI_Kd, rJ_Kd, sI_Kd, sJ_Kd, sR_Kd, SV_Kd]; assumption) | omega | decide) only [q166_0, q166_1, q166_4, q166_4N, q166_5, q166_6, q166_7, q166_10, q166_13, q166_14, q166_15, q166_18, q166_18N, q166_19, q166_20, q166_21, q166_24, q166_27, q166_28, q166_29, q166_32, q166_32N, q166_33, q166_34, q166_35, q166_38, q166_41, q166_41N, q166_42, q166_43, q166_44, q166_47, w0, h120, eq_true e0, not_true_eq_false, MM_Kd, MM_Ln, MM_R, MM_I, MM_J, MM_sI, MM_sJ, r1, n1, r4, n4, xaf_s, xaf_v, va_rf_s, xix_n, nI_clamp, xk1_i, xk1_a, xk1_u, xk1_n, xk1_l, xk1_d, true_and, and_true, ↓reduceIte, Nat.reduceAdd, xtup]
  · by_cases e1 : w = 1
    · simp (disch := first | assumption | (simp only [MM_Kd, rI_Kd, rJ_Kd, sI_Kd, sJ_Kd, sR_Kd, SV_Kd]; assumption) | omega | decide) only [q166_0, q166_1, q166_4, q166_4N, q166_5, q166_6, q166_7, q166_10, q166_13, q166_14, q166_15, q166_18, q166_18N, q166_19, q166_20, q166_21, q166_24, q166_27, q166_28, q166_29, q166_32, q166_32N, q166_33, q166_34, q166_35, q166_38, q166_41, q166_41N, q166_42, q166_43, q166_44, q166_47, w0, w1, h122, e0, eq_true e1, not_true_eq_false, not_false_eq_true, MM_Kd, MM_Ln, MM_R, MM_I, MM_J, MM_sI, MM_sJ, r1, n1, r4, n4, xaf_s, xaf_v, va_rf_s, xix_n, nI_clamp, xk1_i, xk1_a, xk1_u, xk1_n, xk1_l, xk1_d, true_and, and_true, ↓reduceIte, Nat.reduceAdd, xtup]
    · by_cases e2 : w = 2
      · simp (disch := first | assumption | (simp only [MM_Kd, rI_Kd, rJ_Kd, sI_Kd, sJ_Kd, sR_Kd, SV_Kd]; assumption) | omega | decide) only [q166_0, q166_1, q166_4, q166_4N, q166_5, q166_6, q166_7, q166_10, q166_13, q166_14, q166_15, q166_18, q166_18N, q166_19, q166_20, q166_21, q166_24, q166_27, q166_28, q166_29, q166_32, q166_32N, q166_33, q166_34, q166_35, q166_38, q166_41, q166_41N, q166_42, q166_43, q166_44, q166_47, w0, w1, w2, h121, e0, e1, eq_true e2, not_true_eq_false, not_false_eq_true, MM_Kd, MM_Ln, MM_R, MM_I, MM_J, MM_sI, MM_sJ, r1, n1, r4, n4, xaf_s, xaf_v, va_rf_s, xix_n, nI_clamp, xk1_i, xk1_a, xk1_u, xk1_n, xk1_l, xk1_d, true_and, and_true, ↓reduceIte, Nat.reduceAdd, xtup]
      · simp (disch := first | assumption | (simp only [MM_Kd, rI_Kd, rJ_Kd, sI_Kd, sJ_Kd, sR_Kd, SV_Kd]; assumption) | omega | decide) only [q166_0, q166_1, q166_4, q166_4N, q166_5, q166_6, q166_7, q166_10, q166_13, q166_14, q166_15, q166_18, q166_18N, q166_19, q166_20, q166_21, q166_24, q166_27, q166_28, q166_29, q166_32, q166_32N, q166_33, q166_34, q166_35, q166_38, q166_41, q166_41N, q166_42, q166_43, q166_44, q166_47, w0, w1, w2, h123, e0, e1, e2, not_false_eq_true, MM_Kd, MM_Ln, MM_R, MM_I, MM_J, MM_sI, MM_sJ, r1, n1, r4, n4, xaf_s, xaf_v, va_rf_s, xix_n, nI_clamp, xk1_i, xk1_a, xk1_u, xk1_n, xk1_l, xk1_d, true_and, and_true, ↓reduceIte, Nat.reduceAdd, xtup]
theorem s167 (hm : MS μ m) {S lo hi : Nat} (hh : hi - lo < 62) (hG : GI x.1 g n F) (hM : ∀ p, p < n → MI (mw x.1 p) S lo hi) (id late what : Int32) : Cn G 167 [.ref m, .int id, .int late, .int what] (MM μ m x.1 x.2) Q = if pFind x.1 id = -1 then Q (.inl (some (.int 0))) (MM (xsI μ m 0 1) m x.1 x.2) else if late < 0 ∨ bad what 0 3 then Q (.inl (some (.int 0))) (MM (xsI μ m 0 2) m x.1 x.2) else if x.1 (19 + 75 * (pFind x.1 id).toNatClampNeg + 10) ≤ late then Q (.inl (some (.int (-1)))) (MM (xsI μ m 0 0) m x.1 x.2) else Q (.inl (some (.int (vLate x.1 (pFind x.1 id).toNatClampNeg late.toNatClampNeg what.toNatClampNeg)))) (MM (xsI μ m 0 0) m x.1 x.2) := by
  have hm0 := hm
  obtain ⟨k0, ⟨k1, n1⟩, -, -, ⟨k4, n4⟩, -, -, -, r1, -, -, r4, -⟩ := hm
  have hn8 := hG.2.2.1
  show Rn G 167 0 [some (.ref m), some (.int id), some (.int late), some (.int what), none] [] (MM μ m x.1 x.2) Q = _
  rcases pFind_of hG id with hp | ⟨p, hpn, hp, -⟩
  · simp (disch := first | assumption | (simp only [MM_Kd, rI_Kd, rJ_Kd, sI_Kd, sJ_Kd, sR_Kd, SV_Kd]; assumption) | omega | decide) only [q167_0, q167_0N, q167_1, q167_2, q167_5, q167_7, q167_7N, q167_8, q167_10, q167_11, q167_14, q167_15, q167_18, q167_19, q167_22, q167_23, q167_24, q167_25, q167_28, q167_31, q167_32, q167_35, q167_36, q167_39, q167_42, q167_43, q167_44, q167_45, q167_45N, q167_46, q167_49, q167_51, q167_53, q167_56, q167_56T, q167_57, q167_60, q167_60N, q167_61, q167_63, q167_64, q167_65, q167_68, q167_71, q167_72, s113' hm0 hG, hp, s114' hm0, cmm, c10, not_true_eq_false, not_false_eq_true, MM_Kd, MM_Ln, MM_R, MM_I, MM_J, MM_sI, MM_sJ, r1, n1, r4, n4, xaf_s, xaf_v, va_rf_s, xix_n, nI_clamp, xk1_i, xk1_a, xk1_u, xk1_n, xk1_l, xk1_d, true_and, and_true, ↓reduceIte, Nat.reduceAdd, xtup]
  · have hne := eq_false (nI_ne1 (p := p) (by omega))
    by_cases h1 : late < 0
    · simp (disch := first | assumption | (simp only [MM_Kd, rI_Kd, rJ_Kd, sI_Kd, sJ_Kd, sR_Kd, SV_Kd]; assumption) | omega | decide) only [q167_0, q167_0N, q167_1, q167_2, q167_5, q167_7, q167_7N, q167_8, q167_10, q167_11, q167_14, q167_15, q167_18, q167_19, q167_22, q167_23, q167_24, q167_25, q167_28, q167_31, q167_32, q167_35, q167_36, q167_39, q167_42, q167_43, q167_44, q167_45, q167_45N, q167_46, q167_49, q167_51, q167_53, q167_56, q167_56T, q167_57, q167_60, q167_60N, q167_61, q167_63, q167_64, q167_65, q167_68, q167_71, q167_72, s113' hm0 hG, hp, hne, s114' hm0, h1, c20, not_true_eq_false, not_false_eq_true, true_or, MM_Kd, MM_Ln, MM_R, MM_I, MM_J, MM_sI, MM_sJ, r1, n1, r4, n4, xaf_s, xaf_v, va_rf_s, xix_n, nI_clamp, xk1_i, xk1_a, xk1_u, xk1_n, xk1_l, xk1_d, true_and, and_true, ↓reduceIte, Nat.reduceAdd, xtup]
    · by_cases h2 : bad what 0 3
      · simp (disch := first | assumption | (simp only [MM_Kd, rI_Kd, rJ_Kd, sI_Kd, sJ_Kd, sR_Kd, SV_Kd]; assumption) | omega | decide) only [q167_0, q167_0N, q167_1, q167_2, q167_5, q167_7, q167_7N, q167_8, q167_10, q167_11, q167_14, q167_15, q167_18, q167_19, q167_22, q167_23, q167_24, q167_25, q167_28, q167_31, q167_32, q167_35, q167_36, q167_39, q167_42, q167_43, q167_44, q167_45, q167_45N, q167_46, q167_49, q167_51, q167_53, q167_56, q167_56T, q167_57, q167_60, q167_60N, q167_61, q167_63, q167_64, q167_65, q167_68, q167_71, q167_72, s113' hm0 hG, hp, hne, s110, in_0 h2, s114' hm0, h1, h2, c20, not_true_eq_false, not_false_eq_true, or_true, MM_Kd, MM_Ln, MM_R, MM_I, MM_J, MM_sI, MM_sJ, r1, n1, r4, n4, xaf_s, xaf_v, va_rf_s, xix_n, nI_clamp, xk1_i, xk1_a, xk1_u, xk1_n, xk1_l, xk1_d, true_and, and_true, ↓reduceIte, Nat.reduceAdd, xtup]
      · obtain ⟨w, -, hw, rfl⟩ := rng (v := what) (lo := 0) (hi := 3) (by omega) (by omega) h2
        obtain ⟨P, hP, rfl⟩ := i_pos h1
        obtain ⟨d1, d2, d3, d4, -⟩ := (hM p hpn).at (by omega)
        by_cases h3 : zLts x.1 p ≤ P
        · simp (disch := first | assumption | (simp only [MM_Kd, rI_Kd, rJ_Kd, sI_Kd, sJ_Kd, sR_Kd, SV_Kd]; assumption) | omega | decide) only [q167_0, q167_0N, q167_1, q167_2, q167_5, q167_7, q167_7N, q167_8, q167_10, q167_11, q167_14, q167_15, q167_18, q167_19, q167_22, q167_23, q167_24, q167_25, q167_28, q167_31, q167_32, q167_35, q167_36, q167_39, q167_42, q167_43, q167_44, q167_45, q167_45N, q167_46, q167_49, q167_51, q167_53, q167_56, q167_56T, q167_57, q167_60, q167_60N, q167_61, q167_63, q167_64, q167_65, q167_68, q167_71, q167_72, s113' hm0 hG, hp, hne, s110, in_1 h2, s114' hm0, h1, h2, s112_10, d4, nI_leI, h3, c10, c00, not_true_eq_false, not_false_eq_true, or_false, rI_Kd, rI_Ln, rI_R, rI_J, rJ_Kd, rJ_Ln, rJ_R, rJ_I, sI_Kd, sI_Ln, sI_R, sI_J, sJ_Kd, sJ_Ln, sJ_R, sJ_I, sR_Kd, sR_Ln, sR_I, sR_J, MM_Kd, MM_Ln, MM_R, MM_I, MM_J, MM_sI, MM_sJ, r1, n1, r4, n4, xaf_s, xaf_v, va_rf_s, xix_n, nI_clamp, xk1_i, xk1_a, xk1_u, xk1_n, xk1_l, xk1_d, true_and, and_true, ↓reduceIte, Nat.reduceAdd, xtup]
        · have h166 := fun Q => s166 (G := G) (Q := Q) (μ := xsI μ m 0 0) (x := x) hm0 (p := p) (by omega) (k := P) (w := w) (by omega) (by omega)
          simp (disch := first | assumption | (simp only [MM_Kd, rI_Kd, rJ_Kd, sI_Kd, sJ_Kd, sR_Kd, SV_Kd]; assumption) | omega | decide) only [q167_0, q167_0N, q167_1, q167_2, q167_5, q167_7, q167_7N, q167_8, q167_10, q167_11, q167_14, q167_15, q167_18, q167_19, q167_22, q167_23, q167_24, q167_25, q167_28, q167_31, q167_32, q167_35, q167_36, q167_39, q167_42, q167_43, q167_44, q167_45, q167_45N, q167_46, q167_49, q167_51, q167_53, q167_56, q167_56T, q167_57, q167_60, q167_60N, q167_61, q167_63, q167_64, q167_65, q167_68, q167_71, q167_72, s113' hm0 hG, hp, hne, s110, in_1 h2, s114' hm0, h166, h1, h2, s112_10, d4, nI_leI, h3, c10, c00, not_true_eq_false, not_false_eq_true, or_false, rI_Kd, rI_Ln, rI_R, rI_J, rJ_Kd, rJ_Ln, rJ_R, rJ_I, sI_Kd, sI_Ln, sI_R, sI_J, sJ_Kd, sJ_Ln, sJ_R, sJ_I, sR_Kd, sR_Ln, sR_I, sR_J, MM_Kd, MM_Ln, MM_R, MM_I, MM_J, MM_sI, MM_sJ, r1, n1, r4, n4, xaf_s, xaf_v, va_rf_s, xix_n, nI_clamp, xk1_i, xk1_a, xk1_u, xk1_n, xk1_l, xk1_d, true_and, and_true, ↓reduceIte, Nat.reduceAdd, xtup]
end LK
