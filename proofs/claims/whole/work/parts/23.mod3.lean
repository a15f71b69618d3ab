/-! THE REFERENCE: A NORMAL FORM OF ITS MEMORY; A MONTH -/
def up {α : Type} (f : Nat → α) (k : Nat) (v : α) : Nat → α := fun j => if j = k then v else f j
theorem up_e {α : Type} {f : Nat → α} {k : Nat} {v : α} : up f k v k = v := if_pos rfl
theorem up_n {α : Type} {f : Nat → α} {k j : Nat} {v : α} (h : j ≠ k) : up f k v j = f j := if_neg h
/-- the reference's row and sums, written over a memory -/
def MM (μ : xMem) (m : Nat) (s : Nat → Int32) (σ : Nat → Int64) : xMem := xrJ (xrI μ (m + 1) s) (m + 4) σ
section MMS
variable {μ : xMem} {m : Nat} {s : Nat → Int32} {σ : Nat → Int64}
theorem MM_Kd : xKd (MM μ m s σ) = xKd μ := rfl
theorem MM_Ln : xLn (MM μ m s σ) = xLn μ := rfl
theorem MM_R : xR (MM μ m s σ) = xR μ := rfl
theorem MM_I : xI (MM μ m s σ) (m + 1) = s := if_pos rfl
theorem MM_J : xJ (MM μ m s σ) (m + 4) = σ := if_pos rfl
theorem MM_Io {a : Nat} (h : a ≠ m + 1) : xI (MM μ m s σ) a = xI μ a := if_neg h
theorem MM_Jo {a : Nat} (h : a ≠ m + 4) : xJ (MM μ m s σ) a = xJ μ a := if_neg h
theorem MM_ext {μ μ' : xMem} (h1 : μ.1 = μ'.1) (h2 : μ.2.1 = μ'.2.1) (h3 : ∀ a, xI μ a = xI μ' a) (h4 : ∀ a, xJ μ a = xJ μ' a) (h5 : ∀ a, xR μ a = xR μ' a) : μ = μ' := by
  obtain ⟨a, b, c, d, e⟩ := μ
  obtain ⟨a', b', c', d', e'⟩ := μ'
  have h3' : c = c' := funext h3
  have h4' : d = d' := funext h4
  have h5' : e = e' := funext h5
  simp only at h1 h2
  subst h1 h2 h3' h4' h5'
  rfl
theorem MM_self : MM μ m (xI μ (m + 1)) (xJ μ (m + 4)) = μ := by
  refine MM_ext rfl rfl ?_ ?_ ?_
  · intro a; by_cases h : a = m + 1
    · rw [h]; exact MM_I
    · exact MM_Io h
  · intro a; by_cases h : a = m + 4
    · rw [h]; exact MM_J
    · exact MM_Jo h
  · intro a; rfl
theorem MM_sI {k : Nat} {v : Int32} : xsI (MM μ m s σ) (m + 1) k v = MM μ m (up s k v) σ := by
  refine MM_ext rfl rfl ?_ ?_ ?_
  · intro a; funext j; by_cases h : a = m + 1
    · subst h; rw [MM_I, xI_sI, MM_I]; unfold up; simp
    · rw [MM_Io h, xI_sI_ne h, MM_Io h]
  · intro a; rfl
  · intro a; rfl
theorem MM_sJ {k : Nat} {v : Int64} : xsJ (MM μ m s σ) (m + 4) k v = MM μ m s (up σ k v) := by
  refine MM_ext rfl rfl ?_ ?_ ?_
  · intro a; rfl
  · intro a; funext j; by_cases h : a = m + 4
    · subst h; rw [MM_J, xJ_sJ, MM_J]; unfold up; simp
    · rw [MM_Jo h, xJ_sJ_ne h, MM_Jo h]
  · intro a; rfl
theorem MM_sIo {a k : Nat} {v : Int32} (h : a ≠ m + 1) : xsI (MM μ m s σ) a k v = MM (xsI μ a k v) m s σ := by
  refine MM_ext rfl rfl ?_ ?_ ?_
  · intro b; funext j; rw [xI_sI]; by_cases h1 : b = m + 1
    · subst h1; rw [MM_I, MM_I, if_neg (fun z => h z.1.symm)]
    · rw [MM_Io h1, MM_Io h1, xI_sI]
  · intro a; rfl
  · intro a; rfl
theorem MM_MS : MS (MM μ m s σ) m ↔ MS μ m := Iff.rfl
theorem MM_MM {s' : Nat → Int32} {σ' : Nat → Int64} : MM (MM μ m s σ) m s' σ' = MM μ m s' σ' := by
  refine MM_ext rfl rfl ?_ ?_ ?_
  · intro a; by_cases h : a = m + 1
    · subst h; rw [MM_I, MM_I]
    · rw [MM_Io h, MM_Io h, MM_Io h]
  · intro a; by_cases h : a = m + 4
    · subst h; rw [MM_J, MM_J]
    · rw [MM_Jo h, MM_Jo h, MM_Jo h]
  · intro a; rfl
end MMS
/-- k words of late months, moved down by one -/
def mSh (s : Nat → Int32) (p k : Nat) : Nat → Int32 := fun j => if 19 + 75 * p + 11 ≤ j ∧ j < 19 + 75 * p + 11 + k then s (j + 1) else s j
def mDrop (s : Nat → Int32) (p n : Nat) : Nat → Int32 := mSh (up s (19 + 75 * p + 10) (nI n)) p n
theorem mSh_n {s : Nat → Int32} {p k j : Nat} (h : ¬ (19 + 75 * p + 11 ≤ j ∧ j < 19 + 75 * p + 11 + k)) : mSh s p k j = s j := if_neg h
theorem mSh_0 {s : Nat → Int32} {p : Nat} : mSh s p 0 = s := by
  funext j; exact if_neg (by omega)
theorem mSh_1 {s : Nat → Int32} {p k : Nat} : up (mSh s p k) (19 + 75 * p + (11 + k)) (s (19 + 75 * p + (11 + k + 1))) = mSh s p (k + 1) := by
  funext j
  unfold up mSh
  by_cases h : j = 19 + 75 * p + (11 + k)
  · subst h
    rw [if_pos rfl, if_pos (by omega)]; rfl
  · rw [if_neg h]
    by_cases h2 : 19 + 75 * p + 11 ≤ j ∧ j < 19 + 75 * p + 11 + k
    · rw [if_pos h2, if_pos (by omega)]
    · rw [if_neg h2, if_neg (by omega)]
theorem nI_s1 (n : Nat) : nI (n + 1) - 1 = nI n := by
  rw [← nI_1]; simp
section MD3
variable {G : xCtx} {μ : xMem} {Q : xOut → xMem → Prop} {m p : Nat} {s : Nat → Int32} {σ : Nat → Int64}
theorem s124_loop (hm : MS μ m) (hp : p < 8) {n : Nat} (hn : s (19 + 75 * p + 10) = nI n) (h64 : n < 63) : ∀ k i, i + k = n → Rn G 124 17 [some (.ref m), some (.int (nI p)), some (.int 0), some (.int (nI i))] [] (MM μ m (mSh s p i) σ) Q = Q (.inl none) (MM μ m (mSh s p n) σ) := by
  obtain ⟨k0, ⟨k1, n1⟩, -, -, ⟨k4, n4⟩, -, -, -, r1, -, -, r4, -⟩ := hm
  intro k
  induction k with
  | zero =>
    intro i hi
    have h2 : n ≤ i := by omega
    have h3 : mSh s p i (19 + 75 * p + 10) = nI n := by rw [mSh_n (by omega), hn]
    rw [q124_17]
    simp (disch := first | assumption | (rw [MM_Kd]; assumption) | omega | decide) only [q124_0, q124_0N, q124_1, q124_4, q124_5, q124_7, q124_10, q124_11, q124_11T, q124_12, q124_13, q124_14, q124_15, q124_16, q124_18, q124_18N, q124_19, q124_22, q124_23, q124_25, q124_28, q124_28T, q124_29, q124_32, q124_32N, q124_33, q124_36, q124_37, q124_39, q124_40, q124_41, q124_44, q124_44N, q124_45, q124_48, q124_49, q124_51, q124_52, q124_53, q124_54, q124_55, q124_58, q124_58T, q124_59, q124_60, q124_63, q124_66, s112_10, MM_Kd, MM_Ln, MM_R, MM_I, MM_J, MM_sI, MM_sJ, r1, n1, r4, n4, h3, nI_leI, h2, xaf_s, xaf_v, va_rf_s, xix_n, nI_clamp, xk1_i, xk1_a, xk1_u, xk1_n, xk1_l, xk1_d, true_and, and_true, ↓reduceIte, Nat.reduceAdd, xtup]
    rw [show i = n by omega]
  | succ k ih =>
    intro i hi
    have h2 : ¬ n ≤ i := by omega
    have h3 : mSh s p i (19 + 75 * p + 10) = nI n := by rw [mSh_n (by omega), hn]
    have h4 : mSh s p i (19 + 75 * p + (11 + i + 1)) = s (19 + 75 * p + (11 + i + 1)) := mSh_n (by omega)
    rw [q124_17]
    simp (disch := first | assumption | (rw [MM_Kd]; assumption) | omega | decide) only [q124_0, q124_0N, q124_1, q124_4, q124_5, q124_7, q124_10, q124_11, q124_11T, q124_12, q124_13, q124_14, q124_15, q124_16, q124_18, q124_18N, q124_19, q124_22, q124_23, q124_25, q124_28, q124_28T, q124_29, q124_32, q124_32N, q124_33, q124_36, q124_37, q124_39, q124_40, q124_41, q124_44, q124_44N, q124_45, q124_48, q124_49, q124_51, q124_52, q124_53, q124_54, q124_55, q124_58, q124_58T, q124_59, q124_60, q124_63, q124_66, s112_10, s112, MM_Kd, MM_Ln, MM_R, MM_I, MM_J, MM_sI, MM_sJ, r1, n1, r4, n4, h3, h4, nI_leI, h2, nI_11, nI_1, mSh_1, xaf_s, xaf_v, va_rf_s, xix_n, nI_clamp, xk1_i, xk1_a, xk1_u, xk1_n, xk1_l, xk1_d, true_and, and_true, ↓reduceIte, Nat.reduceAdd, xtup]
    exact ih (i + 1) (by omega)
theorem s124 (hm : MS μ m) (hp : p < 8) {n : Nat} (hn : s (19 + 75 * p + 10) = nI (n + 1)) (h64 : n < 63) : Cn G 124 [.ref m, .int (nI p), .int 0] (MM μ m s σ) Q = Q (.inl none) (MM μ m (mDrop s p n) σ) := by
  have hm0 := hm
  obtain ⟨k0, ⟨k1, n1⟩, -, -, ⟨k4, n4⟩, -, -, -, r1, -, -, r4, -⟩ := hm
  show Rn G 124 0 [some (.ref m), some (.int (nI p)), some (.int 0), none] [] (MM μ m s σ) Q = _
  simp (disch := first | assumption | (rw [MM_Kd]; assumption) | omega | decide) only [q124_0, q124_0N, q124_1, q124_4, q124_5, q124_7, q124_10, q124_11, q124_11T, q124_12, q124_13, q124_14, q124_15, q124_16, q124_18, q124_18N, q124_19, q124_22, q124_23, q124_25, q124_28, q124_28T, q124_29, q124_32, q124_32N, q124_33, q124_36, q124_37, q124_39, q124_40, q124_41, q124_44, q124_44N, q124_45, q124_48, q124_49, q124_51, q124_52, q124_53, q124_54, q124_55, q124_58, q124_58T, q124_59, q124_60, q124_63, q124_66, s112_10, MM_Kd, MM_Ln, MM_R, MM_I, MM_J, MM_sI, MM_sJ, r1, n1, r4, n4, hn, nI_s1, xaf_s, xaf_v, va_rf_s, xix_n, nI_clamp, xk1_i, xk1_a, xk1_u, xk1_n, xk1_l, xk1_d, true_and, and_true, ↓reduceIte, Nat.reduceAdd, xtup]
  have h := s124_loop (G := G) (Q := Q) (σ := σ) hm0 hp (s := up s (19 + 75 * p + 10) (nI n)) up_e h64 n 0 (by omega)
  rw [mSh_0] at h
  exact h
theorem s126 (hm : MS μ m) (hp : p < 8) : Cn G 126 [.ref m, .int (nI p)] (MM μ m s σ) Q = Q (.inl (some (.int (s 6 - s (19 + 75 * p + 3))))) (MM μ m s σ) := by
  obtain ⟨k0, ⟨k1, n1⟩, -, -, ⟨k4, n4⟩, -, -, -, r1, -, -, r4, -⟩ := hm
  show Rn G 126 0 [some (.ref m), some (.int (nI p))] [] (MM μ m s σ) Q = _
  simp (disch := first | assumption | (rw [MM_Kd]; assumption) | omega | decide) only [q126_0, q126_0N, q126_1, q126_4, q126_6, q126_6T, q126_7, q126_7N, q126_8, q126_11, q126_12, q126_13, q126_16, q126_16T, q126_17, q126_18, s112_3, MM_Kd, MM_Ln, MM_R, MM_I, MM_J, MM_sI, MM_sJ, r1, n1, r4, n4, xl6, nc6, xaf_s, xaf_v, va_rf_s, xix_n, nI_clamp, xk1_i, xk1_a, xk1_u, xk1_n, xk1_l, xk1_d, true_and, and_true, ↓reduceIte, Nat.reduceAdd, xtup]
/-- what three sections give of a pension, from section i on -/
def mPs (s : Nat → Int32) (p : Nat) (x more : Int32) : Nat → Nat → Int32 → Int32
  | 0, _, a => a
  | k + 1, i, a => mPs s p x more k (i + 1) (a + s (19 + 75 * p + 2) * (s (19 + 75 * p + (4 + i)) + if nI i = x then more else 0) / (12 * s (10 + 3 * i + 1)))
def mPen (s : Nat → Int32) (p : Nat) (x more early : Int32) : Int32 := if early ≤ 0 then mPs s p x more 3 0 0 else mPs s p x more 3 0 0 - (4 * early.toInt64 * (mPs s p x more 3 0 0).toInt64 / 1000).toInt32
theorem s125_loop (hm : MS μ m) (hp : p < 8) (hs : ∀ k, k < 3 → ¬ 12 * s (10 + 3 * k + 1) = 0) (x more early : Int32) : ∀ k i a l7, i + k = 3 → Rn G 125 6 [some (.ref m), some (.int (nI p)), some (.int x), some (.int more), some (.int early), some (.int a), some (.int (nI i)), l7] [] (MM μ m s σ) Q = Q (.inl (some (.int (if early ≤ 0 then mPs s p x more k i a else mPs s p x more k i a - (4 * early.toInt64 * (mPs s p x more k i a).toInt64 / 1000).toInt32)))) (MM μ m s σ) := by
  obtain ⟨k0, ⟨k1, n1⟩, -, -, ⟨k4, n4⟩, -, -, -, r1, -, -, r4, -⟩ := hm
  have h3 : (3 : Int32) = nI 3 := rfl
  have h1000 : ¬ (1000 : Int64) = 0 := by decide
  intro k
  induction k with
  | zero =>
    intro i a l7 hi
    have h2 : 3 ≤ i := by omega
    by_cases he : early ≤ 0
    · rw [q125_6]
      simp (disch := first | assumption | (rw [MM_Kd]; assumption) | omega | decide) only [q125_0, q125_1, q125_3, q125_4, q125_8, q125_9, q125_12, q125_12N, q125_13, q125_16, q125_17, q125_18, q125_20, q125_21, q125_24, q125_24T, q125_25, q125_27, q125_28, q125_31, q125_32, q125_35, q125_36, q125_37, q125_39, q125_41, q125_41N, q125_42, q125_45, q125_46, q125_47, q125_50, q125_50T, q125_51, q125_53, q125_54, q125_56, q125_56N, q125_57, q125_60, q125_62, q125_63, q125_65, q125_66, q125_67, q125_68, q125_69, q125_69T, q125_70, q125_71, q125_72, q125_73, q125_75, q125_78, q125_81, q125_83, q125_86, q125_88, q125_91, q125_93, q125_94, q125_95, q125_97, q125_98, q125_99, q125_102, q125_103, q125_104, q125_105, q125_108, q125_110, h3, nI_leI, h2, he, mPs, xaf_s, xaf_v, va_rf_s, xix_n, nI_clamp, xk1_i, xk1_a, xk1_u, xk1_n, xk1_l, xk1_d, true_and, and_true, ↓reduceIte, Nat.reduceAdd, xtup]
    · rw [q125_6]
      simp (disch := first | assumption | (rw [MM_Kd]; assumption) | omega | decide) only [q125_0, q125_1, q125_3, q125_4, q125_8, q125_9, q125_12, q125_12N, q125_13, q125_16, q125_17, q125_18, q125_20, q125_21, q125_24, q125_24T, q125_25, q125_27, q125_28, q125_31, q125_32, q125_35, q125_36, q125_37, q125_39, q125_41, q125_41N, q125_42, q125_45, q125_46, q125_47, q125_50, q125_50T, q125_51, q125_53, q125_54, q125_56, q125_56N, q125_57, q125_60, q125_62, q125_63, q125_65, q125_66, q125_67, q125_68, q125_69, q125_69T, q125_70, q125_71, q125_72, q125_73, q125_75, q125_78, q125_81, q125_83, q125_86, q125_88, q125_91, q125_93, q125_94, q125_95, q125_97, q125_98, q125_99, q125_102, q125_103, q125_104, q125_105, q125_108, q125_110, h3, nI_leI, h2, he, mPs, h1000, not_false_eq_true, xaf_s, xaf_v, va_rf_s, xix_n, nI_clamp, xk1_i, xk1_a, xk1_u, xk1_n, xk1_l, xk1_d, true_and, and_true, ↓reduceIte, Nat.reduceAdd, xtup]
  | succ k ih =>
    intro i a l7 hi
    have h2 : ¬ 3 ≤ i := by omega
    have h5 := hs i (by omega)
    have e1 : (10 : Int32) + nI 3 * nI i + 1 = nI (10 + 3 * i + 1) := by rw [← nI_add, ← nI_add, ← pk_mul]; rfl
    by_cases hx : nI i = x
    · rw [q125_6]
      simp (disch := first | assumption | (rw [MM_Kd]; assumption) | omega | decide) only [q125_0, q125_1, q125_3, q125_4, q125_8, q125_9, q125_12, q125_12N, q125_13, q125_16, q125_17, q125_18, q125_20, q125_21, q125_24, q125_24T, q125_25, q125_27, q125_28, q125_31, q125_32, q125_35, q125_36, q125_37, q125_39, q125_41, q125_41N, q125_42, q125_45, q125_46, q125_47, q125_50, q125_50T, q125_51, q125_53, q125_54, q125_56, q125_56N, q125_57, q125_60, q125_62, q125_63, q125_65, q125_66, q125_67, q125_68, q125_69, q125_69T, q125_70, q125_71, q125_72, q125_73, q125_75, q125_78, q125_81, q125_83, q125_86, q125_88, q125_91, q125_93, q125_94, q125_95, q125_97, q125_98, q125_99, q125_102, q125_103, q125_104, q125_105, q125_108, q125_110, s112, s112_2, MM_Kd, MM_Ln, MM_R, MM_I, MM_J, MM_sI, MM_sJ, r1, n1, r4, n4, h3, nI_leI, h2, nI_4, e1, eq_true hx, h5, nI_1, not_true_eq_false, not_false_eq_true, xaf_s, xaf_v, va_rf_s, xix_n, nI_clamp, xk1_i, xk1_a, xk1_u, xk1_n, xk1_l, xk1_d, true_and, and_true, ↓reduceIte, Nat.reduceAdd, xtup]
      rw [ih (i + 1) _ _ (by omega)]
      simp only [mPs, hx, ↓reduceIte]
    · rw [q125_6]
      simp (disch := first | assumption | (rw [MM_Kd]; assumption) | omega | decide) only [q125_0, q125_1, q125_3, q125_4, q125_8, q125_9, q125_12, q125_12N, q125_13, q125_16, q125_17, q125_18, q125_20, q125_21, q125_24, q125_24T, q125_25, q125_27, q125_28, q125_31, q125_32, q125_35, q125_36, q125_37, q125_39, q125_41, q125_41N, q125_42, q125_45, q125_46, q125_47, q125_50, q125_50T, q125_51, q125_53, q125_54, q125_56, q125_56N, q125_57, q125_60, q125_62, q125_63, q125_65, q125_66, q125_67, q125_68, q125_69, q125_69T, q125_70, q125_71, q125_72, q125_73, q125_75, q125_78, q125_81, q125_83, q125_86, q125_88, q125_91, q125_93, q125_94, q125_95, q125_97, q125_98, q125_99, q125_102, q125_103, q125_104, q125_105, q125_108, q125_110, s112, s112_2, MM_Kd, MM_Ln, MM_R, MM_I, MM_J, MM_sI, MM_sJ, r1, n1, r4, n4, h3, nI_leI, h2, nI_4, e1, hx, h5, nI_1, not_true_eq_false, not_false_eq_true, xaf_s, xaf_v, va_rf_s, xix_n, nI_clamp, xk1_i, xk1_a, xk1_u, xk1_n, xk1_l, xk1_d, true_and, and_true, ↓reduceIte, Nat.reduceAdd, xtup]
      rw [ih (i + 1) _ _ (by omega)]
      simp only [mPs, hx, ↓reduceIte]
theorem s125 (hm : MS μ m) (hp : p < 8) (hs : ∀ k, k < 3 → ¬ 12 * s (10 + 3 * k + 1) = 0) (x more early : Int32) : Cn G 125 [.ref m, .int (nI p), .int x, .int more, .int early] (MM μ m s σ) Q = Q (.inl (some (.int (mPen s p x more early)))) (MM μ m s σ) := by
  show Rn G 125 0 [some (.ref m), some (.int (nI p)), some (.int x), some (.int more), some (.int early), none, none, none] [] (MM μ m s σ) Q = _
  simp only [q125_0, q125_1, q125_3, q125_4, xaf_s, xaf_v, va_rf_s, xix_n, nI_clamp, xk1_i, xk1_a, xk1_u, xk1_n, xk1_l, xk1_d, true_and, and_true, ↓reduceIte, Nat.reduceAdd, xtup]
  exact s125_loop hm hp hs x more early 3 0 0 none (by omega)
end MD3
