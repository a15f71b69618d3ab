/-! THE REFERENCE: COPIES OF ITS STATE -/
/-- the first k of f, written from place o on over g -/
def cpy {α : Type} (f g : Nat → α) (o k : Nat) : Nat → α := fun j => if o ≤ j ∧ j < o + k then f (j - o) else g j
theorem cpy_0 {α : Type} {f g : Nat → α} {o : Nat} : cpy f g o 0 = g := by
  funext j; exact if_neg (by omega)
theorem cpy_1 {α : Type} {f g : Nat → α} {o k : Nat} : up (cpy f g o k) (o + k) (f k) = cpy f g o (k + 1) := by
  funext j
  unfold up cpy
  by_cases h : j = o + k
  · subst h
    rw [if_pos rfl, if_pos (by omega), show o + k - o = k by omega]
  · rw [if_neg h]
    by_cases h2 : o ≤ j ∧ j < o + k
    · rw [if_pos h2, if_pos (by omega)]
    · rw [if_neg h2, if_neg (by omega)]
theorem cpy_1' {α : Type} {f g : Nat → α} {k : Nat} : up (cpy f g 0 k) k (f k) = cpy f g 0 (k + 1) := by
  have h := cpy_1 (f := f) (g := g) (o := 0) (k := k)
  rw [Nat.zero_add] at h; exact h
theorem cpy_o {α : Type} {f g : Nat → α} {o k j : Nat} (h : ¬ (o ≤ j ∧ j < o + k)) : cpy f g o k j = g j := if_neg h
theorem cpy_i {α : Type} {f g : Nat → α} {o k j : Nat} (h : j < k) : cpy f g o k (o + j) = f j := by
  unfold cpy; rw [if_pos (by omega), show o + j - o = j by omega]
theorem cpy_i' {α : Type} {f g : Nat → α} {k j : Nat} (h : j < k) : cpy f g 0 k j = f j := by
  unfold cpy; rw [if_pos (by omega)]; rfl
section RWS
variable {μ : xMem} {a b : Nat} {f : Nat → Int32} {F : Nat → Int64}
theorem rI_Kd : xKd (xrI μ a f) = xKd μ := rfl
theorem rI_Ln : xLn (xrI μ a f) = xLn μ := rfl
theorem rI_R : xR (xrI μ a f) = xR μ := rfl
theorem rI_J : xJ (xrI μ a f) = xJ μ := rfl
theorem rJ_Kd : xKd (xrJ μ a F) = xKd μ := rfl
theorem rJ_Ln : xLn (xrJ μ a F) = xLn μ := rfl
theorem rJ_R : xR (xrJ μ a F) = xR μ := rfl
theorem rJ_I : xI (xrJ μ a F) = xI μ := rfl
theorem rI_e : xI (xrI μ a f) a = f := if_pos rfl
theorem rI_n (h : b ≠ a) : xI (xrI μ a f) b = xI μ b := if_neg h
theorem rJ_e : xJ (xrJ μ a F) a = F := if_pos rfl
theorem rJ_n (h : b ≠ a) : xJ (xrJ μ a F) b = xJ μ b := if_neg h
theorem sI_Kd {k : Nat} {v : Int32} : xKd (xsI μ a k v) = xKd μ := rfl
theorem sI_Ln {k : Nat} {v : Int32} : xLn (xsI μ a k v) = xLn μ := rfl
theorem sI_R {k : Nat} {v : Int32} : xR (xsI μ a k v) = xR μ := rfl
theorem sI_J {k : Nat} {v : Int32} : xJ (xsI μ a k v) = xJ μ := rfl
theorem sJ_Kd {k : Nat} {v : Int64} : xKd (xsJ μ a k v) = xKd μ := rfl
theorem sJ_Ln {k : Nat} {v : Int64} : xLn (xsJ μ a k v) = xLn μ := rfl
theorem sJ_R {k : Nat} {v : Int64} : xR (xsJ μ a k v) = xR μ := rfl
theorem sJ_I {k : Nat} {v : Int64} : xI (xsJ μ a k v) = xI μ := rfl
theorem sR_Kd {k : Nat} {v : Option Nat} : xKd (xsR μ a k v) = xKd μ := rfl
theorem sR_Ln {k : Nat} {v : Option Nat} : xLn (xsR μ a k v) = xLn μ := rfl
theorem sR_I {k : Nat} {v : Option Nat} : xI (xsR μ a k v) = xI μ := rfl
theorem sR_J {k : Nat} {v : Option Nat} : xJ (xsR μ a k v) = xJ μ := rfl
theorem sI_e {k : Nat} {v : Int32} : xI (xsI μ a k v) a k = v := if_pos ⟨rfl, rfl⟩
theorem sI_k {k j : Nat} {v : Int32} (h : j ≠ k) : xI (xsI μ a k v) a j = xI μ a j := if_neg fun z => h z.2
theorem sI_n {k : Nat} {v : Int32} (h : b ≠ a) : xI (xsI μ a k v) b = xI μ b := xI_sI_ne h
theorem sJ_e {k : Nat} {v : Int64} : xJ (xsJ μ a k v) a k = v := if_pos ⟨rfl, rfl⟩
theorem sJ_k {k j : Nat} {v : Int64} (h : j ≠ k) : xJ (xsJ μ a k v) a j = xJ μ a j := if_neg fun z => h z.2
theorem sJ_n {k : Nat} {v : Int64} (h : b ≠ a) : xJ (xsJ μ a k v) b = xJ μ b := xJ_sJ_ne h
theorem rI_sI {k : Nat} {v : Int32} : xsI (xrI μ a f) a k v = xrI μ a (up f k v) := by
  refine MM_ext rfl rfl ?_ ?_ ?_
  · intro c; funext j; by_cases h : c = a
    · subst h; rw [xI_sI, rI_e, rI_e]; unfold up; simp
    · rw [sI_n h, rI_n h, rI_n h]
  · intro c; rfl
  · intro c; rfl
theorem rI_rI {f' : Nat → Int32} : xrI (xrI μ a f) a f' = xrI μ a f' := by
  refine MM_ext rfl rfl ?_ ?_ ?_
  · intro c; by_cases h : c = a
    · subst h; rw [rI_e, rI_e]
    · rw [rI_n h, rI_n h, rI_n h]
  · intro c; rfl
  · intro c; rfl
theorem rI_self : xrI μ a (xI μ a) = μ := by
  refine MM_ext rfl rfl ?_ ?_ ?_
  · intro c; by_cases h : c = a
    · subst h; rw [rI_e]
    · rw [rI_n h]
  · intro c; rfl
  · intro c; rfl
theorem rJ_sJ {k : Nat} {v : Int64} : xsJ (xrJ μ a F) a k v = xrJ μ a (up F k v) := by
  refine MM_ext rfl rfl ?_ ?_ ?_
  · intro c; rfl
  · intro c; funext j; by_cases h : c = a
    · subst h; rw [xJ_sJ, rJ_e, rJ_e]; unfold up; simp
    · rw [sJ_n h, rJ_n h, rJ_n h]
  · intro c; rfl
theorem rJ_self : xrJ μ a (xJ μ a) = μ := by
  refine MM_ext rfl rfl ?_ ?_ ?_
  · intro c; rfl
  · intro c; by_cases h : c = a
    · subst h; rw [rJ_e]
    · rw [rJ_n h]
  · intro c; rfl
theorem MM_sJo {m k : Nat} {s : Nat → Int32} {σ : Nat → Int64} {v : Int64} (h : a ≠ m + 4) : xsJ (MM μ m s σ) a k v = MM (xsJ μ a k v) m s σ := by
  refine MM_ext rfl rfl ?_ ?_ ?_
  · intro b; rfl
  · intro b; funext j; rw [xJ_sJ]; by_cases h1 : b = m + 4
    · subst h1; rw [MM_J, MM_J, if_neg (fun z => h z.1.symm)]
    · rw [MM_Jo h1, MM_Jo h1, xJ_sJ]
  · intro b; rfl
end RWS
/-- the state put aside -/
def AS (μ : xMem) (m : Nat) (s : Nat → Int32) (σ : Nat → Int64) : xMem := xrJ (xrI μ (m + 2) (cpy s (xI μ (m + 2)) 0 619)) (m + 5) (cpy σ (xJ μ (m + 5)) 0 6)
theorem n619 : (619 : Int32) = nI 619 := rfl
theorem n6 : (6 : Int32) = nI 6 := rfl
section ASD
variable {G : xCtx} {μ : xMem} {Q : xOut → xMem → Prop} {m : Nat} {s : Nat → Int32} {σ : Nat → Int64}
theorem MSx {μ μ' : xMem} (h : μ'.1 = μ.1) (h2 : xR μ' = xR μ) (hm : MS μ m) : MS μ' m := by
  unfold MS xKd xLn at *; rw [h, h2]; exact hm
theorem s116_a (hm : MS μ m) : ∀ k i, i + k = 619 → Rn G 116 2 [some (.ref m), some (.int (nI i))] [] (MM (xrI μ (m + 2) (cpy s (xI μ (m + 2)) 0 i)) m s σ) Q = Rn G 116 27 [some (.ref m), some (.int (nI 619))] [] (MM (xrI μ (m + 2) (cpy s (xI μ (m + 2)) 0 619)) m s σ) Q := by
  obtain ⟨k0, ⟨k1, n1⟩, ⟨k2, n2⟩, -, ⟨k4, n4⟩, -, -, -, r1, r2, -, r4, -⟩ := hm
  intro k
  induction k with
  | zero =>
    intro i hi
    have h2 : 619 ≤ i := by omega
    rw [q116_2]
    simp (disch := first | assumption | (simp only [MM_Kd, rI_Kd, rJ_Kd, sI_Kd, sJ_Kd, sR_Kd]; assumption) | omega | decide) only [q116_0, q116_1, q116_3, q116_6, q116_9, q116_9N, q116_10, q116_13, q116_14, q116_14N, q116_15, q116_18, q116_19, q116_19T, q116_20, q116_21, q116_24, q116_28, q116_29, q116_30, q116_32, q116_35, q116_35N, q116_36, q116_39, q116_40, q116_40N, q116_41, q116_44, q116_45, q116_46, q116_47, q116_50, q116_53, n619, nI_leI, h2, xaf_s, xaf_v, va_rf_s, xix_n, nI_clamp, xk1_i, xk1_a, xk1_u, xk1_n, xk1_l, xk1_d, true_and, and_true, ↓reduceIte, Nat.reduceAdd, xtup]
    rw [show i = 619 by omega]
  | succ k ih =>
    intro i hi
    have h2 : ¬ 619 ≤ i := by omega
    rw [q116_2]
    simp (disch := first | assumption | (simp only [MM_Kd, rI_Kd, rJ_Kd, sI_Kd, sJ_Kd, sR_Kd]; assumption) | omega | decide) only [q116_0, q116_1, q116_3, q116_6, q116_9, q116_9N, q116_10, q116_13, q116_14, q116_14N, q116_15, q116_18, q116_19, q116_19T, q116_20, q116_21, q116_24, q116_28, q116_29, q116_30, q116_32, q116_35, q116_35N, q116_36, q116_39, q116_40, q116_40N, q116_41, q116_44, q116_45, q116_46, q116_47, q116_50, q116_53, n619, nI_leI, h2, r2, n2, nI_1, MM_sIo, rI_sI, rI_Kd, rI_Ln, rI_R, cpy_1', MM_Kd, MM_Ln, MM_R, MM_I, MM_J, MM_sI, MM_sJ, r1, n1, r4, n4, xaf_s, xaf_v, va_rf_s, xix_n, nI_clamp, xk1_i, xk1_a, xk1_u, xk1_n, xk1_l, xk1_d, true_and, and_true, ↓reduceIte, Nat.reduceAdd, xtup]
    exact ih (i + 1) (by omega)
theorem s116_b (hm : MS μ m) : ∀ k i, i + k = 6 → Rn G 116 29 [some (.ref m), some (.int (nI i))] [] (MM (xrJ μ (m + 5) (cpy σ (xJ μ (m + 5)) 0 i)) m s σ) Q = Q (.inl none) (MM (xrJ μ (m + 5) (cpy σ (xJ μ (m + 5)) 0 6)) m s σ) := by
  obtain ⟨k0, ⟨k1, n1⟩, -, -, ⟨k4, n4⟩, ⟨k5, n5⟩, -, -, r1, -, -, r4, r5, -⟩ := hm
  intro k
  induction k with
  | zero =>
    intro i hi
    have h2 : 6 ≤ i := by omega
    rw [q116_29]
    simp (disch := first | assumption | (simp only [MM_Kd, rI_Kd, rJ_Kd, sI_Kd, sJ_Kd, sR_Kd]; assumption) | omega | decide) only [q116_0, q116_1, q116_2, q116_3, q116_6, q116_9, q116_9N, q116_10, q116_13, q116_14, q116_14N, q116_15, q116_18, q116_19, q116_19T, q116_20, q116_21, q116_24, q116_27, q116_28, q116_30, q116_32, q116_35, q116_35N, q116_36, q116_39, q116_40, q116_40N, q116_41, q116_44, q116_45, q116_46, q116_47, q116_50, q116_53, n6, nI_leI, h2, xaf_s, xaf_v, va_rf_s, xix_n, nI_clamp, xk1_i, xk1_a, xk1_u, xk1_n, xk1_l, xk1_d, true_and, and_true, ↓reduceIte, Nat.reduceAdd, xtup]
    rw [show i = 6 by omega]
  | succ k ih =>
    intro i hi
    have h2 : ¬ 6 ≤ i := by omega
    rw [q116_29]
    simp (disch := first | assumption | (simp only [MM_Kd, rI_Kd, rJ_Kd, sI_Kd, sJ_Kd, sR_Kd]; assumption) | omega | decide) only [q116_0, q116_1, q116_2, q116_3, q116_6, q116_9, q116_9N, q116_10, q116_13, q116_14, q116_14N, q116_15, q116_18, q116_19, q116_19T, q116_20, q116_21, q116_24, q116_27, q116_28, q116_30, q116_32, q116_35, q116_35N, q116_36, q116_39, q116_40, q116_40N, q116_41, q116_44, q116_45, q116_46, q116_47, q116_50, q116_53, n6, nI_leI, h2, r5, n5, nI_1, MM_sJo, rJ_sJ, rJ_Kd, rJ_Ln, rJ_R, cpy_1', MM_Kd, MM_Ln, MM_R, MM_I, MM_J, MM_sI, MM_sJ, r1, n1, r4, n4, xaf_s, xaf_v, va_rf_s, xix_n, nI_clamp, xk1_i, xk1_a, xk1_u, xk1_n, xk1_l, xk1_d, true_and, and_true, ↓reduceIte, Nat.reduceAdd, xtup]
    exact ih (i + 1) (by omega)
theorem s116 (hm : MS μ m) : Cn G 116 [.ref m] (MM μ m s σ) Q = Q (.inl none) (MM (AS μ m s σ) m s σ) := by
  show Rn G 116 0 [some (.ref m), none] [] (MM μ m s σ) Q = _
  have e1 := s116_a (G := G) (Q := Q) (s := s) (σ := σ) hm 619 0 (by omega)
  have e2 := s116_b (G := G) (Q := Q) (s := s) (σ := σ) (μ := xrI μ (m + 2) (cpy s (xI μ (m + 2)) 0 619)) hm 6 0 (by omega)
  rw [cpy_0, rI_self] at e1
  rw [cpy_0, rJ_self] at e2
  simp only [q116_0, q116_1, xk1_i]
  refine e1.trans ?_
  simp only [q116_27, q116_28, xk1_i]
  exact e2
theorem s117_a (hm : MS μ m) : ∀ k i, i + k = 619 → Rn G 117 2 [some (.ref m), some (.int (nI i))] [] (MM μ m (cpy (xI μ (m + 2)) s 0 i) σ) Q = Rn G 117 27 [some (.ref m), some (.int (nI 619))] [] (MM μ m (cpy (xI μ (m + 2)) s 0 619) σ) Q := by
  obtain ⟨k0, ⟨k1, n1⟩, ⟨k2, n2⟩, -, ⟨k4, n4⟩, -, -, -, r1, r2, -, r4, -⟩ := hm
  intro k
  induction k with
  | zero =>
    intro i hi
    have h2 : 619 ≤ i := by omega
    rw [q117_2]
    simp (disch := first | assumption | (simp only [MM_Kd, rI_Kd, rJ_Kd, sI_Kd, sJ_Kd, sR_Kd]; assumption) | omega | decide) only [q117_0, q117_1, q117_3, q117_6, q117_9, q117_9N, q117_10, q117_13, q117_14, q117_14N, q117_15, q117_18, q117_19, q117_19T, q117_20, q117_21, q117_24, q117_28, q117_29, q117_30, q117_32, q117_35, q117_35N, q117_36, q117_39, q117_40, q117_40N, q117_41, q117_44, q117_45, q117_46, q117_47, q117_50, q117_53, n619, nI_leI, h2, xaf_s, xaf_v, va_rf_s, xix_n, nI_clamp, xk1_i, xk1_a, xk1_u, xk1_n, xk1_l, xk1_d, true_and, and_true, ↓reduceIte, Nat.reduceAdd, xtup]
    rw [show i = 619 by omega]
  | succ k ih =>
    intro i hi
    have h2 : ¬ 619 ≤ i := by omega
    rw [q117_2]
    simp (disch := first | assumption | (simp only [MM_Kd, rI_Kd, rJ_Kd, sI_Kd, sJ_Kd, sR_Kd]; assumption) | omega | decide) only [q117_0, q117_1, q117_3, q117_6, q117_9, q117_9N, q117_10, q117_13, q117_14, q117_14N, q117_15, q117_18, q117_19, q117_19T, q117_20, q117_21, q117_24, q117_28, q117_29, q117_30, q117_32, q117_35, q117_35N, q117_36, q117_39, q117_40, q117_40N, q117_41, q117_44, q117_45, q117_46, q117_47, q117_50, q117_53, n619, nI_leI, h2, r2, n2, nI_1, MM_Io, cpy_1', MM_Kd, MM_Ln, MM_R, MM_I, MM_J, MM_sI, MM_sJ, r1, n1, r4, n4, xaf_s, xaf_v, va_rf_s, xix_n, nI_clamp, xk1_i, xk1_a, xk1_u, xk1_n, xk1_l, xk1_d, true_and, and_true, ↓reduceIte, Nat.reduceAdd, xtup]
    exact ih (i + 1) (by omega)
theorem s117_b (hm : MS μ m) : ∀ k i, i + k = 6 → Rn G 117 29 [some (.ref m), some (.int (nI i))] [] (MM μ m s (cpy (xJ μ (m + 5)) σ 0 i)) Q = Q (.inl none) (MM μ m s (cpy (xJ μ (m + 5)) σ 0 6)) := by
  obtain ⟨k0, ⟨k1, n1⟩, -, -, ⟨k4, n4⟩, ⟨k5, n5⟩, -, -, r1, -, -, r4, r5, -⟩ := hm
  intro k
  induction k with
  | zero =>
    intro i hi
    have h2 : 6 ≤ i := by omega
    rw [q117_29]
    simp (disch := first | assumption | (simp only [MM_Kd, rI_Kd, rJ_Kd, sI_Kd, sJ_Kd, sR_Kd]; assumption) | omega | decide) only [q117_0, q117_1, q117_2, q117_3, q117_6, q117_9, q117_9N, q117_10, q117_13, q117_14, q117_14N, q117_15, q117_18, q117_19, q117_19T, q117_20, q117_21, q117_24, q117_27, q117_28, q117_30, q117_32, q117_35, q117_35N, q117_36, q117_39, q117_40, q117_40N, q117_41, q117_44, q117_45, q117_46, q117_47, q117_50, q117_53, n6, nI_leI, h2, xaf_s, xaf_v, va_rf_s, xix_n, nI_clamp, xk1_i, xk1_a, xk1_u, xk1_n, xk1_l, xk1_d, true_and, and_true, ↓reduceIte, Nat.reduceAdd, xtup]
    rw [show i = 6 by omega]
  | succ k ih =>
    intro i hi
    have h2 : ¬ 6 ≤ i := by omega
    rw [q117_29]
    simp (disch := first | assumption | (simp only [MM_Kd, rI_Kd, rJ_Kd, sI_Kd, sJ_Kd, sR_Kd]; assumption) | omega | decide) only [q117_0, q117_1, q117_2, q117_3, q117_6, q117_9, q117_9N, q117_10, q117_13, q117_14, q117_14N, q117_15, q117_18, q117_19, q117_19T, q117_20, q117_21, q117_24, q117_27, q117_28, q117_30, q117_32, q117_35, q117_35N, q117_36, q117_39, q117_40, q117_40N, q117_41, q117_44, q117_45, q117_46, q117_47, q117_50, q117_53, n6, nI_leI, h2, r5, n5, nI_1, MM_Jo, cpy_1', MM_Kd, MM_Ln, MM_R, MM_I, MM_J, MM_sI, MM_sJ, r1, n1, r4, n4, xaf_s, xaf_v, va_rf_s, xix_n, nI_clamp, xk1_i, xk1_a, xk1_u, xk1_n, xk1_l, xk1_d, true_and, and_true, ↓reduceIte, Nat.reduceAdd, xtup]
    exact ih (i + 1) (by omega)
theorem s117 (hm : MS μ m) : Cn G 117 [.ref m] (MM μ m s σ) Q = Q (.inl none) (MM μ m (cpy (xI μ (m + 2)) s 0 619) (cpy (xJ μ (m + 5)) σ 0 6)) := by
  show Rn G 117 0 [some (.ref m), none] [] (MM μ m s σ) Q = _
  have e1 := s117_a (G := G) (Q := Q) (s := s) (σ := σ) hm 619 0 (by omega)
  have e2 := s117_b (G := G) (Q := Q) (s := cpy (xI μ (m + 2)) s 0 619) (σ := σ) hm 6 0 (by omega)
  rw [cpy_0] at e1 e2
  simp only [q117_0, q117_1, xk1_i]
  refine e1.trans ?_
  simp only [q117_27, q117_28, xk1_i]
  exact e2
/-- the saved states with s and σ on top of t others -/
def SVf (μ : xMem) (m t : Nat) : Nat → Int32 := if t = 6 then cpy (fun j => xI μ (m + 3) (619 + j)) (xI μ (m + 3)) 0 3095 else xI μ (m + 3)
def SVF (μ : xMem) (m t : Nat) : Nat → Int64 := if t = 6 then cpy (fun j => xJ μ (m + 6) (6 + j)) (xJ μ (m + 6)) 0 30 else xJ μ (m + 6)
def SVt (t : Nat) : Nat := if t = 6 then 5 else t
def SV (μ : xMem) (m t : Nat) (s : Nat → Int32) (σ : Nat → Int64) : xMem := xsI (xrJ (xrI μ (m + 3) (cpy s (SVf μ m t) (619 * SVt t) 619)) (m + 6) (cpy σ (SVF μ m t) (6 * SVt t) 6)) m 7 (nI (SVt t + 1))
theorem n3095 : (3095 : Int32) = nI 3095 := rfl
theorem n30 : (30 : Int32) = nI 30 := rfl
theorem s115_a (hm : MS μ m) {f : Nat → Int32} : ∀ k i, i + k = 3095 → Rn G 115 11 [some (.ref m), some (.int (nI i))] [] (MM (xrI μ (m + 3) (cpy (fun j => f (619 + j)) f 0 i)) m s σ) Q = Rn G 115 40 [some (.ref m), some (.int (nI 3095))] [] (MM (xrI μ (m + 3) (cpy (fun j => f (619 + j)) f 0 3095)) m s σ) Q := by
  obtain ⟨k0, ⟨k1, n1⟩, -, ⟨k3, n3⟩, ⟨k4, n4⟩, -, -, -, r1, -, r3, r4, -⟩ := hm
  intro k
  induction k with
  | zero =>
    intro i hi
    have h2 : 3095 ≤ i := by omega
    rw [q115_11]
    simp (disch := first | assumption | (simp only [MM_Kd, rI_Kd, rJ_Kd, sI_Kd, sJ_Kd, sR_Kd]; assumption) | omega | decide) only [q115_0, q115_0N, q115_1, q115_4, q115_6, q115_9, q115_10, q115_12, q115_15, q115_18, q115_18N, q115_19, q115_22, q115_23, q115_23N, q115_24, q115_27, q115_30, q115_31, q115_32, q115_32T, q115_33, q115_34, q115_37, q115_41, q115_42, q115_43, q115_45, q115_48, q115_48N, q115_49, q115_52, q115_53, q115_53N, q115_54, q115_57, q115_59, q115_60, q115_61, q115_62, q115_63, q115_66, q115_69, q115_69N, q115_70, q115_71, q115_74, q115_75, q115_76, q115_79, q115_80, q115_81, q115_82, q115_85, q115_88, q115_88N, q115_89, q115_92, q115_95, q115_95N, q115_96, q115_99, q115_100, q115_101, q115_102, q115_102N, q115_103, q115_106, q115_107, q115_107T, q115_108, q115_109, q115_112, q115_115, q115_116, q115_117, q115_118, q115_120, q115_123, q115_123N, q115_124, q115_127, q115_129, q115_129N, q115_130, q115_133, q115_134, q115_135, q115_136, q115_136N, q115_137, q115_140, q115_141, q115_142, q115_143, q115_146, q115_149, q115_149N, q115_150, q115_151, q115_154, q115_155, q115_156, q115_159, n3095, nI_leI, h2, xaf_s, xaf_v, va_rf_s, xix_n, nI_clamp, xk1_i, xk1_a, xk1_u, xk1_n, xk1_l, xk1_d, true_and, and_true, ↓reduceIte, Nat.reduceAdd, xtup]
    rw [show i = 3095 by omega]
  | succ k ih =>
    intro i hi
    have h2 : ¬ 3095 ≤ i := by omega
    have e : cpy (fun j => f (619 + j)) f 0 i (619 + i) = f (619 + i) := cpy_o (by omega)
    have e' : ∀ i, cpy (fun j => f (619 + j)) f 0 (i + 1) = up (cpy (fun j => f (619 + j)) f 0 i) i (f (619 + i)) := fun i => cpy_1'.symm
    rw [q115_11]
    simp (disch := first | assumption | (simp only [MM_Kd, rI_Kd, rJ_Kd, sI_Kd, sJ_Kd, sR_Kd]; assumption) | omega | decide) only [q115_0, q115_0N, q115_1, q115_4, q115_6, q115_9, q115_10, q115_12, q115_15, q115_18, q115_18N, q115_19, q115_22, q115_23, q115_23N, q115_24, q115_27, q115_30, q115_31, q115_32, q115_32T, q115_33, q115_34, q115_37, q115_41, q115_42, q115_43, q115_45, q115_48, q115_48N, q115_49, q115_52, q115_53, q115_53N, q115_54, q115_57, q115_59, q115_60, q115_61, q115_62, q115_63, q115_66, q115_69, q115_69N, q115_70, q115_71, q115_74, q115_75, q115_76, q115_79, q115_80, q115_81, q115_82, q115_85, q115_88, q115_88N, q115_89, q115_92, q115_95, q115_95N, q115_96, q115_99, q115_100, q115_101, q115_102, q115_102N, q115_103, q115_106, q115_107, q115_107T, q115_108, q115_109, q115_112, q115_115, q115_116, q115_117, q115_118, q115_120, q115_123, q115_123N, q115_124, q115_127, q115_129, q115_129N, q115_130, q115_133, q115_134, q115_135, q115_136, q115_136N, q115_137, q115_140, q115_141, q115_142, q115_143, q115_146, q115_149, q115_149N, q115_150, q115_151, q115_154, q115_155, q115_156, q115_159, n3095, n619, nI_leI, nI_add, h2, r3, n3, nI_1, MM_sIo, MM_Io, rI_e, e, rI_sI, rI_Kd, rI_Ln, rI_R, ← e', MM_Kd, MM_Ln, MM_R, MM_I, MM_J, MM_sI, MM_sJ, r1, n1, r4, n4, xaf_s, xaf_v, va_rf_s, xix_n, nI_clamp, xk1_i, xk1_a, xk1_u, xk1_n, xk1_l, xk1_d, true_and, and_true, ↓reduceIte, Nat.reduceAdd, xtup]
    exact ih (i + 1) (by omega)
theorem s115_b (hm : MS μ m) {f : Nat → Int64} : ∀ k i, i + k = 30 → Rn G 115 42 [some (.ref m), some (.int (nI i))] [] (MM (xrJ μ (m + 6) (cpy (fun j => f (6 + j)) f 0 i)) m s σ) Q = Rn G 115 69 [some (.ref m), some (.int (nI 30))] [] (MM (xrJ μ (m + 6) (cpy (fun j => f (6 + j)) f 0 30)) m s σ) Q := by
  obtain ⟨k0, ⟨k1, n1⟩, -, -, ⟨k4, n4⟩, -, ⟨k6, n6'⟩, -, r1, -, -, r4, -, r6, -⟩ := hm
  intro k
  induction k with
  | zero =>
    intro i hi
    have h2 : 30 ≤ i := by omega
    rw [q115_42]
    simp (disch := first | assumption | (simp only [MM_Kd, rI_Kd, rJ_Kd, sI_Kd, sJ_Kd, sR_Kd]; assumption) | omega | decide) only [q115_0, q115_0N, q115_1, q115_4, q115_6, q115_9, q115_10, q115_11, q115_12, q115_15, q115_18, q115_18N, q115_19, q115_22, q115_23, q115_23N, q115_24, q115_27, q115_30, q115_31, q115_32, q115_32T, q115_33, q115_34, q115_37, q115_40, q115_41, q115_43, q115_45, q115_48, q115_48N, q115_49, q115_52, q115_53, q115_53N, q115_54, q115_57, q115_59, q115_60, q115_61, q115_62, q115_63, q115_66, q115_70, q115_71, q115_74, q115_75, q115_76, q115_79, q115_80, q115_81, q115_82, q115_85, q115_88, q115_88N, q115_89, q115_92, q115_95, q115_95N, q115_96, q115_99, q115_100, q115_101, q115_102, q115_102N, q115_103, q115_106, q115_107, q115_107T, q115_108, q115_109, q115_112, q115_115, q115_116, q115_117, q115_118, q115_120, q115_123, q115_123N, q115_124, q115_127, q115_129, q115_129N, q115_130, q115_133, q115_134, q115_135, q115_136, q115_136N, q115_137, q115_140, q115_141, q115_142, q115_143, q115_146, q115_149, q115_149N, q115_150, q115_151, q115_154, q115_155, q115_156, q115_159, n30, nI_leI, h2, xaf_s, xaf_v, va_rf_s, xix_n, nI_clamp, xk1_i, xk1_a, xk1_u, xk1_n, xk1_l, xk1_d, true_and, and_true, ↓reduceIte, Nat.reduceAdd, xtup]
    rw [show i = 30 by omega]
  | succ k ih =>
    intro i hi
    have h2 : ¬ 30 ≤ i := by omega
    have e : cpy (fun j => f (6 + j)) f 0 i (6 + i) = f (6 + i) := cpy_o (by omega)
    have e' : ∀ i, cpy (fun j => f (6 + j)) f 0 (i + 1) = up (cpy (fun j => f (6 + j)) f 0 i) i (f (6 + i)) := fun i => cpy_1'.symm
    rw [q115_42]
    simp (disch := first | assumption | (simp only [MM_Kd, rI_Kd, rJ_Kd, sI_Kd, sJ_Kd, sR_Kd]; assumption) | omega | decide) only [q115_0, q115_0N, q115_1, q115_4, q115_6, q115_9, q115_10, q115_11, q115_12, q115_15, q115_18, q115_18N, q115_19, q115_22, q115_23, q115_23N, q115_24, q115_27, q115_30, q115_31, q115_32, q115_32T, q115_33, q115_34, q115_37, q115_40, q115_41, q115_43, q115_45, q115_48, q115_48N, q115_49, q115_52, q115_53, q115_53N, q115_54, q115_57, q115_59, q115_60, q115_61, q115_62, q115_63, q115_66, q115_70, q115_71, q115_74, q115_75, q115_76, q115_79, q115_80, q115_81, q115_82, q115_85, q115_88, q115_88N, q115_89, q115_92, q115_95, q115_95N, q115_96, q115_99, q115_100, q115_101, q115_102, q115_102N, q115_103, q115_106, q115_107, q115_107T, q115_108, q115_109, q115_112, q115_115, q115_116, q115_117, q115_118, q115_120, q115_123, q115_123N, q115_124, q115_127, q115_129, q115_129N, q115_130, q115_133, q115_134, q115_135, q115_136, q115_136N, q115_137, q115_140, q115_141, q115_142, q115_143, q115_146, q115_149, q115_149N, q115_150, q115_151, q115_154, q115_155, q115_156, q115_159, n30, n6, nI_leI, nI_add, h2, r6, n6', nI_1, MM_sJo, MM_Jo, rJ_e, e, rJ_sJ, rJ_Kd, rJ_Ln, rJ_R, ← e', MM_Kd, MM_Ln, MM_R, MM_I, MM_J, MM_sI, MM_sJ, r1, n1, r4, n4, xaf_s, xaf_v, va_rf_s, xix_n, nI_clamp, xk1_i, xk1_a, xk1_u, xk1_n, xk1_l, xk1_d, true_and, and_true, ↓reduceIte, Nat.reduceAdd, xtup]
    exact ih (i + 1) (by omega)
theorem s115_c (hm : MS μ m) {t : Nat} (ht : t < 6) (h7 : xI μ m 7 = nI t) {f : Nat → Int32} : ∀ k i, i + k = 619 → Rn G 115 81 [some (.ref m), some (.int (nI i))] [] (MM (xrI μ (m + 3) (cpy s f (619 * t) i)) m s σ) Q = Rn G 115 115 [some (.ref m), some (.int (nI 619))] [] (MM (xrI μ (m + 3) (cpy s f (619 * t) 619)) m s σ) Q := by
  obtain ⟨k0, ⟨k1, n1⟩, -, ⟨k3, n3⟩, ⟨k4, n4⟩, -, -, -, r1, -, r3, r4, -⟩ := hm
  intro k
  induction k with
  | zero =>
    intro i hi
    have h2 : 619 ≤ i := by omega
    rw [q115_81]
    simp (disch := first | assumption | (simp only [MM_Kd, rI_Kd, rJ_Kd, sI_Kd, sJ_Kd, sR_Kd]; assumption) | omega | decide) only [q115_0, q115_0N, q115_1, q115_4, q115_6, q115_9, q115_10, q115_11, q115_12, q115_15, q115_18, q115_18N, q115_19, q115_22, q115_23, q115_23N, q115_24, q115_27, q115_30, q115_31, q115_32, q115_32T, q115_33, q115_34, q115_37, q115_40, q115_41, q115_42, q115_43, q115_45, q115_48, q115_48N, q115_49, q115_52, q115_53, q115_53N, q115_54, q115_57, q115_59, q115_60, q115_61, q115_62, q115_63, q115_66, q115_69, q115_69N, q115_70, q115_71, q115_74, q115_75, q115_76, q115_79, q115_80, q115_82, q115_85, q115_88, q115_88N, q115_89, q115_92, q115_95, q115_95N, q115_96, q115_99, q115_100, q115_101, q115_102, q115_102N, q115_103, q115_106, q115_107, q115_107T, q115_108, q115_109, q115_112, q115_116, q115_117, q115_118, q115_120, q115_123, q115_123N, q115_124, q115_127, q115_129, q115_129N, q115_130, q115_133, q115_134, q115_135, q115_136, q115_136N, q115_137, q115_140, q115_141, q115_142, q115_143, q115_146, q115_149, q115_149N, q115_150, q115_151, q115_154, q115_155, q115_156, q115_159, n619, nI_leI, h2, xaf_s, xaf_v, va_rf_s, xix_n, nI_clamp, xk1_i, xk1_a, xk1_u, xk1_n, xk1_l, xk1_d, true_and, and_true, ↓reduceIte, Nat.reduceAdd, xtup]
    rw [show i = 619 by omega]
  | succ k ih =>
    intro i hi
    have h2 : ¬ 619 ≤ i := by omega
    rw [q115_81]
    simp (disch := first | assumption | (simp only [MM_Kd, rI_Kd, rJ_Kd, sI_Kd, sJ_Kd, sR_Kd]; assumption) | omega | decide) only [q115_0, q115_0N, q115_1, q115_4, q115_6, q115_9, q115_10, q115_11, q115_12, q115_15, q115_18, q115_18N, q115_19, q115_22, q115_23, q115_23N, q115_24, q115_27, q115_30, q115_31, q115_32, q115_32T, q115_33, q115_34, q115_37, q115_40, q115_41, q115_42, q115_43, q115_45, q115_48, q115_48N, q115_49, q115_52, q115_53, q115_53N, q115_54, q115_57, q115_59, q115_60, q115_61, q115_62, q115_63, q115_66, q115_69, q115_69N, q115_70, q115_71, q115_74, q115_75, q115_76, q115_79, q115_80, q115_82, q115_85, q115_88, q115_88N, q115_89, q115_92, q115_95, q115_95N, q115_96, q115_99, q115_100, q115_101, q115_102, q115_102N, q115_103, q115_106, q115_107, q115_107T, q115_108, q115_109, q115_112, q115_116, q115_117, q115_118, q115_120, q115_123, q115_123N, q115_124, q115_127, q115_129, q115_129N, q115_130, q115_133, q115_134, q115_135, q115_136, q115_136N, q115_137, q115_140, q115_141, q115_142, q115_143, q115_146, q115_149, q115_149N, q115_150, q115_151, q115_154, q115_155, q115_156, q115_159, n619, nI_leI, nI_add, pk_mul, h2, h7, r3, n3, nI_1, MM_sIo, MM_Io, rI_n, rI_sI, rI_Kd, rI_Ln, rI_R, cpy_1, MM_Kd, MM_Ln, MM_R, MM_I, MM_J, MM_sI, MM_sJ, r1, n1, r4, n4, xaf_s, xaf_v, va_rf_s, xix_n, nI_clamp, xk1_i, xk1_a, xk1_u, xk1_n, xk1_l, xk1_d, true_and, and_true, ↓reduceIte, Nat.reduceAdd, xtup]
    exact ih (i + 1) (by omega)
theorem s115_d (hm : MS μ m) {t : Nat} (ht : t < 6) (h7 : xI μ m 7 = nI t) {f : Nat → Int64} : ∀ k i, i + k = 6 → Rn G 115 117 [some (.ref m), some (.int (nI i))] [] (MM (xrJ μ (m + 6) (cpy σ f (6 * t) i)) m s σ) Q = Q (.inl none) (MM (xsI (xrJ μ (m + 6) (cpy σ f (6 * t) 6)) m 7 (nI (t + 1))) m s σ) := by
  obtain ⟨k0, ⟨k1, n1⟩, -, -, ⟨k4, n4⟩, -, ⟨k6, n6'⟩, -, r1, -, -, r4, -, r6, -⟩ := hm
  intro k
  induction k with
  | zero =>
    intro i hi
    have h2 : 6 ≤ i := by omega
    rw [q115_117]
    simp (disch := first | assumption | (simp only [MM_Kd, rI_Kd, rJ_Kd, sI_Kd, sJ_Kd, sR_Kd]; assumption) | omega | decide) only [q115_0, q115_0N, q115_1, q115_4, q115_6, q115_9, q115_10, q115_11, q115_12, q115_15, q115_18, q115_18N, q115_19, q115_22, q115_23, q115_23N, q115_24, q115_27, q115_30, q115_31, q115_32, q115_32T, q115_33, q115_34, q115_37, q115_40, q115_41, q115_42, q115_43, q115_45, q115_48, q115_48N, q115_49, q115_52, q115_53, q115_53N, q115_54, q115_57, q115_59, q115_60, q115_61, q115_62, q115_63, q115_66, q115_69, q115_69N, q115_70, q115_71, q115_74, q115_75, q115_76, q115_79, q115_80, q115_81, q115_82, q115_85, q115_88, q115_88N, q115_89, q115_92, q115_95, q115_95N, q115_96, q115_99, q115_100, q115_101, q115_102, q115_102N, q115_103, q115_106, q115_107, q115_107T, q115_108, q115_109, q115_112, q115_115, q115_116, q115_118, q115_120, q115_123, q115_123N, q115_124, q115_127, q115_129, q115_129N, q115_130, q115_133, q115_134, q115_135, q115_136, q115_136N, q115_137, q115_140, q115_141, q115_142, q115_143, q115_146, q115_149, q115_149N, q115_150, q115_151, q115_154, q115_155, q115_156, q115_159, n6, nI_leI, h2, h7, nI_1, MM_sIo, MM_Io, rJ_Kd, rJ_Ln, rJ_R, rJ_I, MM_Kd, MM_Ln, MM_R, MM_I, MM_J, MM_sI, MM_sJ, r1, n1, r4, n4, xaf_s, xaf_v, va_rf_s, xix_n, nI_clamp, xk1_i, xk1_a, xk1_u, xk1_n, xk1_l, xk1_d, true_and, and_true, ↓reduceIte, Nat.reduceAdd, xtup]
    rw [show i = 6 by omega]
  | succ k ih =>
    intro i hi
    have h2 : ¬ 6 ≤ i := by omega
    rw [q115_117]
    simp (disch := first | assumption | (simp only [MM_Kd, rI_Kd, rJ_Kd, sI_Kd, sJ_Kd, sR_Kd]; assumption) | omega | decide) only [q115_0, q115_0N, q115_1, q115_4, q115_6, q115_9, q115_10, q115_11, q115_12, q115_15, q115_18, q115_18N, q115_19, q115_22, q115_23, q115_23N, q115_24, q115_27, q115_30, q115_31, q115_32, q115_32T, q115_33, q115_34, q115_37, q115_40, q115_41, q115_42, q115_43, q115_45, q115_48, q115_48N, q115_49, q115_52, q115_53, q115_53N, q115_54, q115_57, q115_59, q115_60, q115_61, q115_62, q115_63, q115_66, q115_69, q115_69N, q115_70, q115_71, q115_74, q115_75, q115_76, q115_79, q115_80, q115_81, q115_82, q115_85, q115_88, q115_88N, q115_89, q115_92, q115_95, q115_95N, q115_96, q115_99, q115_100, q115_101, q115_102, q115_102N, q115_103, q115_106, q115_107, q115_107T, q115_108, q115_109, q115_112, q115_115, q115_116, q115_118, q115_120, q115_123, q115_123N, q115_124, q115_127, q115_129, q115_129N, q115_130, q115_133, q115_134, q115_135, q115_136, q115_136N, q115_137, q115_140, q115_141, q115_142, q115_143, q115_146, q115_149, q115_149N, q115_150, q115_151, q115_154, q115_155, q115_156, q115_159, n6, nI_leI, nI_add, pk_mul, h2, h7, r6, n6', nI_1, MM_sJo, MM_Io, rJ_n, rJ_sJ, rJ_Kd, rJ_Ln, rJ_R, rJ_I, cpy_1, MM_Kd, MM_Ln, MM_R, MM_I, MM_J, MM_sI, MM_sJ, r1, n1, r4, n4, xaf_s, xaf_v, va_rf_s, xix_n, nI_clamp, xk1_i, xk1_a, xk1_u, xk1_n, xk1_l, xk1_d, true_and, and_true, ↓reduceIte, Nat.reduceAdd, xtup]
    exact ih (i + 1) (by omega)
theorem s115_e (hm : MS μ m) {t : Nat} (ht : t < 6) (h7 : xI μ m 7 = nI t) {l1 : Option Value} : Rn G 115 79 [some (.ref m), l1] [] (MM μ m s σ) Q = Q (.inl none) (MM (xsI (xrJ (xrI μ (m + 3) (cpy s (xI μ (m + 3)) (619 * t) 619)) (m + 6) (cpy σ (xJ μ (m + 6)) (6 * t) 6)) m 7 (nI (t + 1))) m s σ) := by
  have e1 := s115_c (G := G) (Q := Q) (s := s) (σ := σ) hm ht h7 (f := xI μ (m + 3)) 619 0 (by omega)
  have e2 := s115_d (G := G) (Q := Q) (s := s) (σ := σ) (μ := xrI μ (m + 3) (cpy s (xI μ (m + 3)) (619 * t) 619)) hm ht (by rw [rI_n (by omega)]; exact h7) (f := xJ μ (m + 6)) 6 0 (by omega)
  rw [cpy_0, rI_self] at e1
  rw [cpy_0, show xJ μ (m + 6) = xJ (xrI μ (m + 3) (cpy s (xI μ (m + 3)) (619 * t) 619)) (m + 6) from rfl, rJ_self] at e2
  simp only [q115_79, q115_80, xk1_i]
  refine e1.trans ?_
  simp only [q115_115, q115_116, xk1_i]
  exact e2
theorem s115 (hm : MS μ m) {t : Nat} (ht : t ≤ 6) (h7 : xI μ m 7 = nI t) : Cn G 115 [.ref m] (MM μ m s σ) Q = Q (.inl none) (MM (SV μ m t s σ) m s σ) := by
  have hm0 := hm
  obtain ⟨k0, ⟨k1, n1⟩, -, -, ⟨k4, n4⟩, -, -, -, r1, -, -, r4, -⟩ := hm
  show Rn G 115 0 [some (.ref m), none] [] (MM μ m s σ) Q = _
  by_cases h6 : t = 6
  · subst h6
    have e1 := s115_a (G := G) (Q := Q) (s := s) (σ := σ) hm0 (f := xI μ (m + 3)) 3095 0 (by omega)
    rw [cpy_0, rI_self] at e1
    have e2 := s115_b (G := G) (Q := Q) (s := s) (σ := σ) (μ := xrI μ (m + 3) (cpy (fun j => xI μ (m + 3) (619 + j)) (xI μ (m + 3)) 0 3095)) hm0 (f := xJ μ (m + 6)) 30 0 (by omega)
    rw [cpy_0, show xJ μ (m + 6) = xJ (xrI μ (m + 3) (cpy (fun j => xI μ (m + 3) (619 + j)) (xI μ (m + 3)) 0 3095)) (m + 6) from rfl, rJ_self] at e2
    have e3 := fun l1 => s115_e (G := G) (Q := Q) (s := s) (σ := σ) (μ := xsI (xrJ (xrI μ (m + 3) (cpy (fun j => xI μ (m + 3) (619 + j)) (xI μ (m + 3)) 0 3095)) (m + 6) (cpy (fun j => xJ μ (m + 6) (6 + j)) (xJ μ (m + 6)) 0 30)) m 7 (nI 5)) hm0 (t := 5) (by omega) sI_e (l1 := l1)
    have z5 : (nI 6 - 1 : Int32) = nI 5 := rfl
    simp (disch := first | assumption | (simp only [MM_Kd, rI_Kd, rJ_Kd, sI_Kd, sJ_Kd, sR_Kd]; assumption) | omega | decide) only [q115_0, q115_0N, q115_1, q115_4, q115_6, q115_9, q115_10, q115_12, q115_15, q115_18, q115_18N, q115_19, q115_22, q115_23, q115_23N, q115_24, q115_27, q115_30, q115_31, q115_32, q115_32T, q115_33, q115_34, q115_37, q115_41, q115_42, q115_43, q115_45, q115_48, q115_48N, q115_49, q115_52, q115_53, q115_53N, q115_54, q115_57, q115_59, q115_60, q115_61, q115_62, q115_63, q115_66, q115_70, q115_71, q115_74, q115_75, q115_76, q115_80, q115_81, q115_82, q115_85, q115_88, q115_88N, q115_89, q115_92, q115_95, q115_95N, q115_96, q115_99, q115_100, q115_101, q115_102, q115_102N, q115_103, q115_106, q115_107, q115_107T, q115_108, q115_109, q115_112, q115_115, q115_116, q115_117, q115_118, q115_120, q115_123, q115_123N, q115_124, q115_127, q115_129, q115_129N, q115_130, q115_133, q115_134, q115_135, q115_136, q115_136N, q115_137, q115_140, q115_141, q115_142, q115_143, q115_146, q115_149, q115_149N, q115_150, q115_151, q115_154, q115_155, q115_156, q115_159, n6, h7, MM_Io, not_true_eq_false, MM_Kd, MM_Ln, MM_R, MM_I, MM_J, MM_sI, MM_sJ, r1, n1, r4, n4, xaf_s, xaf_v, va_rf_s, xix_n, nI_clamp, xk1_i, xk1_a, xk1_u, xk1_n, xk1_l, xk1_d, true_and, and_true, ↓reduceIte, Nat.reduceAdd, xtup]
    refine e1.trans ?_
    simp only [q115_40, q115_41, xk1_i]
    refine e2.trans ?_
    simp (disch := first | assumption | (simp only [MM_Kd, rI_Kd, rJ_Kd, sI_Kd, sJ_Kd, sR_Kd]; assumption) | omega | decide) only [q115_69, q115_70, q115_71, q115_74, q115_75, q115_76, h7, z5, MM_sIo, MM_Io, rI_n, rJ_I, rJ_Kd, rJ_R, rI_Kd, rI_R, MM_Kd, MM_Ln, MM_R, MM_I, MM_J, MM_sI, MM_sJ, r1, n1, r4, n4, xaf_s, xaf_v, va_rf_s, xix_n, nI_clamp, xk1_i, xk1_a, xk1_u, xk1_n, xk1_l, xk1_d, true_and, and_true, ↓reduceIte, Nat.reduceAdd, xtup]
    refine (e3 _).trans ?_
    congr 2
    unfold SV SVf SVF SVt
    rw [if_pos rfl, if_pos rfl, if_pos rfl]
    refine MM_ext rfl rfl ?_ ?_ ?_
    · intro c; funext j
      by_cases hc : c = m
      · subst hc
        by_cases hj : j = 7
        · subst hj; rw [sI_e, sI_e]
        · rw [sI_k hj, sI_k hj, rJ_I, rI_n (by omega), sI_k hj, rJ_I, rI_n (by omega), rJ_I, rI_n (by omega)]
      · rw [sI_n hc, sI_n hc, rJ_I, rJ_I]
        by_cases hc3 : c = m + 3
        · subst hc3; rw [rI_e, rI_e, sI_n (by omega), rJ_I, rI_e]
        · rw [rI_n hc3, rI_n hc3, sI_n hc, rJ_I, rI_n hc3]
    · intro c
      by_cases hc : c = m + 6
      · subst hc; rw [sI_J, sI_J, rJ_e, rJ_e, sI_J, rJ_e]
      · simp only [sI_J, rI_J, rJ_n hc]
    · intro c; rfl
  · have e3 := fun l1 => s115_e (G := G) (Q := Q) (s := s) (σ := σ) hm0 (t := t) (by omega) h7 (l1 := l1)
    have h6' : ¬ nI t = nI 6 := fun z => h6 ((nI_eq (by omega) (by omega)).mp z)
    simp (disch := first | assumption | (simp only [MM_Kd, rI_Kd, rJ_Kd, sI_Kd, sJ_Kd, sR_Kd]; assumption) | omega | decide) only [q115_0, q115_0N, q115_1, q115_4, q115_6, q115_9, q115_10, q115_12, q115_15, q115_18, q115_18N, q115_19, q115_22, q115_23, q115_23N, q115_24, q115_27, q115_30, q115_31, q115_32, q115_32T, q115_33, q115_34, q115_37, q115_41, q115_42, q115_43, q115_45, q115_48, q115_48N, q115_49, q115_52, q115_53, q115_53N, q115_54, q115_57, q115_59, q115_60, q115_61, q115_62, q115_63, q115_66, q115_70, q115_71, q115_74, q115_75, q115_76, q115_80, q115_81, q115_82, q115_85, q115_88, q115_88N, q115_89, q115_92, q115_95, q115_95N, q115_96, q115_99, q115_100, q115_101, q115_102, q115_102N, q115_103, q115_106, q115_107, q115_107T, q115_108, q115_109, q115_112, q115_115, q115_116, q115_117, q115_118, q115_120, q115_123, q115_123N, q115_124, q115_127, q115_129, q115_129N, q115_130, q115_133, q115_134, q115_135, q115_136, q115_136N, q115_137, q115_140, q115_141, q115_142, q115_143, q115_146, q115_149, q115_149N, q115_150, q115_151, q115_154, q115_155, q115_156, q115_159, n6, h7, h6', not_false_eq_true, MM_Io, MM_Kd, MM_Ln, MM_R, MM_I, MM_J, MM_sI, MM_sJ, r1, n1, r4, n4, xaf_s, xaf_v, va_rf_s, xix_n, nI_clamp, xk1_i, xk1_a, xk1_u, xk1_n, xk1_l, xk1_d, true_and, and_true, ↓reduceIte, Nat.reduceAdd, xtup]
    refine (e3 _).trans ?_
    unfold SV SVf SVF SVt
    rw [if_neg h6, if_neg h6, if_neg h6]
end ASD
