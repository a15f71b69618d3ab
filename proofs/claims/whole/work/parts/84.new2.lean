/-! NEW SCHEMES -/
/-- the reference's row at the start -/
def s00 : Nat → Int32 := up (up (up (up (up (up (up (up (up (up (fun _ => 0) 6 780) 7 12) 8 5) 9 2) 10 100) 11 60) 13 100) 14 60) 16 100) 17 60
def x00 : ST := (s00, fun _ => 0)
theorem s00_at {j : Nat} {v : Int32} (h : s00 j = v) : s00 j = v := h
theorem INV00 : INV 0 0 0 x00 := by
  refine ⟨⟨rfl, rfl, by omega, ⟨0, rfl, by omega⟩, ⟨780, by omega, by omega, rfl⟩, ⟨12, by omega, by omega, rfl⟩, ⟨5, by omega, rfl⟩, ⟨2, by omega, by omega, rfl⟩, fun k hk => ?_⟩, ⟨⟨0, rfl, by omega⟩, 0, rfl, by omega⟩, fun p hp => absurd hp (Nat.not_lt_zero p)⟩
  have : k = 0 ∨ k = 1 ∨ k = 2 := by omega
  rcases this with rfl | rfl | rfl
  · exact ⟨⟨100, by omega, by omega, rfl⟩, ⟨60, by omega, by omega, rfl⟩, Or.inl rfl⟩
  · exact ⟨⟨100, by omega, by omega, rfl⟩, ⟨60, by omega, by omega, rfl⟩, Or.inl rfl⟩
  · exact ⟨⟨100, by omega, by omega, rfl⟩, ⟨60, by omega, by omega, rfl⟩, Or.inl rfl⟩
/-- the statics lie below -/
def CT0 (G : xCtx) (μ : xMem) : Prop := ∀ j, j < 3 → G.1 j < xTp μ ∧ xKd μ (G.1 j) = 0 ∧ ∃ f, G.2 (G.1 j) = some (4, f) ∧ ∀ i, i < 4 → f i = xsv j i
section CON2
variable {G : xCtx} {μ ν : xMem} {Q : xOut → xMem → Prop} {a b T k w : Nat} {P : Nat → Prop}
theorem CT0.nw (h : CT0 G μ) (hN : NW μ ν P k w) : CT0 G ν := fun j hj => by
  obtain ⟨h1, h2, h3⟩ := h j hj
  exact ⟨by have := hN.1; omega, (hN.K h1).trans h2, h3⟩
theorem xsv0 : ∀ i : Fin 4, xsv 0 i = ([780, 12, 5, 2] : List Int32).getD i 0 := by decide
/-- the settings laid -/
theorem m33_a (hS : SH μ b) (hX : CT0 G μ) (hb : b + 7 ≤ xTp μ) : ∃ g : Nat → Int32, (∀ i, i < 4 → g i = s00 (6 + i)) ∧ ∀ Q, Rn G 33 51 [some (.ref b), some (.int (nI 0))] [] μ Q = Rn G 33 73 [some (.ref b), some (.int (nI 4))] [] (xrI μ (b + 1) (cpy g (xI μ (b + 1)) 0 4)) Q := by
  obtain ⟨b0, ⟨b1, u1⟩, ⟨b2, u2⟩, ⟨b3, u3⟩, ⟨b4, u4⟩, ⟨b5, u5⟩, ⟨b6, u6⟩, r0, r1, r2, r3, r4, r5⟩ := hS
  obtain ⟨h1, h2, f, h3, h4⟩ := hX 0 (by omega)
  have z4 : (4 : Int32) = nI 4 := rfl
  refine ⟨f, fun i hi => ?_, fun Q => ?_⟩
  · rw [h4 i hi]
    have : i = 0 ∨ i = 1 ∨ i = 2 ∨ i = 3 := by omega
    rcases this with rfl | rfl | rfl | rfl <;> rfl
  · have key : ∀ k i, i + k = 4 → Rn G 33 51 [some (.ref b), some (.int (nI i))] [] (xrI μ (b + 1) (cpy f (xI μ (b + 1)) 0 i)) Q = Rn G 33 73 [some (.ref b), some (.int (nI 4))] [] (xrI μ (b + 1) (cpy f (xI μ (b + 1)) 0 4)) Q := by
      intro k
      induction k with
      | zero =>
        intro i hi
        have h5 : 4 ≤ i := by omega
        have e : i = 4 := by omega
        subst e
        rw [q33_51]
        simp (disch := first | assumption | (simp only [MM_Kd, rI_Kd, rJ_Kd, sI_Kd, sJ_Kd, sR_Kd]; assumption) | omega | decide) only [q33_52, q33_53, z4, nI_leI, h5, xaf_s, xaf_v, va_rf_s, xix_n, nI_clamp, xk1_i, xk1_a, xk1_u, xk1_n, xk1_l, xk1_d, true_and, and_true, ↓reduceIte, Nat.reduceAdd, xtup]
      | succ k ih =>
        intro i hi
        have h5 : ¬ 4 ≤ i := by omega
        have kx : xKd (xrI μ (b + 1) (cpy f (xI μ (b + 1)) 0 i)) (G.1 0) = 0 := h2
        rw [q33_51]
        simp (disch := first | assumption | (simp only [MM_Kd, rI_Kd, rJ_Kd, sI_Kd, sJ_Kd, sR_Kd]; assumption) | omega | decide) only [q33_52, q33_53, q33_56, q33_57, q33_60, q33_61, q33_64, q33_65T, q33_66, q33_67, q33_70, z4, nI_leI, h5, r0, u1, nI_1, rI_sI, cpy_1', rI_Kd, rI_Ln, rI_R, rI_J, rJ_Kd, rJ_Ln, rJ_R, rJ_I, sI_Kd, sI_Ln, sI_R, sI_J, sJ_Kd, sJ_Ln, sJ_R, sJ_I, sR_Kd, sR_Ln, sR_I, sR_J, xaf_s, xaf_v, va_rf_s, xix_n, nI_clamp, xk1_i, xk1_a, xk1_u, xk1_n, xk1_l, xk1_d, true_and, and_true, ↓reduceIte, Nat.reduceAdd, xtup]
        exact ih (i + 1) (by omega)
    have := key 4 0 (by omega)
    rw [cpy_0, rI_self] at this
    exact this
/-- the sections laid -/
theorem m33_b (hS : SH μ b) : ∀ Q, Rn G 33 73 [some (.ref b), some (.int (nI 4))] [] μ Q = Rn G 33 102 [some (.ref b), some (.int (nI 3))] [] (xrI (xrI μ (b + 2) (cpy (fun _ => 100) (xI μ (b + 2)) 0 3)) (b + 3) (cpy (fun _ => 60) (xI μ (b + 3)) 0 3)) Q := by
  intro Q
  obtain ⟨b0, ⟨b1, u1⟩, ⟨b2, u2⟩, ⟨b3, u3⟩, ⟨b4, u4⟩, ⟨b5, u5⟩, ⟨b6, u6⟩, r0, r1, r2, r3, r4, r5⟩ := hS
  have z3 : (3 : Int32) = nI 3 := rfl
  have co : ∀ (f g : Nat → Int32) (v : Int32) k, xsI (xrI (xrI μ (b + 2) f) (b + 3) g) (b + 2) k v = xrI (xrI μ (b + 2) (up f k v)) (b + 3) g := fun f g v k => by
    have e : xu2 (xu1 (xu1 (xI μ) (b + 2) f) (b + 3) g) (b + 2) k v = xu1 (xu1 (xI μ) (b + 2) (up f k v)) (b + 3) g := by
      funext q j
      unfold xu1 xu2 up
      by_cases h3 : q = b + 3
      · rw [if_neg (by omega)]; dsimp only; rw [if_pos h3, if_pos h3]
      · by_cases h2 : q = b + 2
        · by_cases hj : j = k
          · rw [if_pos ⟨h2, hj⟩, if_neg h3, if_pos h2, if_pos hj]
          · rw [if_neg (fun z => hj z.2)]; dsimp only; rw [if_neg h3, if_neg h3, if_pos h2, if_pos h2, if_neg hj]
        · rw [if_neg (fun z => h2 z.1)]; dsimp only; rw [if_neg h3, if_neg h3, if_neg h2, if_neg h2]
    show (μ.1, μ.2.1, xu2 (xu1 (xu1 (xI μ) (b + 2) f) (b + 3) g) (b + 2) k v, _, _) = _
    rw [e]; rfl
  have key : ∀ k i, i + k = 3 → Rn G 33 75 [some (.ref b), some (.int (nI i))] [] (xrI (xrI μ (b + 2) (cpy (fun _ => 100) (xI μ (b + 2)) 0 i)) (b + 3) (cpy (fun _ => 60) (xI μ (b + 3)) 0 i)) Q = Rn G 33 102 [some (.ref b), some (.int (nI 3))] [] (xrI (xrI μ (b + 2) (cpy (fun _ => 100) (xI μ (b + 2)) 0 3)) (b + 3) (cpy (fun _ => 60) (xI μ (b + 3)) 0 3)) Q := by
    intro k
    induction k with
    | zero =>
      intro i hi
      have h5 : 3 ≤ i := by omega
      have e : i = 3 := by omega
      subst e
      rw [q33_75]
      simp (disch := first | assumption | (simp only [MM_Kd, rI_Kd, rJ_Kd, sI_Kd, sJ_Kd, sR_Kd]; assumption) | omega | decide) only [q33_76, q33_77, z3, nI_leI, h5, xaf_s, xaf_v, va_rf_s, xix_n, nI_clamp, xk1_i, xk1_a, xk1_u, xk1_n, xk1_l, xk1_d, true_and, and_true, ↓reduceIte, Nat.reduceAdd, xtup]
    | succ k ih =>
      intro i hi
      have h5 : ¬ 3 ≤ i := by omega
      have e1 : up (cpy (fun _ => (100 : Int32)) (xI μ (b + 2)) 0 i) i 100 = cpy (fun _ => 100) (xI μ (b + 2)) 0 (i + 1) := cpy_1' (f := fun _ => (100 : Int32))
      have e2 : up (cpy (fun _ => (60 : Int32)) (xI μ (b + 3)) 0 i) i 60 = cpy (fun _ => 60) (xI μ (b + 3)) 0 (i + 1) := cpy_1' (f := fun _ => (60 : Int32))
      rw [q33_75]
      simp (disch := first | assumption | (simp only [MM_Kd, rI_Kd, rJ_Kd, sI_Kd, sJ_Kd, sR_Kd]; assumption) | omega | decide) only [q33_76, q33_77, q33_80, q33_81, q33_84, q33_85, q33_87, q33_88, q33_89, q33_92, q33_93, q33_95, q33_96, q33_99, z3, nI_leI, h5, r1, r2, u2, u3, nI_1, co, rI_sI, e1, e2, rI_Kd, rI_Ln, rI_R, rI_J, rJ_Kd, rJ_Ln, rJ_R, rJ_I, sI_Kd, sI_Ln, sI_R, sI_J, sJ_Kd, sJ_Ln, sJ_R, sJ_I, sR_Kd, sR_Ln, sR_I, sR_J, xaf_s, xaf_v, va_rf_s, xix_n, nI_clamp, xk1_i, xk1_a, xk1_u, xk1_n, xk1_l, xk1_d, true_and, and_true, ↓reduceIte, Nat.reduceAdd, xtup]
      exact ih (i + 1) (by omega)
  have := key 3 0 (by omega)
  rw [cpy_0, cpy_0, rI_self, rI_self] at this
  rw [q33_73, q33_74]
  exact this
end CON2
