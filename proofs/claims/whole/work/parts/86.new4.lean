/-! THE WHOLE OBJECT NEW; THE REFERENCE NEW -/
section CON4
variable {G : xCtx} {μ ν : xMem} {Q : xOut → xMem → Prop} {a b o m T k w : Nat} {P : Nat → Prop}
/-- the saved schemes made -/
theorem m4_l : ∀ k i μ, i + k = 6 → (xKd μ a = 2 ∧ xR μ a 0 = some (a + 1) ∧ xKd μ (a + 1) = 14 ∧ xLn μ (a + 1) = 6) → xFg μ = 0 → xTp μ = a + 2 + 55 * i → CT0 G μ → (∀ j, j < i → xR μ (a + 1) j = some (a + 2 + 55 * j) ∧ SC μ (a + 2 + 55 * j) (fun j => j) 0 x00) → ∃ μ', (∀ Q, Rn G 4 15 [some (.ref a), some (.int (nI i))] [] μ Q = Q (.inl none) μ') ∧ NW μ μ' (fun q => q = a + 1) (55 * k) (1646 * k) ∧ ∀ j, j < 6 → xR μ' (a + 1) j = some (a + 2 + 55 * j) ∧ SC μ' (a + 2 + 55 * j) (fun j => j) 0 x00 := by
  have z6 : (6 : Int32) = nI 6 := rfl
  intro k
  induction k with
  | zero =>
    intro i μ hi hS hf hT hX hH
    have h5 : 6 ≤ i := by omega
    refine ⟨μ, fun Q => ?_, NW.rf, fun j hj => hH j (by omega)⟩
    rw [q4_15]
    simp (disch := first | assumption | (simp only [MM_Kd, rI_Kd, rJ_Kd, sI_Kd, sJ_Kd, sR_Kd]; assumption) | omega | decide) only [q4_16, q4_18, q4_40, z6, nI_leI, h5, xaf_s, xaf_v, va_rf_s, xix_n, nI_clamp, xk1_i, xk1_a, xk1_u, xk1_n, xk1_l, xk1_d, true_and, and_true, ↓reduceIte, Nat.reduceAdd, xtup]
  | succ k ih =>
    intro i μ hi hS hf hT hX hH
    obtain ⟨ka, ra, k1, l1⟩ := hS
    have h5 : ¬ 6 ≤ i := by omega
    have hi8 : i < 6 := by omega
    obtain ⟨ν, hν⟩ : ∃ ν, ν = xnw μ 6 0 11 := ⟨_, rfl⟩
    have nν : NW μ ν (fun _ => False) 1 11 := by rw [hν]; exact NW.nw
    have tν : xTp ν = (a + 2 + 55 * i) + 1 := by have := nν.1; omega
    have kν : xKd ν (a + 2 + 55 * i) = 6 := by rw [hν, ← hT]; exact nw_Ke
    have iν : xI ν (a + 2 + 55 * i) = fun _ => 0 := by rw [hν, ← hT]; exact nw_Ie
    have jν : xJ ν (a + 2 + 55 * i) = fun _ => 0 := by rw [hν, ← hT]; exact nw_Je
    have fν : xFg ν = 0 := nν.2.1.trans hf
    obtain ⟨μ2, e2, n2, s2⟩ := mk33 (G := G) kν fν tν iν jν (hX.nw nν)
    have n12 : NW μ μ2 (fun _ => False) (1 + 54) (11 + 1635) := nν.tr n2 (fun q hq z => by omega)
    have n3 : NW μ (xsR μ2 (a + 1) i (some (a + 2 + 55 * i))) (fun q => q = a + 1) 55 1646 := (n12.mono (fun _ _ z => z.elim)).tr (NW.sR (P := fun q => q = a + 1) rfl) (fun _ _ z => z)
    have ka2 : xKd μ2 a = 2 := (n12.K (by omega)).trans ka
    have k21 : xKd μ2 (a + 1) = 14 := (n12.K (by omega)).trans k1
    have l21 : xLn μ2 (a + 1) = 6 := (n12.L (by omega)).trans l1
    have r2 : xR μ2 a = xR μ a := n12.R (by omega) (fun z => z)
    have kk : (xKd μ2 (a + 1) = 13 ∧ xKd μ2 (a + 2 + 55 * i) = 4) ∨ (xKd μ2 (a + 1) = 14 ∧ xKd μ2 (a + 2 + 55 * i) = 6) := Or.inr ⟨k21, s2.1.1⟩
    have t3 : xTp (xsR μ2 (a + 1) i (some (a + 2 + 55 * i))) = a + 2 + 55 * (i + 1) := by have := n3.1; omega
    have f3 : xFg (xsR μ2 (a + 1) i (some (a + 2 + 55 * i))) = 0 := n3.2.1.trans hf
    have hS3 : xKd (xsR μ2 (a + 1) i (some (a + 2 + 55 * i))) a = 2 ∧ xR (xsR μ2 (a + 1) i (some (a + 2 + 55 * i))) a 0 = some (a + 1) ∧ xKd (xsR μ2 (a + 1) i (some (a + 2 + 55 * i))) (a + 1) = 14 ∧ xLn (xsR μ2 (a + 1) i (some (a + 2 + 55 * i))) (a + 1) = 6 := ⟨ka2, by rw [sR_n (by omega), r2]; exact ra, k21, l21⟩
    have hH3 : ∀ j, j < i + 1 → xR (xsR μ2 (a + 1) i (some (a + 2 + 55 * i))) (a + 1) j = some (a + 2 + 55 * j) ∧ SC (xsR μ2 (a + 1) i (some (a + 2 + 55 * i))) (a + 2 + 55 * j) (fun j => j) 0 x00 := by
      intro j hj
      by_cases hji : j = i
      · subst hji
        exact ⟨sR_e, s2.loc fun q h1 h2 => ⟨rfl, rfl, rfl, sR_n (by omega)⟩⟩
      · obtain ⟨w1, w2⟩ := hH j (by omega)
        refine ⟨?_, w2.loc fun q h1 h2 => n3.at (by omega) (by omega)⟩
        rw [sR_k hji, n12.R (by omega) (fun z => z)]; exact w1
    obtain ⟨μ', v1, v2, v3⟩ := ih (i + 1) _ (by omega) hS3 f3 t3 (hX.nw n3) hH3
    refine ⟨μ', fun Q => ?_, ?_, v3⟩
    · rw [q4_15]
      simp (disch := first | assumption | (simp only [MM_Kd, rI_Kd, rJ_Kd, sI_Kd, sJ_Kd, sR_Kd]; assumption) | omega | decide) only [q4_16, q4_18, q4_21, q4_22, q4_25, q4_26, q4_29, q4_30, q4_33, q4_34, q4_37, z6, nI_leI, h5, ra, ← hν, hT, e2, l21, nI_1, rI_Kd, rI_Ln, rI_R, rI_J, rJ_Kd, rJ_Ln, rJ_R, rJ_I, sI_Kd, sI_Ln, sI_R, sI_J, sJ_Kd, sJ_Ln, sJ_R, sJ_I, sR_Kd, sR_Ln, sR_I, sR_J, xaf_s, xaf_v, va_rf_s, xix_n, nI_clamp, xk1_i, xk1_a, xk1_u, xk1_n, xk1_l, xk1_d, true_and, and_true, ↓reduceIte, Nat.reduceAdd, xtup]
      exact v1 Q
    · have := n3.tr v2 (fun _ _ z => z)
      rw [show 55 * (k + 1) = 55 + 55 * k by omega, show 1646 * (k + 1) = 1646 + 1646 * k by omega]
      exact this
theorem mk4 (hk : xKd μ a = 2) (hf : xFg μ = 0) (hT : xTp μ = a + 1) (hX : CT0 G μ) : ∃ μ', (∀ Q, Cn G 4 [.ref a] μ Q = Q (.inl none) μ') ∧ NW μ μ' (fun q => q = a) 331 9882 ∧ (xR μ' a 0 = some (a + 1) ∧ xKd μ' (a + 1) = 14 ∧ xLn μ' (a + 1) = 6) ∧ xI μ' a = xI μ a ∧ ∀ j, j < 6 → xR μ' (a + 1) j = some (a + 2 + 55 * j) ∧ SC μ' (a + 2 + 55 * j) (fun j => j) 0 x00 := by
  obtain ⟨μ1, m1, n1, k1, l1, i1, j1, r1, s1, x1, y1⟩ := AL_all (μ := μ) (a := a) (j := 0) (k := 14) (n := 6) (by omega)
  rw [hT] at k1 l1 r1
  have t1 : xTp μ1 = a + 2 := by have := n1.1; omega
  have f1 : xFg μ1 = 0 := n1.2.1.trans hf
  have h1 : xKd μ1 a = 2 := (n1.K (by omega)).trans hk
  obtain ⟨μ', v1, v2, v3⟩ := m4_l (G := G) 6 0 μ1 (by omega) ⟨h1, r1, k1, l1⟩ f1 t1 (hX.nw n1) (fun j hj => absurd hj (Nat.not_lt_zero j))
  have g1 : xKd (xnw μ 14 6 6) a = 2 := (nw_K (by omega)).trans hk
  have q1 : xsR (xnw μ 14 6 6) a 0 (some (xTp μ)) = μ1 := m1.symm
  refine ⟨μ', fun Q => ?_, n1.tr v2 (fun q hq z => by omega), ⟨?_, ?_, ?_⟩, ?_, v3⟩
  · have v1' := v1 Q
    rw [show (nI 0 : Int32) = 0 from rfl] at v1'
    show Rn G 4 0 [some (.ref a), none] [] μ Q = _
    simp (disch := first | assumption | (simp only [MM_Kd, rI_Kd, rJ_Kd, sI_Kd, sJ_Kd, sR_Kd]; assumption) | omega | decide) only [q4_0, q4_1, q4_4, q4_5, q4_7, q4_10, q4_13, q4_14, nc6, q1, xaf_s, xaf_v, va_rf_s, xix_n, nI_clamp, xk1_i, xk1_a, xk1_u, xk1_n, xk1_l, xk1_d, true_and, and_true, ↓reduceIte, Nat.reduceAdd, xtup]
    exact v1'
  · rw [v2.R (by omega) (by omega)]; exact r1
  · rw [v2.K (by omega)]; exact k1
  · rw [v2.L (by omega)]; exact l1
  · rw [v2.I (by omega) (by omega)]; exact x1
/-- a new scheme in a field -/
theorem new_sc {j : Nat} (hk : xKd μ o = 7) (ho : o < T) (hf : xFg μ = 0) (hT : xTp μ = T) (hX : CT0 G μ) : ∃ μ1, (∀ Q, Cn G 33 [.ref T] (xnw μ 6 0 11) Q = Q (.inl none) μ1) ∧ NW μ (xsR μ1 o j (some T)) (fun q => q = o) 55 1646 ∧ SC (xsR μ1 o j (some T)) T (fun j => j) 0 x00 ∧ xR (xsR μ1 o j (some T)) o j = some T ∧ (∀ i, i ≠ j → xR (xsR μ1 o j (some T)) o i = xR μ o i) ∧ xKd μ1 o = 7 := by
  obtain ⟨ν, hν⟩ : ∃ ν, ν = xnw μ 6 0 11 := ⟨_, rfl⟩
  have nν : NW μ ν (fun _ => False) 1 11 := by rw [hν]; exact NW.nw
  have tν : xTp ν = T + 1 := by have := nν.1; omega
  have kν : xKd ν T = 6 := by rw [hν, ← hT]; exact nw_Ke
  have iν : xI ν T = fun _ => 0 := by rw [hν, ← hT]; exact nw_Ie
  have jν : xJ ν T = fun _ => 0 := by rw [hν, ← hT]; exact nw_Je
  have fν : xFg ν = 0 := nν.2.1.trans hf
  obtain ⟨μ2, e2, n2, s2⟩ := mk33 (G := G) kν fν tν iν jν (hX.nw nν)
  have n12 : NW μ μ2 (fun _ => False) (1 + 54) (11 + 1635) := nν.tr n2 (fun q hq z => by omega)
  rw [← hν]
  refine ⟨μ2, e2, (n12.mono (fun _ _ z => z.elim)).tr (NW.sR (P := fun q => q = o) rfl) (fun _ _ z => z), s2.loc fun q h1 h2 => ⟨rfl, rfl, rfl, sR_n (by omega)⟩, sR_e, fun i hi => ?_, (n12.K (by omega)).trans hk⟩
  rw [sR_k hi, n12.R (by omega) (fun z => z)]
theorem mk67 (hk : xKd μ o = 7) (hf : xFg μ = 0) (hT : xTp μ = o + 1) (hX : CT0 G μ) : ∃ μ', (∀ Q, Cn G 67 [.ref o] μ Q = Q (.inl none) μ') ∧ NW μ μ' (fun q => q = o) 445 13244 ∧ CSH μ' o ∧ SC μ' (o + 1) (fun j => j) 0 x00 ∧ SC μ' (o + 56) (fun j => j) 0 x00 ∧ (∀ j, j < 6 → SC μ' (o + 113 + 55 * j) (fun j => j) 0 x00) ∧ xI μ' (o + 111) = (fun _ => 0) ∧ xI μ' (o + 443) = (fun _ => 0) := by
  obtain ⟨α1, e1, n1, s1, r1, p1, k1⟩ := new_sc (G := G) (j := 0) hk (by omega : o < o + 1) hf hT hX
  have m1 : ∃ μ1, μ1 = xsR α1 o 0 (some (o + 1)) := ⟨_, rfl⟩
  obtain ⟨μ1, hμ1⟩ := m1
  rw [← hμ1] at n1 s1 r1 p1
  have t1 : xTp μ1 = o + 56 := by have := n1.1; omega
  have f1 : xFg μ1 = 0 := n1.2.1.trans hf
  have o1 : xKd μ1 o = 7 := (n1.K (by omega)).trans hk
  obtain ⟨α2, e2, n2, s2, r2, p2, k2⟩ := new_sc (G := G) (j := 1) o1 (by omega : o < o + 56) f1 t1 (hX.nw n1)
  obtain ⟨μ2, hμ2⟩ : ∃ μ2, μ2 = xsR α2 o 1 (some (o + 56)) := ⟨_, rfl⟩
  rw [← hμ2] at n2 s2 r2 p2
  have t2 : xTp μ2 = o + 111 := by have := n2.1; omega
  have f2 : xFg μ2 = 0 := n2.2.1.trans f1
  have o2 : xKd μ2 o = 7 := (n2.K (by omega)).trans o1
  have X2 : CT0 G μ2 := (hX.nw n1).nw n2
  -- the history
  obtain ⟨β3, hβ3⟩ : ∃ β, β = xnw μ2 2 0 3 := ⟨_, rfl⟩
  have nβ3 : NW μ2 β3 (fun _ => False) 1 3 := by rw [hβ3]; exact NW.nw
  have tβ3 : xTp β3 = (o + 111) + 1 := by have := nβ3.1; omega
  have kβ3 : xKd β3 (o + 111) = 2 := by rw [hβ3, ← t2]; exact nw_Ke
  have iβ3 : xI β3 (o + 111) = fun _ => 0 := by rw [hβ3, ← t2]; exact nw_Ie
  obtain ⟨α3, e3, n3, ⟨h30, h31, h32⟩, x3, s3⟩ := mk4 (G := G) kβ3 (nβ3.2.1.trans f2) tβ3 (X2.nw nβ3)
  have k3 : xKd α3 o = 7 := (n3.K (by omega)).trans ((nβ3.K (by omega)).trans o2)
  have m3 : NW μ2 α3 (fun _ => False) (1 + 331) (3 + 9882) := nβ3.tr n3 (fun q hq z => by omega)
  obtain ⟨μ3, hμ3⟩ : ∃ μ3, μ3 = xsR α3 o 2 (some (o + 111)) := ⟨_, rfl⟩
  have w3 : NW α3 μ3 (fun q => q = o) 0 0 := by rw [hμ3]; exact NW.sR rfl
  have n3' : NW μ2 μ3 (fun q => q = o) (332 + 0) (9885 + 0) := (m3.mono (fun _ _ z => z.elim)).tr w3 (fun _ _ z => z)
  have t3 : xTp μ3 = o + 443 := by have := n3'.1; omega
  have f3 : xFg μ3 = 0 := n3'.2.1.trans f2
  have o3 : xKd μ3 o = 7 := (n3'.K (by omega)).trans o2
  have r3 : xR μ3 o 2 = some (o + 111) := by rw [hμ3]; exact sR_e
  have p3 : ∀ i, i ≠ 2 → xR μ3 o i = xR μ2 o i := fun i hi => by rw [hμ3, sR_k hi, m3.R (by omega) (fun z => z)]
  -- the buffer
  obtain ⟨β4, hβ4⟩ : ∃ β, β = xnw μ3 1 0 2 := ⟨_, rfl⟩
  have nβ4 : NW μ3 β4 (fun _ => False) 1 2 := by rw [hβ4]; exact NW.nw
  have tβ4 : xTp β4 = (o + 443) + 1 := by have := nβ4.1; omega
  have kβ4 : xKd β4 (o + 443) = 1 := by rw [hβ4, ← t3]; exact nw_Ke
  have iβ4 : xI β4 (o + 443) = fun _ => 0 := by rw [hβ4, ← t3]; exact nw_Ie
  obtain ⟨α4, e4, n4, h40, h41, h42, x4⟩ := mk0 (G := G) kβ4 (nβ4.2.1.trans f3) tβ4
  have k4 : xKd α4 o = 7 := (n4.K (by omega)).trans ((nβ4.K (by omega)).trans o3)
  have m4 : NW μ3 α4 (fun _ => False) (1 + 1) (2 + 60) := nβ4.tr n4 (fun q hq z => by omega)
  have kb4 : xKd α4 (o + 443) = 1 := (n4.K (by omega)).trans kβ4
  obtain ⟨μ4, hμ4⟩ : ∃ μ4, μ4 = xsR α4 o 3 (some (o + 443)) := ⟨_, rfl⟩
  have w4 : NW α4 μ4 (fun q => q = o) 0 0 := by rw [hμ4]; exact NW.sR rfl
  have n4' : NW μ3 μ4 (fun q => q = o) (2 + 0) (62 + 0) := (m4.mono (fun _ _ z => z.elim)).tr w4 (fun _ _ z => z)
  have t4 : xTp μ4 = o + 445 := by have := n4'.1; omega
  have f4 : xFg μ4 = 0 := n4'.2.1.trans f3
  have o4 : xKd μ4 o = 7 := (n4'.K (by omega)).trans o3
  have r4 : xR μ4 o 3 = some (o + 443) := by rw [hμ4]; exact sR_e
  have p4 : ∀ i, i ≠ 3 → xR μ4 o i = xR μ3 o i := fun i hi => by rw [hμ4, sR_k hi, m4.R (by omega) (fun z => z)]
  -- the reader
  obtain ⟨β5, hβ5⟩ : ∃ β, β = xnw μ4 5 0 5 := ⟨_, rfl⟩
  have nβ5 : NW μ4 β5 (fun _ => False) 1 5 := by rw [hβ5]; exact NW.nw
  have kβ5 : xKd β5 (o + 445) = 5 := by rw [hβ5, ← t4]; exact nw_Ke
  have k5 : xKd β5 o = 7 := (nβ5.K (by omega)).trans o4
  obtain ⟨μ5, hμ5⟩ : ∃ μ5, μ5 = xsR β5 o 4 (some (o + 445)) := ⟨_, rfl⟩
  have w5 : NW β5 μ5 (fun q => q = o) 0 0 := by rw [hμ5]; exact NW.sR rfl
  have n5' : NW μ4 μ5 (fun q => q = o) (1 + 0) (5 + 0) := (nβ5.mono (fun _ _ z => z.elim)).tr w5 (fun _ _ z => z)
  have o5 : xKd μ5 o = 7 := (n5'.K (by omega)).trans o4
  have r5 : xR μ5 o 4 = some (o + 445) := by rw [hμ5]; exact sR_e
  have p5 : ∀ i, i ≠ 4 → xR μ5 o i = xR μ4 o i := fun i hi => by rw [hμ5, sR_k hi, nβ5.R (by omega) (fun z => z)]
  have kr5 : xKd μ5 (o + 445) = 5 := by rw [hμ5, sR_Kd]; exact kβ5
  have n25 : NW μ2 μ5 (fun q => q = o) (332 + 0 + (2 + 0) + (1 + 0)) (9885 + 0 + (62 + 0) + (5 + 0)) := (n3'.tr n4' (fun _ _ z => z)).tr n5' (fun _ _ z => z)
  have n35 : NW μ3 μ5 (fun q => q = o) (2 + 0 + (1 + 0)) (62 + 0 + (5 + 0)) := n4'.tr n5' (fun _ _ z => z)
  have nT : NW μ μ5 (fun q => q = o) 445 13244 := (n1.tr n2 (fun _ _ z => z)).tr n25 (fun _ _ z => z)
  have a35 := fun q (h1 : q < o + 443) (h2 : q ≠ o) => n35.at (q := q) (by omega) h2
  have a33 := fun q (h1 : q < o + 443) (h2 : q ≠ o) => w3.at (q := q) (by have := n3.1; omega) h2
  have a45 := fun q (h1 : q < o + 445) (h2 : q ≠ o) => n5'.at (q := q) (by omega) h2
  have a44 := fun q (h1 : q < o + 445) (h2 : q ≠ o) => w4.at (q := q) (by have := n4.1; omega) h2
  have K := fun q (h1 : q < o + 443) (h2 : q ≠ o) => ((a35 q h1 h2).1.trans (a33 q h1 h2).1 : μ5.1 q = α3.1 q)
  have RR := fun q (h1 : q < o + 443) (h2 : q ≠ o) => ((a35 q h1 h2).2.2.2.trans (a33 q h1 h2).2.2.2 : xR μ5 q = xR α3 q)
  have K4 := fun q (h1 : q < o + 445) (h2 : q ≠ o) => ((a45 q h1 h2).1.trans (a44 q h1 h2).1 : μ5.1 q = α4.1 q)
  have RR4 := fun q (h1 : q < o + 445) (h2 : q ≠ o) => ((a45 q h1 h2).2.2.2.trans (a44 q h1 h2).2.2.2 : xR μ5 q = xR α4 q)
  have kh : xKd α3 (o + 111) = 2 := (n3.K (by omega)).trans kβ3
  refine ⟨μ5, fun Q => ?_, nT, ⟨o5, ⟨?_, ?_, ?_, ?_, r5⟩, ⟨?_, ?_⟩, ⟨?_, ?_, fun j hj => ?_⟩, ⟨?_, ?_⟩, ⟨?_, ?_⟩, kr5⟩, ?_, ?_, fun j hj => ?_, ?_, ?_⟩
  · have g1 : xKd (xnw μ 6 0 11) (o + 1) = 6 := by rw [← hT]; exact nw_Ke
    have g2 : xKd (xnw μ1 6 0 11) (o + 56) = 6 := by rw [← t1]; exact nw_Ke
    show Rn G 67 0 [some (.ref o)] [] μ Q = _
    simp (disch := first | assumption | (simp only [MM_Kd, rI_Kd, rJ_Kd, sI_Kd, sJ_Kd, sR_Kd]; assumption) | omega | decide) only [q67_0, q67_0N, q67_1, q67_4, q67_4N, q67_5, q67_8, q67_9, q67_12, q67_15, q67_15N, q67_16, q67_19, q67_20, q67_23, q67_26, q67_26N, q67_27, q67_30, q67_31, q67_34, q67_37, q67_37N, q67_38, q67_41, q67_42, q67_45, q67_48, q67_48N, q67_49, q67_52, q67_53, q67_56, q67_59, hT, e1, ← hμ1, t1, e2, ← hμ2, t2, ← hβ3, e3, ← hμ3, t3, ← hβ4, e4, ← hμ4, t4, ← hβ5, mk26, ← hμ5, xaf_s, xaf_v, va_rf_s, xix_n, nI_clamp, xk1_i, xk1_a, xk1_u, xk1_n, xk1_l, xk1_d, true_and, and_true, ↓reduceIte, Nat.reduceAdd, xtup]
  · rw [p5 0 (by omega), p4 0 (by omega), p3 0 (by omega), p2 0 (by omega)]; exact r1
  · rw [p5 1 (by omega), p4 1 (by omega), p3 1 (by omega)]; exact r2
  · rw [p5 2 (by omega), p4 2 (by omega)]; exact r3
  · rw [p5 3 (by omega)]; exact r4
  · unfold xKd; rw [K _ (by omega) (by omega)]; exact kh
  · rw [RR _ (by omega) (by omega)]; exact h30
  · unfold xKd; rw [K _ (by omega) (by omega)]; exact h31
  · unfold xLn; rw [K _ (by omega) (by omega)]; exact h32
  · rw [RR _ (by omega) (by omega)]; exact (s3 j hj).1
  · unfold xKd; rw [K4 _ (by omega) (by omega)]; exact kb4
  · rw [RR4 _ (by omega) (by omega)]; exact h40
  · unfold xKd; rw [K4 _ (by omega) (by omega)]; exact h41
  · unfold xLn; rw [K4 _ (by omega) (by omega)]; exact h42
  · exact (s1.loc fun q h1 h2 => n2.at (by omega) (by omega)).loc fun q h1 h2 => n25.at (by omega) (by omega)
  · exact s2.loc fun q h1 h2 => n25.at (by omega) (by omega)
  · refine (s3 j hj).2.loc fun q h1 h2 => ?_
    obtain ⟨b1, b2, b3, b4⟩ := a35 q (by omega) (by omega)
    obtain ⟨d1, d2, d3, d4⟩ := a33 q (by omega) (by omega)
    exact ⟨b1.trans d1, b2.trans d2, b3.trans d3, b4.trans d4⟩
  · rw [(a35 _ (by omega) (by omega)).2.1, (a33 _ (by omega) (by omega)).2.1, x3]; exact iβ3
  · rw [(a45 _ (by omega) (by omega)).2.1, (a44 _ (by omega) (by omega)).2.1, x4]; exact iβ4
theorem CST00 {S : Nat → ST} (hC : CSH μ o) (h1 : SC μ (o + 1) (fun j => j) 0 x00) (h2 : SC μ (o + 56) (fun j => j) 0 x00) (h3 : ∀ j, j < 6 → SC μ (o + 113 + 55 * j) (fun j => j) 0 x00) (h4 : xI μ (o + 111) = fun _ => 0) : CST μ o 0 0 0 (fun j => j) 0 S x00 := by
  refine ⟨hC, ⟨⟨_, h2.1, h2.2.1⟩, fun j hj => ⟨_, (h3 j hj).1, (h3 j hj).2.1⟩⟩, ⟨0, by omega, by omega, by rw [h4]; rfl, by rw [h4]; rfl, fun k hk => absurd hk (Nat.not_lt_zero k)⟩, by omega, INV00, h1⟩
end CON4
