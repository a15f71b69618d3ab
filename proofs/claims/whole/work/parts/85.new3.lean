/-! NEW SCHEMES, ON -/
section LOC
variable {μ ν : xMem} {a b n : Nat} {π : Nat → Nat} {x : ST}
theorem HB.loc (h : HB μ a) (e : ∀ q, a ≤ q → q < a + 6 → ν.1 q = μ.1 q ∧ xR ν q = xR μ q) : HB ν a := by
  unfold HB xKd xLn at *
  rw [(e a (by omega) (by omega)).1, (e (a + 1) (by omega) (by omega)).1, (e (a + 2) (by omega) (by omega)).1, (e (a + 3) (by omega) (by omega)).1, (e (a + 4) (by omega) (by omega)).1, (e (a + 5) (by omega) (by omega)).1, (e a (by omega) (by omega)).2, (e (a + 2) (by omega) (by omega)).2]
  exact h
theorem SH.loc (h : SH μ b) (e : ∀ q, b ≤ q → q < b + 7 → ν.1 q = μ.1 q ∧ xR ν q = xR μ q) : SH ν b := by
  unfold SH xKd xLn at *
  rw [(e b (by omega) (by omega)).1, (e (b + 1) (by omega) (by omega)).1, (e (b + 2) (by omega) (by omega)).1, (e (b + 3) (by omega) (by omega)).1, (e (b + 4) (by omega) (by omega)).1, (e (b + 5) (by omega) (by omega)).1, (e (b + 6) (by omega) (by omega)).1, (e b (by omega) (by omega)).2]
  exact h
/-- a scheme is what its own cells hold -/
theorem SC.loc (h : SC μ b π n x) (e : ∀ q, b ≤ q → q < b + 55 → ν.1 q = μ.1 q ∧ xI ν q = xI μ q ∧ xJ ν q = xJ μ q ∧ xR ν q = xR μ q) : SC ν b π n x := by
  obtain ⟨hS, hR, ⟨g3, g0, gf, g4, g5, gs, gr, gσ⟩, hM, h0⟩ := h
  have pi := fun j (hj : j < 8) => (hR.1 j hj).1
  refine ⟨hS.loc fun q h1 h2 => ⟨(e q h1 (by omega)).1, (e q h1 (by omega)).2.2.2⟩, ⟨fun i hi => ⟨(hR.1 i hi).1, ?_⟩, hR.2.1, fun j hj => (hR.2.2 j hj).loc fun q h1 h2 => ⟨(e q (by omega) (by omega)).1, (e q (by omega) (by omega)).2.2.2⟩⟩, ⟨?_, ?_, ?_, ?_, ?_, fun k hk => ?_, fun k hk => ?_, fun k hk => ?_⟩, fun i hi hi8 => (hM i hi hi8).of fun q q1 q2 => ?_, fun i hi hi8 => ?_⟩
  · rw [(e (b + 5) (by omega) (by omega)).2.2.2]; exact (hR.1 i hi).2
  · rw [(e b (by omega) (by omega)).2.1]; exact g3
  · rw [(e b (by omega) (by omega)).2.1]; exact g0
  · rw [(e b (by omega) (by omega)).2.2.1]; exact gf
  · rw [(e b (by omega) (by omega)).2.1]; exact g4
  · rw [(e b (by omega) (by omega)).2.1]; exact g5
  · rw [(e (b + 1) (by omega) (by omega)).2.1]; exact gs k hk
  · rw [(e (b + 2) (by omega) (by omega)).2.1, (e (b + 3) (by omega) (by omega)).2.1, (e (b + 4) (by omega) (by omega)).2.1]; exact gr k hk
  · rw [(e (b + 6) (by omega) (by omega)).2.2.1]; exact gσ k hk
  · have := pi i hi8; unfold AD at q1 q2; exact (e q (by omega) (by omega)).2.1
  · have := pi i hi8; unfold AD; rw [(e _ (by omega) (by omega)).2.1]; exact h0 i hi hi8
end LOC
section CON3
variable {G : xCtx} {μ ν : xMem} {Q : xOut → xMem → Prop} {a b T k w : Nat} {P : Nat → Prop}
theorem NW.at {q : Nat} (h : NW μ ν P k w) (hq : q < xTp μ) (hP : ¬ P q) : ν.1 q = μ.1 q ∧ xI ν q = xI μ q ∧ xJ ν q = xJ μ q ∧ xR ν q = xR μ q := ⟨(h.2.2.2.2 q hq).1, (h.2.2.2.2 q hq).2 hP⟩
/-- the members made -/
theorem m33_c : ∀ k i μ, i + k = 8 → SH μ b → xFg μ = 0 → xTp μ = b + 7 + 6 * i → (∀ j, j < i → xR μ (b + 5) j = some (b + 7 + 6 * j) ∧ HB μ (b + 7 + 6 * j) ∧ xI μ (b + 7 + 6 * j) 2 = 0) → ∃ μ', (∀ Q, Rn G 33 104 [some (.ref b), some (.int (nI i))] [] μ Q = Q (.inl none) μ') ∧ NW μ μ' (fun q => q = b + 5) (6 * k) (201 * k) ∧ SH μ' b ∧ ∀ j, j < 8 → xR μ' (b + 5) j = some (b + 7 + 6 * j) ∧ HB μ' (b + 7 + 6 * j) ∧ xI μ' (b + 7 + 6 * j) 2 = 0 := by
  have z8 : (8 : Int32) = nI 8 := rfl
  intro k
  induction k with
  | zero =>
    intro i μ hi hS hf hT hH
    have h5 : 8 ≤ i := by omega
    refine ⟨μ, fun Q => ?_, NW.rf, hS, fun j hj => hH j (by omega)⟩
    rw [q33_104]
    simp (disch := first | assumption | (simp only [MM_Kd, rI_Kd, rJ_Kd, sI_Kd, sJ_Kd, sR_Kd]; assumption) | omega | decide) only [q33_105, q33_107, q33_129, z8, nI_leI, h5, xaf_s, xaf_v, va_rf_s, xix_n, nI_clamp, xk1_i, xk1_a, xk1_u, xk1_n, xk1_l, xk1_d, true_and, and_true, ↓reduceIte, Nat.reduceAdd, xtup]
  | succ k ih =>
    intro i μ hi hS hf hT hH
    have h5 : ¬ 8 ≤ i := by omega
    have hi8 : i < 8 := by omega
    obtain ⟨ν, hν⟩ : ∃ ν, ν = xnw μ 4 0 10 := ⟨_, rfl⟩
    have nν : NW μ ν (fun _ => False) 1 10 := by rw [hν]; exact NW.nw
    have tν : xTp ν = (b + 7 + 6 * i) + 1 := by have := nν.1; omega
    have kν : xKd ν (b + 7 + 6 * i) = 4 := by rw [hν, ← hT]; exact nw_Ke
    have iν : xI ν (b + 7 + 6 * i) = fun _ => 0 := by rw [hν, ← hT]; exact nw_Ie
    have fν : xFg ν = 0 := nν.2.1.trans hf
    obtain ⟨μ2, e2, n2, hb2, x2⟩ := mk20 (G := G) kν fν tν
    have n12 : NW μ μ2 (fun _ => False) (1 + 5) (10 + 191) := nν.tr n2 (fun q hq z => by omega)
    have n3 : NW μ (xsR μ2 (b + 5) i (some (b + 7 + 6 * i))) (fun q => q = b + 5) 6 201 := (n12.mono (fun _ _ z => z.elim)).tr (NW.sR (P := fun q => q = b + 5) rfl) (fun _ _ z => z)
    have hS0 := hS
    obtain ⟨b0, ⟨b1, u1⟩, ⟨b2, u2⟩, ⟨b3, u3⟩, ⟨b4, u4⟩, ⟨b5, u5⟩, ⟨b6, u6⟩, r0, r1, r2, r3, r4, r5⟩ := hS
    have hS2 : SH μ2 b := hS0.loc fun q h1 h2 => ⟨(n12.at (by omega) (fun z => z)).1, (n12.at (by omega) (fun z => z)).2.2.2⟩
    have hS3 : SH (xsR μ2 (b + 5) i (some (b + 7 + 6 * i))) b := hS2.of rfl (sR_n (by omega))
    have k25 : xKd μ2 (b + 5) = 13 := hS2.2.2.2.2.2.1.1
    have l25 : xLn μ2 (b + 5) = 8 := hS2.2.2.2.2.2.1.2
    have kk : (xKd μ2 (b + 5) = 13 ∧ xKd μ2 (b + 7 + 6 * i) = 4) ∨ (xKd μ2 (b + 5) = 14 ∧ xKd μ2 (b + 7 + 6 * i) = 6) := Or.inl ⟨k25, hb2.1⟩
    have t3 : xTp (xsR μ2 (b + 5) i (some (b + 7 + 6 * i))) = b + 7 + 6 * (i + 1) := by have := n3.1; omega
    have f3 : xFg (xsR μ2 (b + 5) i (some (b + 7 + 6 * i))) = 0 := n3.2.1.trans hf
    have hH3 : ∀ j, j < i + 1 → xR (xsR μ2 (b + 5) i (some (b + 7 + 6 * i))) (b + 5) j = some (b + 7 + 6 * j) ∧ HB (xsR μ2 (b + 5) i (some (b + 7 + 6 * i))) (b + 7 + 6 * j) ∧ xI (xsR μ2 (b + 5) i (some (b + 7 + 6 * i))) (b + 7 + 6 * j) 2 = 0 := by
      intro j hj
      by_cases hji : j = i
      · subst hji
        refine ⟨sR_e, hb2.loc fun q h1 h2 => ⟨rfl, sR_n (by omega)⟩, ?_⟩
        rw [sR_I, x2, iν]
      · obtain ⟨w1, w2, w3⟩ := hH j (by omega)
        refine ⟨?_, w2.loc fun q h1 h2 => ?_, ?_⟩
        · rw [sR_k hji, (n12.at (by omega) (fun z => z)).2.2.2]; exact w1
        · have := n3.at (q := q) (by omega) (by omega)
          exact ⟨this.1, this.2.2.2⟩
        · rw [(n3.at (by omega) (by omega)).2.1]; exact w3
    obtain ⟨μ', v1, v2, v3, v4⟩ := ih (i + 1) _ (by omega) hS3 f3 t3 hH3
    refine ⟨μ', fun Q => ?_, ?_, v3, v4⟩
    · rw [q33_104]
      simp (disch := first | assumption | (simp only [MM_Kd, rI_Kd, rJ_Kd, sI_Kd, sJ_Kd, sR_Kd]; assumption) | omega | decide) only [q33_105, q33_107, q33_110, q33_111, q33_114, q33_115, q33_118, q33_119, q33_122, q33_123, q33_126, z8, nI_leI, h5, r4, ← hν, hT, e2, l25, nI_1, rI_Kd, rI_Ln, rI_R, rI_J, rJ_Kd, rJ_Ln, rJ_R, rJ_I, sI_Kd, sI_Ln, sI_R, sI_J, sJ_Kd, sJ_Ln, sJ_R, sJ_I, sR_Kd, sR_Ln, sR_I, sR_J, xaf_s, xaf_v, va_rf_s, xix_n, nI_clamp, xk1_i, xk1_a, xk1_u, xk1_n, xk1_l, xk1_d, true_and, and_true, ↓reduceIte, Nat.reduceAdd, xtup]
      exact v1 Q
    · have := n3.tr v2 (fun _ _ z => z)
      rw [show 6 * (k + 1) = 6 + 6 * k by omega, show 201 * (k + 1) = 201 + 201 * k by omega]
      exact this
theorem mk33 (hk : xKd μ b = 6) (hf : xFg μ = 0) (hT : xTp μ = b + 1) (hI : xI μ b = fun _ => 0) (hJ : xJ μ b = fun _ => 0) (hX : CT0 G μ) : ∃ μ', (∀ Q, Cn G 33 [.ref b] μ Q = Q (.inl none) μ') ∧ NW μ μ' (fun q => q = b) 54 1635 ∧ SC μ' b (fun j => j) 0 x00 := by
  obtain ⟨μ1, m1, n1, k1, l1, i1, j1, r1, s1, x1, y1⟩ := AL_all (μ := μ) (a := b) (j := 0) (k := 9) (n := 4) (by omega)
  have t1 : xTp μ1 = b + 2 := by have := n1.1; omega
  have f1 : xFg μ1 = 0 := n1.2.1.trans hf
  have h1 : xKd μ1 b = 6 := (n1.K (by omega)).trans hk
  obtain ⟨μ2, m2, n2, k2, l2, i2, j2, r2, s2, x2, y2⟩ := AL_all (μ := μ1) (a := b) (j := 1) (k := 9) (n := 3) (by omega)
  have t2 : xTp μ2 = b + 3 := by have := n2.1; omega
  have f2 : xFg μ2 = 0 := n2.2.1.trans f1
  have h2 : xKd μ2 b = 6 := (n2.K (by omega)).trans h1
  obtain ⟨μ3, m3, n3, k3, l3, i3, j3, r3, s3, x3, y3⟩ := AL_all (μ := μ2) (a := b) (j := 2) (k := 9) (n := 3) (by omega)
  have t3 : xTp μ3 = b + 4 := by have := n3.1; omega
  have f3 : xFg μ3 = 0 := n3.2.1.trans f2
  have h3 : xKd μ3 b = 6 := (n3.K (by omega)).trans h2
  obtain ⟨μ4, m4, n4, k4, l4, i4, j4, r4, s4, x4, y4⟩ := AL_all (μ := μ3) (a := b) (j := 3) (k := 11) (n := 3) (by omega)
  have t4 : xTp μ4 = b + 5 := by have := n4.1; omega
  have f4 : xFg μ4 = 0 := n4.2.1.trans f3
  have h4 : xKd μ4 b = 6 := (n4.K (by omega)).trans h3
  obtain ⟨μ5, m5, n5, k5, l5, i5, j5, r5, s5, x5, y5⟩ := AL_all (μ := μ4) (a := b) (j := 4) (k := 13) (n := 8) (by omega)
  have t5 : xTp μ5 = b + 6 := by have := n5.1; omega
  have f5 : xFg μ5 = 0 := n5.2.1.trans f4
  have h5 : xKd μ5 b = 6 := (n5.K (by omega)).trans h4
  obtain ⟨μ6, m6, n6, k6, l6, i6, j6, r6, s6, x6, y6⟩ := AL_all (μ := μ5) (a := b) (j := 5) (k := 12) (n := 6) (by omega)
  have t6 : xTp μ6 = b + 7 := by have := n6.1; omega
  have f6 : xFg μ6 = 0 := n6.2.1.trans f5
  have h6 : xKd μ6 b = 6 := (n6.K (by omega)).trans h5
  rw [hT] at k1 l1 i1 j1 r1
  rw [t1] at k2 l2 i2 j2 r2
  rw [t2] at k3 l3 i3 j3 r3
  rw [t3] at k4 l4 i4 j4 r4
  rw [t4] at k5 l5 i5 j5 r5
  rw [t5] at k6 l6 i6 j6 r6
  have n16 : NW μ μ6 (fun q => q = b) (1 + 1 + 1 + 1 + 1 + 1) (4 + 3 + 3 + 3 + 8 + 6) := ((((n1.tr n2 (fun _ _ z => z)).tr n3 (fun _ _ z => z)).tr n4 (fun _ _ z => z)).tr n5 (fun _ _ z => z)).tr n6 (fun _ _ z => z)
  have hS : SH μ6 b := by
    refine ⟨h6, ⟨?_, ?_⟩, ⟨?_, ?_⟩, ⟨?_, ?_⟩, ⟨?_, ?_⟩, ⟨?_, ?_⟩, ⟨k6, l6⟩, ?_, ?_, ?_, ?_, ?_, r6⟩
    · rw [n6.K (by omega), n5.K (by omega), n4.K (by omega), n3.K (by omega), n2.K (by omega)]; exact k1
    · rw [n6.L (by omega), n5.L (by omega), n4.L (by omega), n3.L (by omega), n2.L (by omega)]; exact l1
    · rw [n6.K (by omega), n5.K (by omega), n4.K (by omega), n3.K (by omega)]; exact k2
    · rw [n6.L (by omega), n5.L (by omega), n4.L (by omega), n3.L (by omega)]; exact l2
    · rw [n6.K (by omega), n5.K (by omega), n4.K (by omega)]; exact k3
    · rw [n6.L (by omega), n5.L (by omega), n4.L (by omega)]; exact l3
    · rw [n6.K (by omega), n5.K (by omega)]; exact k4
    · rw [n6.L (by omega), n5.L (by omega)]; exact l4
    · rw [n6.K (by omega)]; exact k5
    · rw [n6.L (by omega)]; exact l5
    · rw [s6 0 (by omega), s5 0 (by omega), s4 0 (by omega), s3 0 (by omega), s2 0 (by omega)]; exact r1
    · rw [s6 1 (by omega), s5 1 (by omega), s4 1 (by omega), s3 1 (by omega)]; exact r2
    · rw [s6 2 (by omega), s5 2 (by omega), s4 2 (by omega)]; exact r3
    · rw [s6 3 (by omega), s5 3 (by omega)]; exact r4
    · rw [s6 4 (by omega)]; exact r5
  have iA : xI μ6 b = fun _ => 0 := by rw [x6, x5, x4, x3, x2, x1]; exact hI
  have jA : xJ μ6 b = fun _ => 0 := by rw [y6, y5, y4, y3, y2, y1]; exact hJ
  have iC : xI μ6 (b + 4) = fun _ => 0 := by rw [n6.I (by omega) (by omega), n5.I (by omega) (by omega)]; exact i4
  have hX6 : CT0 G μ6 := hX.nw n16
  obtain ⟨g, hg, e7⟩ := m33_a (G := G) hS hX6 (by omega)
  have hS7 : SH (xrI μ6 (b + 1) (cpy g (xI μ6 (b + 1)) 0 4)) b := hS
  have e8 := m33_b (G := G) hS7
  have a2 : xI (xrI μ6 (b + 1) (cpy g (xI μ6 (b + 1)) 0 4)) (b + 2) = xI μ6 (b + 2) := rI_n (by omega)
  have a3 : xI (xrI μ6 (b + 1) (cpy g (xI μ6 (b + 1)) 0 4)) (b + 3) = xI μ6 (b + 3) := rI_n (by omega)
  rw [a2, a3] at e8
  obtain ⟨ν, hν⟩ : ∃ ν, ν = xrI (xrI (xrI μ6 (b + 1) (cpy g (xI μ6 (b + 1)) 0 4)) (b + 2) (cpy (fun _ => 100) (xI μ6 (b + 2)) 0 3)) (b + 3) (cpy (fun _ => 60) (xI μ6 (b + 3)) 0 3) := ⟨_, rfl⟩
  rw [← hν] at e8
  have hSν : SH ν b := by rw [hν]; exact hS
  have tν : xTp ν = b + 7 := by rw [hν]; exact t6
  have fν : xFg ν = 0 := by rw [hν]; exact f6
  have iν0 : xI ν b = fun _ => 0 := by rw [hν, rI_n (by omega), rI_n (by omega), rI_n (by omega)]; exact iA
  have jν : xJ ν = xJ μ6 := by rw [hν]; rfl
  have iν1 : xI ν (b + 1) = cpy g (xI μ6 (b + 1)) 0 4 := by rw [hν, rI_n (by omega), rI_n (by omega), rI_e]
  have iν2 : xI ν (b + 2) = cpy (fun _ => 100) (xI μ6 (b + 2)) 0 3 := by rw [hν, rI_n (by omega), rI_e]
  have iν3 : xI ν (b + 3) = cpy (fun _ => 60) (xI μ6 (b + 3)) 0 3 := by rw [hν, rI_e]
  have iν4 : xI ν (b + 4) = fun _ => 0 := by rw [hν, rI_n (by omega), rI_n (by omega), rI_n (by omega)]; exact iC
  obtain ⟨μ', v1, v2, v3, v4⟩ := m33_c (G := G) 8 0 ν (by omega) hSν fν tν (fun j hj => absurd hj (Nat.not_lt_zero j))
  have nν : NW μ6 ν (fun q => q = b + 1 ∨ q = b + 2 ∨ q = b + 3) 0 0 := by
    rw [hν]
    refine ⟨rfl, rfl, rfl, rfl, fun q hq => ⟨rfl, fun z => ⟨?_, rfl, rfl⟩⟩⟩
    rw [rI_n (fun y => z (Or.inr (Or.inr y))), rI_n (fun y => z (Or.inr (Or.inl y))), rI_n (fun y => z (Or.inl y))]
  have nT : NW μ μ' (fun q => q = b) 54 1635 := (n16.tr nν (fun q hq z => by omega)).tr v2 (fun q hq z => by omega)
  have at' := fun q (h1 : q < b + 7) (h2 : q ≠ b + 5) => v2.at (q := q) (by omega) h2
  have g1 : xKd (xnw μ 9 4 4) b = 6 := (nw_K (by omega)).trans hk
  have g2 : xKd (xnw μ1 9 3 3) b = 6 := (nw_K (by omega)).trans h1
  have g3 : xKd (xnw μ2 9 3 3) b = 6 := (nw_K (by omega)).trans h2
  have g4 : xKd (xnw μ3 11 3 3) b = 6 := (nw_K (by omega)).trans h3
  have g5 : xKd (xnw μ4 13 8 8) b = 6 := (nw_K (by omega)).trans h4
  have g6 : xKd (xnw μ5 12 6 6) b = 6 := (nw_K (by omega)).trans h5
  have q1 : xsR (xnw μ 9 4 4) b 0 (some (xTp μ)) = μ1 := m1.symm
  have q2 : xsR (xnw μ1 9 3 3) b 1 (some (xTp μ1)) = μ2 := m2.symm
  have q3 : xsR (xnw μ2 9 3 3) b 2 (some (xTp μ2)) = μ3 := m3.symm
  have q4 : xsR (xnw μ3 11 3 3) b 3 (some (xTp μ3)) = μ4 := m4.symm
  have q5 : xsR (xnw μ4 13 8 8) b 4 (some (xTp μ4)) = μ5 := m5.symm
  have q6 : xsR (xnw μ5 12 6 6) b 5 (some (xTp μ5)) = μ6 := m6.symm
  refine ⟨μ', fun Q => ?_, nT, v3, ⟨fun i hi => ⟨hi, (v4 i hi).1⟩, fun i j _ _ h => h, fun j hj => (v4 j hj).2.1⟩, ⟨?_, ?_, ?_, ?_, ?_, fun k hk => ?_, fun k hk => ?_, fun k hk => ?_⟩, fun i hi => absurd hi (Nat.not_lt_zero i), fun i _ hi => (v4 i hi).2.2⟩
  · have e7' := e7 Q
    have e8' := e8 Q
    have v1' := v1 Q
    rw [show (nI 0 : Int32) = 0 from rfl] at e7' v1'
    show Rn G 33 0 [some (.ref b), none] [] μ Q = _
    simp (disch := first | assumption | (simp only [MM_Kd, rI_Kd, rJ_Kd, sI_Kd, sJ_Kd, sR_Kd]; assumption) | omega | decide) only [q33_0, q33_1, q33_4, q33_5, q33_6, q33_8, q33_11, q33_12, q33_13, q33_15, q33_18, q33_19, q33_20, q33_22, q33_25, q33_26, q33_27, q33_29, q33_32, q33_33, q33_35, q33_38, q33_41, q33_42, q33_44, q33_46, q33_49, q33_50, nc3, nc4, nc6, nc8, q1, q2, q3, q4, q5, q6, xaf_s, xaf_v, va_rf_s, xix_n, nI_clamp, xk1_i, xk1_a, xk1_u, xk1_n, xk1_l, xk1_d, true_and, and_true, ↓reduceIte, Nat.reduceAdd, xtup]
    rw [e7', e8', q33_102, q33_103]
    exact v1'
  · rw [(at' b (by omega) (by omega)).2.1, iν0]; rfl
  · rw [(at' b (by omega) (by omega)).2.1, iν0]; rfl
  · rw [(at' b (by omega) (by omega)).2.2.1, jν, jA]; rfl
  · rw [(at' b (by omega) (by omega)).2.1, iν0]; rfl
  · rw [(at' b (by omega) (by omega)).2.1, iν0]; rfl
  · rw [(at' (b + 1) (by omega) (by omega)).2.1, iν1, cpy_i' hk]; exact hg k hk
  · rw [(at' (b + 2) (by omega) (by omega)).2.1, (at' (b + 3) (by omega) (by omega)).2.1, (at' (b + 4) (by omega) (by omega)).2.1, iν2, iν3, iν4, cpy_i' hk, cpy_i' hk]
    have : k = 0 ∨ k = 1 ∨ k = 2 := by omega
    rcases this with rfl | rfl | rfl <;> exact ⟨rfl, rfl, rfl⟩
  · rw [(at' (b + 6) (by omega) (by omega)).2.2.1, jν, j6]; rfl
end CON3
