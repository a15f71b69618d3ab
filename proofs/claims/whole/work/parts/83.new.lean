/-! NEW OBJECTS -/
/-- a row made, put into a field -/
def AL (μ : xMem) (a j k n : Nat) : xMem := xsR (xnw μ k n n) a j (some (xTp μ))
section ALS
variable {μ : xMem} {a b j k n w q : Nat} {v : Option Nat}
theorem nw_T : xTp (xnw μ k n w) = xTp μ + 1 := rfl
theorem nw_F : xFg (xnw μ k n w) = xFg μ := rfl
theorem nw_c : xCc (xnw μ k n w) = xCc μ + 1 := rfl
theorem nw_s : xCs (xnw μ k n w) = xCs μ + w := rfl
theorem sR_T : xTp (xsR μ a k v) = xTp μ := rfl
theorem sR_F : xFg (xsR μ a k v) = xFg μ := rfl
theorem nw_1 (h : q ≠ xTp μ) : (xnw μ k n w).1 q = μ.1 q := if_neg h
theorem nw_1e : (xnw μ k n w).1 (xTp μ) = (k, n) := if_pos rfl
theorem nw_K (h : q ≠ xTp μ) : xKd (xnw μ k n w) q = xKd μ q := by unfold xKd; rw [nw_1 h]
theorem nw_Ke : xKd (xnw μ k n w) (xTp μ) = k := by unfold xKd; rw [nw_1e]
theorem nw_Le : xLn (xnw μ k n w) (xTp μ) = n := by unfold xLn; rw [nw_1e]
theorem nw_L (h : q ≠ xTp μ) : xLn (xnw μ k n w) q = xLn μ q := by unfold xLn; rw [nw_1 h]
theorem nw_I (h : q ≠ xTp μ) : xI (xnw μ k n w) q = xI μ q := if_neg h
theorem nw_Ie : xI (xnw μ k n w) (xTp μ) = fun _ => 0 := if_pos rfl
theorem nw_J (h : q ≠ xTp μ) : xJ (xnw μ k n w) q = xJ μ q := if_neg h
theorem nw_Je : xJ (xnw μ k n w) (xTp μ) = fun _ => 0 := if_pos rfl
theorem nw_R (h : q ≠ xTp μ) : xR (xnw μ k n w) q = xR μ q := if_neg h
theorem nw_Re : xR (xnw μ k n w) (xTp μ) = fun _ => none := if_pos rfl
end ALS
/-- k cells more, of w slots; of the older ones only P change -/
def NW (μ μ' : xMem) (P : Nat → Prop) (k w : Nat) : Prop := xTp μ' = xTp μ + k ∧ xFg μ' = xFg μ ∧ xCc μ' = xCc μ + k ∧ xCs μ' = xCs μ + w ∧ ∀ q, q < xTp μ → μ'.1 q = μ.1 q ∧ (¬ P q → xI μ' q = xI μ q ∧ xJ μ' q = xJ μ q ∧ xR μ' q = xR μ q)
section NWS
variable {μ μ' μ'' : xMem} {P P' : Nat → Prop} {k w k' w' q a : Nat}
theorem NW.tr (h : NW μ μ' P k w) (h' : NW μ' μ'' P' k' w') (hp : ∀ q, q < xTp μ → P' q → P q) : NW μ μ'' P (k + k') (w + w') := by
  obtain ⟨a1, a2, a3, a4, a5⟩ := h
  obtain ⟨b1, b2, b3, b4, b5⟩ := h'
  refine ⟨by omega, by omega, by omega, by omega, fun q hq => ?_⟩
  obtain ⟨c1, c2⟩ := a5 q hq
  obtain ⟨d1, d2⟩ := b5 q (by omega)
  refine ⟨d1.trans c1, fun hP => ?_⟩
  obtain ⟨e1, e2, e3⟩ := c2 hP
  obtain ⟨f1, f2, f3⟩ := d2 (fun z => hP (hp q hq z))
  exact ⟨f1.trans e1, f2.trans e2, f3.trans e3⟩
theorem NW.mono (h : NW μ μ' P k w) (hp : ∀ q, q < xTp μ → P q → P' q) : NW μ μ' P' k w := by
  obtain ⟨a1, a2, a3, a4, a5⟩ := h
  exact ⟨a1, a2, a3, a4, fun q hq => ⟨(a5 q hq).1, fun z => (a5 q hq).2 fun y => z (hp q hq y)⟩⟩
theorem NW.nw {n : Nat} : NW μ (xnw μ k n w) (fun _ => False) 1 w := ⟨rfl, rfl, rfl, rfl, fun q hq => ⟨nw_1 (by omega), fun _ => ⟨nw_I (by omega), nw_J (by omega), nw_R (by omega)⟩⟩⟩
theorem NW.sR {v : Option Nat} {j : Nat} (h : P a) : NW μ (xsR μ a j v) P 0 0 := ⟨rfl, rfl, rfl, rfl, fun q hq => ⟨rfl, fun z => ⟨rfl, rfl, sR_n (fun y => z (by rw [y]; exact h))⟩⟩⟩
theorem NW.sI {v : Int32} {j : Nat} (h : P a) : NW μ (xsI μ a j v) P 0 0 := ⟨rfl, rfl, rfl, rfl, fun q hq => ⟨rfl, fun z => ⟨sI_n (fun y => z (by rw [y]; exact h)), rfl, rfl⟩⟩⟩
theorem NW.rf : NW μ μ P 0 0 := ⟨rfl, rfl, rfl, rfl, fun q hq => ⟨rfl, fun _ => ⟨rfl, rfl, rfl⟩⟩⟩
theorem NW.K (h : NW μ μ' P k w) (hq : q < xTp μ) : xKd μ' q = xKd μ q := by unfold xKd; rw [(h.2.2.2.2 q hq).1]
theorem NW.L (h : NW μ μ' P k w) (hq : q < xTp μ) : xLn μ' q = xLn μ q := by unfold xLn; rw [(h.2.2.2.2 q hq).1]
theorem NW.I (h : NW μ μ' P k w) (hq : q < xTp μ) (hP : ¬ P q) : xI μ' q = xI μ q := ((h.2.2.2.2 q hq).2 hP).1
theorem NW.J (h : NW μ μ' P k w) (hq : q < xTp μ) (hP : ¬ P q) : xJ μ' q = xJ μ q := ((h.2.2.2.2 q hq).2 hP).2.1
theorem NW.R (h : NW μ μ' P k w) (hq : q < xTp μ) (hP : ¬ P q) : xR μ' q = xR μ q := ((h.2.2.2.2 q hq).2 hP).2.2
/-- a new row in a field: all that it says -/
theorem AL_all {j n : Nat} (ha : a < xTp μ) : ∃ ν, ν = AL μ a j k n ∧ NW μ ν (fun q => q = a) 1 n ∧ xKd ν (xTp μ) = k ∧ xLn ν (xTp μ) = n ∧ xI ν (xTp μ) = (fun _ => 0) ∧ xJ ν (xTp μ) = (fun _ => 0) ∧ xR ν a j = some (xTp μ) ∧ (∀ i, i ≠ j → xR ν a i = xR μ a i) ∧ xI ν a = xI μ a ∧ xJ ν a = xJ μ a := by
  refine ⟨_, rfl, (NW.nw.mono (fun _ _ z => z.elim)).tr (NW.sR (P := fun q => q = a) rfl) (fun _ _ z => z), ?_, ?_, ?_, ?_, sR_e, fun i hi => ?_, ?_, ?_⟩
  · exact nw_Ke (w := n)
  · exact nw_Le (w := n)
  · exact nw_Ie (k := k) (n := n) (w := n)
  · exact nw_Je (k := k) (n := n) (w := n)
  · unfold AL; rw [sR_k hi, nw_R (by omega)]
  · exact nw_I (k := k) (n := n) (w := n) (by omega)
  · exact nw_J (k := k) (n := n) (w := n) (by omega)
end NWS
section CON
variable {G : xCtx} {μ : xMem} {Q : xOut → xMem → Prop} {a b T : Nat}
theorem mk7 (hk : xKd μ a = 3) (hf : xFg μ = 0) (ha : a < xTp μ) (hT : xTp μ = T) : ∃ μ', (∀ Q, Cn G 7 [.ref a] μ Q = Q (.inl none) μ') ∧ NW μ μ' (fun q => q = a) 3 183 ∧ (xKd μ' T = 9 ∧ xLn μ' T = 61) ∧ (xKd μ' (T + 1) = 9 ∧ xLn μ' (T + 1) = 61) ∧ (xKd μ' (T + 2) = 9 ∧ xLn μ' (T + 2) = 61) ∧ xR μ' a 0 = some T ∧ xR μ' a 1 = some (T + 1) ∧ xR μ' a 2 = some (T + 2) ∧ xI μ' a = xI μ a := by
  subst hT
  obtain ⟨μ1, m1, n1, k1, l1, i1, j1, r1, s1, x1, y1⟩ := AL_all (μ := μ) (a := a) (j := 0) (k := 9) (n := 61) ha
  have t1 : xTp μ1 = xTp μ + 1 := n1.1
  have f1 : xFg μ1 = 0 := n1.2.1.trans hf
  have h1 : xKd μ1 a = 3 := (n1.K ha).trans hk
  obtain ⟨μ2, m2, n2, k2, l2, i2, j2, r2, s2, x2, y2⟩ := AL_all (μ := μ1) (a := a) (j := 1) (k := 9) (n := 61) (by omega)
  have t2 : xTp μ2 = xTp μ + 2 := by have := n2.1; omega
  have f2 : xFg μ2 = 0 := n2.2.1.trans f1
  have h2 : xKd μ2 a = 3 := (n2.K (by omega)).trans h1
  obtain ⟨μ3, m3, n3, k3, l3, i3, j3, r3, s3, x3, y3⟩ := AL_all (μ := μ2) (a := a) (j := 2) (k := 9) (n := 61) (by omega)
  rw [t1] at k2 l2 r2
  rw [t2] at k3 l3 r3
  have g1 : xKd (xnw μ 9 61 61) a = 3 := (nw_K (by omega)).trans hk
  have g2 : xKd (xnw μ1 9 61 61) a = 3 := (nw_K (by omega)).trans h1
  have g3 : xKd (xnw μ2 9 61 61) a = 3 := (nw_K (by omega)).trans h2
  have e1 : xsR (xnw μ 9 61 61) a 0 (some (xTp μ)) = μ1 := m1.symm
  have e2 : xsR (xnw μ1 9 61 61) a 1 (some (xTp μ1)) = μ2 := m2.symm
  have e3 : xsR (xnw μ2 9 61 61) a 2 (some (xTp μ2)) = μ3 := m3.symm
  refine ⟨μ3, fun Q => ?_, (n1.tr n2 (fun _ _ z => z)).tr n3 (fun _ _ z => z), ⟨?_, ?_⟩, ⟨?_, ?_⟩, ⟨k3, l3⟩, ?_, ?_, r3, x3.trans (x2.trans x1)⟩
  · show Rn G 7 0 [some (.ref a)] [] μ Q = _
    simp (disch := first | assumption | omega | decide) only [q7_0, q7_0N, q7_1, q7_4, q7_4N, q7_5, q7_7, q7_9, q7_12, q7_12N, q7_13, q7_15, q7_17, q7_20, q7_20N, q7_21, q7_23, q7_25, q7_28, nc61, e1, e2, e3, xaf_s, xaf_v, va_rf_s, xix_n, nI_clamp, xk1_i, xk1_a, xk1_u, xk1_n, xk1_l, xk1_d, true_and, and_true, ↓reduceIte, Nat.reduceAdd, xtup]
  · rw [n3.K (by omega), n2.K (by omega)]; exact k1
  · rw [n3.L (by omega), n2.L (by omega)]; exact l1
  · rw [n3.K (by omega)]; exact k2
  · rw [n3.L (by omega)]; exact l2
  · rw [s3 0 (by omega), s2 0 (by omega)]; exact r1
  · rw [s3 1 (by omega)]; exact r2
theorem mk20 (hk : xKd μ a = 4) (hf : xFg μ = 0) (hT : xTp μ = a + 1) : ∃ μ', (∀ Q, Cn G 20 [.ref a] μ Q = Q (.inl none) μ') ∧ NW μ μ' (fun q => q = a) 5 191 ∧ HB μ' a ∧ xI μ' a = xI μ a := by
  obtain ⟨μ1, m1, n1, k1, l1, i1, j1, r1, s1, x1, y1⟩ := AL_all (μ := μ) (a := a) (j := 0) (k := 9) (n := 3) (by omega)
  rw [hT] at k1 l1 r1
  have t1 : xTp μ1 = a + 2 := by have := n1.1; omega
  have f1 : xFg μ1 = 0 := n1.2.1.trans hf
  have h1 : xKd μ1 a = 4 := (n1.K (by omega)).trans hk
  obtain ⟨ν, hν⟩ : ∃ ν, ν = xnw μ1 3 0 5 := ⟨_, rfl⟩
  have nν : NW μ1 ν (fun _ => False) 1 5 := by rw [hν]; exact NW.nw
  have tν : xTp ν = a + 3 := by have := nν.1; omega
  have kν : xKd ν (a + 2) = 3 := by rw [hν, ← t1]; exact nw_Ke
  have fν : xFg ν = 0 := nν.2.1.trans f1
  obtain ⟨μ2, e2, n2, ⟨p1, q1⟩, ⟨p2, q2⟩, ⟨p3, q3⟩, u1, u2, u3, x2⟩ := mk7 (G := G) kν fν (by omega) tν
  have h2 : xKd μ2 a = 4 := (n2.K (by omega)).trans ((nν.K (by omega)).trans h1)
  have n3 : NW μ2 (xsR μ2 a 1 (some (a + 2))) (fun q => q = a) 0 0 := NW.sR rfl
  have R2 : xR μ2 a = xR μ1 a := (n2.R (by omega) (by omega)).trans (nν.R (by omega) (fun z => z))
  have g1 : xKd (xnw μ 9 3 3) a = 4 := (nw_K (by omega)).trans hk
  have e1 : xsR (xnw μ 9 3 3) a 0 (some (xTp μ)) = μ1 := m1.symm
  refine ⟨xsR μ2 a 1 (some (a + 2)), fun Q => ?_, ((n1.tr nν (fun _ _ z => z.elim)).tr n2 (fun q hq z => by omega)).tr n3 (fun _ _ z => z), ⟨h2, ⟨?_, ?_⟩, ?_, ⟨p1, q1⟩, ⟨p2, q2⟩, ⟨p3, q3⟩, ?_, sR_e, ?_, ?_, ?_⟩, ?_⟩
  · show Rn G 20 0 [some (.ref a)] [] μ Q = _
    simp (disch := first | assumption | omega | decide) only [q20_0, q20_0N, q20_1, q20_4, q20_4N, q20_5, q20_6, q20_8, q20_11, q20_11N, q20_12, q20_15, q20_16, q20_19, q20_22, nc3, e1, ← hν, t1, e2, xaf_s, xaf_v, va_rf_s, xix_n, nI_clamp, xk1_i, xk1_a, xk1_u, xk1_n, xk1_l, xk1_d, true_and, and_true, ↓reduceIte, Nat.reduceAdd, xtup]
  · rw [sR_Kd, n2.K (by omega), nν.K (by omega)]; exact k1
  · rw [sR_Ln, n2.L (by omega), nν.L (by omega)]; exact l1
  · rw [sR_Kd, n2.K (by omega)]; exact kν
  · rw [sR_k (by omega), R2]; exact r1
  · rw [sR_n (by omega)]; exact u1
  · rw [sR_n (by omega)]; exact u2
  · rw [sR_n (by omega)]; exact u3
  · rw [sR_I, n2.I (by omega) (by omega), nν.I (by omega) (fun z => z)]; exact x1
theorem mk0 (hk : xKd μ a = 1) (hf : xFg μ = 0) (hT : xTp μ = a + 1) : ∃ μ', (∀ Q, Cn G 0 [.ref a] μ Q = Q (.inl none) μ') ∧ NW μ μ' (fun q => q = a) 1 60 ∧ xR μ' a 0 = some (a + 1) ∧ xKd μ' (a + 1) = 10 ∧ xLn μ' (a + 1) = 60 ∧ xI μ' a = xI μ a := by
  obtain ⟨μ1, m1, n1, k1, l1, i1, j1, r1, s1, x1, y1⟩ := AL_all (μ := μ) (a := a) (j := 0) (k := 10) (n := 60) (by omega)
  rw [hT] at k1 l1 r1
  have g1 : xKd (xnw μ 10 60 60) a = 1 := (nw_K (by omega)).trans hk
  have e1 : xsR (xnw μ 10 60 60) a 0 (some (xTp μ)) = μ1 := m1.symm
  have nc60 : (60 : Int32).toNatClampNeg = 60 := rfl
  refine ⟨μ1, fun Q => ?_, n1, r1, k1, l1, x1⟩
  show Rn G 0 0 [some (.ref a)] [] μ Q = _
  simp (disch := first | assumption | omega | decide) only [q0_0, q0_0N, q0_1, q0_4, q0_4N, q0_5, q0_7, q0_9, q0_12, nc60, e1, xaf_s, xaf_v, va_rf_s, xix_n, nI_clamp, xk1_i, xk1_a, xk1_u, xk1_n, xk1_l, xk1_d, true_and, and_true, ↓reduceIte, Nat.reduceAdd, xtup]
theorem mk26 : Cn G 26 [.ref a] μ Q = Q (.inl none) μ := by
  show Rn G 26 0 [some (.ref a)] [] μ Q = _
  simp (disch := first | assumption | omega | decide) only [q26_0, q26_0N, q26_1, q26_4, xaf_s, xaf_v, va_rf_s, xix_n, nI_clamp, xk1_i, xk1_a, xk1_u, xk1_n, xk1_l, xk1_d, true_and, and_true, ↓reduceIte, Nat.reduceAdd, xtup]
end CON
