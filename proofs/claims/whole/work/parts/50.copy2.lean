/-! THE CLASS: A SCHEME COPIED -/
section CP2
variable {G : xCtx} {μ : xMem} {Q : xOut → xMem → Prop} {a a' b b' f n k c p g F A B S lo hi t : Nat} {π π' : Nat → Nat} {x : ST}
theorem c34_sec (hd : b + 55 ≤ b' ∨ b' + 55 ≤ b) : ∀ k i μ, i + k = 3 → SH μ b → SH μ b' → (∀ j, j < 3 → xI μ (b' + 4) j = 0 ∨ xI μ (b' + 4) j = 1) → ∃ μ', (∀ Q, Rn G 34 31 [some (.ref b), some (.ref b'), some (.int (nI i))] [] μ Q = Rn G 34 78 [some (.ref b), some (.ref b'), some (.int (nI 3))] [] μ' Q) ∧ (∀ j, i ≤ j → j < 3 → xI μ' (b + 2) j = xI μ (b' + 2) j ∧ xI μ' (b + 3) j = xI μ (b' + 3) j ∧ xI μ' (b + 4) j = xI μ (b' + 4) j) ∧ (∀ j, j < i → xI μ' (b + 2) j = xI μ (b + 2) j ∧ xI μ' (b + 3) j = xI μ (b + 3) j ∧ xI μ' (b + 4) j = xI μ (b + 4) j) ∧ FR μ μ' (fun q => b + 2 ≤ q ∧ q < b + 5) := by
  have z3 : (3 : Int32) = nI 3 := rfl
  intro k
  induction k with
  | zero =>
    intro i μ hi hS hS' hz
    have h2 : 3 ≤ i := by omega
    refine ⟨μ, fun Q => ?_, fun j h1 h2 => by omega, fun j _ => ⟨rfl, rfl, rfl⟩, FR.rf⟩
    rw [q34_31]
    simp (disch := first | assumption | (simp only [MM_Kd, rI_Kd, rJ_Kd, sI_Kd, sJ_Kd, sR_Kd]; assumption) | omega | decide) only [q34_0, q34_0N, q34_1, q34_4, q34_5, q34_5N, q34_6, q34_9, q34_10, q34_11, q34_11J, q34_14, q34_14N, q34_15, q34_18, q34_19, q34_19N, q34_20, q34_23, q34_24, q34_26, q34_26J, q34_29, q34_30, q34_32, q34_33, q34_36, q34_36N, q34_37, q34_40, q34_41, q34_41N, q34_42, q34_45, q34_46, q34_46T, q34_47, q34_48, q34_48N, q34_49, q34_52, q34_53, q34_53N, q34_54, q34_57, q34_58, q34_58T, q34_59, q34_60, q34_60N, q34_61, q34_64, q34_65, q34_65N, q34_66, q34_69, q34_70, q34_71, q34_72, q34_75, q34_79, q34_80, q34_81, q34_83, q34_86, q34_86N, q34_87, q34_90, q34_91, q34_92, q34_92N, q34_93, q34_96, q34_97, q34_98, q34_101, q34_104, q34_107, q34_107N, q34_108, q34_108N, q34_109, q34_112, q34_115, q34_115N, q34_116, q34_116N, q34_117, q34_120, q34_123, q34_123N, q34_124, q34_124N, q34_125, q34_128, q34_131, q34_131N, q34_132, q34_132N, q34_133, q34_136, q34_139, q34_139N, q34_140, q34_140N, q34_141, q34_144, q34_147, z3, nI_leI, h2, xaf_s, xaf_v, va_rf_s, xix_n, nI_clamp, xk1_i, xk1_a, xk1_u, xk1_n, xk1_l, xk1_d, true_and, and_true, ↓reduceIte, Nat.reduceAdd, xtup]
    rw [show i = 3 by omega]
  | succ k ih =>
    intro i μ hi hS hS' hz
    have hS0 := hS
    have hS0' := hS'
    have h2 : ¬ 3 ≤ i := by omega
    obtain ⟨b0, ⟨b1, u1⟩, ⟨b2, u2⟩, ⟨b3, u3⟩, ⟨b4, u4⟩, ⟨b5, u5⟩, ⟨b6, u6⟩, r0, r1, r2, r3, r4, r5⟩ := hS
    obtain ⟨w0, ⟨w1, y1⟩, ⟨w2, y2⟩, ⟨w3, y3⟩, ⟨w4, y4⟩, ⟨w5, y5⟩, ⟨w6, y6⟩, t0, t1, t2, t3, t4, t5⟩ := hS'
    have zi := hz i (by omega)
    have hnar : vp_nar .boolean (xI μ (b' + 4) i) = xI μ (b' + 4) i := by rcases zi with z | z <;> rw [z] <;> rfl
    have src : ∀ q, (q < b + 2 ∨ b + 5 ≤ q) → ∀ v1 v2 v3, xI (xsI (xsI (xsI μ (b + 2) i v1) (b + 3) i v2) (b + 4) i v3) q = xI μ q := fun q hq v1 v2 v3 => by rw [sI_n (by omega), sI_n (by omega), sI_n (by omega)]
    have hzn : ∀ j, j < 3 → xI (xsI (xsI (xsI μ (b + 2) i (xI μ (b' + 2) i)) (b + 3) i (xI μ (b' + 3) i)) (b + 4) i (xI μ (b' + 4) i)) (b' + 4) j = 0 ∨ xI (xsI (xsI (xsI μ (b + 2) i (xI μ (b' + 2) i)) (b + 3) i (xI μ (b' + 3) i)) (b + 4) i (xI μ (b' + 4) i)) (b' + 4) j = 1 := fun j hj => by rw [src _ (by omega)]; exact hz j hj
    obtain ⟨μ', e1, e2, e3, e4⟩ := ih (i + 1) (xsI (xsI (xsI μ (b + 2) i (xI μ (b' + 2) i)) (b + 3) i (xI μ (b' + 3) i)) (b + 4) i (xI μ (b' + 4) i)) (by omega) (hS0.of rfl rfl) (hS0'.of rfl rfl) hzn
    refine ⟨μ', fun Q => ?_, fun j h1 h3 => ?_, fun j hj => ?_, (((FR.sI (P := fun q => b + 2 ≤ q ∧ q < b + 5) ⟨by omega, by omega⟩).tr (FR.sI ⟨by omega, by omega⟩)).tr (FR.sI ⟨by omega, by omega⟩)).tr e4⟩
    · rw [q34_31]
      simp (disch := first | assumption | (simp only [MM_Kd, rI_Kd, rJ_Kd, sI_Kd, sJ_Kd, sR_Kd]; assumption) | omega | decide) only [q34_0, q34_0N, q34_1, q34_4, q34_5, q34_5N, q34_6, q34_9, q34_10, q34_11, q34_11J, q34_14, q34_14N, q34_15, q34_18, q34_19, q34_19N, q34_20, q34_23, q34_24, q34_26, q34_26J, q34_29, q34_30, q34_32, q34_33, q34_36, q34_36N, q34_37, q34_40, q34_41, q34_41N, q34_42, q34_45, q34_46, q34_46T, q34_47, q34_48, q34_48N, q34_49, q34_52, q34_53, q34_53N, q34_54, q34_57, q34_58, q34_58T, q34_59, q34_60, q34_60N, q34_61, q34_64, q34_65, q34_65N, q34_66, q34_69, q34_70, q34_71, q34_72, q34_75, q34_79, q34_80, q34_81, q34_83, q34_86, q34_86N, q34_87, q34_90, q34_91, q34_92, q34_92N, q34_93, q34_96, q34_97, q34_98, q34_101, q34_104, q34_107, q34_107N, q34_108, q34_108N, q34_109, q34_112, q34_115, q34_115N, q34_116, q34_116N, q34_117, q34_120, q34_123, q34_123N, q34_124, q34_124N, q34_125, q34_128, q34_131, q34_131N, q34_132, q34_132N, q34_133, q34_136, q34_139, q34_139N, q34_140, q34_140N, q34_141, q34_144, q34_147, z3, nI_leI, h2, r1, r2, r3, t1, t2, t3, u2, u3, u4, y2, y3, y4, sI_n, hnar, nI_1, rI_Kd, rI_Ln, rI_R, rI_J, rJ_Kd, rJ_Ln, rJ_R, rJ_I, sI_Kd, sI_Ln, sI_R, sI_J, sJ_Kd, sJ_Ln, sJ_R, sJ_I, sR_Kd, sR_Ln, sR_I, sR_J, xaf_s, xaf_v, va_rf_s, xix_n, nI_clamp, xk1_i, xk1_a, xk1_u, xk1_n, xk1_l, xk1_d, true_and, and_true, ↓reduceIte, Nat.reduceAdd, xtup]
      exact e1 Q
    · by_cases hji : j = i
      · subst hji
        obtain ⟨d1, d2, d3⟩ := e3 j (by omega)
        rw [d1, d2, d3]
        refine ⟨?_, ?_, sI_e⟩
        · rw [sI_n (by omega), sI_n (by omega), sI_e]
        · rw [sI_n (by omega), sI_e]
      · obtain ⟨d1, d2, d3⟩ := e2 j (by omega) h3
        rw [d1, d2, d3, src _ (by omega), src _ (by omega), src _ (by omega)]
        exact ⟨rfl, rfl, rfl⟩
    · obtain ⟨d1, d2, d3⟩ := e3 j (by omega)
      rw [d1, d2, d3]
      refine ⟨?_, ?_, ?_⟩
      · rw [sI_n (by omega), sI_n (by omega), sI_k (by omega)]
      · rw [sI_n (by omega), sI_k (by omega), sI_n (by omega)]
      · rw [sI_k (by omega), sI_n (by omega), sI_n (by omega)]
theorem c34_row (hd : b + 55 ≤ b' ∨ b' + 55 ≤ b) {V : Nat → Nat → Int32} (hv : ∀ j, j < n → (V j 7 = 0 ∨ V j 7 = 1) ∧ (V j 9 = 0 ∨ V j 9 = 1)) : ∀ k i μ, i + k = 8 → SH μ b → SH μ b' → RWS μ b π → RWS μ b' π' → (∀ j, j < 8 → j < n → MV μ (AD b' π' j) (V j)) → (∀ j, j < 8 → n ≤ j → xI μ (AD b' π' j) 2 = 0) → ∃ μ', (∀ Q, Rn G 34 80 [some (.ref b), some (.ref b'), some (.int (nI i))] [] μ Q = Rn G 34 107 [some (.ref b), some (.ref b'), some (.int (nI 8))] [] μ' Q) ∧ (∀ j, i ≤ j → j < 8 → j < n → MV μ' (AD b π j) (V j)) ∧ (∀ j, i ≤ j → j < 8 → n ≤ j → xI μ' (AD b π j) 2 = 0) ∧ (∀ j, j < i → j < 8 → ∀ q, AD b π j ≤ q → q < AD b π j + 6 → xI μ' q = xI μ q) ∧ FR μ μ' (fun q => b + 7 ≤ q ∧ q < b + 55) := by
  have z8 : (8 : Int32) = nI 8 := rfl
  intro k
  induction k with
  | zero =>
    intro i μ hi hS hS' hR hR' hM h0
    have h2 : 8 ≤ i := by omega
    refine ⟨μ, fun Q => ?_, fun j h1 h2 => by omega, fun j h1 h2 => by omega, fun _ _ _ _ _ _ => rfl, FR.rf⟩
    rw [q34_80]
    simp (disch := first | assumption | (simp only [MM_Kd, rI_Kd, rJ_Kd, sI_Kd, sJ_Kd, sR_Kd]; assumption) | omega | decide) only [q34_0, q34_0N, q34_1, q34_4, q34_5, q34_5N, q34_6, q34_9, q34_10, q34_11, q34_11J, q34_14, q34_14N, q34_15, q34_18, q34_19, q34_19N, q34_20, q34_23, q34_24, q34_26, q34_26J, q34_29, q34_30, q34_31, q34_32, q34_33, q34_36, q34_36N, q34_37, q34_40, q34_41, q34_41N, q34_42, q34_45, q34_46, q34_46T, q34_47, q34_48, q34_48N, q34_49, q34_52, q34_53, q34_53N, q34_54, q34_57, q34_58, q34_58T, q34_59, q34_60, q34_60N, q34_61, q34_64, q34_65, q34_65N, q34_66, q34_69, q34_70, q34_71, q34_72, q34_75, q34_78, q34_79, q34_81, q34_83, q34_86, q34_86N, q34_87, q34_90, q34_91, q34_92, q34_92N, q34_93, q34_96, q34_97, q34_98, q34_101, q34_104, q34_108, q34_108N, q34_109, q34_112, q34_115, q34_115N, q34_116, q34_116N, q34_117, q34_120, q34_123, q34_123N, q34_124, q34_124N, q34_125, q34_128, q34_131, q34_131N, q34_132, q34_132N, q34_133, q34_136, q34_139, q34_139N, q34_140, q34_140N, q34_141, q34_144, q34_147, z8, nI_leI, h2, xaf_s, xaf_v, va_rf_s, xix_n, nI_clamp, xk1_i, xk1_a, xk1_u, xk1_n, xk1_l, xk1_d, true_and, and_true, ↓reduceIte, Nat.reduceAdd, xtup]
    rw [show i = 8 by omega]
  | succ k ih =>
    intro i μ hi hS hS' hR hR' hM h0
    have hS0 := hS
    have hS0' := hS'
    have h2 : ¬ 8 ≤ i := by omega
    have hi8 : i < 8 := by omega
    obtain ⟨b0, ⟨b1, u1⟩, ⟨b2, u2⟩, ⟨b3, u3⟩, ⟨b4, u4⟩, ⟨b5, u5⟩, ⟨b6, u6⟩, r0, r1, r2, r3, r4, r5⟩ := hS
    obtain ⟨w0, ⟨w1, y1⟩, ⟨w2, y2⟩, ⟨w3, y3⟩, ⟨w4, y4⟩, ⟨w5, y5⟩, ⟨w6, y6⟩, t0, t1, t2, t3, t4, t5⟩ := hS'
    obtain ⟨pi1, row1⟩ := hR.1 i hi8
    obtain ⟨pi2, row2⟩ := hR'.1 i hi8
    have hb := hR.2.2 (π i) pi1
    have hb' := hR'.2.2 (π' i) pi2
    have hbA : HB μ (AD b π i) := hb
    have hbA' : HB μ (AD b' π' i) := hb'
    have k4 := hbA.1
    have k4' := hbA'.1
    have dj : AD b π i + 6 ≤ AD b' π' i ∨ AD b' π' i + 6 ≤ AD b π i := by unfold AD; omega
    have l1 : b + 7 ≤ AD b π i ∧ AD b π i + 6 ≤ b + 55 := by unfold AD; omega
    -- one member copied
    have one : ∃ μ1, (∀ Q, Cn G 22 [.ref (AD b π i), .ref (AD b' π' i)] μ Q = Q (.inl none) μ1) ∧ (i < n → MV μ1 (AD b π i) (V i)) ∧ (n ≤ i → xI μ1 (AD b π i) 2 = 0) ∧ FR μ μ1 (fun q => AD b π i ≤ q ∧ q < AD b π i + 6) := by
      by_cases hin : i < n
      · have hm := hM i hi8 hin
        obtain ⟨v7, v9⟩ := hv i hin
        have m7 := hm.2.2.2.2.2.1
        have m9 := hm.2.2.2.2.2.2.2.1
        obtain ⟨μ1, x1, x2, x3⟩ := c22 (G := G) hbA hbA' dj hm (by rw [m7]; exact v7) (by rw [m9]; exact v9)
        exact ⟨μ1, x1, fun _ => x2, fun z => by omega, x3⟩
      · exact ⟨xsI μ (AD b π i) 2 0, fun Q => c22_0 hbA hbA' (h0 i hi8 (by omega)), fun z => by omega, fun _ => sI_e, FR.sI ⟨by omega, by omega⟩⟩
    obtain ⟨μ1, x1, x2, x3, x4⟩ := one
    have src : ∀ q, b' ≤ q → q < b' + 55 → xI μ1 q = xI μ q := fun q q1 q2 => (x4.2.2.2 q (by omega)).1
    have adr : ∀ j, j < 8 → b' + 7 ≤ AD b' π' j ∧ AD b' π' j + 6 ≤ b' + 55 := fun j hj => by
      have := (hR'.1 j hj).1; unfold AD; omega
    obtain ⟨μ', e1, e2, e3, e4, e5⟩ := ih (i + 1) μ1 (by omega) (hS0.of x4.1 (by rw [x4.2.2.1])) (hS0'.of x4.1 (by rw [x4.2.2.1])) (hR.of x4.1 x4.2.2.1) (hR'.of x4.1 x4.2.2.1)
      (fun j hj hjn => (hM j hj hjn).of fun q q1 q2 => src q (by have := adr j hj; omega) (by have := adr j hj; omega))
      (fun j hj hjn => by rw [src _ (by have := adr j hj; omega) (by have := adr j hj; omega)]; exact h0 j hj hjn)
    refine ⟨μ', fun Q => ?_, fun j h1 h3 h4 => ?_, fun j h1 h3 h4 => ?_, fun j hj hj8 q q1 q2 => ?_, (x4.mono fun q hq => ⟨by omega, by omega⟩).tr e5⟩
    · rw [q34_80]
      simp (disch := first | exact Or.inl b5 | exact Or.inl w5 | first | assumption | (simp only [MM_Kd, rI_Kd, rJ_Kd, sI_Kd, sJ_Kd, sR_Kd]; assumption) | omega | decide) only [q34_0, q34_0N, q34_1, q34_4, q34_5, q34_5N, q34_6, q34_9, q34_10, q34_11, q34_11J, q34_14, q34_14N, q34_15, q34_18, q34_19, q34_19N, q34_20, q34_23, q34_24, q34_26, q34_26J, q34_29, q34_30, q34_31, q34_32, q34_33, q34_36, q34_36N, q34_37, q34_40, q34_41, q34_41N, q34_42, q34_45, q34_46, q34_46T, q34_47, q34_48, q34_48N, q34_49, q34_52, q34_53, q34_53N, q34_54, q34_57, q34_58, q34_58T, q34_59, q34_60, q34_60N, q34_61, q34_64, q34_65, q34_65N, q34_66, q34_69, q34_70, q34_71, q34_72, q34_75, q34_78, q34_79, q34_81, q34_83, q34_86, q34_86N, q34_87, q34_90, q34_91, q34_92, q34_92N, q34_93, q34_96, q34_97, q34_98, q34_101, q34_104, q34_108, q34_108N, q34_109, q34_112, q34_115, q34_115N, q34_116, q34_116N, q34_117, q34_120, q34_123, q34_123N, q34_124, q34_124N, q34_125, q34_128, q34_131, q34_131N, q34_132, q34_132N, q34_133, q34_136, q34_139, q34_139N, q34_140, q34_140N, q34_141, q34_144, q34_147, z8, nI_leI, h2, r4, t4, u5, y5, row1, row2, x1, nI_1, rI_Kd, rI_Ln, rI_R, rI_J, rJ_Kd, rJ_Ln, rJ_R, rJ_I, sI_Kd, sI_Ln, sI_R, sI_J, sJ_Kd, sJ_Ln, sJ_R, sJ_I, sR_Kd, sR_Ln, sR_I, sR_J, xaf_s, xaf_v, va_rf_s, xix_n, nI_clamp, xk1_i, xk1_a, xk1_u, xk1_n, xk1_l, xk1_d, true_and, and_true, ↓reduceIte, Nat.reduceAdd, xtup]
      exact e1 Q
    · by_cases hji : j = i
      · subst hji
        exact (x2 h4).of fun q q1 q2 => e4 j (by omega) h3 q q1 q2
      · exact e2 j (by omega) h3 h4
    · by_cases hji : j = i
      · subst hji
        rw [e4 j (by omega) h3 _ (Nat.le_refl _) (by omega)]; exact x3 h4
      · exact e3 j (by omega) h3 h4
    · rw [e4 j (by omega) hj8 q q1 q2]
      refine (x4.2.2.2 q ?_).1
      have : π j ≠ π i := fun z => by have := hR.2.1 j i hj8 hi8 z; omega
      unfold AD at *
      omega
theorem c34 (hS : SH μ b) (hR : RWS μ b π) (h : SC μ b' π' n x) (hI : INV c g n x) (hd : b + 55 ≤ b' ∨ b' + 55 ≤ b) : ∃ μ', (∀ Q, Cn G 34 [.ref b, .ref b'] μ Q = Q (.inl none) μ') ∧ SC μ' b π n x ∧ FR μ μ' (BK b) := by
  have hS0 := hS
  have hn8 := hI.1.2.2.1
  obtain ⟨hS', hR', hG', hM', h0'⟩ := h
  have hS0' := hS'
  obtain ⟨g3, g0, gf, g4, g5, gs, gr, gσ⟩ := hG'
  obtain ⟨b0, ⟨b1, u1⟩, ⟨b2, u2⟩, ⟨b3, u3⟩, ⟨b4, u4⟩, ⟨b5, u5⟩, ⟨b6, u6⟩, r0, r1, r2, r3, r4, r5⟩ := hS
  obtain ⟨w0, ⟨w1, y1⟩, ⟨w2, y2⟩, ⟨w3, y3⟩, ⟨w4, y4⟩, ⟨w5, y5⟩, ⟨w6, y6⟩, t0, t1, t2, t3, t4, t5⟩ := hS'
  have z : ¬ (0 : Int32) < 0 := by decide
  have z4 : ¬ (4 : Int32) < 0 := by decide
  have z6 : ¬ (6 : Int32) < 0 := by decide
  have q4 : ¬ (0 : Int32) < 0 ∧ ¬ (0 : Int32) < 0 ∧ ¬ (4 : Int32) < 0 ∧ (0 : Int32).toNatClampNeg + (4 : Int32).toNatClampNeg ≤ xLn μ (b' + 1) ∧ (0 : Int32).toNatClampNeg + (4 : Int32).toNatClampNeg ≤ xLn μ (b + 1) := ⟨z, z, z4, by rw [y1]; decide, by rw [u1]; decide⟩
  have q6 : ¬ (0 : Int32) < 0 ∧ ¬ (0 : Int32) < 0 ∧ ¬ (6 : Int32) < 0 ∧ (0 : Int32).toNatClampNeg + (6 : Int32).toNatClampNeg ≤ xLn μ (b' + 6) ∧ (0 : Int32).toNatClampNeg + (6 : Int32).toNatClampNeg ≤ xLn μ (b + 6) := ⟨z, z, z6, by rw [y6]; decide, by rw [u6]; decide⟩
  have k1 : xKd μ (b' + 1) = 9 ∧ xKd μ (b + 1) = 9 := ⟨w1, b1⟩
  have k6 : xKd μ (b' + 6) = 12 ∧ xKd μ (b + 6) = 12 := ⟨w6, b6⟩
  -- after the two whole copies
  have ms : ∀ q, q ≠ b + 1 → xI (xrJ (xrI μ (b + 1) (cpy (xI μ (b' + 1)) (xI μ (b + 1)) 0 4)) (b + 6) (cpy (xJ μ (b' + 6)) (xJ μ (b + 6)) 0 6)) q = xI μ q := fun q hq => by rw [rJ_I, rI_n hq]
  have hz : ∀ j, j < 3 → xI μ (b' + 4) j = 0 ∨ xI μ (b' + 4) j = 1 := fun j hj => by rw [(gr j hj).2.2]; exact (hI.1.2.2.2.2.2.2.2.2 j hj).2.2
  obtain ⟨μ1, e1, e2, -, e4⟩ := c34_sec (G := G) hd 3 0 (xrJ (xrI μ (b + 1) (cpy (xI μ (b' + 1)) (xI μ (b + 1)) 0 4)) (b + 6) (cpy (xJ μ (b' + 6)) (xJ μ (b + 6)) 0 6)) (by omega) (hS0.of rfl rfl) (hS0'.of rfl rfl) (fun j hj => by rw [ms _ (by omega)]; exact hz j hj)
  have adr : ∀ j, j < 8 → b' + 7 ≤ AD b' π' j ∧ AD b' π' j + 6 ≤ b' + 55 := fun j hj => by
    have := (hR'.1 j hj).1; unfold AD; omega
  have src : ∀ q, b' ≤ q → q < b' + 55 → xI μ1 q = xI μ q := fun q q1 q2 => by
    rw [(e4.2.2.2 q (by omega)).1, ms q (by omega)]
  have mv79 : ∀ j, j < n → (mw x.1 j 7 = 0 ∨ mw x.1 j 7 = 1) ∧ (mw x.1 j 9 = 0 ∨ mw x.1 j 9 = 1) := fun j hj => by
    obtain ⟨-, -, -, -, a5, n', -, -, -, b4, -⟩ := hI.2.2 j hj
    exact ⟨b4.imp id And.left, a5⟩
  obtain ⟨μ2, d1, d2, d3, -, d5⟩ := c34_row (G := G) (n := n) (V := fun j => mw x.1 j) hd mv79 8 0 μ1 (by omega) (hS0.of e4.1 (by rw [e4.2.2.1]; rfl)) (hS0'.of e4.1 (by rw [e4.2.2.1]; rfl)) (hR.of e4.1 e4.2.2.1) (hR'.of e4.1 e4.2.2.1)
    (fun j hj hjn => (hM' j hjn hj).of fun q q1 q2 => src q (by have := adr j hj; omega) (by have := adr j hj; omega))
    (fun j hj hjn => by rw [src _ (by have := adr j hj; omega) (by have := adr j hj; omega)]; exact h0' j hjn hj)
  have src2 : ∀ q, b' ≤ q → q < b' + 55 → xI μ2 q = xI μ q := fun q q1 q2 => by
    rw [(d5.2.2.2 q (by omega)).1, src q q1 q2]
  have srcJ : ∀ q, b' ≤ q → q < b' + 55 → xJ μ2 q = xJ μ q := fun q q1 q2 => by
    rw [(d5.2.2.2 q (by omega)).2, (e4.2.2.2 q (by omega)).2, rJ_n (by omega)]; rfl
  have k2 : xKd μ2 b = 6 := by unfold xKd; rw [d5.1, e4.1]; exact b0
  have k2' : xKd μ2 b' = 6 := by unfold xKd; rw [d5.1, e4.1]; exact w0
  have i6 : xI μ2 b' 6 = x.1 3 := by rw [src2 b' (by omega) (by omega)]; exact g3
  have i7 : xI μ2 b' 7 = x.1 0 := by rw [src2 b' (by omega) (by omega)]; exact g0
  have i8 : xJ μ2 b' 8 = (x.1 1).toInt64 := by rw [srcJ b' (by omega) (by omega)]; exact gf
  have i9 : xI μ2 b' 9 = x.1 4 := by rw [src2 b' (by omega) (by omega)]; exact g4
  have i10 : xI μ2 b' 10 = x.1 5 := by rw [src2 b' (by omega) (by omega)]; exact g5
  have hfr : FR μ (xsI (xsI (xsJ (xsI (xsI μ2 b 6 (x.1 3)) b 7 (x.1 0)) b 8 (x.1 1).toInt64) b 9 (x.1 4)) b 10 (x.1 5)) (BK b) := by
    have f0 : FR μ (xrJ (xrI μ (b + 1) (cpy (xI μ (b' + 1)) (xI μ (b + 1)) 0 4)) (b + 6) (cpy (xJ μ (b' + 6)) (xJ μ (b + 6)) 0 6)) (BK b) :=
      ⟨rfl, rfl, rfl, fun q hq => ⟨ms q (fun z => hq ⟨by omega, by omega⟩), by rw [rJ_n (fun z => hq ⟨by omega, by omega⟩)]; rfl⟩⟩
    have bb : BK b b := ⟨by omega, by omega⟩
    exact ((((((f0.tr (e4.mono fun q hq => ⟨by omega, by omega⟩)).tr (d5.mono fun q hq => ⟨by omega, by omega⟩)).tr (FR.sI bb)).tr (FR.sI bb)).tr (FR.sJ bb)).tr (FR.sI bb)).tr (FR.sI bb)
  have far : ∀ q, q ≠ b → xI (xsI (xsI (xsJ (xsI (xsI μ2 b 6 (x.1 3)) b 7 (x.1 0)) b 8 (x.1 1).toInt64) b 9 (x.1 4)) b 10 (x.1 5)) q = xI μ2 q := fun q hq => by
    rw [sI_n hq, sI_n hq, sJ_I, sI_n hq, sI_n hq]
  have low : ∀ q, b + 1 ≤ q → q < b + 2 ∨ b + 5 ≤ q → q < b + 7 → xI μ2 q = xI (xrJ (xrI μ (b + 1) (cpy (xI μ (b' + 1)) (xI μ (b + 1)) 0 4)) (b + 6) (cpy (xJ μ (b' + 6)) (xJ μ (b + 6)) 0 6)) q := fun q h1 h2 h3 => by
    rw [(d5.2.2.2 q (by omega)).1, (e4.2.2.2 q (by omega)).1]
  refine ⟨xsI (xsI (xsJ (xsI (xsI μ2 b 6 (x.1 3)) b 7 (x.1 0)) b 8 (x.1 1).toInt64) b 9 (x.1 4)) b 10 (x.1 5), fun Q => ?_, ⟨hS0.of hfr.1 (by rw [hfr.2.2.1]), hR.of hfr.1 hfr.2.2.1, ⟨?_, ?_, ?_, ?_, ?_, fun k hk => ?_, fun k hk => ?_, fun k hk => ?_⟩, fun i hi hi8 => ?_, fun i hi hi8 => ?_⟩, hfr⟩
  · have nc4' : (4 : Int32).toNatClampNeg = 4 := rfl
    have e1' := e1 Q
    have d1' := d1 Q
    rw [show (nI 0 : Int32) = 0 from rfl] at e1' d1'
    show Rn G 34 0 [some (.ref b), some (.ref b'), none] [] μ Q = _
    simp (disch := first | assumption | (simp only [rI_Kd, rI_Ln, rI_R, rI_J, rJ_Kd, rJ_Ln, rJ_R, rJ_I, sI_Kd, sI_Ln, sI_R, sI_J, sJ_Kd, sJ_Ln, sJ_R, sJ_I, sR_Kd, sR_Ln, sR_I, sR_J]; assumption) | omega) only [q34_0, q34_0N, q34_1, q34_4, q34_5, q34_5N, q34_6, q34_9, q34_10, q34_11, q34_11J, q34_14, q34_14N, q34_15, q34_18, q34_19, q34_19N, q34_20, q34_23, q34_24, q34_26, q34_26J, q34_29, q34_30, q34_32, q34_33, q34_36, q34_36N, q34_37, q34_40, q34_41, q34_41N, q34_42, q34_45, q34_46, q34_46T, q34_47, q34_48, q34_48N, q34_49, q34_52, q34_53, q34_53N, q34_54, q34_57, q34_58, q34_58T, q34_59, q34_60, q34_60N, q34_61, q34_64, q34_65, q34_65N, q34_66, q34_69, q34_70, q34_71, q34_72, q34_75, q34_79, q34_81, q34_83, q34_86, q34_86N, q34_87, q34_90, q34_91, q34_92, q34_92N, q34_93, q34_96, q34_97, q34_98, q34_101, q34_104, q34_108, q34_108N, q34_109, q34_112, q34_115, q34_115N, q34_116, q34_116N, q34_117, q34_120, q34_123, q34_123N, q34_124, q34_124N, q34_125, q34_128, q34_131, q34_131N, q34_132, q34_132N, q34_133, q34_136, q34_139, q34_139N, q34_140, q34_140N, q34_141, q34_144, q34_147, r0, r5, t0, t5, nc0, nc4', nc6, vcp, rI_Kd, rI_Ln, rI_R, rI_J, rJ_Kd, rJ_Ln, rJ_R, rJ_I, sI_Kd, sI_Ln, sI_R, sI_J, sJ_Kd, sJ_Ln, sJ_R, sJ_I, sR_Kd, sR_Ln, sR_I, sR_J, xaf_s, xaf_v, va_rf_s, xix_n, nI_clamp, xk1_i, xk1_a, xk1_u, xk1_n, xk1_l, xk1_d, true_and, and_true, ↓reduceIte, Nat.reduceAdd, xtup]
    refine e1'.trans ?_
    simp only [q34_78, q34_79, xk1_i]
    refine d1'.trans ?_
    simp (disch := first | assumption | (simp only [rI_Kd, rI_Ln, rI_R, rI_J, rJ_Kd, rJ_Ln, rJ_R, rJ_I, sI_Kd, sI_Ln, sI_R, sI_J, sJ_Kd, sJ_Ln, sJ_R, sJ_I, sR_Kd, sR_Ln, sR_I, sR_J]; assumption) | omega) only [q34_0, q34_0N, q34_1, q34_4, q34_5, q34_5N, q34_6, q34_9, q34_10, q34_11, q34_11J, q34_14, q34_14N, q34_15, q34_18, q34_19, q34_19N, q34_20, q34_23, q34_24, q34_26, q34_26J, q34_29, q34_30, q34_32, q34_33, q34_36, q34_36N, q34_37, q34_40, q34_41, q34_41N, q34_42, q34_45, q34_46, q34_46T, q34_47, q34_48, q34_48N, q34_49, q34_52, q34_53, q34_53N, q34_54, q34_57, q34_58, q34_58T, q34_59, q34_60, q34_60N, q34_61, q34_64, q34_65, q34_65N, q34_66, q34_69, q34_70, q34_71, q34_72, q34_75, q34_79, q34_81, q34_83, q34_86, q34_86N, q34_87, q34_90, q34_91, q34_92, q34_92N, q34_93, q34_96, q34_97, q34_98, q34_101, q34_104, q34_107, q34_107N, q34_108, q34_108N, q34_109, q34_112, q34_115, q34_115N, q34_116, q34_116N, q34_117, q34_120, q34_123, q34_123N, q34_124, q34_124N, q34_125, q34_128, q34_131, q34_131N, q34_132, q34_132N, q34_133, q34_136, q34_139, q34_139N, q34_140, q34_140N, q34_141, q34_144, q34_147, i6, i7, i8, i9, i10, sI_n, sJ_n, rI_Kd, rI_Ln, rI_R, rI_J, rJ_Kd, rJ_Ln, rJ_R, rJ_I, sI_Kd, sI_Ln, sI_R, sI_J, sJ_Kd, sJ_Ln, sJ_R, sJ_I, sR_Kd, sR_Ln, sR_I, sR_J, xaf_s, xaf_v, va_rf_s, xix_n, nI_clamp, xk1_i, xk1_a, xk1_u, xk1_n, xk1_l, xk1_d, true_and, and_true, ↓reduceIte, Nat.reduceAdd, xtup]
  · simp only [xI_sI, xJ_sJ, rJ_I, sJ_I, sI_J, rI_J, Nat.add_left_cancel_iff, Nat.reduceEqDiff, Nat.add_eq_left, Nat.left_eq_add, false_and, true_and, and_true, and_false, ↓reduceIte]
  · simp only [xI_sI, xJ_sJ, rJ_I, sJ_I, sI_J, rI_J, Nat.add_left_cancel_iff, Nat.reduceEqDiff, Nat.add_eq_left, Nat.left_eq_add, false_and, true_and, and_true, and_false, ↓reduceIte]
  · simp only [xI_sI, xJ_sJ, rJ_I, sJ_I, sI_J, rI_J, Nat.add_left_cancel_iff, Nat.reduceEqDiff, Nat.add_eq_left, Nat.left_eq_add, false_and, true_and, and_true, and_false, ↓reduceIte]
  · simp only [xI_sI, xJ_sJ, rJ_I, sJ_I, sI_J, rI_J, Nat.add_left_cancel_iff, Nat.reduceEqDiff, Nat.add_eq_left, Nat.left_eq_add, false_and, true_and, and_true, and_false, ↓reduceIte]
  · simp only [xI_sI, xJ_sJ, rJ_I, sJ_I, sI_J, rI_J, Nat.add_left_cancel_iff, Nat.reduceEqDiff, Nat.add_eq_left, Nat.left_eq_add, false_and, true_and, and_true, and_false, ↓reduceIte]
  · rw [far _ (by omega), low _ (by omega) (by omega) (by omega), rJ_I, rI_e, cpy_i' hk]; exact gs k hk
  · obtain ⟨v1, v2, v3⟩ := e2 k (by omega) hk
    rw [far _ (by omega), far _ (by omega), far _ (by omega), (d5.2.2.2 (b + 2) (by omega)).1, (d5.2.2.2 (b + 3) (by omega)).1, (d5.2.2.2 (b + 4) (by omega)).1, v1, v2, v3, ms _ (by omega), ms _ (by omega), ms _ (by omega)]
    exact gr k hk
  · rw [sI_J, sI_J, sJ_n (by omega), sI_J, sI_J, (d5.2.2.2 (b + 6) (by omega)).2, (e4.2.2.2 (b + 6) (by omega)).2, rJ_e, cpy_i' hk]; exact gσ k hk
  · exact (d2 i (by omega) hi8 hi).of fun q q1 q2 => far q (by unfold AD at q1; omega)
  · rw [far _ (by unfold AD; omega)]; exact d3 i (by omega) hi8 hi
end CP2
