/-! THE REFERENCE: ALL MEMBERS OF A TEXT -/
section RJA
variable {G : xCtx} {μ : xMem} {Q : xOut → xMem → Prop} {m L n g c p t F : Nat} {x : ST} {s : Nat → Int32} {σ : Nat → Int64} {tx f : Nat → Int32} {y : Nat × Bool}
theorem zJoin_hi {sec pay age : Int32} {s : Nat → Int32} {j : Nat} (hn : n < 8) (hj : 619 ≤ j) : zJoin sec pay age s n j = s j := by
  unfold zJoin
  rw [up_n (by omega), up_n (by omega), up_n (by omega), up_n (by omega), up_n (by omega), up_n (by omega), zZer_o (by omega)]
theorem s157 (hm : MS μ m) (hI : INV c g n x) (hg : g ≤ 9999) {C q ye am : Nat} (hC : C < 3) (hq : 1 ≤ q ∧ q ≤ 9999) (hy : ye ≤ 79) (ha : am ≤ 99999) (f12 : f 12 = nI q) (f13 : f 13 = nI C) (f14 : f 14 = nI (12 * ye)) (f15 : f 15 = nI am) : ((pTake C q ye am n x).1 → n < 8 ∧ Hi x (pTake C q ye am n x).2 ∧ ∀ Q, Cn G 157 [.ref m] (MM (xrI μ m f) m x.1 x.2) Q = Q (.inl (some (.int 1))) (MM (xrI μ m f) m (pTake C q ye am n x).2.1 (pTake C q ye am n x).2.2)) ∧ (¬ (pTake C q ye am n x).1 → ∃ x1 : ST, Hi x x1 ∧ ∀ Q, Cn G 157 [.ref m] (MM (xrI μ m f) m x.1 x.2) Q = Q (.inl (some (.int 0))) (MM (xrI μ m f) m x1.1 x1.2)) := by
  have hm0 : MS (xrI μ m f) m := hm
  have hn8 := hI.1.2.2.1
  have k0' : xKd (xrI μ m f) m = 8 := hm.1
  obtain ⟨k0, ⟨k1, n1⟩, ⟨k2, n2⟩, -, ⟨k4, n4⟩, ⟨k5, n5⟩, -, ⟨k7, n7⟩, r1, r2, -, r4, r5, -, r8⟩ := hm
  have hge : ¬ m = m + 1 := by omega
  have h28 : (x.1 2 < 8) = (n < 8) := by rw [hI.1.2.1]; exact propext (nI_ltI (b := 8) (by omega) (by omega))
  have h134 := fun Q => s134 (G := G) (Q := Q) (μ := xrI μ m f) (m := m) (x := x) hm0 hC
  have ham : ((nI am : Int32) ≤ 0) = (am = 0) := by rw [show (0 : Int32) = nI 0 from rfl]; exact propext ((nI_leI (by omega) (by omega)).trans (by omega))
  by_cases hcan : pCan x.1 C
  · have hn : n < 8 := by rw [← h28]; exact hcan.2
    have h134' := fun Q => (h134 Q).trans (by rw [if_pos hcan])
    have h135 := fun Q => s135 (G := G) (Q := Q) (μ := xrI μ m f) (m := m) (s := x.1) (σ := x.2) hm0 hI.1.2.1 hn (nI C) (nI q) (nI (12 * ye))
    have jI := zJoin_INV hI hn hC hq (show 12 * ye ≤ 960 by omega)
    have z2 : zJoin (nI C) (nI q) (nI (12 * ye)) x.1 n 2 = nI (n + 1) := jI.1.2.1
    have hH1 : Hi x (zJoin (nI C) (nI q) (nI (12 * ye)) x.1 n, x.2) := ⟨fun j hj => zJoin_hi hn hj, fun j hj => rfl⟩
    have hmi := jI.2.2 n (Nat.lt_succ_self n)
    have hown := (hmi.at (by omega)).1
    by_cases h0 : am = 0
    · have hp : (pTake C q ye am n x).1 := ⟨hcan, Or.inl h0⟩
      have hz0 : ((nI am : Int32) ≤ 0) = True := ham.trans (eq_true h0)
      have he : (pTake C q ye am n x).2 = (zJoin (nI C) (nI q) (nI (12 * ye)) x.1 n, x.2) := by unfold pTake; exact if_pos h0
      refine ⟨fun _ => ⟨hn, by rw [he]; exact hH1, fun Q => ?_⟩, fun z => absurd hp z⟩
      rw [he]
      show Rn G 157 0 [some (.ref m), none, none, none] [] (MM (xrI μ m f) m x.1 x.2) Q = _
      simp (disch := first | exact Or.inr rfl | exact Or.inl rfl | first | assumption | (simp only [MM_Kd, rI_Kd, rJ_Kd, sI_Kd, sJ_Kd, sR_Kd, SV_Kd]; assumption) | omega | decide) only [q157_0, q157_0N, q157_1, q157_1N, q157_2, q157_5, q157_8, q157_11, q157_12, q157_13, q157_13N, q157_14, q157_14N, q157_15, q157_18, q157_18N, q157_19, q157_22, q157_22N, q157_23, q157_26, q157_29, q157_30, q157_30N, q157_31, q157_34, q157_35, q157_35T, q157_36, q157_37, q157_38, q157_39, q157_39N, q157_40, q157_43, q157_46, q157_46N, q157_47, q157_48, q157_48N, q157_49, q157_52, q157_55, q157_58, q157_59, q157_60, q157_60N, q157_61, q157_64, q157_67, q157_67N, q157_68, q157_69, q157_69N, q157_70, q157_73, q157_76, q157_79, q157_80, q157_81, q157_82, MM_Io, rI_e, f12, f13, f14, f15, h134', h135, c10, hz0, MM_R, MM_Ln, MM_I, r1, n1, xl2, nc2, z2, nI_s1, not_true_eq_false, not_false_eq_true, rI_Kd, rI_Ln, rI_R, rI_J, rJ_Kd, rJ_Ln, rJ_R, rJ_I, sI_Kd, sI_Ln, sI_R, sI_J, sJ_Kd, sJ_Ln, sJ_R, sJ_I, sR_Kd, sR_Ln, sR_I, sR_J, xaf_s, xaf_v, va_rf_s, xix_n, nI_clamp, xk1_i, xk1_a, xk1_u, xk1_n, xk1_l, xk1_d, true_and, and_true, ↓reduceIte, Nat.reduceAdd, xtup]
    · have h143 := fun Q => s143 (G := G) (Q := Q) (μ := xrI μ m f) (m := m) (x := (zJoin (nI C) (nI q) (nI (12 * ye)) x.1 n, x.2)) (p := n) hm0 jI.1 hmi (by omega) hn (nI am)
      have h144 := fun Q => s144 (G := G) (Q := Q) (μ := xrI μ m f) (m := m) (x := (zJoin (nI C) (nI q) (nI (12 * ye)) x.1 n, x.2)) (p := n) hm0 jI.1 hmi (by omega) hn (nI am)
      by_cases hct : pCanT (zJoin (nI C) (nI q) (nI (12 * ye)) x.1 n) n (nI am)
      · have hp : (pTake C q ye am n x).1 := ⟨hcan, Or.inr hct⟩
        have he : (pTake C q ye am n x).2 = zTran n (nI am) (zJoin (nI C) (nI q) (nI (12 * ye)) x.1 n, x.2) := by unfold pTake; exact if_neg h0
        have h143' := fun Q => (h143 Q).trans (by rw [if_pos hct])
        refine ⟨fun _ => ⟨hn, ?_, fun Q => ?_⟩, fun z => absurd hp z⟩
        · rw [he]
          refine hH1.tr (Hi.of (p := n) hn ?_ fun j hj => zTran_s (by omega))
          unfold zTran
          exact (only.up (Or.inl rfl)).tr (only.up (Or.inr (Or.inr ⟨by omega, by omega⟩)))
        · rw [he]
          show Rn G 157 0 [some (.ref m), none, none, none] [] (MM (xrI μ m f) m x.1 x.2) Q = _
          dsimp only at h143' h144
          simp (disch := first | exact Or.inr rfl | exact Or.inl rfl | first | assumption | (simp only [MM_Kd, rI_Kd, rJ_Kd, sI_Kd, sJ_Kd, sR_Kd, SV_Kd]; assumption) | omega | decide) only [q157_0, q157_0N, q157_1, q157_1N, q157_2, q157_5, q157_8, q157_11, q157_12, q157_13, q157_13N, q157_14, q157_14N, q157_15, q157_18, q157_18N, q157_19, q157_22, q157_22N, q157_23, q157_26, q157_29, q157_30, q157_30N, q157_31, q157_34, q157_35, q157_35T, q157_36, q157_37, q157_38, q157_39, q157_39N, q157_40, q157_43, q157_46, q157_46N, q157_47, q157_48, q157_48N, q157_49, q157_52, q157_55, q157_58, q157_59, q157_60, q157_60N, q157_61, q157_64, q157_67, q157_67N, q157_68, q157_69, q157_69N, q157_70, q157_73, q157_76, q157_79, q157_80, q157_81, q157_82, MM_Io, rI_e, f12, f13, f14, f15, h134', h135, h143', h144, c10, ham, h0, MM_R, MM_Ln, MM_I, r1, n1, xl2, nc2, z2, nI_s1, not_true_eq_false, not_false_eq_true, rI_Kd, rI_Ln, rI_R, rI_J, rJ_Kd, rJ_Ln, rJ_R, rJ_I, sI_Kd, sI_Ln, sI_R, sI_J, sJ_Kd, sJ_Ln, sJ_R, sJ_I, sR_Kd, sR_Ln, sR_I, sR_J, xaf_s, xaf_v, va_rf_s, xix_n, nI_clamp, xk1_i, xk1_a, xk1_u, xk1_n, xk1_l, xk1_d, true_and, and_true, ↓reduceIte, Nat.reduceAdd, xtup]
      · have hp : ¬ (pTake C q ye am n x).1 := fun z => z.2.elim h0 hct
        have h143' := fun Q => (h143 Q).trans (by rw [if_neg hct])
        refine ⟨fun z => absurd z hp, fun _ => ⟨_, hH1, fun Q => ?_⟩⟩
        show Rn G 157 0 [some (.ref m), none, none, none] [] (MM (xrI μ m f) m x.1 x.2) Q = _
        dsimp only at h143'
        simp (disch := first | exact Or.inr rfl | exact Or.inl rfl | first | assumption | (simp only [MM_Kd, rI_Kd, rJ_Kd, sI_Kd, sJ_Kd, sR_Kd, SV_Kd]; assumption) | omega | decide) only [q157_0, q157_0N, q157_1, q157_1N, q157_2, q157_5, q157_8, q157_11, q157_12, q157_13, q157_13N, q157_14, q157_14N, q157_15, q157_18, q157_18N, q157_19, q157_22, q157_22N, q157_23, q157_26, q157_29, q157_30, q157_30N, q157_31, q157_34, q157_35, q157_35T, q157_36, q157_37, q157_38, q157_39, q157_39N, q157_40, q157_43, q157_46, q157_46N, q157_47, q157_48, q157_48N, q157_49, q157_52, q157_55, q157_58, q157_59, q157_60, q157_60N, q157_61, q157_64, q157_67, q157_67N, q157_68, q157_69, q157_69N, q157_70, q157_73, q157_76, q157_79, q157_80, q157_81, q157_82, MM_Io, rI_e, f12, f13, f14, f15, h134', h135, h143', c10, c00, ham, h0, MM_R, MM_Ln, MM_I, r1, n1, xl2, nc2, z2, nI_s1, not_true_eq_false, not_false_eq_true, rI_Kd, rI_Ln, rI_R, rI_J, rJ_Kd, rJ_Ln, rJ_R, rJ_I, sI_Kd, sI_Ln, sI_R, sI_J, sJ_Kd, sJ_Ln, sJ_R, sJ_I, sR_Kd, sR_Ln, sR_I, sR_J, xaf_s, xaf_v, va_rf_s, xix_n, nI_clamp, xk1_i, xk1_a, xk1_u, xk1_n, xk1_l, xk1_d, true_and, and_true, ↓reduceIte, Nat.reduceAdd, xtup]
  · have hp : ¬ (pTake C q ye am n x).1 := fun z => hcan z.1
    have h134' := fun Q => (h134 Q).trans (by rw [if_neg hcan])
    refine ⟨fun z => absurd z hp, fun _ => ⟨x, Hi.rf, fun Q => ?_⟩⟩
    show Rn G 157 0 [some (.ref m), none, none, none] [] (MM (xrI μ m f) m x.1 x.2) Q = _
    simp (disch := first | exact Or.inr rfl | exact Or.inl rfl | first | assumption | (simp only [MM_Kd, rI_Kd, rJ_Kd, sI_Kd, sJ_Kd, sR_Kd, SV_Kd]; assumption) | omega | decide) only [q157_0, q157_0N, q157_1, q157_1N, q157_2, q157_5, q157_8, q157_11, q157_12, q157_13, q157_13N, q157_14, q157_14N, q157_15, q157_18, q157_18N, q157_19, q157_22, q157_22N, q157_23, q157_26, q157_29, q157_30, q157_30N, q157_31, q157_34, q157_35, q157_35T, q157_36, q157_37, q157_38, q157_39, q157_39N, q157_40, q157_43, q157_46, q157_46N, q157_47, q157_48, q157_48N, q157_49, q157_52, q157_55, q157_58, q157_59, q157_60, q157_60N, q157_61, q157_64, q157_67, q157_67N, q157_68, q157_69, q157_69N, q157_70, q157_73, q157_76, q157_79, q157_80, q157_81, q157_82, MM_Io, rI_e, f13, h134', c00, not_true_eq_false, rI_Kd, rI_Ln, rI_R, rI_J, rJ_Kd, rJ_Ln, rJ_R, rJ_I, sI_Kd, sI_Ln, sI_R, sI_J, sJ_Kd, sJ_Ln, sJ_R, sJ_I, sR_Kd, sR_Ln, sR_I, sR_J, xaf_s, xaf_v, va_rf_s, xix_n, nI_clamp, xk1_i, xk1_a, xk1_u, xk1_n, xk1_l, xk1_d, true_and, and_true, ↓reduceIte, Nat.reduceAdd, xtup]
/-- through the text, nothing taken -/
theorem s156_0 (hm : MS μ m) (hL : L ≤ 60) (htx : ∀ k, k < L → xI μ (m + 7) k = tx k) : ∀ k p f, L - p < k → At tx L p 0 → PR f L (p, false) → ∃ f', (∀ Q l3, Rn G 156 12 [some (.ref m), some (.int 0), some (.int 1), l3] [] (MM (xrI μ m f) m s σ) Q = Q (.inl (some (.int 1))) (MM (xrI μ m f') m s σ)) ∧ PR f' L (goY tx L k (p, false)) ∧ fp f f' := by
  have k0 := hm.1
  have hge : ¬ m = m + 1 := by omega
  intro k
  induction k with
  | zero => intro p f h; omega
  | succ k ih =>
    intro p f hk hA hf
    obtain ⟨f1, u1, p1, e1, -⟩ := s155 (G := G) (s := s) (σ := σ) hm hL htx hf
    obtain ⟨p19, p1a, p1b, p1l⟩ := p1
    rcases part_ok hA with he | ⟨e, he⟩
    · have hw : (prY tx L (p, false)).2 = true := he.1
      have eY : goY tx L (k + 1) (p, false) = prY tx L (p, false) := by
        show (if _ then _ else _) = _
        rw [if_neg (fun z => by have := hw.symm.trans z.1; exact absurd this (by decide))]
      rw [hw] at p1b
      have p1b : f1 11 = 1 := p1b
      rw [eY]
      refine ⟨f1, fun Q l3 => ?_, ⟨p19, p1a, by rw [hw]; exact p1b, p1l⟩, e1⟩
      rw [q156_12]
      simp (disch := first | assumption | (simp only [MM_Kd, rI_Kd, rJ_Kd, sI_Kd, sJ_Kd, sR_Kd, SV_Kd]; assumption) | omega | decide) only [q156_0, q156_0N, q156_1, q156_2, q156_5, q156_5N, q156_6, q156_7, q156_10, q156_11, q156_13, q156_16, q156_16N, q156_17, q156_20, q156_21, q156_24, q156_24N, q156_25, q156_28, q156_31, q156_32, q156_33, q156_33N, q156_34, q156_37, q156_40, q156_40N, q156_41, q156_44, q156_44N, q156_45, q156_48, q156_51, q156_52, q156_55, q156_56, q156_57, q156_58, q156_61, q156_61N, q156_62, q156_64, q156_66, q156_69, q156_70, q156_70N, q156_71, q156_74, q156_77, q156_78, q156_81, q156_82, q156_83, q156_86, q156_87, u1, MM_Io, rI_e, p1b, c10, c00, not_true_eq_false, not_false_eq_true, rI_Kd, rI_Ln, rI_R, rI_J, rJ_Kd, rJ_Ln, rJ_R, rJ_I, sI_Kd, sI_Ln, sI_R, sI_J, sJ_Kd, sJ_Ln, sJ_R, sJ_I, sR_Kd, sR_Ln, sR_I, sR_J, xaf_s, xaf_v, va_rf_s, xix_n, nI_clamp, xk1_i, xk1_a, xk1_u, xk1_n, xk1_l, xk1_d, true_and, and_true, ↓reduceIte, Nat.reduceAdd, xtup]
      rw [q156_12]
      simp (disch := first | assumption | (simp only [MM_Kd, rI_Kd, rJ_Kd, sI_Kd, sJ_Kd, sR_Kd, SV_Kd]; assumption) | omega | decide) only [q156_0, q156_0N, q156_1, q156_2, q156_5, q156_5N, q156_6, q156_7, q156_10, q156_11, q156_13, q156_16, q156_16N, q156_17, q156_20, q156_21, q156_24, q156_24N, q156_25, q156_28, q156_31, q156_32, q156_33, q156_33N, q156_34, q156_37, q156_40, q156_40N, q156_41, q156_44, q156_44N, q156_45, q156_48, q156_51, q156_52, q156_55, q156_56, q156_57, q156_58, q156_61, q156_61N, q156_62, q156_64, q156_66, q156_69, q156_70, q156_70N, q156_71, q156_74, q156_77, q156_78, q156_81, q156_82, q156_83, q156_86, q156_87, c00, xaf_s, xaf_v, va_rf_s, xix_n, nI_clamp, xk1_i, xk1_a, xk1_u, xk1_n, xk1_l, xk1_d, true_and, and_true, ↓reduceIte, Nat.reduceAdd, xtup]
    · have he0 := he
      have hY : prY tx L (p, false) = (e, false) := he.1
      rw [hY] at p1a p1b p1l
      have p1b : f1 11 = 0 := p1b
      dsimp only at p1a p1l
      by_cases hl : e < L
      · have h2 : ¬ L ≤ e := by omega
        have hf1 : PR f1 L (e, false) := ⟨p19, p1a, p1b, p1l⟩
        obtain ⟨f2, u2, p2, e2⟩ := s152 (G := G) (s := s) (σ := σ) hm hL htx hf1 (lo := 59) (hi := 59) (by decide)
        rcases he0.semi hl with ⟨z1, z2, z3⟩ | ⟨z1, z2, z3⟩
        · rw [z2] at p2
          have p2b : f2 11 = 0 := p2.2.2.1
          have eY : goY tx L (k + 1) (p, false) = goY tx L k (e + 1, false) := by
            show (if _ then _ else _) = _
            rw [hY, if_pos ⟨rfl, hl⟩, z2, if_pos rfl]
          obtain ⟨f', v1, v2, v3⟩ := ih (e + 1) f2 (by have := he0.2.1; omega) z3 p2
          rw [eY]
          refine ⟨f', fun Q l3 => ?_, v2, e1.tr (e2.fp.tr v3)⟩
          rw [q156_12]
          simp (disch := first | assumption | (simp only [MM_Kd, rI_Kd, rJ_Kd, sI_Kd, sJ_Kd, sR_Kd, SV_Kd]; assumption) | omega | decide) only [q156_0, q156_0N, q156_1, q156_2, q156_5, q156_5N, q156_6, q156_7, q156_10, q156_11, q156_13, q156_16, q156_16N, q156_17, q156_20, q156_21, q156_24, q156_24N, q156_25, q156_28, q156_31, q156_32, q156_33, q156_33N, q156_34, q156_37, q156_40, q156_40N, q156_41, q156_44, q156_44N, q156_45, q156_48, q156_51, q156_52, q156_55, q156_56, q156_57, q156_58, q156_61, q156_61N, q156_62, q156_64, q156_66, q156_69, q156_70, q156_70N, q156_71, q156_74, q156_77, q156_78, q156_81, q156_82, q156_83, q156_86, q156_87, u1, MM_Io, rI_e, p1b, p1a, p19, nI_leI, h2, u2, p2b, c10, c00, not_true_eq_false, not_false_eq_true, rI_Kd, rI_Ln, rI_R, rI_J, rJ_Kd, rJ_Ln, rJ_R, rJ_I, sI_Kd, sI_Ln, sI_R, sI_J, sJ_Kd, sJ_Ln, sJ_R, sJ_I, sR_Kd, sR_Ln, sR_I, sR_J, xaf_s, xaf_v, va_rf_s, xix_n, nI_clamp, xk1_i, xk1_a, xk1_u, xk1_n, xk1_l, xk1_d, true_and, and_true, ↓reduceIte, Nat.reduceAdd, xtup]
          exact v1 Q _
        · rw [z2] at p2
          have p2b : f2 11 = 1 := p2.2.2.1
          have eY : goY tx L (k + 1) (p, false) = (e, true) := by
            show (if _ then _ else _) = _
            rw [hY, if_pos ⟨rfl, hl⟩, z2, if_neg (show ¬ true = false by decide)]
          rw [eY]
          refine ⟨f2, fun Q l3 => ?_, p2, e1.tr e2.fp⟩
          rw [q156_12]
          simp (disch := first | assumption | (simp only [MM_Kd, rI_Kd, rJ_Kd, sI_Kd, sJ_Kd, sR_Kd, SV_Kd]; assumption) | omega | decide) only [q156_0, q156_0N, q156_1, q156_2, q156_5, q156_5N, q156_6, q156_7, q156_10, q156_11, q156_13, q156_16, q156_16N, q156_17, q156_20, q156_21, q156_24, q156_24N, q156_25, q156_28, q156_31, q156_32, q156_33, q156_33N, q156_34, q156_37, q156_40, q156_40N, q156_41, q156_44, q156_44N, q156_45, q156_48, q156_51, q156_52, q156_55, q156_56, q156_57, q156_58, q156_61, q156_61N, q156_62, q156_64, q156_66, q156_69, q156_70, q156_70N, q156_71, q156_74, q156_77, q156_78, q156_81, q156_82, q156_83, q156_86, q156_87, u1, MM_Io, rI_e, p1b, p1a, p19, nI_leI, h2, u2, p2b, c10, c00, not_true_eq_false, not_false_eq_true, rI_Kd, rI_Ln, rI_R, rI_J, rJ_Kd, rJ_Ln, rJ_R, rJ_I, sI_Kd, sI_Ln, sI_R, sI_J, sJ_Kd, sJ_Ln, sJ_R, sJ_I, sR_Kd, sR_Ln, sR_I, sR_J, xaf_s, xaf_v, va_rf_s, xix_n, nI_clamp, xk1_i, xk1_a, xk1_u, xk1_n, xk1_l, xk1_d, true_and, and_true, ↓reduceIte, Nat.reduceAdd, xtup]
          rw [q156_12]
          simp (disch := first | assumption | (simp only [MM_Kd, rI_Kd, rJ_Kd, sI_Kd, sJ_Kd, sR_Kd, SV_Kd]; assumption) | omega | decide) only [q156_0, q156_0N, q156_1, q156_2, q156_5, q156_5N, q156_6, q156_7, q156_10, q156_11, q156_13, q156_16, q156_16N, q156_17, q156_20, q156_21, q156_24, q156_24N, q156_25, q156_28, q156_31, q156_32, q156_33, q156_33N, q156_34, q156_37, q156_40, q156_40N, q156_41, q156_44, q156_44N, q156_45, q156_48, q156_51, q156_52, q156_55, q156_56, q156_57, q156_58, q156_61, q156_61N, q156_62, q156_64, q156_66, q156_69, q156_70, q156_70N, q156_71, q156_74, q156_77, q156_78, q156_81, q156_82, q156_83, q156_86, q156_87, c00, xaf_s, xaf_v, va_rf_s, xix_n, nI_clamp, xk1_i, xk1_a, xk1_u, xk1_n, xk1_l, xk1_d, true_and, and_true, ↓reduceIte, Nat.reduceAdd, xtup]
      · have h2 : L ≤ e := by omega
        have eY : goY tx L (k + 1) (p, false) = (e, false) := by
          show (if _ then _ else _) = _
          rw [hY, if_neg (fun z => hl z.2)]
        rw [eY]
        refine ⟨f1, fun Q l3 => ?_, ⟨p19, p1a, p1b, p1l⟩, e1⟩
        rw [q156_12]
        simp (disch := first | assumption | (simp only [MM_Kd, rI_Kd, rJ_Kd, sI_Kd, sJ_Kd, sR_Kd, SV_Kd]; assumption) | omega | decide) only [q156_0, q156_0N, q156_1, q156_2, q156_5, q156_5N, q156_6, q156_7, q156_10, q156_11, q156_13, q156_16, q156_16N, q156_17, q156_20, q156_21, q156_24, q156_24N, q156_25, q156_28, q156_31, q156_32, q156_33, q156_33N, q156_34, q156_37, q156_40, q156_40N, q156_41, q156_44, q156_44N, q156_45, q156_48, q156_51, q156_52, q156_55, q156_56, q156_57, q156_58, q156_61, q156_61N, q156_62, q156_64, q156_66, q156_69, q156_70, q156_70N, q156_71, q156_74, q156_77, q156_78, q156_81, q156_82, q156_83, q156_86, q156_87, u1, MM_Io, rI_e, p1b, p1a, p19, nI_leI, h2, c10, c00, not_true_eq_false, not_false_eq_true, rI_Kd, rI_Ln, rI_R, rI_J, rJ_Kd, rJ_Ln, rJ_R, rJ_I, sI_Kd, sI_Ln, sI_R, sI_J, sJ_Kd, sJ_Ln, sJ_R, sJ_I, sR_Kd, sR_Ln, sR_I, sR_J, xaf_s, xaf_v, va_rf_s, xix_n, nI_clamp, xk1_i, xk1_a, xk1_u, xk1_n, xk1_l, xk1_d, true_and, and_true, ↓reduceIte, Nat.reduceAdd, xtup]
        rw [q156_12]
        simp (disch := first | assumption | (simp only [MM_Kd, rI_Kd, rJ_Kd, sI_Kd, sJ_Kd, sR_Kd, SV_Kd]; assumption) | omega | decide) only [q156_0, q156_0N, q156_1, q156_2, q156_5, q156_5N, q156_6, q156_7, q156_10, q156_11, q156_13, q156_16, q156_16N, q156_17, q156_20, q156_21, q156_24, q156_24N, q156_25, q156_28, q156_31, q156_32, q156_33, q156_33N, q156_34, q156_37, q156_40, q156_40N, q156_41, q156_44, q156_44N, q156_45, q156_48, q156_51, q156_52, q156_55, q156_56, q156_57, q156_58, q156_61, q156_61N, q156_62, q156_64, q156_66, q156_69, q156_70, q156_70N, q156_71, q156_74, q156_77, q156_78, q156_81, q156_82, q156_83, q156_86, q156_87, c00, xaf_s, xaf_v, va_rf_s, xix_n, nI_clamp, xk1_i, xk1_a, xk1_u, xk1_n, xk1_l, xk1_d, true_and, and_true, ↓reduceIte, Nat.reduceAdd, xtup]
/-- through the text, members taken -/
theorem s156_1 (hm : MS μ m) (hL : L ≤ 60) (htx : ∀ k, k < L → xI μ (m + 7) k = tx k) (hc : pComp tx L) (hg : g ≤ 9999) : ∀ k p n x f, L - p < k → At tx L p 0 → PR f L (p, false) → INV c g n x → (∀ n' x', rOk tx r00 (L - p) p n x n' x' → Hi x x' ∧ ∃ f', (∀ Q l3, Rn G 156 12 [some (.ref m), some (.int 1), some (.int 1), l3] [] (MM (xrI μ m f) m x.1 x.2) Q = Q (.inl (some (.int 1))) (MM (xrI μ m f') m x'.1 x'.2)) ∧ fp f f') ∧ ((¬ ∃ n' x', rOk tx r00 (L - p) p n x n' x') → ∃ (x1 : ST) (f' : Nat → Int32), Hi x x1 ∧ (∀ Q l3, Rn G 156 12 [some (.ref m), some (.int 1), some (.int 1), l3] [] (MM (xrI μ m f) m x.1 x.2) Q = Q (.inl (some (.int 0))) (MM (xrI μ m f') m x1.1 x1.2)) ∧ fp f f') := by
  have k0 := hm.1
  have hge : ¬ m = m + 1 := by omega
  intro k
  induction k with
  | zero => intro p n x f h; omega
  | succ k ih =>
    intro p n x f hk hA hf hI
    obtain ⟨f1, u1, p1, e1, t12, t13, t14, t15⟩ := s155 (G := G) (s := x.1) (σ := x.2) hm hL htx hf
    rcases part_ok hA with he | ⟨e, he⟩
    · exact absurd hc he.nc
    · have he0 := he
      obtain ⟨hY, h2, h3, h4, h5, h6, h7, h8, h9, h10, h11⟩ := he
      obtain ⟨p19, p1a, p1b, p1l⟩ := p1
      rw [hY] at p1a p1b p1l
      have p1b : f1 11 = 0 := p1b
      dsimp only at p1a p1l
      obtain ⟨q, hq, hq0, hrg⟩ := rS_g e h4
      have q68 : q = 6 ∨ q = 8 := by
        rcases h5 with z | z
        · exact Or.inl ((nI_eq (b := 6) (by omega) (by omega)).mp (hq0.symm.trans z))
        · exact Or.inr ((nI_eq (b := 8) (by omega) (by omega)).mp (hq0.symm.trans z))
      obtain ⟨C, P, ye, am, hC, hP, hye, ham, g2, g1, g3, g4⟩ := hrg.fin q68
      have g12 : f1 12 = nI P := by rw [t12, h6, g1]
      have g13 : f1 13 = nI C := by rw [t13, h7, g2]
      have g14 : f1 14 = nI (12 * ye) := by rw [t14, h8, g3]; exact pk_mul 12 ye
      have g15 : f1 15 = nI am := by rw [t15, h9, g4]
      have hT : rTk tx r00 0 e n x = pTake C P ye am n x := by
        unfold rTk
        rw [g1, g2, g3, g4, nI_clamp (by omega), nI_clamp (by omega), nI_clamp (by omega), nI_clamp (by omega)]
      obtain ⟨w1, w2⟩ := s157 (G := G) (f := f1) hm hI hg hC hP hye ham g12 g13 g14 g15
      have hskip : ∀ n' x', rOk tx r00 (L - p) p n x n' x' ↔ rOk tx r00 (L - e) e n x n' x' := fun n' x' => by
        have := rOk_skip (tx := tx) (n := n) (n' := n') (x := x) (x' := x') (e - p) p (L - e) (fun i hi1 hi2 => h10 i hi1 (by omega))
        rw [show e - p + (L - e) = L - p by omega, show p + (e - p) = e by omega] at this
        exact this
      by_cases hok : (pTake C P ye am n x).1
      · obtain ⟨hn8, hHi, w1⟩ := w1 hok
        by_cases hl : e < L
        · have hle : ¬ L ≤ e := by omega
          have hf1 : PR f1 L (e, false) := ⟨p19, p1a, p1b, p1l⟩
          obtain ⟨f2, u2, p2, e2⟩ := s152 (G := G) (s := (pTake C P ye am n x).2.1) (σ := (pTake C P ye am n x).2.2) hm hL htx hf1 (lo := 59) (hi := 59) (by decide)
          rcases he0.semi hl with ⟨z1, z2, z3⟩ | ⟨z1, z2, z3⟩
          · rw [z2] at p2
            have p2b : f2 11 = 0 := p2.2.2.1
            have hI2 := pTake_INV hI hg hn8 hC hP hye ham hok
            obtain ⟨v1, v2⟩ := ih (e + 1) (n + 1) (pTake C P ye am n x).2 f2 (by omega) z3 p2 hI2
            have hstep : ∀ n' x', rOk tx r00 (L - e) e n x n' x' ↔ rOk tx r00 (L - (e + 1)) (e + 1) (n + 1) (pTake C P ye am n x).2 n' x' := fun n' x' => by
              rw [show L - e = (L - (e + 1)) + 1 by omega]
              have : rOk tx r00 (L - (e + 1) + 1) e n x n' x' = ((rTk tx r00 0 e n x).1 ∧ rOk tx r00 (L - (e + 1)) (e + 1) (n + 1) (rTk tx r00 0 e n x).2 n' x') := by
                show (if tx e = 59 then _ else _) = _
                rw [if_pos z1]
              rw [this, hT]
              exact ⟨fun z => z.2, fun z => ⟨hok, z⟩⟩
            have hin : ∀ Q l3, ∃ l3', Rn G 156 12 [some (.ref m), some (.int 1), some (.int 1), l3] [] (MM (xrI μ m f) m x.1 x.2) Q = Rn G 156 12 [some (.ref m), some (.int 1), some (.int 1), l3'] [] (MM (xrI μ m f2) m (pTake C P ye am n x).2.1 (pTake C P ye am n x).2.2) Q := fun Q l3 => by
              refine ⟨some (.int (pC tx L e)), ?_⟩
              rw [q156_12]
              simp (disch := first | assumption | (simp only [MM_Kd, rI_Kd, rJ_Kd, sI_Kd, sJ_Kd, sR_Kd, SV_Kd]; assumption) | omega | decide) only [q156_0, q156_0N, q156_1, q156_2, q156_5, q156_5N, q156_6, q156_7, q156_10, q156_11, q156_13, q156_16, q156_16N, q156_17, q156_20, q156_21, q156_24, q156_24N, q156_25, q156_28, q156_31, q156_32, q156_33, q156_33N, q156_34, q156_37, q156_40, q156_40N, q156_41, q156_44, q156_44N, q156_45, q156_48, q156_51, q156_52, q156_55, q156_56, q156_57, q156_58, q156_61, q156_61N, q156_62, q156_64, q156_66, q156_69, q156_70, q156_70N, q156_71, q156_74, q156_77, q156_78, q156_81, q156_82, q156_83, q156_86, q156_87, u1, w1, MM_Io, rI_e, p1b, p1a, p19, nI_leI, hle, u2, p2b, c10, c00, not_true_eq_false, not_false_eq_true, rI_Kd, rI_Ln, rI_R, rI_J, rJ_Kd, rJ_Ln, rJ_R, rJ_I, sI_Kd, sI_Ln, sI_R, sI_J, sJ_Kd, sJ_Ln, sJ_R, sJ_I, sR_Kd, sR_Ln, sR_I, sR_J, xaf_s, xaf_v, va_rf_s, xix_n, nI_clamp, xk1_i, xk1_a, xk1_u, xk1_n, xk1_l, xk1_d, true_and, and_true, ↓reduceIte, Nat.reduceAdd, xtup]
            refine ⟨fun n' x' hr => ?_, fun hno => ?_⟩
            · obtain ⟨hh, f', y1, y2⟩ := v1 n' x' ((hstep n' x').mp ((hskip n' x').mp hr))
              refine ⟨hHi.tr hh, f', fun Q l3 => ?_, e1.tr (e2.fp.tr y2)⟩
              obtain ⟨l3', hz⟩ := hin Q l3
              rw [hz]; exact y1 Q l3'
            · obtain ⟨x1, f', hh, y1, y2⟩ := v2 (fun ⟨n', x', hr⟩ => hno ⟨n', x', (hskip n' x').mpr ((hstep n' x').mpr hr)⟩)
              refine ⟨x1, f', hHi.tr hh, fun Q l3 => ?_, e1.tr (e2.fp.tr y2)⟩
              obtain ⟨l3', hz⟩ := hin Q l3
              rw [hz]; exact y1 Q l3'
          · exact absurd hc z3.nc
        · have hle : L ≤ e := by omega
          have heL : L - e = 0 := by omega
          have hstep : ∀ n' x', rOk tx r00 (L - p) p n x n' x' ↔ n' = n + 1 ∧ x' = (pTake C P ye am n x).2 := fun n' x' => by
            rw [hskip, heL]
            show ((rTk tx r00 0 e n x).1 ∧ n' = n + 1 ∧ x' = (rTk tx r00 0 e n x).2) ↔ _
            rw [hT]
            exact ⟨fun z => z.2, fun z => ⟨hok, z⟩⟩
          refine ⟨fun n' x' hr => ?_, fun hno => absurd ⟨_, _, (hstep _ _).mpr ⟨rfl, rfl⟩⟩ hno⟩
          obtain ⟨rfl, rfl⟩ := (hstep n' x').mp hr
          refine ⟨hHi, f1, fun Q l3 => ?_, e1⟩
          rw [q156_12]
          simp (disch := first | assumption | (simp only [MM_Kd, rI_Kd, rJ_Kd, sI_Kd, sJ_Kd, sR_Kd, SV_Kd]; assumption) | omega | decide) only [q156_0, q156_0N, q156_1, q156_2, q156_5, q156_5N, q156_6, q156_7, q156_10, q156_11, q156_13, q156_16, q156_16N, q156_17, q156_20, q156_21, q156_24, q156_24N, q156_25, q156_28, q156_31, q156_32, q156_33, q156_33N, q156_34, q156_37, q156_40, q156_40N, q156_41, q156_44, q156_44N, q156_45, q156_48, q156_51, q156_52, q156_55, q156_56, q156_57, q156_58, q156_61, q156_61N, q156_62, q156_64, q156_66, q156_69, q156_70, q156_70N, q156_71, q156_74, q156_77, q156_78, q156_81, q156_82, q156_83, q156_86, q156_87, u1, w1, MM_Io, rI_e, p1b, p1a, p19, nI_leI, hle, c10, c00, not_true_eq_false, not_false_eq_true, rI_Kd, rI_Ln, rI_R, rI_J, rJ_Kd, rJ_Ln, rJ_R, rJ_I, sI_Kd, sI_Ln, sI_R, sI_J, sJ_Kd, sJ_Ln, sJ_R, sJ_I, sR_Kd, sR_Ln, sR_I, sR_J, xaf_s, xaf_v, va_rf_s, xix_n, nI_clamp, xk1_i, xk1_a, xk1_u, xk1_n, xk1_l, xk1_d, true_and, and_true, ↓reduceIte, Nat.reduceAdd, xtup]
          rw [q156_12]
          simp (disch := first | assumption | (simp only [MM_Kd, rI_Kd, rJ_Kd, sI_Kd, sJ_Kd, sR_Kd, SV_Kd]; assumption) | omega | decide) only [q156_0, q156_0N, q156_1, q156_2, q156_5, q156_5N, q156_6, q156_7, q156_10, q156_11, q156_13, q156_16, q156_16N, q156_17, q156_20, q156_21, q156_24, q156_24N, q156_25, q156_28, q156_31, q156_32, q156_33, q156_33N, q156_34, q156_37, q156_40, q156_40N, q156_41, q156_44, q156_44N, q156_45, q156_48, q156_51, q156_52, q156_55, q156_56, q156_57, q156_58, q156_61, q156_61N, q156_62, q156_64, q156_66, q156_69, q156_70, q156_70N, q156_71, q156_74, q156_77, q156_78, q156_81, q156_82, q156_83, q156_86, q156_87, c00, xaf_s, xaf_v, va_rf_s, xix_n, nI_clamp, xk1_i, xk1_a, xk1_u, xk1_n, xk1_l, xk1_d, true_and, and_true, ↓reduceIte, Nat.reduceAdd, xtup]
      · obtain ⟨x1, hh, w2⟩ := w2 hok
        have hno : ∀ n' x', ¬ rOk tx r00 (L - p) p n x n' x' := fun n' x' hr => by
          rw [hskip] at hr
          rcases Nat.lt_or_ge e L with hl | hl
          · rcases he0.semi hl with ⟨z1, z2, z3⟩ | ⟨z1, z2, z3⟩
            · rw [show L - e = (L - (e + 1)) + 1 by omega] at hr
              have : rOk tx r00 (L - (e + 1) + 1) e n x n' x' = ((rTk tx r00 0 e n x).1 ∧ rOk tx r00 (L - (e + 1)) (e + 1) (n + 1) (rTk tx r00 0 e n x).2 n' x') := by
                show (if tx e = 59 then _ else _) = _
                rw [if_pos z1]
              rw [this, hT] at hr
              exact hok hr.1
            · exact absurd hc z3.nc
          · rw [show L - e = 0 by omega] at hr
            have hr : (rTk tx r00 0 e n x).1 ∧ n' = n + 1 ∧ x' = (rTk tx r00 0 e n x).2 := hr
            rw [hT] at hr
            exact hok hr.1
        refine ⟨fun n' x' hr => absurd hr (hno n' x'), fun _ => ⟨x1, f1, hh, fun Q l3 => ?_, e1⟩⟩
        rw [q156_12]
        simp (disch := first | assumption | (simp only [MM_Kd, rI_Kd, rJ_Kd, sI_Kd, sJ_Kd, sR_Kd, SV_Kd]; assumption) | omega | decide) only [q156_0, q156_0N, q156_1, q156_2, q156_5, q156_5N, q156_6, q156_7, q156_10, q156_11, q156_13, q156_16, q156_16N, q156_17, q156_20, q156_21, q156_24, q156_24N, q156_25, q156_28, q156_31, q156_32, q156_33, q156_33N, q156_34, q156_37, q156_40, q156_40N, q156_41, q156_44, q156_44N, q156_45, q156_48, q156_51, q156_52, q156_55, q156_56, q156_57, q156_58, q156_61, q156_61N, q156_62, q156_64, q156_66, q156_69, q156_70, q156_70N, q156_71, q156_74, q156_77, q156_78, q156_81, q156_82, q156_83, q156_86, q156_87, u1, w2, c10, c00, not_true_eq_false, not_false_eq_true, rI_Kd, rI_Ln, rI_R, rI_J, rJ_Kd, rJ_Ln, rJ_R, rJ_I, sI_Kd, sI_Ln, sI_R, sI_J, sJ_Kd, sJ_Ln, sJ_R, sJ_I, sR_Kd, sR_Ln, sR_I, sR_J, xaf_s, xaf_v, va_rf_s, xix_n, nI_clamp, xk1_i, xk1_a, xk1_u, xk1_n, xk1_l, xk1_d, true_and, and_true, ↓reduceIte, Nat.reduceAdd, xtup]
end RJA
