/-! DOUBLES: THE METHODS -/
/-- what came in time -/
def inT (σ : Nat → Int64) : UInt64 := if σ 0 + σ 1 = 0 then FP.dconst1 else FP.ddiv (FP.l2d (σ 0)) (FP.l2d (σ 0 + σ 1))
def DV (v : UInt64) : Prop := (∃ s, FP.Core.val64 v = .fin s 0 (-1074)) ∨ ∃ c q, DN v c q ∧ -200 ≤ q ∧ q ≤ 200
theorem DV.nn {v : UInt64} (h : DV v) : FP.Core.val64 v ≠ .nan := by
  rcases h with ⟨s, h⟩ | ⟨c, q, h, -⟩
  · rw [h]; exact fun z => by cases z
  · rw [h.1]; exact fun z => by cases z
theorem l2d_n {a : Nat} (h : a < 2 ^ 53) : FP.Core.DInt (a : Int) (FP.l2d (lN a)) := by
  have e : (lN a).toInt = (a : Int) := pk_lT (by omega)
  have := FP.Core.l2d_int (a := lN a) (by rw [e]; omega)
  rw [e] at this
  exact this
theorem inT_ok {σ : Nat → Int64} {A B : Nat} (h : SI σ A B) (hA : A + B < 2 ^ 53) : DV (inT σ) ∧ (¬ σ 0 + σ 1 = 0 → vf_n64 (FP.ddiv (FP.l2d (σ 0)) (FP.l2d (σ 0 + σ 1)))) := by
  obtain ⟨⟨a, ha, ha2⟩, b, hb, hb2⟩ := h
  have h0 : (σ 0 + σ 1 = 0) ↔ a + b = 0 := by
    rw [ha, hb, lN_add]
    constructor
    · intro z
      have z2 := congrArg Int64.toInt z
      rw [pk_lT (by omega)] at z2
      have : (0 : Int64).toInt = 0 := rfl
      omega
    · intro z; rw [z]; rfl
  have key : ¬ σ 0 + σ 1 = 0 → DV (FP.ddiv (FP.l2d (σ 0)) (FP.l2d (σ 0 + σ 1))) := by
    intro hn
    have hn2 : ¬ a + b = 0 := fun z => hn (h0.mpr z)
    rw [hb, ha, lN_add]
    have d2 := l2d_n (a := a + b) (by omega)
    by_cases ha0 : a = 0
    · have d1 := l2d_n (a := a) (by omega)
      rw [ha0] at d1 ⊢
      rw [ha0] at d2
      exact Or.inl (DZ.div d1 d2 (by omega))
    · exact Or.inr (DN.div (l2d_n (a := a) (by omega)) d2 (by omega) (by omega) (by omega) (by omega))
  constructor
  · unfold inT
    split
    · exact Or.inr ⟨_, _, DN.one, by omega, by omega⟩
    · rename_i hn; exact key hn
  · intro hn
    exact vf_of ((FP.Core.notNaN_iff _).mpr (key hn).nn)
theorem cv_eq (op : Jvm.ClassFile.CmpOp) : Op.cmpValue (some .eq) op = 0 := by cases op <;> rfl
theorem cv_gt (op : Jvm.ClassFile.CmpOp) : Op.cmpValue (some .gt) op = 1 := by cases op <;> rfl
theorem cv_lt (op : Jvm.ClassFile.CmpOp) : Op.cmpValue (some .lt) op = -1 := by cases op <;> rfl
/-- twice as much, k times -/
def dblk : Nat → UInt64 → UInt64
  | 0, v => v
  | k + 1, v => dblk k (FP.dmul v 4611686018427387904)
theorem shl_52 : ∀ e : Fin 1024, (lN e) <<< ((52 : Int32).toInt64 &&& 63) = lN e * 4503599627370496 := by decide +kernel
def bitK (v : UInt64) : Nat := match FP.Core.val64 v with
  | .fin _ _ q => (-52 - q).toNat
  | _ => 0
/-- the bits of a number -/
def bitF (v : UInt64) : Int64 := if FP.dcmp v FP.dconst0 = some .eq then 0 else lN (1023 - bitK v) * 4503599627370496 + FP.d2l (FP.dmul (FP.dsub (dblk (bitK v) v) FP.dconst1) 4841369599423283200)
theorem big_nz : ¬ FP.Core.DZero 4841369599423283200 := by
  rintro ⟨s, q, h⟩
  rw [val_big] at h
  cases h
theorem end_nn {v : UInt64} {c : Nat} {q : Int} (h : DN v c q) : vf_n64 (FP.dsub v FP.dconst1) ∧ vf_n64 (FP.dmul (FP.dsub v FP.dconst1) 4841369599423283200) := by
  have h1 := FP.Core.dsub_out h.nn (DN.one.fin)
  exact ⟨vf_of h1, vf_of (FP.Core.dmul_out' h1 ⟨_, _, _, val_big⟩ big_nz)⟩
theorem lN_g1 {e : Nat} (h : e < 2 ^ 31) (h1 : 1 < e) : ¬ lN e ≤ (1 : Int64) := by
  rw [show (1 : Int64) = lN 1 from rfl, lN_le h (by omega)]; omega
theorem i0m1 : ((0 : Int32) ≤ -1) = False := eq_false (by decide)
theorem i00 : ((0 : Int32) ≤ 0) = True := eq_true (by decide)
theorem i01 : ((0 : Int32) ≤ 1) = True := eq_true (by decide)
theorem i0l0 : ((0 : Int32) < 0) = False := eq_false (by decide)
theorem i0l1 : ((0 : Int32) < 1) = True := eq_true (by decide)
section BTM
variable {G : xCtx} {μ : xMem} {Q : xOut → xMem → Prop} {o n c g t : Nat} {π : Nat → Nat} {S : Nat → ST} {x : ST} {m : Nat}
theorem c100_loop {l0 : Option Value} : ∀ k (v : UInt64) C q e, DN v C q → k = (-52 - q).toNat → -200 ≤ q → q ≤ 200 → k + 1 < e → e < 2 ^ 30 → (∃ q', DN (dblk k v) C q') ∧ ∀ Q, Rn G 100 15 [l0, none, some (.double v), none, some (.long (lN e)), none] [] μ Q = Rn G 100 43 [l0, none, some (.double (dblk k v)), none, some (.long (lN (e - k))), none] [] μ Q := by
  intro k
  induction k with
  | zero =>
    intro v C q e h hk h1 h2 he he2
    refine ⟨⟨q, h⟩, fun Q => ?_⟩
    rw [q100_15]
    rcases h.one_ge (by omega) with z | z
    · simp (disch := first | assumption | (simp only [MM_Kd, rI_Kd, rJ_Kd, sI_Kd, sJ_Kd, sR_Kd]; assumption) | omega | decide) only [q100_0, q100_1, q100_2, q100_3, q100_6, q100_7, q100_8, q100_9, q100_10, q100_13, q100_16, q100_17, q100_18, q100_21, q100_23, q100_24, q100_25, q100_28, q100_29, q100_32, q100_33, q100_34, q100_36, q100_37, q100_38, q100_40, q100_45, q100_47, q100_48, q100_49, q100_50, q100_51, q100_54, q100_55, q100_56, q100_57, z, cv_eq, i00, dblk, Nat.sub_zero, xaf_s, xaf_v, va_rf_s, xix_n, nI_clamp, xk1_i, xk1_a, xk1_u, xk1_n, xk1_l, xk1_d, true_and, and_true, ↓reduceIte, Nat.reduceAdd, xtup]
    · simp (disch := first | assumption | (simp only [MM_Kd, rI_Kd, rJ_Kd, sI_Kd, sJ_Kd, sR_Kd]; assumption) | omega | decide) only [q100_0, q100_1, q100_2, q100_3, q100_6, q100_7, q100_8, q100_9, q100_10, q100_13, q100_16, q100_17, q100_18, q100_21, q100_23, q100_24, q100_25, q100_28, q100_29, q100_32, q100_33, q100_34, q100_36, q100_37, q100_38, q100_40, q100_45, q100_47, q100_48, q100_49, q100_50, q100_51, q100_54, q100_55, q100_56, q100_57, z, cv_gt, i01, dblk, Nat.sub_zero, xaf_s, xaf_v, va_rf_s, xix_n, nI_clamp, xk1_i, xk1_a, xk1_u, xk1_n, xk1_l, xk1_d, true_and, and_true, ↓reduceIte, Nat.reduceAdd, xtup]
  | succ k ih =>
    intro v C q e h hk h1 h2 he he2
    have z := h.one_lt (by omega)
    have hd := h.dbl (by omega) (by omega)
    have hv := vf_of hd.nn
    obtain ⟨w1, w2⟩ := ih _ C (q + 1) (e - 1) hd (by omega) (by omega) (by omega) (by omega) (by omega)
    refine ⟨w1, fun Q => ?_⟩
    have hle : ¬ lN e ≤ (1 : Int64) := lN_g1 (by omega) (by omega)
    have hs : lN e - 1 = lN (e - 1) := lN_sub (b := 1) (by omega)
    rw [q100_15]
    simp (disch := first | assumption | (simp only [MM_Kd, rI_Kd, rJ_Kd, sI_Kd, sJ_Kd, sR_Kd]; assumption) | omega | decide) only [q100_0, q100_1, q100_2, q100_3, q100_6, q100_7, q100_8, q100_9, q100_10, q100_13, q100_16, q100_17, q100_18, q100_21, q100_23, q100_24, q100_25, q100_28, q100_29, q100_32, q100_33, q100_34, q100_36, q100_37, q100_38, q100_40, q100_45, q100_47, q100_48, q100_49, q100_50, q100_51, q100_54, q100_55, q100_56, q100_57, z, cv_lt, i0m1, cmp_le, hle, hs, hv, xaf_s, xaf_v, va_rf_s, xix_n, nI_clamp, xk1_i, xk1_a, xk1_u, xk1_n, xk1_l, xk1_d, true_and, and_true, ↓reduceIte, Nat.reduceAdd, xtup]
    rw [w2 Q, show e - 1 - k = e - (k + 1) by omega]
    rfl
theorem c100 {v : UInt64} (h : DV v) : Cn G 100 [.double v] μ Q = Q (.inl (some (.long (bitF v)))) μ := by
  show Rn G 100 0 [some (.double v), none, none, none, none, none] [] μ Q = _
  rcases h with ⟨s, h⟩ | ⟨C, q, h, h1, h2⟩
  · have z := DZ.cmp h
    unfold bitF
    rw [if_pos z]
    simp (disch := first | assumption | (simp only [MM_Kd, rI_Kd, rJ_Kd, sI_Kd, sJ_Kd, sR_Kd]; assumption) | omega | decide) only [q100_0, q100_1, q100_2, q100_3, q100_6, q100_7, q100_8, q100_9, q100_10, q100_13, q100_16, q100_17, q100_18, q100_21, q100_23, q100_24, q100_25, q100_28, q100_29, q100_32, q100_33, q100_34, q100_36, q100_37, q100_38, q100_40, q100_43, q100_45, q100_47, q100_48, q100_49, q100_50, q100_51, q100_54, q100_55, q100_56, q100_57, z, cv_eq, i0l0, xaf_s, xaf_v, va_rf_s, xix_n, nI_clamp, xk1_i, xk1_a, xk1_u, xk1_n, xk1_l, xk1_d, true_and, and_true, ↓reduceIte, Nat.reduceAdd, xtup]
  · have z := h.zero_gt
    have hK : bitK v = (-52 - q).toNat := by unfold bitK; rw [h.1]
    obtain ⟨⟨q', w1⟩, w2⟩ := c100_loop (G := G) (μ := μ) (l0 := some (.double v)) (bitK v) v C q 1023 h hK h1 h2 (by omega) (by omega)
    obtain ⟨v1, v2⟩ := end_nn w1
    unfold bitF
    rw [if_neg (by rw [z]; exact fun z => by cases z), ← shl_52 ⟨1023 - bitK v, by omega⟩]
    have w2' := w2 Q
    rw [show lN 1023 = (1023 : Int64) from rfl] at w2'
    simp (disch := first | assumption | (simp only [MM_Kd, rI_Kd, rJ_Kd, sI_Kd, sJ_Kd, sR_Kd]; assumption) | omega | decide) only [q100_0, q100_1, q100_2, q100_3, q100_8, q100_9, q100_10, q100_13, z, cv_gt, i0l1, xaf_s, xaf_v, va_rf_s, xix_n, nI_clamp, xk1_i, xk1_a, xk1_u, xk1_n, xk1_l, xk1_d, true_and, and_true, ↓reduceIte, Nat.reduceAdd, xtup]
    rw [w2']
    simp (disch := first | assumption | (simp only [MM_Kd, rI_Kd, rJ_Kd, sI_Kd, sJ_Kd, sR_Kd]; assumption) | omega | decide) only [q100_0, q100_1, q100_2, q100_3, q100_6, q100_7, q100_8, q100_9, q100_10, q100_13, q100_16, q100_17, q100_18, q100_21, q100_23, q100_24, q100_25, q100_28, q100_29, q100_32, q100_33, q100_34, q100_36, q100_37, q100_38, q100_40, q100_43, q100_45, q100_47, q100_48, q100_49, q100_50, q100_51, q100_54, q100_55, q100_56, q100_57, v1, v2, xaf_s, xaf_v, va_rf_s, xix_n, nI_clamp, xk1_i, xk1_a, xk1_u, xk1_n, xk1_l, xk1_d, true_and, and_true, ↓reduceIte, Nat.reduceAdd, xtup]
theorem s182_loop {l0 : Option Value} : ∀ k (v : UInt64) C q e, DN v C q → k = (-52 - q).toNat → -200 ≤ q → q ≤ 200 → k < e → e < 2 ^ 30 → ∀ Q, Rn G 182 15 [l0, none, some (.long (lN e)), none, some (.double v), none] [] μ Q = Rn G 182 37 [l0, none, some (.long (lN (e - k))), none, some (.double (dblk k v)), none] [] μ Q := by
  intro k
  induction k with
  | zero =>
    intro v C q e h hk h1 h2 he he2 Q
    rw [q182_15]
    rcases h.one_ge (by omega) with z | z
    · simp (disch := first | assumption | (simp only [MM_Kd, rI_Kd, rJ_Kd, sI_Kd, sJ_Kd, sR_Kd]; assumption) | omega | decide) only [q182_0, q182_1, q182_2, q182_3, q182_6, q182_7, q182_8, q182_11, q182_12, q182_13, q182_17, q182_18, q182_19, q182_22, q182_24, q182_27, q182_28, q182_30, q182_31, q182_32, q182_33, q182_34, q182_38, q182_41, q182_42, q182_44, q182_45, q182_46, q182_49, q182_50, q182_51, q182_52, z, cv_eq, i00, dblk, Nat.sub_zero, xaf_s, xaf_v, va_rf_s, xix_n, nI_clamp, xk1_i, xk1_a, xk1_u, xk1_n, xk1_l, xk1_d, true_and, and_true, ↓reduceIte, Nat.reduceAdd, xtup]
    · simp (disch := first | assumption | (simp only [MM_Kd, rI_Kd, rJ_Kd, sI_Kd, sJ_Kd, sR_Kd]; assumption) | omega | decide) only [q182_0, q182_1, q182_2, q182_3, q182_6, q182_7, q182_8, q182_11, q182_12, q182_13, q182_17, q182_18, q182_19, q182_22, q182_24, q182_27, q182_28, q182_30, q182_31, q182_32, q182_33, q182_34, q182_38, q182_41, q182_42, q182_44, q182_45, q182_46, q182_49, q182_50, q182_51, q182_52, z, cv_gt, i01, dblk, Nat.sub_zero, xaf_s, xaf_v, va_rf_s, xix_n, nI_clamp, xk1_i, xk1_a, xk1_u, xk1_n, xk1_l, xk1_d, true_and, and_true, ↓reduceIte, Nat.reduceAdd, xtup]
  | succ k ih =>
    intro v C q e h hk h1 h2 he he2 Q
    have z := h.one_lt (by omega)
    have hd := h.dbl (by omega) (by omega)
    have hv := vf_of hd.nn
    have w2 := ih _ C (q + 1) (e - 1) hd (by omega) (by omega) (by omega) (by omega) (by omega) Q
    have hs : lN e - 1 = lN (e - 1) := lN_sub (b := 1) (by omega)
    rw [q182_15]
    simp (disch := first | assumption | (simp only [MM_Kd, rI_Kd, rJ_Kd, sI_Kd, sJ_Kd, sR_Kd]; assumption) | omega | decide) only [q182_0, q182_1, q182_2, q182_3, q182_6, q182_7, q182_8, q182_11, q182_12, q182_13, q182_17, q182_18, q182_19, q182_22, q182_24, q182_27, q182_28, q182_30, q182_31, q182_32, q182_33, q182_34, q182_38, q182_41, q182_42, q182_44, q182_45, q182_46, q182_49, q182_50, q182_51, q182_52, z, cv_lt, i0m1, hs, hv, xaf_s, xaf_v, va_rf_s, xix_n, nI_clamp, xk1_i, xk1_a, xk1_u, xk1_n, xk1_l, xk1_d, true_and, and_true, ↓reduceIte, Nat.reduceAdd, xtup]
    rw [w2, show e - 1 - k = e - (k + 1) by omega]
    rfl
theorem s182 {v : UInt64} (h : DV v) : Cn G 182 [.double v] μ Q = Q (.inl (some (.long (bitF v)))) μ := by
  show Rn G 182 0 [some (.double v), none, none, none, none, none] [] μ Q = _
  rcases h with ⟨s, h⟩ | ⟨C, q, h, h1, h2⟩
  · have z := DZ.cmp h
    unfold bitF
    rw [if_pos z]
    simp (disch := first | assumption | (simp only [MM_Kd, rI_Kd, rJ_Kd, sI_Kd, sJ_Kd, sR_Kd]; assumption) | omega | decide) only [q182_0, q182_1, q182_2, q182_3, q182_6, q182_7, q182_8, q182_11, q182_12, q182_13, q182_17, q182_18, q182_19, q182_22, q182_24, q182_27, q182_28, q182_30, q182_31, q182_32, q182_33, q182_34, q182_37, q182_38, q182_41, q182_42, q182_44, q182_45, q182_46, q182_49, q182_50, q182_51, q182_52, z, cv_eq, not_true_eq_false, xaf_s, xaf_v, va_rf_s, xix_n, nI_clamp, xk1_i, xk1_a, xk1_u, xk1_n, xk1_l, xk1_d, true_and, and_true, ↓reduceIte, Nat.reduceAdd, xtup]
  · have z := h.zero_gt
    have hK : bitK v = (-52 - q).toNat := by unfold bitK; rw [h.1]
    obtain ⟨⟨q', w1⟩, -⟩ := c100_loop (G := G) (μ := μ) (l0 := none) (bitK v) v C q 1023 h hK h1 h2 (by omega) (by omega)
    have w2' := s182_loop (G := G) (μ := μ) (l0 := some (.double v)) (bitK v) v C q 1023 h hK h1 h2 (by omega) (by omega) Q
    obtain ⟨v1, v2⟩ := end_nn w1
    unfold bitF
    rw [if_neg (by rw [z]; exact fun z => by cases z)]
    rw [show lN 1023 = (1023 : Int64) from rfl] at w2'
    simp (disch := first | assumption | (simp only [MM_Kd, rI_Kd, rJ_Kd, sI_Kd, sJ_Kd, sR_Kd]; assumption) | omega | decide) only [q182_0, q182_1, q182_2, q182_3, q182_8, q182_11, q182_12, q182_13, z, cv_gt, c10, not_false_eq_true, xaf_s, xaf_v, va_rf_s, xix_n, nI_clamp, xk1_i, xk1_a, xk1_u, xk1_n, xk1_l, xk1_d, true_and, and_true, ↓reduceIte, Nat.reduceAdd, xtup]
    rw [w2']
    simp (disch := first | assumption | (simp only [MM_Kd, rI_Kd, rJ_Kd, sI_Kd, sJ_Kd, sR_Kd]; assumption) | omega | decide) only [q182_0, q182_1, q182_2, q182_3, q182_6, q182_7, q182_8, q182_11, q182_12, q182_13, q182_17, q182_18, q182_19, q182_22, q182_24, q182_27, q182_28, q182_30, q182_31, q182_32, q182_33, q182_34, q182_37, q182_38, q182_41, q182_42, q182_44, q182_45, q182_46, q182_49, q182_50, q182_51, q182_52, v1, v2, xaf_s, xaf_v, va_rf_s, xix_n, nI_clamp, xk1_i, xk1_a, xk1_u, xk1_n, xk1_l, xk1_d, true_and, and_true, ↓reduceIte, Nat.reduceAdd, xtup]
theorem c95 (h : CST μ o c g n π t S x) (hc : c ≤ 600) : Cn G 95 [.ref o] μ Q = Q (.inl (some (.double (inT x.2)))) μ := by
  obtain ⟨hC, hs, hH, hg, hI, hSC⟩ := h
  obtain ⟨ko, ⟨o0, o1, o2, o3, o4⟩, ⟨k1, k1r⟩, -⟩ := hC
  obtain ⟨b0, ⟨b1, u1⟩, ⟨b2, u2⟩, ⟨b3, u3⟩, ⟨b4, u4⟩, ⟨b5, u5⟩, ⟨b6, u6⟩, r0, r1, r2, r3, r4, r5⟩ := hSC.1
  have gσ := hSC.2.2.1.2.2.2.2.2.2.2
  have g0 := gσ 0 (by omega)
  have g1 := gσ 1 (by omega)
  have hv := (inT_ok hI.2.1 (by omega)).2
  show Rn G 95 0 [some (.ref o), none, none] [] μ Q = _
  unfold inT
  by_cases h0 : x.2 0 + x.2 1 = 0
  · rw [if_pos h0]
    simp (disch := first | assumption | (simp only [MM_Kd, rI_Kd, rJ_Kd, sI_Kd, sJ_Kd, sR_Kd]; assumption) | omega | decide) only [q95_0, q95_0N, q95_1, q95_4, q95_7, q95_8, q95_9, q95_9N, q95_10, q95_13, q95_16, q95_17, q95_18, q95_19, q95_20, q95_21, q95_22, q95_23, q95_26, q95_27, q95_30, q95_30N, q95_31, q95_34, q95_37, q95_38, q95_39, q95_40, q95_41, q95_42, q95_43, o0, r5, u6, xl0, xl1, nc0, nc1, g0, g1, cmp_0, h0, not_true_eq_false, xaf_s, xaf_v, va_rf_s, xix_n, nI_clamp, xk1_i, xk1_a, xk1_u, xk1_n, xk1_l, xk1_d, true_and, and_true, ↓reduceIte, Nat.reduceAdd, xtup]
  · rw [if_neg h0]
    have hv' := hv h0
    simp (disch := first | assumption | (simp only [MM_Kd, rI_Kd, rJ_Kd, sI_Kd, sJ_Kd, sR_Kd]; assumption) | omega | decide) only [q95_0, q95_0N, q95_1, q95_4, q95_7, q95_8, q95_9, q95_9N, q95_10, q95_13, q95_16, q95_17, q95_18, q95_19, q95_20, q95_21, q95_22, q95_23, q95_26, q95_27, q95_30, q95_30N, q95_31, q95_34, q95_37, q95_38, q95_39, q95_40, q95_41, q95_42, q95_43, o0, r5, u6, xl0, xl1, nc0, nc1, g0, g1, cmp_0, h0, hv', not_false_eq_true, xaf_s, xaf_v, va_rf_s, xix_n, nI_clamp, xk1_i, xk1_a, xk1_u, xk1_n, xk1_l, xk1_d, true_and, and_true, ↓reduceIte, Nat.reduceAdd, xtup]
theorem s180 (hm : MS μ m) (hS : SI x.2 (32760 * g) (10000000 * c)) (hg : g ≤ 10240) (hc : c ≤ 600) : Cn G 180 [.ref m] (MM μ m x.1 x.2) Q = Q (.inl (some (.double (inT x.2)))) (MM μ m x.1 x.2) := by
  have hv := (inT_ok hS (by omega)).2
  obtain ⟨k0, ⟨k1, n1⟩, -, -, ⟨k4, n4⟩, -, -, -, r1, -, -, r4, -⟩ := hm
  show Rn G 180 0 [some (.ref m), none, none] [] (MM μ m x.1 x.2) Q = _
  unfold inT
  by_cases h0 : x.2 0 + x.2 1 = 0
  · rw [if_pos h0]
    simp (disch := first | assumption | (rw [MM_Kd]; assumption) | omega | decide) only [q180_0, q180_0N, q180_1, q180_4, q180_5, q180_6, q180_6N, q180_7, q180_10, q180_11, q180_12, q180_13, q180_14, q180_15, q180_16, q180_17, q180_20, q180_21, q180_24, q180_24N, q180_25, q180_28, q180_29, q180_30, q180_31, q180_32, q180_33, q180_34, MM_Kd, MM_Ln, MM_R, MM_I, MM_J, MM_sI, MM_sJ, r4, n4, xl0, xl1, nc0, nc1, cmp_0, h0, not_true_eq_false, xaf_s, xaf_v, va_rf_s, xix_n, nI_clamp, xk1_i, xk1_a, xk1_u, xk1_n, xk1_l, xk1_d, true_and, and_true, ↓reduceIte, Nat.reduceAdd, xtup]
  · rw [if_neg h0]
    have hv' := hv h0
    simp (disch := first | assumption | (rw [MM_Kd]; assumption) | omega | decide) only [q180_0, q180_0N, q180_1, q180_4, q180_5, q180_6, q180_6N, q180_7, q180_10, q180_11, q180_12, q180_13, q180_14, q180_15, q180_16, q180_17, q180_20, q180_21, q180_24, q180_24N, q180_25, q180_28, q180_29, q180_30, q180_31, q180_32, q180_33, q180_34, MM_Kd, MM_Ln, MM_R, MM_I, MM_J, MM_sI, MM_sJ, r4, n4, xl0, xl1, nc0, nc1, cmp_0, h0, hv', not_false_eq_true, xaf_s, xaf_v, va_rf_s, xix_n, nI_clamp, xk1_i, xk1_a, xk1_u, xk1_n, xk1_l, xk1_d, true_and, and_true, ↓reduceIte, Nat.reduceAdd, xtup]
theorem s181 (hm : MS μ m) (hS : SI x.2 (32760 * g) (10000000 * c)) (hg : g ≤ 10240) (hc : c ≤ 600) : Cn G 181 [.ref m] (MM μ m x.1 x.2) Q = Q (.inl (some (.double (inT x.2)))) (MM (xsI μ m 0 0) m x.1 x.2) := by
  have h180 := fun Q => s180 (G := G) (Q := Q) (μ := xsI μ m 0 0) (m := m) (x := x) hm hS hg hc
  have k0 := hm.1
  show Rn G 181 0 [some (.ref m)] [] (MM μ m x.1 x.2) Q = _
  simp (disch := first | assumption | (simp only [MM_Kd, rI_Kd, rJ_Kd, sI_Kd, sJ_Kd, sR_Kd, SV_Kd]; assumption) | omega | decide) only [q181_0, q181_0N, q181_1, q181_2, q181_5, q181_5N, q181_6, q181_9, MM_sIo (show m ≠ m + 1 by omega), h180, xaf_s, xaf_v, va_rf_s, xix_n, nI_clamp, xk1_i, xk1_a, xk1_u, xk1_n, xk1_l, xk1_d, true_and, and_true, ↓reduceIte, Nat.reduceAdd, xtup]
end BTM
