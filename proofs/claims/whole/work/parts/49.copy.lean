/-! THE CLASS: COPIES -/
theorem vcp {α : Type} {f g : Nat → α} {n : Nat} : va_cpy f g 0 0 n = cpy f g 0 n := by
  funext k
  unfold va_cpy cpy
  split
  · congr 1; omega
  · rfl
theorem nc61 : (61 : Int32).toNatClampNeg = 61 := rfl
def LCM (μ : xMem) (a a' : Nat) : xMem := xsI (xsI (xrI (xrI (xrI μ (a + 3) (cpy (xI μ (a' + 3)) (xI μ (a + 3)) 0 61)) (a + 4) (cpy (xI μ (a' + 4)) (xI μ (a + 4)) 0 61)) (a + 5) (cpy (xI μ (a' + 5)) (xI μ (a + 5)) 0 61)) (a + 2) 3 (xI μ (a' + 2) 3)) (a + 2) 4 (xI μ (a' + 2) 4)
section CPC
variable {G : xCtx} {μ : xMem} {Q : xOut → xMem → Prop} {a a' b b' f n k c p g F A B S lo hi t : Nat} {π π' : Nat → Nat} {x : ST}
theorem c19 (hb : HB μ a) (hb' : HB μ a') (hd : a + 6 ≤ a' ∨ a' + 6 ≤ a) : Cn G 19 [.ref (a + 2), .ref (a' + 2)] μ Q = Q (.inl none) (LCM μ a a') := by
  obtain ⟨h0, ⟨h1, e1⟩, h2, ⟨h3, e3⟩, ⟨h4, e4⟩, ⟨h5, e5⟩, p0, p1, p2, p3, p4⟩ := hb
  obtain ⟨k0, ⟨k1, f1⟩, k2, ⟨k3, f3⟩, ⟨k4, f4⟩, ⟨k5, f5⟩, s0, s1, s2, s3, s4⟩ := hb'
  have z : ¬ (0 : Int32) < 0 := by decide
  have z61 : ¬ (61 : Int32) < 0 := by decide
  have q3 : ¬ (0 : Int32) < 0 ∧ ¬ (0 : Int32) < 0 ∧ ¬ (61 : Int32) < 0 ∧ (0 : Int32).toNatClampNeg + (61 : Int32).toNatClampNeg ≤ xLn μ (a' + 3) ∧ (0 : Int32).toNatClampNeg + (61 : Int32).toNatClampNeg ≤ xLn μ (a + 3) := ⟨z, z, z61, by rw [f3]; decide, by rw [e3]; decide⟩
  have q4 : ¬ (0 : Int32) < 0 ∧ ¬ (0 : Int32) < 0 ∧ ¬ (61 : Int32) < 0 ∧ (0 : Int32).toNatClampNeg + (61 : Int32).toNatClampNeg ≤ xLn μ (a' + 4) ∧ (0 : Int32).toNatClampNeg + (61 : Int32).toNatClampNeg ≤ xLn μ (a + 4) := ⟨z, z, z61, by rw [f4]; decide, by rw [e4]; decide⟩
  have q5 : ¬ (0 : Int32) < 0 ∧ ¬ (0 : Int32) < 0 ∧ ¬ (61 : Int32) < 0 ∧ (0 : Int32).toNatClampNeg + (61 : Int32).toNatClampNeg ≤ xLn μ (a' + 5) ∧ (0 : Int32).toNatClampNeg + (61 : Int32).toNatClampNeg ≤ xLn μ (a + 5) := ⟨z, z, z61, by rw [f5]; decide, by rw [e5]; decide⟩
  have t3 : xKd μ (a' + 3) = 9 ∧ xKd μ (a + 3) = 9 := ⟨k3, h3⟩
  have t4 : xKd μ (a' + 4) = 9 ∧ xKd μ (a + 4) = 9 := ⟨k4, h4⟩
  have t5 : xKd μ (a' + 5) = 9 ∧ xKd μ (a + 5) = 9 := ⟨k5, h5⟩
  show Rn G 19 0 [some (.ref (a + 2)), some (.ref (a' + 2))] [] μ Q = _
  simp (disch := first | assumption | (simp only [rI_Kd, rI_Ln, rI_R, rI_J, rJ_Kd, rJ_Ln, rJ_R, rJ_I, sI_Kd, sI_Ln, sI_R, sI_J, sJ_Kd, sJ_Ln, sJ_R, sJ_I, sR_Kd, sR_Ln, sR_I, sR_J]; assumption) | omega) only [q19_0, q19_0N, q19_1, q19_4, q19_5, q19_5N, q19_6, q19_9, q19_10, q19_12, q19_12J, q19_15, q19_15N, q19_16, q19_19, q19_20, q19_20N, q19_21, q19_24, q19_25, q19_27, q19_27J, q19_30, q19_30N, q19_31, q19_34, q19_35, q19_35N, q19_36, q19_39, q19_40, q19_42, q19_42J, q19_45, q19_45N, q19_46, q19_46N, q19_47, q19_50, q19_53, q19_53N, q19_54, q19_54N, q19_55, q19_58, q19_61, p2, p3, p4, s2, s3, s4, nc0, nc61, vcp, rI_n, sI_k, sI_n, rI_Kd, rI_Ln, rI_R, rI_J, rJ_Kd, rJ_Ln, rJ_R, rJ_I, sI_Kd, sI_Ln, sI_R, sI_J, sJ_Kd, sJ_Ln, sJ_R, sJ_I, sR_Kd, sR_Ln, sR_I, sR_J, xaf_s, xaf_v, va_rf_s, xix_n, nI_clamp, xk1_i, xk1_a, xk1_u, xk1_n, xk1_l, xk1_d, true_and, and_true, ↓reduceIte, Nat.reduceAdd, xtup]
  rfl
theorem LCM_r {q : Nat} (hq : q < a + 2 ∨ a + 6 ≤ q) : xI (LCM μ a a') q = xI μ q := by
  unfold LCM; rw [sI_n (by omega), sI_n (by omega), rI_n (by omega), rI_n (by omega), rI_n (by omega)]
theorem LCM_fr : FR μ (LCM μ a a') (fun q => a + 2 ≤ q ∧ q < a + 6) := ⟨rfl, rfl, rfl, fun q hq => ⟨LCM_r (by omega), rfl⟩⟩
theorem LCM_LT {v : Nat → Int32} (h : LT μ a' v f n) : LT (LCM μ a a') a v f n := by
  obtain ⟨l1, l2, l3, l4, l5, l6⟩ := h
  have e3 : xI (LCM μ a a') (a + 3) = cpy (xI μ (a' + 3)) (xI μ (a + 3)) 0 61 := by
    unfold LCM; rw [sI_n (by omega), sI_n (by omega), rI_n (by omega), rI_n (by omega), rI_e]
  have e4 : xI (LCM μ a a') (a + 4) = cpy (xI μ (a' + 4)) (xI μ (a + 4)) 0 61 := by
    unfold LCM; rw [sI_n (by omega), sI_n (by omega), rI_n (by omega), rI_e]
  have e5 : xI (LCM μ a a') (a + 5) = cpy (xI μ (a' + 5)) (xI μ (a + 5)) 0 61 := by
    unfold LCM; rw [sI_n (by omega), sI_n (by omega), rI_e]
  refine ⟨l1, l2, ?_, ?_, l5, fun k hk => ?_⟩
  · unfold LCM; rw [sI_k (by omega), sI_e]; exact l3
  · unfold LCM; rw [sI_e]; exact l4
  · have hl : (f + k) % 61 < 61 := Nat.mod_lt _ (by omega)
    rw [e3, e4, e5, cpy_i' hl, cpy_i' hl, cpy_i' hl]; exact l6 k hk
def MCM (μ : xMem) (a a' : Nat) : xMem := LCM (xrI (xsI (xsI (xsI (xsI (xsI (xsI (xsI (xsI μ a 2 1) a 3 (xI μ a' 3)) a 4 (xI μ a' 4)) a 5 (xI μ a' 5)) a 6 (xI μ a' 6)) a 7 (xI μ a' 7)) a 8 (xI μ a' 8)) a 9 (xI μ a' 9)) (a + 1) (cpy (xI μ (a' + 1)) (xI μ (a + 1)) 0 3)) a a'
theorem c22 (hb : HB μ a) (hb' : HB μ a') (hd : a + 6 ≤ a' ∨ a' + 6 ≤ a) {v : Nat → Int32} (hM : MV μ a' v) (h7 : xI μ a' 7 = 0 ∨ xI μ a' 7 = 1) (h9 : xI μ a' 9 = 0 ∨ xI μ a' 9 = 1) : ∃ μ', (∀ Q, Cn G 22 [.ref a, .ref a'] μ Q = Q (.inl none) μ') ∧ MV μ' a v ∧ FR μ μ' (fun q => a ≤ q ∧ q < a + 6) := by
  have hb0 := hb
  have hb0' := hb'
  obtain ⟨h0, ⟨h1, e1⟩, h2, -, -, -, p0, p1, p2, p3, p4⟩ := hb
  obtain ⟨k0, ⟨k1, f1⟩, k2, -, -, -, s0, s1, s2, s3, s4⟩ := hb'
  obtain ⟨a1, a2, a3, a4, a5, a6, a7, a8, a9, fi, ni, hl⟩ := hM
  have z : ¬ (0 : Int32) < 0 := by decide
  have z3 : ¬ (3 : Int32) < 0 := by decide
  have q3 : ¬ (0 : Int32) < 0 ∧ ¬ (0 : Int32) < 0 ∧ ¬ (3 : Int32) < 0 ∧ (0 : Int32).toNatClampNeg + (3 : Int32).toNatClampNeg ≤ xLn μ (a' + 1) ∧ (0 : Int32).toNatClampNeg + (3 : Int32).toNatClampNeg ≤ xLn μ (a + 1) := ⟨z, z, z3, by rw [f1]; decide, by rw [e1]; decide⟩
  have t3 : xKd μ (a' + 1) = 9 ∧ xKd μ (a + 1) = 9 := ⟨k1, h1⟩
  have hbx : HB (xrI (xsI (xsI (xsI (xsI (xsI (xsI (xsI (xsI μ a 2 1) a 3 (xI μ a' 3)) a 4 (xI μ a' 4)) a 5 (xI μ a' 5)) a 6 (xI μ a' 6)) a 7 (xI μ a' 7)) a 8 (xI μ a' 8)) a 9 (xI μ a' 9)) (a + 1) (cpy (xI μ (a' + 1)) (xI μ (a + 1)) 0 3)) a := hb0.of (by simp only [sI_1, rI_1]) (by simp only [sI_R, rI_R]) (by simp only [sI_R, rI_R])
  have hbx' : HB (xrI (xsI (xsI (xsI (xsI (xsI (xsI (xsI (xsI μ a 2 1) a 3 (xI μ a' 3)) a 4 (xI μ a' 4)) a 5 (xI μ a' 5)) a 6 (xI μ a' 6)) a 7 (xI μ a' 7)) a 8 (xI μ a' 8)) a 9 (xI μ a' 9)) (a + 1) (cpy (xI μ (a' + 1)) (xI μ (a + 1)) 0 3)) a' := hb0'.of (by simp only [sI_1, rI_1]) (by simp only [sI_R, rI_R]) (by simp only [sI_R, rI_R])
  have hc19 := fun Q => c19 (G := G) (Q := Q) hbx hbx' hd
  have i2 : xI (xsI μ a 2 1) a 2 = 1 := sI_e
  have row : ∀ q, (q < a ∨ a + 2 ≤ q) → xI (xrI (xsI (xsI (xsI (xsI (xsI (xsI (xsI (xsI μ a 2 1) a 3 (xI μ a' 3)) a 4 (xI μ a' 4)) a 5 (xI μ a' 5)) a 6 (xI μ a' 6)) a 7 (xI μ a' 7)) a 8 (xI μ a' 8)) a 9 (xI μ a' 9)) (a + 1) (cpy (xI μ (a' + 1)) (xI μ (a + 1)) 0 3)) q = xI μ q := fun q hq => by
    rw [rI_n (by omega), sI_n (by omega), sI_n (by omega), sI_n (by omega), sI_n (by omega), sI_n (by omega), sI_n (by omega), sI_n (by omega), sI_n (by omega)]
  have r0 : ∀ k, xI (MCM μ a a') a k = xI (xsI (xsI (xsI (xsI (xsI (xsI (xsI (xsI μ a 2 1) a 3 (xI μ a' 3)) a 4 (xI μ a' 4)) a 5 (xI μ a' 5)) a 6 (xI μ a' 6)) a 7 (xI μ a' 7)) a 8 (xI μ a' 8)) a 9 (xI μ a' 9)) a k := fun k => by
    unfold MCM; rw [LCM_r (by omega), rI_n (by omega)]
  have r1 : ∀ k, xI (MCM μ a a') (a + 1) k = cpy (xI μ (a' + 1)) (xI μ (a + 1)) 0 3 k := fun k => by
    unfold MCM; rw [LCM_r (by omega), rI_e]
  refine ⟨MCM μ a a', fun Q => ?_, ⟨?_, ?_, ?_, ?_, ?_, ?_, ?_, ?_, fun k hk => ?_, fi, ni, ?_⟩, ?_⟩
  · show Rn G 22 0 [some (.ref a), some (.ref a')] [] μ Q = _
    have nc3' : (3 : Int32).toNatClampNeg = 3 := rfl
    simp (disch := first | assumption | (simp only [rI_Kd, rI_Ln, rI_R, rI_J, rJ_Kd, rJ_Ln, rJ_R, rJ_I, sI_Kd, sI_Ln, sI_R, sI_J, sJ_Kd, sJ_Ln, sJ_R, sJ_I, sR_Kd, sR_Ln, sR_I, sR_J]; assumption) | exact Or.inr rfl | exact Or.inl rfl | omega) only [q22_0, q22_0N, q22_1, q22_1N, q22_2, q22_5, q22_8, q22_8N, q22_9, q22_12, q22_15, q22_15N, q22_16, q22_16N, q22_17, q22_20, q22_23, q22_23N, q22_24, q22_24N, q22_25, q22_28, q22_31, q22_31N, q22_32, q22_32N, q22_33, q22_36, q22_39, q22_39N, q22_40, q22_40N, q22_41, q22_44, q22_47, q22_47N, q22_48, q22_48N, q22_49, q22_52, q22_55, q22_55N, q22_56, q22_56N, q22_57, q22_60, q22_63, q22_63N, q22_64, q22_64N, q22_65, q22_68, q22_71, q22_71N, q22_72, q22_75, q22_76, q22_76N, q22_77, q22_80, q22_81, q22_82, q22_82J, q22_85, q22_85N, q22_86, q22_89, q22_89N, q22_90, q22_93, q22_96, a1, i2, c10, p0, p1, s0, s1, h7, h9, nc0, nc3', vcp, rI_n, sI_n, hc19, rI_Kd, rI_Ln, rI_R, rI_J, rJ_Kd, rJ_Ln, rJ_R, rJ_I, sI_Kd, sI_Ln, sI_R, sI_J, sJ_Kd, sJ_Ln, sJ_R, sJ_I, sR_Kd, sR_Ln, sR_I, sR_J, xaf_s, xaf_v, va_rf_s, xix_n, nI_clamp, xk1_i, xk1_a, xk1_u, xk1_n, xk1_l, xk1_d, true_and, and_true, ↓reduceIte, Nat.reduceAdd, xtup]
    rfl
  · rw [r0]; simp only [xI_sI, xJ_sJ, rJ_I, sJ_I, sI_J, rI_J, Nat.add_left_cancel_iff, Nat.reduceEqDiff, Nat.add_eq_left, Nat.left_eq_add, false_and, true_and, and_true, and_false, ↓reduceIte]
  · rw [r0]; simp only [xI_sI, xJ_sJ, rJ_I, sJ_I, sI_J, rI_J, Nat.add_left_cancel_iff, Nat.reduceEqDiff, Nat.add_eq_left, Nat.left_eq_add, false_and, true_and, and_true, and_false, ↓reduceIte]; exact a2
  · rw [r0]; simp only [xI_sI, xJ_sJ, rJ_I, sJ_I, sI_J, rI_J, Nat.add_left_cancel_iff, Nat.reduceEqDiff, Nat.add_eq_left, Nat.left_eq_add, false_and, true_and, and_true, and_false, ↓reduceIte]; exact a3
  · rw [r0]; simp only [xI_sI, xJ_sJ, rJ_I, sJ_I, sI_J, rI_J, Nat.add_left_cancel_iff, Nat.reduceEqDiff, Nat.add_eq_left, Nat.left_eq_add, false_and, true_and, and_true, and_false, ↓reduceIte]; exact a4
  · rw [r0]; simp only [xI_sI, xJ_sJ, rJ_I, sJ_I, sI_J, rI_J, Nat.add_left_cancel_iff, Nat.reduceEqDiff, Nat.add_eq_left, Nat.left_eq_add, false_and, true_and, and_true, and_false, ↓reduceIte]; exact a5
  · rw [r0]; simp only [xI_sI, xJ_sJ, rJ_I, sJ_I, sI_J, rI_J, Nat.add_left_cancel_iff, Nat.reduceEqDiff, Nat.add_eq_left, Nat.left_eq_add, false_and, true_and, and_true, and_false, ↓reduceIte]; exact a6
  · rw [r0]; simp only [xI_sI, xJ_sJ, rJ_I, sJ_I, sI_J, rI_J, Nat.add_left_cancel_iff, Nat.reduceEqDiff, Nat.add_eq_left, Nat.left_eq_add, false_and, true_and, and_true, and_false, ↓reduceIte]; exact a7
  · rw [r0]; simp only [xI_sI, xJ_sJ, rJ_I, sJ_I, sI_J, rI_J, Nat.add_left_cancel_iff, Nat.reduceEqDiff, Nat.add_eq_left, Nat.left_eq_add, false_and, true_and, and_true, and_false, ↓reduceIte]; exact a8
  · rw [r1, cpy_i' hk]; exact a9 k hk
  · exact LCM_LT (hl.of fun q q1 q2 => row q (by omega))
  · refine ⟨?_, ?_, ?_, fun q hq => ⟨?_, ?_⟩⟩
    · unfold MCM; rw [(LCM_fr).1]; simp only [sI_1, rI_1]
    · unfold MCM; rw [(LCM_fr).2.1]; simp only [sI_2, rI_2]
    · unfold MCM; rw [(LCM_fr).2.2.1]; simp only [sI_R, rI_R]
    · unfold MCM; rw [LCM_r (by omega), row q (by omega)]
    · unfold MCM; rw [((LCM_fr).2.2.2 q (by omega)).2]; simp only [sI_J, rI_J]
theorem c22_0 (hb : HB μ a) (hb' : HB μ a') (h2 : xI μ a' 2 = 0) : Cn G 22 [.ref a, .ref a'] μ Q = Q (.inl none) (xsI μ a 2 0) := by
  obtain ⟨h0, -⟩ := hb
  obtain ⟨k0, -⟩ := hb'
  have i2 : xI (xsI μ a 2 0) a 2 = 0 := sI_e
  show Rn G 22 0 [some (.ref a), some (.ref a')] [] μ Q = _
  simp (disch := first | assumption | (simp only [MM_Kd, rI_Kd, rJ_Kd, sI_Kd, sJ_Kd, sR_Kd]; assumption) | omega | decide) only [q22_0, q22_0N, q22_1, q22_1N, q22_2, q22_5, q22_8, q22_8N, q22_9, q22_12, q22_15, q22_15N, q22_16, q22_16N, q22_17, q22_20, q22_23, q22_23N, q22_24, q22_24N, q22_25, q22_28, q22_31, q22_31N, q22_32, q22_32N, q22_33, q22_36, q22_39, q22_39N, q22_40, q22_40N, q22_41, q22_44, q22_47, q22_47N, q22_48, q22_48N, q22_49, q22_52, q22_55, q22_55N, q22_56, q22_56N, q22_57, q22_60, q22_63, q22_63N, q22_64, q22_64N, q22_65, q22_68, q22_71, q22_71N, q22_72, q22_75, q22_76, q22_76N, q22_77, q22_80, q22_81, q22_82, q22_82J, q22_85, q22_85N, q22_86, q22_89, q22_89N, q22_90, q22_93, q22_96, h2, i2, c00, true_or, rI_Kd, rI_Ln, rI_R, rI_J, rJ_Kd, rJ_Ln, rJ_R, rJ_I, sI_Kd, sI_Ln, sI_R, sI_J, sJ_Kd, sJ_Ln, sJ_R, sJ_I, sR_Kd, sR_Ln, sR_I, sR_J, xaf_s, xaf_v, va_rf_s, xix_n, nI_clamp, xk1_i, xk1_a, xk1_u, xk1_n, xk1_l, xk1_d, true_and, and_true, ↓reduceIte, Nat.reduceAdd, xtup]
end CPC
