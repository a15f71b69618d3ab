/-! THE CLASS: LEAVING, PAYING WHAT IS LATE -/
/-- the memory changes in the rows P alone, references too -/
def FS (μ μ' : xMem) (P : Nat → Prop) : Prop := μ'.1 = μ.1 ∧ μ'.2.1 = μ.2.1 ∧ ∀ q, ¬ P q → xI μ' q = xI μ q ∧ xJ μ' q = xJ μ q ∧ xR μ' q = xR μ q
theorem FR.fs {μ μ' : xMem} {P : Nat → Prop} (h : FR μ μ' P) : FS μ μ' P := ⟨h.1, h.2.1, fun q hq => ⟨(h.2.2.2 q hq).1, (h.2.2.2 q hq).2, by rw [h.2.2.1]⟩⟩
theorem FRR.fs {μ μ' : xMem} {a : Nat} {P : Nat → Prop} (h : FRR μ μ' a) (ha : P a) : FS μ μ' P := ⟨h.1, h.2.1, fun q hq => ⟨by rw [h.2.2.1], by rw [h.2.2.2.1], h.2.2.2.2 q fun z => hq (z ▸ ha)⟩⟩
theorem FS.tr {μ μ' μ'' : xMem} {P : Nat → Prop} (h : FS μ μ' P) (h' : FS μ' μ'' P) : FS μ μ'' P :=
  ⟨h'.1.trans h.1, h'.2.1.trans h.2.1, fun q hq => ⟨(h'.2.2 q hq).1.trans (h.2.2 q hq).1, (h'.2.2 q hq).2.1.trans (h.2.2 q hq).2.1, (h'.2.2 q hq).2.2.trans (h.2.2 q hq).2.2⟩⟩
theorem FS.mono {μ μ' : xMem} {P P' : Nat → Prop} (h : FS μ μ' P) (hp : ∀ q, P q → P' q) : FS μ μ' P' :=
  ⟨h.1, h.2.1, fun q hq => h.2.2 q fun z => hq (hp q z)⟩
theorem FS.rf {μ : xMem} {P : Nat → Prop} : FS μ μ P := ⟨rfl, rfl, fun _ _ => ⟨rfl, rfl, rfl⟩⟩
/-- the reference's state after member p of n has left -/
def zLeave (p n : Nat) (x : ST) : ST := (up (zShift (up x.1 1 (x.1 1 - zBack x.1 p)) p (75 * (n - 1 - p))) 2 (nI (n - 1)), up x.2 5 (x.2 5 + (zBack x.1 p).toInt64))
section LV2
variable {G : xCtx} {μ : xMem} {Q : xOut → xMem → Prop} {a b f n k c p g F A B S lo hi t : Nat} {π : Nat → Nat} {x : ST}
theorem zBack_n (hG : GI x.1 g n F) (hM : MI (mw x.1 p) S lo hi) (hS : S ≤ 20500) (hF : F < 2 ^ 31) : ∃ f B, x.1 1 = nI f ∧ f ≤ F ∧ B ≤ f ∧ zBack x.1 p = nI B ∧ (if x.1 (19 + 75 * p + 7) = 0 then (if (nI f).toInt64 ≤ zAll x.1 p 3 0 0 then (nI f).toInt64 else zAll x.1 p 3 0 0) else 0) = lN B := by
  obtain ⟨f, f1, f2⟩ := hG.2.2.2.1
  obtain ⟨A, A1, A2⟩ := zAll_n hG hM hS
  refine ⟨f, if x.1 (19 + 75 * p + 7) = 0 then min f A else 0, f1, f2, by split <;> omega, ?_, ?_⟩
  · unfold zBack
    rw [f1, nI_l (by omega), A2]
    by_cases h7 : x.1 (19 + 75 * p + 7) = 0
    · rw [if_pos h7, if_pos h7]
      by_cases h : f < A
      · rw [if_pos ((pk_lLT (by omega) (by omega)).mpr h), Nat.min_eq_left (by omega)]
      · rw [if_neg (fun z => h ((pk_lLT (by omega) (by omega)).mp z)), Nat.min_eq_right (by omega), lN_i]
    · rw [if_neg h7, if_neg h7, show (0 : Int64) = lN 0 from rfl, if_neg (fun z => by have := (lN_lt (by omega) (by omega)).mp z; omega)]; rfl
  · rw [nI_l (by omega), A2]
    by_cases h7 : x.1 (19 + 75 * p + 7) = 0
    · rw [if_pos h7, if_pos h7]
      by_cases h : f ≤ A
      · rw [if_pos ((pk_lLE (by omega) (by omega)).mpr h), Nat.min_eq_left h]
      · rw [if_neg (fun z => h ((pk_lLE (by omega) (by omega)).mp z)), Nat.min_eq_right (by omega)]
    · rw [if_neg h7, if_neg h7]; rfl
theorem c41 (h : SC μ b π n x) (hG : GI x.1 g n F) (hM : MI (mw x.1 p) S lo hi) (hw : hi - lo < 62) (hS : S ≤ 20500) (hF : F < 2 ^ 31) (hp : p < n) : ∃ μ' π', (∀ Q, Cn G 41 [.ref b, .ref (AD b π p)] μ Q = Q (.inl (some (.int (zBack x.1 p)))) μ') ∧ SC μ' b π' (n - 1) (zLeave p n x) ∧ FS μ μ' (BK b) := by
  have hn8 := hG.2.2.1
  have hp8 : p < 8 := by omega
  obtain ⟨-, -, -, hk4, -⟩ := h.row hp8
  have hmv := h.2.2.2.1 p hp hp8
  obtain ⟨m2, m3, m4, m5, m6, m7, m8, m9, m1, -⟩ := hmv.w
  have hc42 := fun Q => c42 (G := G) (Q := Q) h.1 (h.hb hp8) h.2.2.1 hmv
  obtain ⟨f, B, f1, f2, hBf, hb1, hb2⟩ := zBack_n hG hM hS hF
  obtain ⟨-, -, -, -, d5⟩ := hM.at (by omega)
  have hSH := h.1
  obtain ⟨b0, ⟨b1, u1⟩, ⟨b2, u2⟩, ⟨b3, u3⟩, ⟨b4, u4⟩, ⟨b5, u5⟩, ⟨b6, u6⟩, r0, r1, r2, r3, r4, r5⟩ := h.1
  obtain ⟨g3, g0, gf, g4, g5, gs, gr, gσ⟩ := h.2.2.1
  have gf' : xJ μ b 8 = (nI f).toInt64 := by rw [gf, f1]
  have hlo : b + 7 ≤ AD b π p := by unfold AD; omega
  have hpi := (h.2.1.1 p hp8).1
  have hup : AD b π p + 6 ≤ b + 55 := by unfold AD; omega
  obtain ⟨μ', w1, w2, w3, w4⟩ := c43 (G := G) (μ := xsI (xsJ (xsJ μ b 8 ((nI f).toInt64 - lN B)) (b + 6) 5 (xJ μ (b + 6) 5 + lN B)) (AD b π p) 2 0) (b := b) (π := π) (p := p) (hSH.of rfl rfl) (h.2.1.of rfl rfl) hp8
  have hfr : FR μ (xsI (xsJ (xsJ μ b 8 ((nI f).toInt64 - lN B)) (b + 6) 5 (xJ μ (b + 6) 5 + lN B)) (AD b π p) 2 0) (BK b) :=
    ((FR.sJ ⟨by omega, by omega⟩).tr (FR.sJ ⟨by omega, by omega⟩)).tr (FR.sI ⟨by omega, by omega⟩)
  refine ⟨μ', piL π p (π p), fun Q => ?_, ?_, hfr.fs.tr (w4.fs ⟨by omega, by omega⟩)⟩
  · show Rn G 41 0 [some (.ref b), some (.ref (AD b π p)), none, none] [] μ Q = _
    rcases d5 with h7 | ⟨h7, -⟩
    · have i7 : xI μ (AD b π p) 7 = 0 := by rw [m7]; exact h7
      rw [if_pos h7] at hb2
      simp (disch := first | assumption | (simp only [MM_Kd, rI_Kd, rJ_Kd, sI_Kd, sJ_Kd, sR_Kd]; assumption) | omega | decide) only [q41_0, q41_0N, q41_1, q41_4, q41_7, q41_8, q41_11, q41_11N, q41_12, q41_15, q41_15N, q41_16, q41_16N, q41_17, q41_20, q41_23, q41_24, q41_24N, q41_25, q41_26, q41_29, q41_30, q41_31, q41_34, q41_34N, q41_35, q41_38, q41_39, q41_40, q41_41, q41_42, q41_43, q41_44, q41_44N, q41_45, q41_46, q41_49, q41_49N, q41_50, q41_50N, q41_51, q41_54, q41_55, q41_56, i7, hc42, gf', c211, hb2, r5, u6, xl5, nc5, sJ_n, lN_i, w1, rI_Kd, rI_Ln, rI_R, rI_J, rJ_Kd, rJ_Ln, rJ_R, rJ_I, sI_Kd, sI_Ln, sI_R, sI_J, sJ_Kd, sJ_Ln, sJ_R, sJ_I, sR_Kd, sR_Ln, sR_I, sR_J, xaf_s, xaf_v, va_rf_s, xix_n, nI_clamp, xk1_i, xk1_a, xk1_u, xk1_n, xk1_l, xk1_d, true_and, and_true, ↓reduceIte, Nat.reduceAdd, xtup]
      rw [hb1]
    · have i7 : xI μ (AD b π p) 7 = 1 := by rw [m7]; exact h7
      rw [if_neg (by rw [h7]; decide)] at hb2
      simp (disch := first | assumption | (simp only [MM_Kd, rI_Kd, rJ_Kd, sI_Kd, sJ_Kd, sR_Kd]; assumption) | omega | decide) only [q41_0, q41_0N, q41_1, q41_4, q41_7, q41_8, q41_11, q41_11N, q41_12, q41_15, q41_15N, q41_16, q41_16N, q41_17, q41_20, q41_23, q41_24, q41_24N, q41_25, q41_26, q41_29, q41_30, q41_31, q41_34, q41_34N, q41_35, q41_38, q41_39, q41_40, q41_41, q41_42, q41_43, q41_44, q41_44N, q41_45, q41_46, q41_49, q41_49N, q41_50, q41_50N, q41_51, q41_54, q41_55, q41_56, i7, c10, gf', hb2, r5, u6, xl5, nc5, sJ_n, lN_i, w1, rI_Kd, rI_Ln, rI_R, rI_J, rJ_Kd, rJ_Ln, rJ_R, rJ_I, sI_Kd, sI_Ln, sI_R, sI_J, sJ_Kd, sJ_Ln, sJ_R, sJ_I, sR_Kd, sR_Ln, sR_I, sR_J, xaf_s, xaf_v, va_rf_s, xix_n, nI_clamp, xk1_i, xk1_a, xk1_u, xk1_n, xk1_l, xk1_d, true_and, and_true, ↓reduceIte, Nat.reduceAdd, xtup]
      rw [hb1]
  · have ei : xI μ' = xI (xsI (xsJ (xsJ μ b 8 ((nI f).toInt64 - lN B)) (b + 6) 5 (xJ μ (b + 6) 5 + lN B)) (AD b π p) 2 0) := w4.2.2.1
    have ej : xJ μ' = xJ (xsI (xsJ (xsJ μ b 8 ((nI f).toInt64 - lN B)) (b + 6) 5 (xJ μ (b + 6) 5 + lN B)) (AD b π p) 2 0) := w4.2.2.2.1
    have ib : ∀ q, q < b + 7 → xI μ' q = xI μ q := fun q hq => by rw [ei, sI_n (by omega)]; rfl
    have js : ∀ j, j < 19 → j ≠ 1 → j ≠ 2 → (zLeave p n x).1 j = x.1 j := by
      intro j j1 j2 j3
      unfold zLeave
      dsimp only
      rw [up_n j3, zShift_o (by omega), up_n j2]
    have j1 : (zLeave p n x).1 1 = nI (f - B) := by
      unfold zLeave
      dsimp only
      rw [up_n (by omega), zShift_o (by omega), up_e, f1, hb1, pk_sub hBf]
    refine ⟨w3, w2, ⟨?_, ?_, ?_, ?_, ?_, fun k hk => ?_, fun k hk => ?_, fun k hk => ?_⟩, fun i hi hi8 => ?_, fun i hi hi8 => ?_⟩
    · rw [ib b (by omega), js 3 (by omega) (by omega) (by omega)]; exact g3
    · rw [ib b (by omega), js 0 (by omega) (by omega) (by omega)]; exact g0
    · rw [ej, sI_J, sJ_n (by omega), sJ_e, j1, nI_l (by omega), nI_l (by omega), lN_sub hBf]
    · rw [ib b (by omega), js 4 (by omega) (by omega) (by omega)]; exact g4
    · rw [ib b (by omega), js 5 (by omega) (by omega) (by omega)]; exact g5
    · rw [ib _ (by omega), js _ (by omega) (by omega) (by omega)]; exact gs k hk
    · rw [ib _ (by omega), ib _ (by omega), ib _ (by omega), js _ (by omega) (by omega) (by omega), js _ (by omega) (by omega) (by omega), js _ (by omega) (by omega) (by omega)]; exact gr k hk
    · rw [ej, sI_J]
      unfold zLeave
      dsimp only
      by_cases h5 : k = 5
      · subst h5; rw [sJ_e, up_e, gσ 5 (by omega), hb1, nI_l (by omega)]
      · rw [sJ_k h5, sJ_n (by omega), up_n h5]; exact gσ k hk
    · have sw : mw (zLeave p n x).1 i = mw x.1 (if i < p then i else i + 1) := by
        funext w
        unfold zLeave
        dsimp only
        rw [mw_out (by omega)]
        unfold mw
        by_cases hw : w < 75
        · rw [if_pos hw, if_pos hw]
          by_cases hip : i < p
          · rw [if_pos hip, zShift_o (by omega), up_n (by omega)]
          · rw [if_neg hip]
            have e9 : 19 + 75 * i + w + 75 = 19 + 75 * (i + 1) + w := by omega
            have e8 : 19 + 75 * p ≤ 19 + 75 * i + w ∧ 19 + 75 * i + w < 19 + 75 * p + 75 * (n - 1 - p) := by omega
            unfold zShift
            rw [if_pos e8, e9, up_n (by omega)]
        · rw [if_neg hw, if_neg hw]
      rw [sw]
      have ea : AD b (piL π p (π p)) i = AD b π (if i < p then i else i + 1) := by
        unfold AD piL
        by_cases hip : i < p
        · rw [if_pos hip, if_pos hip]
        · rw [if_neg hip, if_neg hip, if_pos (by omega)]
      rw [ea]
      have hi1 : (if i < p then i else i + 1) < n := by split <;> omega
      have hne : (if i < p then i else i + 1) ≠ p := by split <;> omega
      refine (h.2.2.2.1 _ hi1 (by omega)).of fun q q1 q2 => ?_
      have : π (if i < p then i else i + 1) ≠ π p := fun z => hne (h.2.1.2.1 _ p (by omega) hp8 z)
      rw [ei, sI_n (by unfold AD at *; omega)]; rfl
    · unfold AD piL
      rw [ei]
      by_cases hi7 : i < 7
      · rw [if_neg (by omega), if_pos hi7]
        have : π (i + 1) ≠ π p := fun z => by have := h.2.1.2.1 (i + 1) p (by omega) hp8 z; omega
        rw [sI_n (by unfold AD; omega)]
        exact h.2.2.2.2 (i + 1) (by omega) (by omega)
      · rw [if_neg (by omega), if_neg hi7]
        exact sI_e
/-- late months are paid -/
theorem mCost_n {s : Nat → Int32} {N : Nat} (hG : GI s g n F) (hM : MI (mw s p) S lo hi) (hh : hi - lo < 62) (hg : hi ≤ g + 1) (hg2 : g ≤ hi) (hr : hi < 100000) (hn : s (19 + 75 * p + 10) = nI (N + 1)) (h63 : N < 63) : ∃ d c, d ≤ 20000 ∧ mCost s p 0 = nI d ∧ c < 3 ∧ mDueS s p 0 = nI c := by
  obtain ⟨w, w1, w2, w3, w4, w5, w6, w7, w8⟩ := late0 hM (by omega) hn h63 hr
  obtain ⟨i, i1, i2⟩ := hG.2.2.2.2.2.2.1
  have hle : w / 16384 ≤ g := by omega
  have hd : w % 4096 ≤ 4095 := by omega
  have b1 : w % 4096 * i ≤ 4095 * 50 := Nat.mul_le_mul hd i1
  have b2 : w % 4096 * i * (g - w / 16384) ≤ 4095 * 50 * 62 := Nat.mul_le_mul b1 (by omega)
  refine ⟨w % 4096 + w % 4096 * i * (g - w / 16384) / 1000, w / 4096 % 4, by omega, ?_, w5, w7⟩
  unfold mCost
  rw [w8, w6, hG.1, i2, pk_sub hle, pk_mul, pk_mul, show (1000 : Int32) = nI 1000 from rfl, pk_div (by omega) (by omega) (by omega), nI_add]
theorem c44_loop (hh : hi - lo < 62) (hg1 : hi ≤ g + 1) (hg2 : g ≤ hi) (hr : hi < 100000) (hp : p < n) (hp8 : p < 8) {am : Int32} : ∀ k j l μ (x : ST) l6, j + k ≤ 61 → SC μ b π n x → GI x.1 g n 999999999 → (∃ f, x.1 1 = nI f ∧ f + l ≤ 999999999) → MI (mw x.1 p) S lo hi → x.1 (19 + 75 * p + 10) = nI k → l ≤ 9999999 → ∃ μ', (∀ Q, Rn G 44 11 [some (.ref b), some (.ref (AD b π p)), some (.int am), some (.ref (AD b π p + 2)), some (.int (nI l)), some (.int (nI j)), l6] [] μ Q = Q (.inl (some (.int (zPL p k (nI l, x)).1))) μ') ∧ SC μ' b π n (zPL p k (nI l, x)).2 ∧ FR μ μ' (BK b) := by
  intro k
  induction k with
  | zero =>
    intro j l μ x l6 hj h hG hf hM hn hl
    obtain ⟨-, -, -, hk4, -, -, hk3⟩ := h.row hp8
    obtain ⟨-, -, -, -, -, -, -, -, -, fi, ni, hlt⟩ := (h.2.2.2.1 p hp hp8).w
    have i4 : xI μ (AD b π p + 2) 4 = 0 := by rw [hlt.2.2.2.1, ← hlt.2.2.2.2.1, mw_at (by omega), hn]; rfl
    have z : (0 : Int32) ≤ 0 := by decide
    refine ⟨μ, fun Q => ?_, h, FR.rf⟩
    rw [q44_11]
    by_cases h61 : 61 ≤ j
    · simp (disch := first | assumption | (simp only [MM_Kd, rI_Kd, rJ_Kd, sI_Kd, sJ_Kd, sR_Kd]; assumption) | omega | decide) only [q44_0, q44_0N, q44_1, q44_4, q44_4N, q44_5, q44_6, q44_8, q44_9, q44_13, q44_15, q44_18, q44_18N, q44_19, q44_22, q44_25, q44_25N, q44_26, q44_27, q44_27N, q44_28, q44_31, q44_31N, q44_32, q44_35, q44_36, q44_36T, q44_37, q44_40, q44_42, q44_44, q44_46, q44_49, q44_51, q44_52, q44_54, q44_56, q44_57, q44_59, q44_59N, q44_60, q44_61, q44_64, q44_66, q44_67, q44_68, q44_71, q44_71N, q44_72, q44_75, q44_76, q44_77, q44_78, q44_80, q44_81, q44_82, q44_83, q44_83N, q44_84, q44_84N, q44_85, q44_86, q44_89, q44_90, q44_93, q44_93N, q44_94, q44_97, q44_100, q44_103, q44_105, n61, nI_leI, h61, xaf_s, xaf_v, va_rf_s, xix_n, nI_clamp, xk1_i, xk1_a, xk1_u, xk1_n, xk1_l, xk1_d, true_and, and_true, ↓reduceIte, Nat.reduceAdd, xtup]
      rfl
    · simp (disch := first | assumption | (simp only [MM_Kd, rI_Kd, rJ_Kd, sI_Kd, sJ_Kd, sR_Kd]; assumption) | omega | decide) only [q44_0, q44_0N, q44_1, q44_4, q44_4N, q44_5, q44_6, q44_8, q44_9, q44_13, q44_15, q44_18, q44_18N, q44_19, q44_22, q44_25, q44_25N, q44_26, q44_27, q44_27N, q44_28, q44_31, q44_31N, q44_32, q44_35, q44_36, q44_36T, q44_37, q44_40, q44_42, q44_44, q44_46, q44_49, q44_51, q44_52, q44_54, q44_56, q44_57, q44_59, q44_59N, q44_60, q44_61, q44_64, q44_66, q44_67, q44_68, q44_71, q44_71N, q44_72, q44_75, q44_76, q44_77, q44_78, q44_80, q44_81, q44_82, q44_83, q44_83N, q44_84, q44_84N, q44_85, q44_86, q44_89, q44_90, q44_93, q44_93N, q44_94, q44_97, q44_100, q44_103, q44_105, n61, nI_leI, h61, i4, z, xaf_s, xaf_v, va_rf_s, xix_n, nI_clamp, xk1_i, xk1_a, xk1_u, xk1_n, xk1_l, xk1_d, true_and, and_true, ↓reduceIte, Nat.reduceAdd, xtup]
      rfl
  | succ k ih =>
    intro j l μ x l6 hj h hG hf hM hn hl
    obtain ⟨-, -, -, hk4, -, -, hk3⟩ := h.row hp8
    have hb := h.hb hp8
    have hmv := h.2.2.2.1 p hp hp8
    obtain ⟨-, -, -, -, -, -, -, -, m1, fi, ni, hlt⟩ := hmv.w
    have hni : ni = k + 1 := by
      have := hlt.2.2.2.2.1
      rw [mw_at (by omega), hn] at this
      exact ((nI_eq (by omega) (by have := hlt.2.1; omega)).mp this).symm
    subst hni
    obtain ⟨d, c, d1, d2, c1, c2⟩ := mCost_n hG hM hh hg1 hg2 hr hn (by omega)
    obtain ⟨f, f1, f2⟩ := hf
    have i4 : xI μ (AD b π p + 2) 4 = nI (k + 1) := hlt.2.2.2.1
    have z : (nI (k + 1) ≤ (0 : Int32)) = False := by apply eq_false; rw [show (0 : Int32) = nI 0 from rfl, nI_leI (by omega) (by omega)]; omega
    have h61 : ¬ 61 ≤ j := by omega
    have hG0 := h.2.2.1
    obtain ⟨g3, g0, gf, g4, g5, gs, gr, gσ⟩ := h.2.2.1
    obtain ⟨b0, ⟨b1, u1⟩, ⟨b2, u2⟩, ⟨b3, u3⟩, ⟨b4, u4⟩, ⟨b5, u5⟩, ⟨b6, u6⟩, r0, r1, r2, r3, r4, r5⟩ := h.1
    have gs2 : xI μ (b + 1) 2 = x.1 8 := gs 2 (by omega)
    have hc12 := fun Q => c12 (G := G) (Q := Q) hb hlt (show 0 < k + 1 by omega) (x.1 0) (x.1 8)
    have ec : wC (mw x.1 p (11 + 0)) (x.1 0) (x.1 8) = nI d := by rw [← d2, mw_at (by omega)]; rfl
    rw [ec, show (nI 0 : Int32) = 0 from rfl] at hc12
    by_cases hc : d ≤ l
    · have hc' : (nI d ≤ nI l) = True := eq_true ((nI_leI (by omega) (by omega)).mpr hc)
      have es : nI l - nI d = nI (l - d) := pk_sub hc
      have hlo : b + 7 ≤ AD b π p := by unfold AD; omega
      have hpi := (h.2.1.1 p hp8).1
      have gf' : xJ μ b 8 + (nI d).toInt64 = (nI (f + d)).toInt64 := by rw [gf, f1, nI_ladd (by omega)]
      have hz : zPaid p k x = (mDrop (up (up x.1 1 (nI (f + d))) (19 + 75 * p + (4 + c)) (x.1 (19 + 75 * p + (4 + c)) + 1)) p k, up x.2 1 (x.2 1 + (nI d).toInt64)) := by
        unfold zPaid; rw [c2, nI_clamp (by omega), d2, f1, nI_add]
      -- the memory after fund and sum, service, drop
      have hbA : HB (xsJ (xsJ μ b 8 ((nI (f + d)).toInt64)) (b + 6) 1 (xJ μ (b + 6) 1 + (nI d).toInt64)) (AD b π p) := hb.of rfl rfl rfl
      have hltA : LT (xsJ (xsJ μ b 8 ((nI (f + d)).toInt64)) (b + 6) 1 (xJ μ (b + 6) 1 + (nI d).toInt64)) (AD b π p) (mw x.1 p) fi (k + 1) := hlt.of fun q _ _ => rfl
      have hc11 := fun Q => c11' (G := G) (Q := Q) hbA hltA.1 hltA.2.2.1 (show 0 ≤ 61 by omega)
      have es11 : xI (xsJ (xsJ μ b 8 ((nI (f + d)).toInt64)) (b + 6) 1 (xJ μ (b + 6) 1 + (nI d).toInt64)) (AD b π p + 5) ((fi + 0) % 61) = nI c := by
        rw [(hltA.2.2.2.2.2 0 (by omega)).2.2, ← c2, mw_at (by omega)]; rfl
      rw [es11, show (nI 0 : Int32) = 0 from rfl] at hc11
      have hc25 := fun Q => c25 (G := G) (Q := Q) hbA c1 1
      rw [show xI (xsJ (xsJ μ b 8 ((nI (f + d)).toInt64)) (b + 6) 1 (xJ μ (b + 6) 1 + (nI d).toInt64)) (AD b π p + 1) c = xI μ (AD b π p + 1) c from rfl] at hc25
      have hbB : HB (xsI (xsJ (xsJ μ b 8 ((nI (f + d)).toInt64)) (b + 6) 1 (xJ μ (b + 6) 1 + (nI d).toInt64)) (AD b π p + 1) c (xI μ (AD b π p + 1) c + 1)) (AD b π p) := hb.of rfl rfl rfl
      have hmvB : MV (xsI (xsJ (xsJ μ b 8 ((nI (f + d)).toInt64)) (b + 6) 1 (xJ μ (b + 6) 1 + (nI d).toInt64)) (AD b π p + 1) c (xI μ (AD b π p + 1) c + 1)) (AD b π p) (up (mw x.1 p) (4 + c) (mw x.1 p (4 + c) + 1)) :=
        MV_serve (μ := xsJ (xsJ μ b 8 ((nI (f + d)).toInt64)) (b + 6) 1 (xJ μ (b + 6) 1 + (nI d).toInt64)) (hmv.of fun q _ _ => rfl) c1
      have hltB : LT (xsI (xsJ (xsJ μ b 8 ((nI (f + d)).toInt64)) (b + 6) 1 (xJ μ (b + 6) 1 + (nI d).toInt64)) (AD b π p + 1) c (xI μ (AD b π p + 1) c + 1)) (AD b π p) (up (mw x.1 p) (4 + c) (mw x.1 p (4 + c) + 1)) fi (k + 1) := by
        obtain ⟨l1, l2, l3, l4, l5, l6'⟩ := hlt
        refine ⟨l1, l2, ?_, ?_, by rw [up_n (by omega)]; exact l5, fun q hq => ?_⟩
        · rw [sI_n (by omega)]; exact l3
        · rw [sI_n (by omega)]; exact l4
        · rw [sI_n (by omega), sI_n (by omega), sI_n (by omega), up_n (by omega)]; exact l6' q hq
      have hc16 := fun Q => c16 (G := G) (Q := Q) hbB hltB
      have hltC := LT_drop hltB
      have hfr : FR μ (xsI (xsI (xsI (xsJ (xsJ μ b 8 ((nI (f + d)).toInt64)) (b + 6) 1 (xJ μ (b + 6) 1 + (nI d).toInt64)) (AD b π p + 1) c (xI μ (AD b π p + 1) c + 1)) (AD b π p + 2) 3 (nI ((fi + 1) % 61))) (AD b π p + 2) 4 (nI k)) (TP b π p) :=
        ((((FR.sJ (Or.inl rfl)).tr (FR.sJ (Or.inr (Or.inl rfl)))).tr (FR.sI (Or.inr (Or.inr ⟨by omega, by omega⟩)))).tr (FR.sI (Or.inr (Or.inr ⟨by omega, by omega⟩)))).tr (FR.sI (Or.inr (Or.inr ⟨by omega, by omega⟩)))
      have emw : mw (zPaid p k x).1 p = vDrop (up (mw x.1 p) (4 + c) (mw x.1 p (4 + c) + 1)) k := by
        rw [hz]
        dsimp only
        have e : x.1 (19 + 75 * p + (4 + c)) = mw x.1 p (4 + c) := (mw_at (by omega)).symm
        rw [mw_drop (by omega), mw_in (by omega), mw_out (by omega), e]
      have zo : ∀ q, q ≠ 1 → (q < 19 + 75 * p ∨ 19 + 75 * p + 75 ≤ q) → (zPaid p k x).1 q = x.1 q := by
        intro q h1 h2
        rw [hz]
        dsimp only
        unfold mDrop
        rw [mSh_n (by omega), up_n (by omega), up_n (by omega), up_n h1]
      have z1 : (zPaid p k x).1 1 = nI (f + d) := by
        rw [hz]
        dsimp only
        unfold mDrop
        rw [mSh_n (by omega), up_n (by omega), up_n (by omega), up_e]
      have hSC : SC (xsI (xsI (xsI (xsJ (xsJ μ b 8 ((nI (f + d)).toInt64)) (b + 6) 1 (xJ μ (b + 6) 1 + (nI d).toInt64)) (AD b π p + 1) c (xI μ (AD b π p + 1) c + 1)) (AD b π p + 2) 3 (nI ((fi + 1) % 61))) (AD b π p + 2) 4 (nI k)) b π n (zPaid p k x) := by
        refine h.step hp hp8 hfr ?_ ?_ (fun q hq hqp => ?_)
        · refine hG0.of (fun q q1 q2 => ?_) (fun j hj => ?_) ?_ ?_ (fun j hj => ?_) (fun j hj j1 j4 => ?_)
          · rw [sI_n (by omega), sI_n (by omega), sI_n (by omega)]; rfl
          · rw [sI_n (by omega), sI_n (by omega), sI_n (by omega)]; rfl
          · rw [sI_n (by omega), sI_n (by omega), sI_n (by omega), zo 4 (by omega) (by omega)]; exact g4
          · rw [sI_J, sI_J, sI_J, sJ_n (by omega), sJ_e, z1]
          · rw [sI_J, sI_J, sI_J, hz]
            dsimp only
            by_cases hj0 : j = 1
            · subst hj0; rw [sJ_e, up_e, gσ 1 (by omega)]
            · rw [sJ_k hj0, up_n hj0, sJ_n (by omega)]; exact gσ j hj
          · exact zo j j1 (by omega)
        · rw [emw]
          obtain ⟨a1, a2, a3, a4, a5, a6, a7, a8, a9, -⟩ := hmvB
          have vk : ∀ w, w < 10 → vDrop (up (mw x.1 p) (4 + c) (mw x.1 p (4 + c) + 1)) k w = up (mw x.1 p) (4 + c) (mw x.1 p (4 + c) + 1) w := fun w hw => by unfold vDrop; rw [if_neg (by omega), if_neg (by omega)]
          refine ⟨?_, ?_, ?_, ?_, ?_, ?_, ?_, ?_, fun q hq => ?_, _, _, hltC⟩
          · rw [sI_n (by omega), sI_n (by omega)]; exact a1
          · rw [sI_n (by omega), sI_n (by omega), vk 0 (by omega)]; exact a2
          · rw [sI_n (by omega), sI_n (by omega), vk 1 (by omega)]; exact a3
          · rw [sI_n (by omega), sI_n (by omega), vk 2 (by omega)]; exact a4
          · rw [sI_n (by omega), sI_n (by omega), vk 3 (by omega)]; exact a5
          · rw [sI_n (by omega), sI_n (by omega), vk 7 (by omega)]; exact a6
          · rw [sI_n (by omega), sI_n (by omega), vk 8 (by omega)]; exact a7
          · rw [sI_n (by omega), sI_n (by omega), vk 9 (by omega)]; exact a8
          · rw [sI_n (by omega), sI_n (by omega), vk (4 + q) (by omega)]; exact a9 q hq
        · exact mw_cg fun w w1 w2 => zo w (by omega) (by omega)
      have hG' : GI (zPaid p k x).1 g n 999999999 := hG.of (fun j hj j1 j3 j4 j5 => zo j j1 (by omega)) ⟨f + d, z1, by omega⟩
      have hM' : MI (mw (zPaid p k x).1 p) S lo hi := by
        rw [emw]
        exact (hM.serve c1).drop (by rw [up_n (by omega), mw_at (by omega)]; exact hn) (by omega) (by omega)
      have hn' : (zPaid p k x).1 (19 + 75 * p + 10) = nI k := by
        rw [hz]; exact (mSh_n (by omega)).trans up_e
      obtain ⟨μ', w1, w2, w3⟩ := ih (j + 1) (l - d) _ (zPaid p k x) (some (.int (nI d))) (by omega) hSC hG' ⟨f + d, z1, by omega⟩ hM' hn' (by omega)
      have ez : zPL p (k + 1) (nI l, x) = zPL p k (nI (l - d), zPaid p k x) := by
        have : mCost x.1 p 0 ≤ nI l := by rw [d2]; exact of_eq_true hc'
        show (if mCost x.1 p 0 ≤ nI l then zPL p k (nI l - mCost x.1 p 0, zPaid p k x) else (nI l, x)) = _
        rw [if_pos this, d2, es]
      rw [ez]
      refine ⟨μ', fun Q => ?_, w2, (hfr.mono (TP_BK hpi)).tr w3⟩
      rw [q44_11]
      simp (disch := first | assumption | (simp only [MM_Kd, rI_Kd, rJ_Kd, sI_Kd, sJ_Kd, sR_Kd]; assumption) | omega | decide) only [q44_0, q44_0N, q44_1, q44_4, q44_4N, q44_5, q44_6, q44_8, q44_9, q44_13, q44_15, q44_18, q44_18N, q44_19, q44_22, q44_25, q44_25N, q44_26, q44_27, q44_27N, q44_28, q44_31, q44_31N, q44_32, q44_35, q44_36, q44_36T, q44_37, q44_40, q44_42, q44_44, q44_46, q44_49, q44_51, q44_52, q44_54, q44_56, q44_57, q44_59, q44_59N, q44_60, q44_61, q44_64, q44_66, q44_67, q44_68, q44_71, q44_71N, q44_72, q44_75, q44_76, q44_77, q44_78, q44_80, q44_81, q44_82, q44_83, q44_83N, q44_84, q44_84N, q44_85, q44_86, q44_89, q44_90, q44_93, q44_93N, q44_94, q44_97, q44_100, q44_103, q44_105, n61, nI_leI, h61, i4, z, g0, gs2, r0, u1, xl2, nc2, hc12, hc', es, gf', r5, u6, xl1, nc1, sJ_n, hc11, hc25, hc16, nI_1, rI_Kd, rI_Ln, rI_R, rI_J, rJ_Kd, rJ_Ln, rJ_R, rJ_I, sI_Kd, sI_Ln, sI_R, sI_J, sJ_Kd, sJ_Ln, sJ_R, sJ_I, sR_Kd, sR_Ln, sR_I, sR_J, xaf_s, xaf_v, va_rf_s, xix_n, nI_clamp, xk1_i, xk1_a, xk1_u, xk1_n, xk1_l, xk1_d, true_and, and_true, ↓reduceIte, Nat.reduceAdd, xtup]
      exact w1 Q
    · have hc' : (nI d ≤ nI l) = False := eq_false (fun y => hc ((nI_leI (by omega) (by omega)).mp y))
      have ez : zPL p (k + 1) (nI l, x) = (nI l, x) := by
        have : ¬ mCost x.1 p 0 ≤ nI l := by rw [d2]; exact of_eq_false hc'
        simp only [zPL, this, ↓reduceIte]
      rw [ez]
      refine ⟨μ, fun Q => ?_, h, FR.rf⟩
      rw [q44_11]
      simp (disch := first | assumption | (simp only [MM_Kd, rI_Kd, rJ_Kd, sI_Kd, sJ_Kd, sR_Kd]; assumption) | omega | decide) only [q44_0, q44_0N, q44_1, q44_4, q44_4N, q44_5, q44_6, q44_8, q44_9, q44_13, q44_15, q44_18, q44_18N, q44_19, q44_22, q44_25, q44_25N, q44_26, q44_27, q44_27N, q44_28, q44_31, q44_31N, q44_32, q44_35, q44_36, q44_36T, q44_37, q44_40, q44_42, q44_44, q44_46, q44_49, q44_51, q44_52, q44_54, q44_56, q44_57, q44_59, q44_59N, q44_60, q44_61, q44_64, q44_66, q44_67, q44_68, q44_71, q44_71N, q44_72, q44_75, q44_76, q44_77, q44_78, q44_80, q44_81, q44_82, q44_83, q44_83N, q44_84, q44_84N, q44_85, q44_86, q44_89, q44_90, q44_93, q44_93N, q44_94, q44_97, q44_100, q44_103, q44_105, n61, nI_leI, h61, i4, z, g0, gs2, r0, u1, xl2, nc2, hc12, hc', rI_Kd, rI_Ln, rI_R, rI_J, rJ_Kd, rJ_Ln, rJ_R, rJ_I, sI_Kd, sI_Ln, sI_R, sI_J, sJ_Kd, sJ_Ln, sJ_R, sJ_I, sR_Kd, sR_Ln, sR_I, sR_J, xaf_s, xaf_v, va_rf_s, xix_n, nI_clamp, xk1_i, xk1_a, xk1_u, xk1_n, xk1_l, xk1_d, true_and, and_true, ↓reduceIte, Nat.reduceAdd, xtup]
theorem c44 {am : Nat} (h : SC μ b π n x) (hI : INV c g n x) (hg : g < 10300) (hp : p < n) (ha : am ≤ 9999999) (hf : ∃ f, x.1 1 = nI f ∧ f + am ≤ 999999999) : ∃ μ', (∀ Q, Cn G 44 [.ref b, .ref (AD b π p), .int (nI am)] μ Q = Q (.inl (some (.int (zPL p (zLts x.1 p) (nI am, x)).1))) μ') ∧ SC μ' b π n (zPL p (zLts x.1 p) (nI am, x)).2 ∧ FR μ μ' (BK b) := by
  have hn8 := hI.1.2.2.1
  have hM := hI.2.2 p hp
  obtain ⟨-, -, d3, d4, -⟩ := hM.at (by omega)
  have hG' : GI x.1 g n 999999999 := hI.1.of (fun _ _ _ _ _ _ => rfl) (by obtain ⟨f, f1, f2⟩ := hf; exact ⟨f, f1, by omega⟩)
  obtain ⟨μ', w1, w2, w3⟩ := c44_loop (G := G) (am := nI am) (show g - (g - 60) < 62 by omega) (by omega) (Nat.le_refl g) (by omega) hp (by omega) (zLts x.1 p) 0 am μ x none (by omega) h hG' hf hM d4 ha
  obtain ⟨-, -, -, hk4, -, hr1, hk3⟩ := h.row (show p < 8 by omega)
  refine ⟨μ', fun Q => ?_, w2, w3⟩
  have e := w1 Q
  rw [show (nI 0 : Int32) = 0 from rfl] at e
  show Rn G 44 0 [some (.ref b), some (.ref (AD b π p)), some (.int (nI am)), none, none, none, none] [] μ Q = _
  simp (disch := first | assumption | (simp only [MM_Kd, rI_Kd, rJ_Kd, sI_Kd, sJ_Kd, sR_Kd]; assumption) | omega | decide) only [q44_0, q44_0N, q44_1, q44_4, q44_4N, q44_5, q44_6, q44_8, q44_9, q44_13, q44_15, q44_18, q44_18N, q44_19, q44_22, q44_25, q44_25N, q44_26, q44_27, q44_27N, q44_28, q44_31, q44_31N, q44_32, q44_35, q44_36, q44_36T, q44_37, q44_40, q44_42, q44_44, q44_46, q44_49, q44_51, q44_52, q44_54, q44_56, q44_57, q44_59, q44_59N, q44_60, q44_61, q44_64, q44_66, q44_67, q44_68, q44_71, q44_71N, q44_72, q44_75, q44_76, q44_77, q44_78, q44_80, q44_81, q44_82, q44_83, q44_83N, q44_84, q44_84N, q44_85, q44_86, q44_89, q44_90, q44_93, q44_93N, q44_94, q44_97, q44_100, q44_103, q44_105, hr1, xaf_s, xaf_v, va_rf_s, xix_n, nI_clamp, xk1_i, xk1_a, xk1_u, xk1_n, xk1_l, xk1_d, true_and, and_true, ↓reduceIte, Nat.reduceAdd, xtup]
  exact e
end LV2
