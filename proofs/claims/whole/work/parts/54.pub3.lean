/-! THE CLASS: LEAVE, PAY LATE, TRANSFER, RETIRE, SET, PASS -/
section PB3
variable {G : xCtx} {μ : xMem} {Q : xOut → xMem → Prop} {o n k c p g t b : Nat} {π : Nat → Nat} {S : Nat → ST} {x : ST}
theorem zLeave_mw (hp : p < n) {i : Nat} (hi : i < n - 1) (hn : n ≤ 8) : mw (zLeave p n x).1 i = mw x.1 (if i < p then i else i + 1) := by
  funext w
  unfold zLeave
  dsimp only
  rw [mw_out (by omega)]
  unfold mw
  by_cases hw : w < 75
  · rw [if_pos hw, if_pos hw]
    by_cases hip : i < p
    · rw [if_pos hip, zShift_o (by omega), up_n (by omega)]
    · rw [if_neg hip]
      have e9 : 19 + 75 * i + w + 75 = 19 + 75 * (i + 1) + w := by omega
      have e8 : 19 + 75 * p ≤ 19 + 75 * i + w ∧ 19 + 75 * i + w < 19 + 75 * p + 75 * (n - 1 - p) := by omega
      unfold zShift
      rw [if_pos e8, e9, up_n (by omega)]
  · rw [if_neg hw, if_neg hw]
theorem zLeave_INV (hI : INV c g n x) (hg : g ≤ 9999) (hp : p < n) : INV (c + 1) g (n - 1) (zLeave p n x) := by
  have hn8 := hI.1.2.2.1
  obtain ⟨f, B, f1, f2, hBf, hb1, -⟩ := zBack_n hI.1 (hI.2.2 p hp) (by omega) (by omega)
  obtain ⟨i1, ⟨s0, s1⟩, i3⟩ := hI.up (Nat.le_succ c)
  have js : ∀ j, j < 19 → j ≠ 1 → j ≠ 2 → (zLeave p n x).1 j = x.1 j := by
    intro j j1 j2 j3
    unfold zLeave
    dsimp only
    rw [up_n j3, zShift_o (by omega), up_n j2]
  have j1 : (zLeave p n x).1 1 = nI (f - B) := by
    unfold zLeave
    dsimp only
    rw [up_n (by omega), zShift_o (by omega), up_e, f1, hb1, pk_sub hBf]
  obtain ⟨a1, a2, a3, a4, a5, a6, a7, a8, a9⟩ := i1
  refine ⟨⟨?_, ?_, by omega, ⟨f - B, j1, by omega⟩, ?_, ?_, ?_, ?_, fun k hk => ?_⟩, ⟨?_, ?_⟩, fun i hi => ?_⟩
  · rw [js 0 (by omega) (by omega) (by omega)]; exact a1
  · unfold zLeave; dsimp only; rw [up_e]
  · rw [js 6 (by omega) (by omega) (by omega)]; exact a5
  · rw [js 7 (by omega) (by omega) (by omega)]; exact a6
  · rw [js 8 (by omega) (by omega) (by omega)]; exact a7
  · rw [js 9 (by omega) (by omega) (by omega)]; exact a8
  · rw [js _ (by omega) (by omega) (by omega), js _ (by omega) (by omega) (by omega), js _ (by omega) (by omega) (by omega)]; exact a9 k hk
  · unfold zLeave; dsimp only; rw [up_n (by omega)]; exact s0
  · unfold zLeave; dsimp only; rw [up_n (by omega)]; exact s1
  · rw [zLeave_mw hp hi hn8]; exact i3 _ (by split <;> omega)
theorem c71 (h : CST μ o c g n π t S x) (id : Int32) : CRES G 71 [.int id] (kd3 0 0 0) μ o c t S x (pLeave id x) := by
  obtain ⟨hC, hs, hH, hg, hI, hSC⟩ := h
  have hC0 := hC
  have hn8 := hI.1.2.2.1
  have b0 := hSC.1.1
  obtain ⟨ko, ⟨o0, o1, o2, o3, o4⟩, ⟨k1, k1r⟩, -⟩ := hC
  have hf := fun Q => c35 (G := G) (Q := Q) hSC hI.1 id
  unfold pLeave
  rcases pFind_of hI.1 id with hp | ⟨p, hpn, hp, -⟩
  · rw [if_pos hp]
    intro Q
    have hf1 := fun Q => (hf Q).1 hp
    show Rn G 71 0 [some (.ref o), some (.int id), none] [] μ Q = _
    simp (disch := first | assumption | (simp only [MM_Kd, rI_Kd, rJ_Kd, sI_Kd, sJ_Kd, sR_Kd]; assumption) | omega | decide) only [q71_0, q71_0N, q71_1, q71_4, q71_5, q71_8, q71_8N, q71_9, q71_9N, q71_10, q71_10N, q71_13, q71_16, q71_23, q71_23N, q71_24, q71_27, q71_27N, q71_28, q71_31, q71_34, q71_34N, q71_35, q71_38, q71_38N, q71_39, q71_42, o0, hf1, kd_1, xaf_s, xaf_v, va_rf_s, xix_n, nI_clamp, xk1_i, xk1_a, xk1_u, xk1_n, xk1_l, xk1_d, true_and, and_true, ↓reduceIte, Nat.reduceAdd, xtup]
  · have hp8 : p < 8 := by omega
    have hf1 := fun Q => (hf Q).2 p hpn hp
    have cl : (nI p).toNatClampNeg = p := nI_clamp (by omega)
    have cl2 : (x.1 2).toNatClampNeg = n := by rw [hI.1.2.1, nI_clamp (by omega)]
    rw [hp, if_neg (nI_ne1 (by omega)), cl, cl2]
    obtain ⟨μ1, e1, hH1, hs1, hC1, hSC1, hF1⟩ := c5 (G := G) hC0 hs hSC hI hg hH
    obtain ⟨μ2, π2, d1, d2, d3⟩ := c41 (G := G) hSC1 hI.1 (hI.2.2 p hpn) (by omega) (by omega) (by omega) hpn
    have b0' := hSC1.1.1
    have ko' := hC1.1
    have o0' := hC1.2.1.1
    refine ⟨μ2, g, n - 1, π2, fun Q => ?_, CST.fin hC1 hs1 hH1 (Nat.le_succ c) d3 hg (zLeave_INV hI hg hpn) d2, fsn hF1 d3⟩
    show Rn G 71 0 [some (.ref o), some (.int id), none] [] μ Q = _
    simp (disch := first | assumption | (simp only [MM_Kd, rI_Kd, rJ_Kd, sI_Kd, sJ_Kd, sR_Kd]; assumption) | omega | decide) only [q71_0, q71_0N, q71_1, q71_4, q71_5, q71_8, q71_8N, q71_9, q71_9N, q71_10, q71_10N, q71_13, q71_16, q71_23, q71_23N, q71_24, q71_27, q71_27N, q71_28, q71_31, q71_34, q71_34N, q71_35, q71_38, q71_38N, q71_39, q71_42, o0, o2, hf1, e1, o0', d1, xaf_s, xaf_v, va_rf_s, xix_n, nI_clamp, xk1_i, xk1_a, xk1_u, xk1_n, xk1_l, xk1_d, true_and, and_true, ↓reduceIte, Nat.reduceAdd, xtup]
theorem zPL_INV {S0 : Nat} (hg : g < 99990) (hp : p < n) (hp8 : p < 8) : ∀ k l B (x : ST), GI x.1 g n 999999999 → (∃ f, x.1 1 = nI f ∧ f + l ≤ 999999999) → SI x.2 (32760 * g) B → (∀ q, q < n → MI (mw x.1 q) S0 (g - 60) g) → x.1 (19 + 75 * p + 10) = nI k → k < 62 → l ≤ 9999999 → GI (zPL p k (nI l, x)).2.1 g n 999999999 ∧ SI (zPL p k (nI l, x)).2.2 (32760 * g) (B + l) ∧ ∀ q, q < n → MI (mw (zPL p k (nI l, x)).2.1 q) S0 (g - 60) g := by
  intro k
  induction k with
  | zero =>
    intro l B x hG hf hS hM hn _ hl
    obtain ⟨s0, b, b1, b2⟩ := hS
    exact ⟨hG, ⟨s0, b, b1, by omega⟩, hM⟩
  | succ k ih =>
    intro l B x hG hf hS hM hn hk hl
    obtain ⟨d, c, d1, d2, c1, c2⟩ := mCost_n hG (hM p hp) (by omega) (by omega) (Nat.le_refl g) (by omega) hn (by omega)
    obtain ⟨f, f1, f2⟩ := hf
    by_cases hc : d ≤ l
    · have hc' : mCost x.1 p 0 ≤ nI l := by rw [d2]; exact (nI_leI (by omega) (by omega)).mpr hc
      have es : nI l - nI d = nI (l - d) := pk_sub hc
      have ez : zPL p (k + 1) (nI l, x) = zPL p k (nI (l - d), zPaid p k x) := by
        show (if mCost x.1 p 0 ≤ nI l then zPL p k (nI l - mCost x.1 p 0, zPaid p k x) else (nI l, x)) = _
        rw [if_pos hc', d2, es]
      rw [ez]
      have hz : zPaid p k x = (mDrop (up (up x.1 1 (nI (f + d))) (19 + 75 * p + (4 + c)) (x.1 (19 + 75 * p + (4 + c)) + 1)) p k, up x.2 1 (x.2 1 + (nI d).toInt64)) := by
        unfold zPaid; rw [c2, nI_clamp (by omega), d2, f1, nI_add]
      have zo : ∀ q, q ≠ 1 → (q < 19 + 75 * p ∨ 19 + 75 * p + 75 ≤ q) → (zPaid p k x).1 q = x.1 q := by
        intro q h1 h2
        rw [hz]
        dsimp only
        unfold mDrop
        rw [mSh_n (by omega), up_n (by omega), up_n (by omega), up_n h1]
      have z1 : (zPaid p k x).1 1 = nI (f + d) := by
        rw [hz]
        dsimp only
        unfold mDrop
        rw [mSh_n (by omega), up_n (by omega), up_n (by omega), up_e]
      have emw : mw (zPaid p k x).1 p = vDrop (up (mw x.1 p) (4 + c) (mw x.1 p (4 + c) + 1)) k := by
        rw [hz]
        dsimp only
        have e : x.1 (19 + 75 * p + (4 + c)) = mw x.1 p (4 + c) := (mw_at (by omega)).symm
        rw [mw_drop (by omega), mw_in (by omega), mw_out (by omega), e]
      obtain ⟨s0, b, b1, b2⟩ := hS
      have hS' : SI (zPaid p k x).2 (32760 * g) (B + d) := by
        rw [hz]
        dsimp only
        refine ⟨by rw [up_n (by omega)]; exact s0, b + d, ?_, by omega⟩
        rw [up_e, b1, nI_l (by omega), lN_add]
      have hM' : ∀ q, q < n → MI (mw (zPaid p k x).1 q) S0 (g - 60) g := by
        intro q hq
        by_cases hqp : q = p
        · subst hqp
          rw [emw]
          exact ((hM q hq).serve c1).drop (by rw [up_n (by omega), mw_at (by omega)]; exact hn) (by omega) (by omega)
        · rw [mw_cg fun w w1 w2 => zo w (by omega) (by omega)]; exact hM q hq
      have hG' : GI (zPaid p k x).1 g n 999999999 := hG.of (fun j hj j1 j3 j4 j5 => zo j j1 (by omega)) ⟨f + d, z1, by omega⟩
      have hn' : (zPaid p k x).1 (19 + 75 * p + 10) = nI k := by
        rw [hz]; exact (mSh_n (by omega)).trans up_e
      have r := ih (l - d) (B + d) (zPaid p k x) hG' ⟨f + d, z1, by omega⟩ hS' hM' hn' (by omega) (by omega)
      rw [show B + d + (l - d) = B + l by omega] at r
      exact r
    · have hc' : ¬ mCost x.1 p 0 ≤ nI l := by rw [d2]; exact fun y => hc ((nI_leI (by omega) (by omega)).mp y)
      have ez : zPL p (k + 1) (nI l, x) = (nI l, x) := by
        show (if mCost x.1 p 0 ≤ nI l then zPL p k (nI l - mCost x.1 p 0, zPaid p k x) else (nI l, x)) = _
        rw [if_neg hc']
      rw [ez]
      obtain ⟨s0, b, b1, b2⟩ := hS
      exact ⟨hG, ⟨s0, b, b1, by omega⟩, hM⟩
theorem c75 (h : CST μ o c g n π t S x) (id amount : Int32) : CRES G 75 [.int id, .int amount] (kd3 0 1 2) μ o c t S x (pLate id amount x) := by
  obtain ⟨hC, hs, hH, hg, hI, hSC⟩ := h
  have hC0 := hC
  have hn8 := hI.1.2.2.1
  have b0 := hSC.1.1
  obtain ⟨ko, ⟨o0, o1, o2, o3, o4⟩, ⟨k1, k1r⟩, -⟩ := hC
  have hf := fun Q => c35 (G := G) (Q := Q) hSC hI.1 id
  unfold pLate
  rcases pFind_of hI.1 id with hp | ⟨p, hpn, hp, -⟩
  · rw [if_pos hp]
    intro Q
    have hf1 := fun Q => (hf Q).1 hp
    show Rn G 75 0 [some (.ref o), some (.int id), some (.int amount), none] [] μ Q = _
    simp (disch := first | assumption | (simp only [MM_Kd, rI_Kd, rJ_Kd, sI_Kd, sJ_Kd, sR_Kd]; assumption) | omega | decide) only [q75_0, q75_0N, q75_1, q75_4, q75_5, q75_8, q75_8N, q75_9, q75_9N, q75_10, q75_10N, q75_13, q75_16, q75_23, q75_24, q75_25, q75_27, q75_30, q75_33, q75_36, q75_43, q75_43N, q75_44, q75_47, q75_50, q75_50N, q75_51, q75_54, q75_55, q75_58, q75_61, q75_64, q75_71, q75_71N, q75_72, q75_75, q75_75N, q75_76, q75_79, q75_82, q75_82N, q75_83, q75_86, q75_86N, q75_87, q75_88, q75_91, o0, hf1, kd_1, xaf_s, xaf_v, va_rf_s, xix_n, nI_clamp, xk1_i, xk1_a, xk1_u, xk1_n, xk1_l, xk1_d, true_and, and_true, ↓reduceIte, Nat.reduceAdd, xtup]
  · have hp8 : p < 8 := by omega
    have hf1 := fun Q => (hf Q).2 p hpn hp
    have cl : (nI p).toNatClampNeg = p := nI_clamp (by omega)
    rw [hp, if_neg (nI_ne1 (by omega)), cl]
    have k4 := (hSC.hb hp8).1
    obtain ⟨m2, m3, m4, m5, m6, m7, m8, m9, m1, -⟩ := (hSC.2.2.2.1 p hpn hp8).w
    obtain ⟨d1, d2, d3, d4, d5⟩ := (hI.2.2 p hpn).at (by omega)
    by_cases h2 : bad amount 1 9999999
    · rw [if_pos h2]
      intro Q
      show Rn G 75 0 [some (.ref o), some (.int id), some (.int amount), none] [] μ Q = _
      simp (disch := first | assumption | (simp only [MM_Kd, rI_Kd, rJ_Kd, sI_Kd, sJ_Kd, sR_Kd]; assumption) | omega | decide) only [q75_0, q75_0N, q75_1, q75_4, q75_5, q75_8, q75_8N, q75_9, q75_9N, q75_10, q75_10N, q75_13, q75_16, q75_23, q75_24, q75_25, q75_27, q75_30, q75_33, q75_36, q75_43, q75_43N, q75_44, q75_47, q75_50, q75_50N, q75_51, q75_54, q75_55, q75_58, q75_61, q75_64, q75_71, q75_71N, q75_72, q75_75, q75_75N, q75_76, q75_79, q75_82, q75_82N, q75_83, q75_86, q75_86N, q75_87, q75_88, q75_91, o0, hf1, c104, h2, c00, not_true_eq_false, kd_2, xaf_s, xaf_v, va_rf_s, xix_n, nI_clamp, xk1_i, xk1_a, xk1_u, xk1_n, xk1_l, xk1_d, true_and, and_true, ↓reduceIte, Nat.reduceAdd, xtup]
    · rw [if_neg h2]
      obtain ⟨am, am1, am2, rfl⟩ := rng (v := amount) (lo := 1) (hi := 9999999) (by omega) (by omega) h2
      have hc39 := fun Q => c39 (G := G) (Q := Q) hSC hI.1 (by omega) am2
      by_cases h7 : x.1 (19 + 75 * p + 7) = 1
      · rw [if_pos (Or.inl h7)]
        have i7 : xI μ (AD (o + 1) π p) 7 = 1 := by rw [m7]; exact h7
        intro Q
        show Rn G 75 0 [some (.ref o), some (.int id), some (.int (nI am)), none] [] μ Q = _
        simp (disch := first | assumption | (simp only [MM_Kd, rI_Kd, rJ_Kd, sI_Kd, sJ_Kd, sR_Kd]; assumption) | omega | decide) only [q75_0, q75_0N, q75_1, q75_4, q75_5, q75_8, q75_8N, q75_9, q75_9N, q75_10, q75_10N, q75_13, q75_16, q75_23, q75_24, q75_25, q75_27, q75_30, q75_33, q75_36, q75_43, q75_43N, q75_44, q75_47, q75_50, q75_50N, q75_51, q75_54, q75_55, q75_58, q75_61, q75_64, q75_71, q75_71N, q75_72, q75_75, q75_75N, q75_76, q75_79, q75_82, q75_82N, q75_83, q75_86, q75_86N, q75_87, q75_88, q75_91, o0, hf1, c104, h2, c10, i7, not_true_eq_false, not_false_eq_true, kd_3, xaf_s, xaf_v, va_rf_s, xix_n, nI_clamp, xk1_i, xk1_a, xk1_u, xk1_n, xk1_l, xk1_d, true_and, and_true, ↓reduceIte, Nat.reduceAdd, xtup]
      · have i7 : xI μ (AD (o + 1) π p) 7 = 0 := by rw [m7]; exact d5.resolve_right (fun z => h7 z.1)
        by_cases h8 : 999999999 - nI am < x.1 1
        · rw [if_pos (Or.inr h8)]
          have h8' : ¬ x.1 1 ≤ 999999999 - nI am := Int32.not_le.mpr h8
          intro Q
          show Rn G 75 0 [some (.ref o), some (.int id), some (.int (nI am)), none] [] μ Q = _
          simp (disch := first | assumption | (simp only [MM_Kd, rI_Kd, rJ_Kd, sI_Kd, sJ_Kd, sR_Kd]; assumption) | omega | decide) only [q75_0, q75_0N, q75_1, q75_4, q75_5, q75_8, q75_8N, q75_9, q75_9N, q75_10, q75_10N, q75_13, q75_16, q75_23, q75_24, q75_25, q75_27, q75_30, q75_33, q75_36, q75_43, q75_43N, q75_44, q75_47, q75_50, q75_50N, q75_51, q75_54, q75_55, q75_58, q75_61, q75_64, q75_71, q75_71N, q75_72, q75_75, q75_75N, q75_76, q75_79, q75_82, q75_82N, q75_83, q75_86, q75_86N, q75_87, q75_88, q75_91, o0, hf1, c104, h2, c10, c00, i7, hc39, h8', not_true_eq_false, not_false_eq_true, kd_3, xaf_s, xaf_v, va_rf_s, xix_n, nI_clamp, xk1_i, xk1_a, xk1_u, xk1_n, xk1_l, xk1_d, true_and, and_true, ↓reduceIte, Nat.reduceAdd, xtup]
        · rw [if_neg (fun z => z.elim h7 h8)]
          have h8' : x.1 1 ≤ 999999999 - nI am := Int32.not_lt.mp h8
          obtain ⟨f, f1, f2⟩ := hI.1.2.2.2.1
          have hfm : f + am ≤ 999999999 := by
            have z := h8'
            rw [f1, show (999999999 : Int32) = nI 999999999 from rfl, pk_sub (by omega), nI_leI (by omega) (by omega)] at z
            omega
          obtain ⟨μ1, e1, hH1, hs1, hC1, hSC1, hF1⟩ := c5 (G := G) hC0 hs hSC hI hg hH
          obtain ⟨μ2, w1, w2, w3⟩ := c44 (G := G) hSC1 hI (by omega) hpn am2 ⟨f, f1, hfm⟩
          have b0' := hSC1.1.1
          have ko' := hC1.1
          have o0' := hC1.2.1.1
          have hG' : GI x.1 g n 999999999 := hI.1.of (fun _ _ _ _ _ _ => rfl) ⟨f, f1, by omega⟩
          obtain ⟨v1, v2, v3⟩ := zPL_INV (S0 := 10060 + g) (by omega) hpn hp8 (zLts x.1 p) am (10000000 * c) x hG' ⟨f, f1, hfm⟩ hI.2.1 hI.2.2 d4 (by omega) am2
          have hInv : INV (c + 1) g n (zPL p (zLts x.1 p) (nI am, x)).2 := by
            refine ⟨v1.of (fun _ _ _ _ _ _ => rfl) (by obtain ⟨f', q1, q2⟩ := v1.2.2.2.1; exact ⟨f', q1, by omega⟩), ?_, v3⟩
            obtain ⟨s0, b, b1, b2⟩ := v2
            exact ⟨s0, b, b1, by omega⟩
          refine ⟨μ2, g, n, π, fun Q => ?_, CST.fin hC1 hs1 hH1 (Nat.le_succ c) w3.fs hg hInv w2, fsn hF1 w3.fs⟩
          show Rn G 75 0 [some (.ref o), some (.int id), some (.int (nI am)), none] [] μ Q = _
          simp (disch := first | assumption | (simp only [MM_Kd, rI_Kd, rJ_Kd, sI_Kd, sJ_Kd, sR_Kd]; assumption) | omega | decide) only [q75_0, q75_0N, q75_1, q75_4, q75_5, q75_8, q75_8N, q75_9, q75_9N, q75_10, q75_10N, q75_13, q75_16, q75_23, q75_24, q75_25, q75_27, q75_30, q75_33, q75_36, q75_43, q75_43N, q75_44, q75_47, q75_50, q75_50N, q75_51, q75_54, q75_55, q75_58, q75_61, q75_64, q75_71, q75_71N, q75_72, q75_75, q75_75N, q75_76, q75_79, q75_82, q75_82N, q75_83, q75_86, q75_86N, q75_87, q75_88, q75_91, o0, o2, hf1, c104, h2, c10, i7, hc39, h8', e1, o0', w1, not_true_eq_false, not_false_eq_true, xaf_s, xaf_v, va_rf_s, xix_n, nI_clamp, xk1_i, xk1_a, xk1_u, xk1_n, xk1_l, xk1_d, true_and, and_true, ↓reduceIte, Nat.reduceAdd, xtup]
theorem zTran_INV (hI : INV c g n x) (hg : g ≤ 9999) (hp : p < n) {m : Nat} (hm : m ≤ 9999999) (hc : pCanT x.1 p (nI m)) : INV (c + 1) g n (zTran p (nI m) x) := by
  have hn8 := hI.1.2.2.1
  obtain ⟨i1, i2, i3⟩ := hI.up (Nat.le_succ c)
  obtain ⟨-, -, hc3, hc4⟩ := hc
  obtain ⟨d1, d2, -⟩ := (hI.2.2 p hp).at (by omega)
  obtain ⟨f, f1, f2⟩ := hI.1.2.2.2.1
  have hfm : f + m ≤ 999999999 := by
    rw [f1, show (999999999 : Int32) = nI 999999999 from rfl, pk_sub (by omega), nI_leI (by omega) (by omega)] at hc4
    omega
  -- the months as a number
  obtain ⟨tt, t1, t2, t3⟩ := hI.1.2.2.2.2.2.2.2.1
  have hM := hI.2.2 p hp
  have hM0 := hM
  obtain ⟨-, ⟨q, q1, q2, q3⟩, -, -, -, n', -, hn', hsv, -⟩ := hM
  rw [mw_at (by omega)] at q3
  have bb : tt * q ≤ 20 * 9999 := Nat.mul_le_mul t2 q2
  have b1' : 1 * 1 ≤ tt * q := Nat.mul_le_mul t1 q1
  have em : zMths x.1 p (nI m) = nI (m / (tt * q)) := by
    unfold zMths; rw [t3, q3, pk_mul, pk_div (by omega) (by omega) (by omega)]
  have hmd : m / (tt * q) ≤ m := Nat.div_le_self _ _
  obtain ⟨e, e1, e2⟩ := hsv _ d1
  have e1' : x.1 (19 + 75 * p + (4 + zOwn x.1 p)) = nI e := (mw_at (s := x.1) (p := p) (w := 4 + zOwn x.1 p) (by omega)).symm.trans e1
  rw [em, e1', nI_add, show (9999 : Int32) = nI 9999 from rfl, nI_leI (by omega) (by omega)] at hc3
  unfold zTran
  refine ⟨i1.of (fun j hj j1 _ _ _ => by dsimp only; rw [up_n (by omega), up_n j1]) ⟨f + m, by dsimp only; rw [up_n (by omega), up_e, f1, nI_add], by omega⟩, ?_, fun r hr => ?_⟩
  · obtain ⟨s0, s1⟩ := i2
    exact ⟨by dsimp only; rw [up_n (by omega)]; exact s0, by dsimp only; rw [up_n (by omega)]; exact s1⟩
  · dsimp only
    by_cases hrp : r = p
    · subst hrp
      have e9 : x.1 (19 + 75 * r + (4 + zOwn x.1 r)) = mw x.1 r (4 + zOwn x.1 r) := (mw_at (by omega)).symm
      rw [mw_in (by omega), mw_out (by omega), em, e9]
      exact hM0.bring (n := 0) d1 e1 hc3 (by omega) (by omega)
    · rw [mw_out (by omega), mw_out (by omega)]; exact i3 r hr
theorem c76 (h : CST μ o c g n π t S x) (id amount : Int32) : CRES G 76 [.int id, .int amount] (kd3 0 1 2) μ o c t S x (pTran id amount x) := by
  obtain ⟨hC, hs, hH, hg, hI, hSC⟩ := h
  have hC0 := hC
  have hn8 := hI.1.2.2.1
  have b0 := hSC.1.1
  obtain ⟨ko, ⟨o0, o1, o2, o3, o4⟩, ⟨k1, k1r⟩, -⟩ := hC
  have hf := fun Q => c35 (G := G) (Q := Q) hSC hI.1 id
  unfold pTran
  rcases pFind_of hI.1 id with hp | ⟨p, hpn, hp, -⟩
  · rw [if_pos hp]
    intro Q
    have hf1 := fun Q => (hf Q).1 hp
    show Rn G 76 0 [some (.ref o), some (.int id), some (.int amount), none] [] μ Q = _
    simp (disch := first | assumption | (simp only [MM_Kd, rI_Kd, rJ_Kd, sI_Kd, sJ_Kd, sR_Kd]; assumption) | omega | decide) only [q76_0, q76_0N, q76_1, q76_4, q76_5, q76_8, q76_8N, q76_9, q76_9N, q76_10, q76_10N, q76_13, q76_16, q76_23, q76_24, q76_25, q76_27, q76_30, q76_33, q76_36, q76_43, q76_43N, q76_44, q76_47, q76_47N, q76_48, q76_49, q76_52, q76_55, q76_58, q76_65, q76_65N, q76_66, q76_69, q76_69N, q76_70, q76_73, q76_76, q76_76N, q76_77, q76_80, q76_80N, q76_81, q76_82, q76_85, o0, hf1, kd_1, xaf_s, xaf_v, va_rf_s, xix_n, nI_clamp, xk1_i, xk1_a, xk1_u, xk1_n, xk1_l, xk1_d, true_and, and_true, ↓reduceIte, Nat.reduceAdd, xtup]
  · have hp8 : p < 8 := by omega
    have hf1 := fun Q => (hf Q).2 p hpn hp
    have cl : (nI p).toNatClampNeg = p := nI_clamp (by omega)
    rw [hp, if_neg (nI_ne1 (by omega)), cl]
    have k4 := (hSC.hb hp8).1
    by_cases h2 : bad amount 1 9999999
    · rw [if_pos h2]
      intro Q
      show Rn G 76 0 [some (.ref o), some (.int id), some (.int amount), none] [] μ Q = _
      simp (disch := first | assumption | (simp only [MM_Kd, rI_Kd, rJ_Kd, sI_Kd, sJ_Kd, sR_Kd]; assumption) | omega | decide) only [q76_0, q76_0N, q76_1, q76_4, q76_5, q76_8, q76_8N, q76_9, q76_9N, q76_10, q76_10N, q76_13, q76_16, q76_23, q76_24, q76_25, q76_27, q76_30, q76_33, q76_36, q76_43, q76_43N, q76_44, q76_47, q76_47N, q76_48, q76_49, q76_52, q76_55, q76_58, q76_65, q76_65N, q76_66, q76_69, q76_69N, q76_70, q76_73, q76_76, q76_76N, q76_77, q76_80, q76_80N, q76_81, q76_82, q76_85, o0, hf1, c104, h2, c00, not_true_eq_false, kd_2, xaf_s, xaf_v, va_rf_s, xix_n, nI_clamp, xk1_i, xk1_a, xk1_u, xk1_n, xk1_l, xk1_d, true_and, and_true, ↓reduceIte, Nat.reduceAdd, xtup]
    · rw [if_neg h2]
      obtain ⟨am, am1, am2, rfl⟩ := rng (v := amount) (lo := 1) (hi := 9999999) (by omega) (by omega) h2
      have hc46 := fun Q => c46 (G := G) (Q := Q) hSC hI.1 (by omega) (hI.2.2 p hpn) (by omega) hpn hp8 am2
      by_cases h7 : pCanT x.1 p (nI am)
      · rw [if_neg (fun z => z h7)]
        have hc46' := fun Q => (hc46 Q).trans (by rw [if_pos h7])
        obtain ⟨μ1, e1, hH1, hs1, hC1, hSC1, hF1⟩ := c5 (G := G) hC0 hs hSC hI hg hH
        obtain ⟨μ2, w1, w2, w3⟩ := c47 (G := G) hSC1 hI.1 (by omega) (hI.2.2 p hpn) (by omega) hpn hp8 am2
        have b0' := hSC1.1.1
        have ko' := hC1.1
        have o0' := hC1.2.1.1
        refine ⟨μ2, g, n, π, fun Q => ?_, CST.fin hC1 hs1 hH1 (Nat.le_succ c) w3.fs hg (zTran_INV hI hg hpn am2 h7) w2, fsn hF1 w3.fs⟩
        show Rn G 76 0 [some (.ref o), some (.int id), some (.int (nI am)), none] [] μ Q = _
        simp (disch := first | assumption | (simp only [MM_Kd, rI_Kd, rJ_Kd, sI_Kd, sJ_Kd, sR_Kd]; assumption) | omega | decide) only [q76_0, q76_0N, q76_1, q76_4, q76_5, q76_8, q76_8N, q76_9, q76_9N, q76_10, q76_10N, q76_13, q76_16, q76_23, q76_24, q76_25, q76_27, q76_30, q76_33, q76_36, q76_43, q76_43N, q76_44, q76_47, q76_47N, q76_48, q76_49, q76_52, q76_55, q76_58, q76_65, q76_65N, q76_66, q76_69, q76_69N, q76_70, q76_73, q76_76, q76_76N, q76_77, q76_80, q76_80N, q76_81, q76_82, q76_85, o0, o2, hf1, c104, h2, c10, hc46', e1, o0', w1, not_true_eq_false, not_false_eq_true, xaf_s, xaf_v, va_rf_s, xix_n, nI_clamp, xk1_i, xk1_a, xk1_u, xk1_n, xk1_l, xk1_d, true_and, and_true, ↓reduceIte, Nat.reduceAdd, xtup]
      · rw [if_pos h7]
        have hc46' := fun Q => (hc46 Q).trans (by rw [if_neg h7])
        intro Q
        show Rn G 76 0 [some (.ref o), some (.int id), some (.int (nI am)), none] [] μ Q = _
        simp (disch := first | assumption | (simp only [MM_Kd, rI_Kd, rJ_Kd, sI_Kd, sJ_Kd, sR_Kd]; assumption) | omega | decide) only [q76_0, q76_0N, q76_1, q76_4, q76_5, q76_8, q76_8N, q76_9, q76_9N, q76_10, q76_10N, q76_13, q76_16, q76_23, q76_24, q76_25, q76_27, q76_30, q76_33, q76_36, q76_43, q76_43N, q76_44, q76_47, q76_47N, q76_48, q76_49, q76_52, q76_55, q76_58, q76_65, q76_65N, q76_66, q76_69, q76_69N, q76_70, q76_73, q76_76, q76_76N, q76_77, q76_80, q76_80N, q76_81, q76_82, q76_85, o0, hf1, c104, h2, c10, hc46', not_true_eq_false, not_false_eq_true, kd_3, xaf_s, xaf_v, va_rf_s, xix_n, nI_clamp, xk1_i, xk1_a, xk1_u, xk1_n, xk1_l, xk1_d, true_and, and_true, ↓reduceIte, Nat.reduceAdd, xtup]
end PB3
