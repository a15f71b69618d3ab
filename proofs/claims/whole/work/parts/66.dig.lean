/-! THE CLASS: THE HASH OF ALL -/
/-- k times from i on -/
def oL (F : Nat → Int64 → Int64) : Nat → Nat → Int64 → Int64
  | 0, _, h => h
  | k + 1, i, h => oL F k (i + 1) (F i h)
def mx (h v : Int64) : Int64 := 31 * h + v
def dLate (s : Nat → Int32) (p k : Nat) (h : Int64) : Int64 := oL (fun w h => mx h (vLate s p k w).toInt64) 4 0 h
def dMem (s : Nat → Int32) (p : Nat) (h : Int64) : Int64 :=
  mx (mx (oL (dLate s p) (zLts s p) 0 (oL (fun w h => mx h (vMem s p w).toInt64) 12 0 h)) (vPB s p (s (19 + 75 * p + 1)) 12).toInt64) (vBest s p).toInt64
def dHead (x : ST) (t : Nat) : Int64 :=
  oL (fun c h => oL (fun w h => mx h (vSec x.1 c w).toInt64) 6 0 h) 3 0 (oL (fun k h => mx h (x.1 (6 + k)).toInt64) 4 0 (oL (fun w h => mx h (x.2 w)) 6 0 (oL (fun w h => mx h (vCnt x.1 t w).toInt64) 8 0 2897)))
def dAll (x : ST) (n t L : Nat) (tx : Nat → Int32) : Int64 :=
  oL (fun k h => mx h (tx k).toInt64) L 0 (mx (mx (mx (oL (fun w h => mx h (vIf n 24 w x)) 4 0 (oL (dMem x.1) n 0 (dHead x t))) (vLast n (x.2 4) 240 1 x).toInt64) (bitF (inT x.2))) (nI L).toInt64)
theorem nbad {i k : Nat} (h : i ≤ k) (hk : k < 2 ^ 31) : ¬ bad (nI i) 0 (nI k) := by
  rintro (z | z)
  · rw [show (0 : Int32) = nI 0 from rfl, nI_ltI (by omega) (by omega)] at z; omega
  · rw [nI_ltI (by omega) (by omega)] at z; omega
section DGC
variable {G : xCtx} {μ : xMem} {Q : xOut → xMem → Prop} {o n k c p g t b L F S0 lo hi a : Nat} {π : Nat → Nat} {S : Nat → ST} {x : ST} {s : Nat → Int32} {σ : Nat → Int64} {tx : Nat → Int32}
theorem c99 (u w : Int64) : Cn G 99 [.long u, .long w] μ Q = Q (.inl (some (.long (mx u w)))) μ := by
  show Rn G 99 0 [some (.long u), none, some (.long w), none] [] μ Q = _
  simp (disch := first | assumption | (simp only [MM_Kd, rI_Kd, rJ_Kd, sI_Kd, sJ_Kd, sR_Kd]; assumption) | omega | decide) only [q99_0, q99_3, q99_4, q99_5, q99_6, q99_7, mx, xaf_s, xaf_v, va_rf_s, xix_n, nI_clamp, xk1_i, xk1_a, xk1_u, xk1_n, xk1_l, xk1_d, true_and, and_true, ↓reduceIte, Nat.reduceAdd, xtup]
theorem c98 (hC : CSH μ o) (h : SC μ (o + 1) π n x) (hp : p < n) (hp8 : p < 8) (u0 : Int64) : Cn G 98 [.ref o, .long u0, .ref (AD (o + 1) π p + 2)] μ Q = Q (.inl (some (.long (oL (dLate x.1 p) (zLts x.1 p) 0 u0)))) μ := by
  obtain ⟨ko, ⟨o0, o1, o2, o3, o4⟩, -⟩ := hC
  obtain ⟨b0, ⟨b1, u1⟩, -, -, -, -, -, r0, -⟩ := h.1
  obtain ⟨g3, g0, gf, g4, g5, gs, -⟩ := h.2.2.1
  have gs2 := gs 2 (by omega)
  have hb := h.hb hp8
  have hM := h.2.2.2.1 p hp hp8
  obtain ⟨m2, m3, m4, m5, m6, m7, m8, m9, ms, f, N, hl⟩ := hM.w
  obtain ⟨l1, l2, l3, l4, l5, l6⟩ := hl
  have hl : LT μ (AD (o + 1) π p) (mw x.1 p) f N := ⟨l1, l2, l3, l4, l5, l6⟩
  have hN : zLts x.1 p = N := by unfold zLts; rw [← mw_at (s := x.1) (p := p) (w := 10) (by omega), l5, nI_clamp (by omega)]
  rw [hN]
  obtain ⟨kb, -, kl, -⟩ := hb
  have hb := h.hb hp8
  have key : ∀ k i u, i + k = N → Rn G 98 6 [some (.ref o), some (.long u0), none, some (.ref (AD (o + 1) π p + 2)), some (.long u), none, some (.int (nI i))] [] μ Q = Q (.inl (some (.long (oL (dLate x.1 p) k i u)))) μ := by
    intro k
    induction k with
    | zero =>
      intro i u hi
      have h2 : N ≤ i := by omega
      rw [q98_6]
      simp (disch := first | assumption | (simp only [MM_Kd, rI_Kd, rJ_Kd, sI_Kd, sJ_Kd, sR_Kd]; assumption) | omega | decide) only [q98_0, q98_1, q98_3, q98_4, q98_8, q98_8N, q98_9, q98_12, q98_15, q98_17, q98_17N, q98_18, q98_20, q98_23, q98_24, q98_27, q98_29, q98_31, q98_31N, q98_32, q98_34, q98_37, q98_38, q98_41, q98_43, q98_45, q98_45N, q98_46, q98_48, q98_51, q98_52, q98_55, q98_57, q98_59, q98_59N, q98_60, q98_62, q98_62N, q98_63, q98_66, q98_69, q98_69N, q98_70, q98_73, q98_76, q98_77, q98_77T, q98_78, q98_81, q98_82, q98_85, q98_87, q98_90, q98_93, q98_95, l4, nI_leI, h2, oL, xaf_s, xaf_v, va_rf_s, xix_n, nI_clamp, xk1_i, xk1_a, xk1_u, xk1_n, xk1_l, xk1_d, true_and, and_true, ↓reduceIte, Nat.reduceAdd, xtup]
    | succ k ih =>
      intro i u hi
      have h2 : ¬ N ≤ i := by omega
      have hc9 := fun Q => c9 (G := G) (Q := Q) (k := i) hb l1 l3 (by omega)
      have hc10 := fun Q => c10' (G := G) (Q := Q) (k := i) hb l1 l3 (by omega)
      have hc11 := fun Q => c11' (G := G) (Q := Q) (k := i) hb l1 l3 (by omega)
      obtain ⟨w1, w2, w3⟩ := l6 i (by omega)
      rw [w1] at hc9; rw [w2] at hc10; rw [w3] at hc11
      have hc12 := fun Q => c12 (G := G) (Q := Q) (k := i) hb hl (by omega) (x.1 0) (x.1 8)
      have ew : mw x.1 p (11 + i) = mLate x.1 p i := mw_at (by omega)
      rw [ew] at hc9 hc10 hc11 hc12
      rw [q98_6]
      simp (disch := first | assumption | (simp only [MM_Kd, rI_Kd, rJ_Kd, sI_Kd, sJ_Kd, sR_Kd]; assumption) | omega | decide) only [q98_0, q98_1, q98_3, q98_4, q98_8, q98_8N, q98_9, q98_12, q98_15, q98_17, q98_17N, q98_18, q98_20, q98_23, q98_24, q98_27, q98_29, q98_31, q98_31N, q98_32, q98_34, q98_37, q98_38, q98_41, q98_43, q98_45, q98_45N, q98_46, q98_48, q98_51, q98_52, q98_55, q98_57, q98_59, q98_59N, q98_60, q98_62, q98_62N, q98_63, q98_66, q98_69, q98_69N, q98_70, q98_73, q98_76, q98_77, q98_77T, q98_78, q98_81, q98_82, q98_85, q98_87, q98_90, q98_93, q98_95, l4, nI_leI, h2, hc9, hc10, hc11, hc12, c99, o0, g0, r0, u1, xl2, nc2, gs2, nI_1, xaf_s, xaf_v, va_rf_s, xix_n, nI_clamp, xk1_i, xk1_a, xk1_u, xk1_n, xk1_l, xk1_d, true_and, and_true, ↓reduceIte, Nat.reduceAdd, xtup]
      exact ih (i + 1) _ (by omega)
  show Rn G 98 0 [some (.ref o), some (.long u0), none, some (.ref (AD (o + 1) π p + 2)), none, none, none] [] μ Q = _
  have key' := key N 0 u0 (by omega)
  rw [show (nI 0 : Int32) = 0 from rfl] at key'
  simp (disch := first | assumption | (simp only [MM_Kd, rI_Kd, rJ_Kd, sI_Kd, sJ_Kd, sR_Kd]; assumption) | omega | decide) only [q98_0, q98_1, q98_3, q98_4, xaf_s, xaf_v, va_rf_s, xix_n, nI_clamp, xk1_i, xk1_a, xk1_u, xk1_n, xk1_l, xk1_d, true_and, and_true, ↓reduceIte, Nat.reduceAdd, xtup]
  exact key'
theorem c97 (h : CST μ o c g n π t S x) (u0 : Int64) : Cn G 97 [.ref o, .long u0] μ Q = Q (.inl (some (.long (oL (dMem x.1) n 0 u0)))) μ := by
  obtain ⟨hC, hs, hH, hg, hI, hSC⟩ := h
  have hC0 := hC
  have hn8 := hI.1.2.2.1
  obtain ⟨ko, ⟨o0, o1, o2, o3, o4⟩, ⟨k1, k1r⟩, -⟩ := hC
  obtain ⟨b0, ⟨b1, u1⟩, ⟨b2, u2⟩, ⟨b3, u3⟩, ⟨b4, u4⟩, ⟨b5, u5⟩, ⟨b6, u6⟩, r0, r1, r2, r3, r4, r5⟩ := hSC.1
  have z12 : (12 : Int32) = nI 12 := rfl
  have h914 : 9 ≤ xKd μ (o + 1 + 5) ∧ xKd μ (o + 1 + 5) ≤ 14 := by rw [b5]; omega
  have k14 : xKd μ (o + 1 + 5) = 13 ∨ xKd μ (o + 1 + 5) = 14 := Or.inl b5
  have n8 : Int32.ofNat 8 = nI 8 := rfl
  have vloop : ∀ p, p < n → ∀ (l1 l5 l6 l7 : Option Value), ∀ k i u, i + k = 12 → Rn G 97 44 [some (.ref o), l1, none, some (.long u), none, l5, l6, l7, some (.ref (AD (o + 1) π p)), some (.int (nI i))] [] μ Q = Rn G 97 74 [some (.ref o), l1, none, some (.long (oL (fun w h => mx h (vMem x.1 p w).toInt64) k i u)), none, l5, l6, l7, some (.ref (AD (o + 1) π p)), some (.int (nI 12))] [] μ Q := by
    intro p hp l1 l5 l6 l7 k
    have hp8 : p < 8 := by omega
    have hb := hSC.hb hp8
    have hM := hSC.2.2.2.1 p hp hp8
    induction k with
    | zero =>
      intro i u hi
      have h2 : 12 ≤ i := by omega
      have e : i = 12 := by omega
      subst e
      rw [q97_44]
      simp (disch := first | assumption | (simp only [MM_Kd, rI_Kd, rJ_Kd, sI_Kd, sJ_Kd, sR_Kd]; assumption) | omega | decide) only [q97_0, q97_1, q97_2, q97_2N, q97_3, q97_6, q97_9, q97_9N, q97_11, q97_11N, q97_13, q97_13T, q97_14, q97_16, q97_17, q97_21, q97_23, q97_26, q97_26N, q97_28, q97_30, q97_31, q97_31N, q97_33, q97_33N, q97_35, q97_38, q97_41, q97_42, q97_46, q97_48, q97_51, q97_52, q97_52N, q97_53, q97_56, q97_56N, q97_58, q97_60, q97_63, q97_64, q97_67, q97_68, q97_71, q97_75, q97_76, q97_76N, q97_78, q97_81, q97_84, q97_85, q97_86, q97_86N, q97_87, q97_90, q97_90N, q97_92, q97_92N, q97_94, q97_97, q97_99, q97_102, q97_103, q97_106, q97_107, q97_108, q97_108N, q97_109, q97_112, q97_112N, q97_114, q97_117, q97_118, q97_121, q97_122, q97_125, q97_128, q97_129, z12, nI_leI, h2, oL, xaf_s, xaf_v, va_rf_s, xix_n, nI_clamp, xk1_i, xk1_a, xk1_u, xk1_n, xk1_l, xk1_d, true_and, and_true, ↓reduceIte, Nat.reduceAdd, xtup]
    | succ k ih =>
      intro i u hi
      have h2 : ¬ 12 ≤ i := by omega
      have hc66 := fun Q => c66 (G := G) (Q := Q) (w := i) hSC.1 hb hSC.2.2.1 hM hI.1 (hI.2.2 p hp) (by omega) (by omega) (by omega)
      rw [q97_44]
      simp (disch := first | assumption | (simp only [MM_Kd, rI_Kd, rJ_Kd, sI_Kd, sJ_Kd, sR_Kd]; assumption) | omega | decide) only [q97_0, q97_1, q97_2, q97_2N, q97_3, q97_6, q97_9, q97_9N, q97_11, q97_11N, q97_13, q97_13T, q97_14, q97_16, q97_17, q97_21, q97_23, q97_26, q97_26N, q97_28, q97_30, q97_31, q97_31N, q97_33, q97_33N, q97_35, q97_38, q97_41, q97_42, q97_46, q97_48, q97_51, q97_52, q97_52N, q97_53, q97_56, q97_56N, q97_58, q97_60, q97_63, q97_64, q97_67, q97_68, q97_71, q97_75, q97_76, q97_76N, q97_78, q97_81, q97_84, q97_85, q97_86, q97_86N, q97_87, q97_90, q97_90N, q97_92, q97_92N, q97_94, q97_97, q97_99, q97_102, q97_103, q97_106, q97_107, q97_108, q97_108N, q97_109, q97_112, q97_112N, q97_114, q97_117, q97_118, q97_121, q97_122, q97_125, q97_128, q97_129, z12, nI_leI, h2, o0, hc66, c99, nI_1, xaf_s, xaf_v, va_rf_s, xix_n, nI_clamp, xk1_i, xk1_a, xk1_u, xk1_n, xk1_l, xk1_d, true_and, and_true, ↓reduceIte, Nat.reduceAdd, xtup]
      exact ih (i + 1) _ (by omega)
  have key : ∀ k i u l8 l9, i + k = 8 → Rn G 97 19 [some (.ref o), some (.long u0), none, some (.long u), none, some (.ref (o + 1 + 5)), some (.int (nI 8)), some (.int (nI i)), l8, l9] [] μ Q = Q (.inl (some (.long (oL (dMem x.1) (n - i) i u)))) μ := by
    intro k
    induction k with
    | zero =>
      intro i u l8 l9 hi
      have h2 : 8 ≤ i := by omega
      have e : n - i = 0 := by omega
      rw [q97_19, e]
      simp (disch := first | assumption | (simp only [MM_Kd, rI_Kd, rJ_Kd, sI_Kd, sJ_Kd, sR_Kd]; assumption) | omega | decide) only [q97_0, q97_1, q97_2, q97_2N, q97_3, q97_6, q97_9, q97_9N, q97_11, q97_11N, q97_13, q97_13T, q97_14, q97_16, q97_17, q97_21, q97_23, q97_26, q97_26N, q97_28, q97_30, q97_31, q97_31N, q97_33, q97_33N, q97_35, q97_38, q97_41, q97_42, q97_46, q97_48, q97_51, q97_52, q97_52N, q97_53, q97_56, q97_56N, q97_58, q97_60, q97_63, q97_64, q97_67, q97_68, q97_71, q97_74, q97_74N, q97_75, q97_76, q97_76N, q97_78, q97_81, q97_84, q97_85, q97_86, q97_86N, q97_87, q97_90, q97_90N, q97_92, q97_92N, q97_94, q97_97, q97_99, q97_102, q97_103, q97_106, q97_107, q97_108, q97_108N, q97_109, q97_112, q97_112N, q97_114, q97_117, q97_118, q97_121, q97_122, q97_125, q97_128, q97_129, nI_leI, h2, oL, xaf_s, xaf_v, va_rf_s, xix_n, nI_clamp, xk1_i, xk1_a, xk1_u, xk1_n, xk1_l, xk1_d, true_and, and_true, ↓reduceIte, Nat.reduceAdd, xtup]
    | succ k ih =>
      intro i u l8 l9 hi
      have h2 : ¬ 8 ≤ i := by omega
      have hi8 : i < 8 := by omega
      obtain ⟨-, -, ra, ka, ra0, ra1, kl⟩ := hSC.row hi8
      by_cases hin : i < n
      · have hb := hSC.hb hi8
        have hM := hSC.2.2.2.1 i hin hi8
        obtain ⟨m2, m3, m4, m5, m6, m7, m8, m9, ms, f, N, hl⟩ := hM.w
        obtain ⟨hc3, hown, hlts, -, -⟩ := (hI.2.2 i hin).at (by omega)
        have hv0 := fun u => vloop i hin (some (.long u0)) (some (.ref (o + 1 + 5))) (some (.int (nI 8))) (some (.int (nI i))) 12 0 u (by omega)
        rw [show (nI 0 : Int32) = 0 from rfl] at hv0
        have hc98 := fun u Q => c98 (G := G) (Q := Q) hC0 hSC hin hi8 u
        have hc50 := fun Q => c50 (G := G) (Q := Q) (c := zOwn x.1 i) (k := 12) hSC.1 hb hSC.2.2.1 hM hI.1 (hI.2.2 i hin) (by omega) hc3 (by omega)
        have hc52 := fun Q => c52 (G := G) (Q := Q) hSC.1 hb hSC.2.2.1 hM hI.1 (hI.2.2 i hin) (by omega) (by omega)
        rw [hown] at m4
        have e : n - i = (n - (i + 1)) + 1 := by omega
        rw [← z12] at hc50
        have ed : dMem x.1 i u = mx (mx (oL (dLate x.1 i) (zLts x.1 i) 0 (oL (fun w h => mx h (vMem x.1 i w).toInt64) 12 0 u)) (vPB x.1 i (nI (zOwn x.1 i)) 12).toInt64) (vBest x.1 i).toInt64 := by unfold dMem; rw [hown]
        rw [q97_19, e, show oL (dMem x.1) (n - (i + 1) + 1) i u = oL (dMem x.1) (n - (i + 1)) (i + 1) (dMem x.1 i u) from rfl, ed]
        simp (disch := first | assumption | (simp only [MM_Kd, rI_Kd, rJ_Kd, sI_Kd, sJ_Kd, sR_Kd]; assumption) | omega | decide) only [q97_0, q97_1, q97_2, q97_2N, q97_3, q97_6, q97_9, q97_9N, q97_11, q97_11N, q97_13, q97_13T, q97_14, q97_16, q97_17, q97_21, q97_23, q97_26, q97_26N, q97_28, q97_30, q97_31, q97_31N, q97_33, q97_33N, q97_35, q97_38, q97_41, q97_42, q97_46, q97_48, q97_51, q97_52, q97_52N, q97_53, q97_56, q97_56N, q97_58, q97_60, q97_63, q97_64, q97_67, q97_68, q97_71, q97_74, q97_74N, q97_75, q97_76, q97_76N, q97_78, q97_81, q97_84, q97_85, q97_86, q97_86N, q97_87, q97_90, q97_90N, q97_92, q97_92N, q97_94, q97_97, q97_99, q97_102, q97_103, q97_106, q97_107, q97_108, q97_108N, q97_109, q97_112, q97_112N, q97_114, q97_117, q97_118, q97_121, q97_122, q97_125, q97_128, q97_129, nI_leI, h2, ra, m2, c10, hv0, ra1, hc98, c99, o0, m4, hc50, hc52, nI_1, xaf_s, xaf_v, va_rf_s, xix_n, nI_clamp, xk1_i, xk1_a, xk1_u, xk1_n, xk1_l, xk1_d, true_and, and_true, ↓reduceIte, Nat.reduceAdd, xtup]
        exact ih (i + 1) _ _ _ (by omega)
      · have h0 := hSC.2.2.2.2 i (by omega) hi8
        have e : n - i = 0 := by omega
        have ih' := fun u l8 l9 => ih (i + 1) u l8 l9 (by omega)
        have e' : n - (i + 1) = 0 := by omega
        rw [e'] at ih'
        rw [q97_19, e]
        simp (disch := first | assumption | (simp only [MM_Kd, rI_Kd, rJ_Kd, sI_Kd, sJ_Kd, sR_Kd]; assumption) | omega | decide) only [q97_0, q97_1, q97_2, q97_2N, q97_3, q97_6, q97_9, q97_9N, q97_11, q97_11N, q97_13, q97_13T, q97_14, q97_16, q97_17, q97_21, q97_23, q97_26, q97_26N, q97_28, q97_30, q97_31, q97_31N, q97_33, q97_33N, q97_35, q97_38, q97_41, q97_42, q97_46, q97_48, q97_51, q97_52, q97_52N, q97_53, q97_56, q97_56N, q97_58, q97_60, q97_63, q97_64, q97_67, q97_68, q97_71, q97_74, q97_74N, q97_75, q97_76, q97_76N, q97_78, q97_81, q97_84, q97_85, q97_86, q97_86N, q97_87, q97_90, q97_90N, q97_92, q97_92N, q97_94, q97_97, q97_99, q97_102, q97_103, q97_106, q97_107, q97_108, q97_108N, q97_109, q97_112, q97_112N, q97_114, q97_117, q97_118, q97_121, q97_122, q97_125, q97_128, q97_129, nI_leI, h2, ra, h0, nI_1, xaf_s, xaf_v, va_rf_s, xix_n, nI_clamp, xk1_i, xk1_a, xk1_u, xk1_n, xk1_l, xk1_d, true_and, and_true, ↓reduceIte, Nat.reduceAdd, xtup]
        rw [ih']
        rfl
  have key' := fun l8 l9 => key 8 0 u0 l8 l9 (by omega)
  rw [show (nI 0 : Int32) = 0 from rfl, Nat.sub_zero] at key'
  show Rn G 97 0 [some (.ref o), some (.long u0), none, none, none, none, none, none, none, none] [] μ Q = _
  simp (disch := first | assumption | (simp only [MM_Kd, rI_Kd, rJ_Kd, sI_Kd, sJ_Kd, sR_Kd]; assumption) | omega | decide) only [q97_0, q97_1, q97_2, q97_2N, q97_3, q97_6, q97_9, q97_9N, q97_11, q97_11N, q97_13, q97_13T, q97_14, q97_16, q97_17, q97_21, q97_23, q97_26, q97_26N, q97_28, q97_30, q97_31, q97_31N, q97_33, q97_33N, q97_35, q97_38, q97_41, q97_42, q97_46, q97_48, q97_51, q97_52, q97_52N, q97_53, q97_56, q97_56N, q97_58, q97_60, q97_63, q97_64, q97_67, q97_68, q97_71, q97_74, q97_74N, q97_75, q97_76, q97_76N, q97_78, q97_81, q97_84, q97_85, q97_86, q97_86N, q97_87, q97_90, q97_90N, q97_92, q97_92N, q97_94, q97_97, q97_99, q97_102, q97_103, q97_106, q97_107, q97_108, q97_108N, q97_109, q97_112, q97_112N, q97_114, q97_117, q97_118, q97_121, q97_122, q97_125, q97_128, q97_129, o0, r4, u5, n8, key', xaf_s, xaf_v, va_rf_s, xix_n, nI_clamp, xk1_i, xk1_a, xk1_u, xk1_n, xk1_l, xk1_d, true_and, and_true, ↓reduceIte, Nat.reduceAdd, xtup]
theorem c96 (h : CST μ o c g n π t S x) (hB : CBF μ o L tx) (hc : c ≤ 600) : ∃ μ', (∀ Q, Cn G 96 [.ref o] μ Q = Q (.inl (some (.long (dAll x n t L tx)))) μ') ∧ CST μ' o c g n π t S x ∧ FS μ μ' (fun q => o ≤ q ∧ q < o + 443) := by
  have h0 := h
  obtain ⟨hC, hs, hH, hg, hI, hSC⟩ := h
  have hC0 := hC
  obtain ⟨ko, ⟨o0, o1, o2, o3, o4⟩, ⟨k1, k1r⟩, -, ⟨k3, k3r⟩, ⟨k4, k4l⟩, k5⟩ := hC
  obtain ⟨b0, ⟨b1, u1⟩, ⟨b2, u2⟩, ⟨b3, u3⟩, ⟨b4, u4⟩, ⟨b5, u5⟩, ⟨b6, u6⟩, r0, r1, r2, r3, r4, r5⟩ := hSC.1
  obtain ⟨g3, g0, gf, g4, g5, gs, gr, gσ⟩ := hSC.2.2.1
  have z8 : (8 : Int32) = nI 8 := rfl
  have z6 : (6 : Int32) = nI 6 := rfl
  have z4 : (4 : Int32) = nI 4 := rfl
  have z3 : (3 : Int32) = nI 3 := rfl
  have z24 : (24 : Int32) = nI 24 := rfl
  obtain ⟨hL, l1, l2⟩ := hB
  -- counts
  have k1l : ∀ k i u l4, i + k = 8 → ∀ Q, Rn G 96 6 [some (.ref o), some (.long u), none, some (.int (nI i)), l4] [] μ Q = Rn G 96 29 [some (.ref o), some (.long (oL (fun w h => mx h (vCnt x.1 t w).toInt64) k i u)), none, some (.int (nI 8)), l4] [] μ Q := by
    intro k
    induction k with
    | zero =>
      intro i u l4 hi Q
      have h2 : 8 ≤ i := by omega
      have e : i = 8 := by omega
      subst e
      rw [q96_6]
      simp (disch := first | assumption | (simp only [MM_Kd, rI_Kd, rJ_Kd, sI_Kd, sJ_Kd, sR_Kd]; assumption) | omega | decide) only [q96_0, q96_3, q96_4, q96_5, q96_7, q96_9, q96_12, q96_13, q96_13N, q96_14, q96_15, q96_18, q96_19, q96_22, q96_23, q96_26, q96_30, q96_32, q96_34, q96_37, q96_38, q96_38N, q96_39, q96_42, q96_45, q96_46, q96_47, q96_50, q96_51, q96_54, q96_58, q96_60, q96_61, q96_64, q96_65, q96_65N, q96_66, q96_69, q96_72, q96_73, q96_73T, q96_74, q96_75, q96_78, q96_79, q96_82, q96_86, q96_88, q96_89, q96_92, q96_93, q96_97, q96_99, q96_102, q96_103, q96_103N, q96_104, q96_105, q96_107, q96_110, q96_111, q96_114, q96_115, q96_118, q96_124, q96_128, q96_129, q96_132, q96_133, q96_133N, q96_134, q96_137, q96_137N, q96_138, q96_141, q96_144, q96_144N, q96_145, q96_148, q96_150, q96_153, q96_154, q96_155, q96_159, q96_160, q96_163, q96_164, q96_164N, q96_165, q96_167, q96_168, q96_171, q96_174, q96_175, q96_178, q96_182, q96_182N, q96_183, q96_186, q96_187, q96_190, q96_191, q96_192, q96_192N, q96_193, q96_196, q96_199, q96_202, q96_203, q96_204, q96_204N, q96_205, q96_208, q96_211, q96_212, q96_215, q96_216, q96_217, q96_221, q96_221N, q96_222, q96_225, q96_228, q96_231, q96_232, q96_232N, q96_233, q96_236, q96_238, q96_241, q96_242, q96_245, q96_246, q96_249, q96_252, q96_253, z8, nI_leI, h2, oL, xaf_s, xaf_v, va_rf_s, xix_n, nI_clamp, xk1_i, xk1_a, xk1_u, xk1_n, xk1_l, xk1_d, true_and, and_true, ↓reduceIte, Nat.reduceAdd, xtup]
    | succ k ih =>
      intro i u l4 hi Q
      have h2 : ¬ 8 ≤ i := by omega
      have hb : ¬ bad (nI i) 0 7 := nbad (k := 7) (by omega) (by omega)
      have hc88 := fun Q => (c88 (G := G) (Q := Q) h0 (nI i)).trans (if_neg hb)
      rw [nI_clamp (by omega)] at hc88
      rw [q96_6]
      simp (disch := first | assumption | (simp only [MM_Kd, rI_Kd, rJ_Kd, sI_Kd, sJ_Kd, sR_Kd]; assumption) | omega | decide) only [q96_0, q96_3, q96_4, q96_5, q96_7, q96_9, q96_12, q96_13, q96_13N, q96_14, q96_15, q96_18, q96_19, q96_22, q96_23, q96_26, q96_30, q96_32, q96_34, q96_37, q96_38, q96_38N, q96_39, q96_42, q96_45, q96_46, q96_47, q96_50, q96_51, q96_54, q96_58, q96_60, q96_61, q96_64, q96_65, q96_65N, q96_66, q96_69, q96_72, q96_73, q96_73T, q96_74, q96_75, q96_78, q96_79, q96_82, q96_86, q96_88, q96_89, q96_92, q96_93, q96_97, q96_99, q96_102, q96_103, q96_103N, q96_104, q96_105, q96_107, q96_110, q96_111, q96_114, q96_115, q96_118, q96_124, q96_128, q96_129, q96_132, q96_133, q96_133N, q96_134, q96_137, q96_137N, q96_138, q96_141, q96_144, q96_144N, q96_145, q96_148, q96_150, q96_153, q96_154, q96_155, q96_159, q96_160, q96_163, q96_164, q96_164N, q96_165, q96_167, q96_168, q96_171, q96_174, q96_175, q96_178, q96_182, q96_182N, q96_183, q96_186, q96_187, q96_190, q96_191, q96_192, q96_192N, q96_193, q96_196, q96_199, q96_202, q96_203, q96_204, q96_204N, q96_205, q96_208, q96_211, q96_212, q96_215, q96_216, q96_217, q96_221, q96_221N, q96_222, q96_225, q96_228, q96_231, q96_232, q96_232N, q96_233, q96_236, q96_238, q96_241, q96_242, q96_245, q96_246, q96_249, q96_252, q96_253, z8, nI_leI, h2, hc88, c99, nI_1, xaf_s, xaf_v, va_rf_s, xix_n, nI_clamp, xk1_i, xk1_a, xk1_u, xk1_n, xk1_l, xk1_d, true_and, and_true, ↓reduceIte, Nat.reduceAdd, xtup]
      exact ih (i + 1) _ _ (by omega) Q
  have k2l : ∀ k i u l4, i + k = 6 → ∀ Q, Rn G 96 31 [some (.ref o), some (.long u), none, some (.int (nI i)), l4] [] μ Q = Rn G 96 57 [some (.ref o), some (.long (oL (fun w h => mx h (x.2 w)) k i u)), none, some (.int (nI 6)), l4] [] μ Q := by
    intro k
    induction k with
    | zero =>
      intro i u l4 hi Q
      have h2 : 6 ≤ i := by omega
      have e : i = 6 := by omega
      subst e
      rw [q96_31]
      simp (disch := first | assumption | (simp only [MM_Kd, rI_Kd, rJ_Kd, sI_Kd, sJ_Kd, sR_Kd]; assumption) | omega | decide) only [q96_0, q96_3, q96_4, q96_5, q96_7, q96_9, q96_12, q96_13, q96_13N, q96_14, q96_15, q96_18, q96_19, q96_22, q96_23, q96_26, q96_30, q96_32, q96_34, q96_37, q96_38, q96_38N, q96_39, q96_42, q96_45, q96_46, q96_47, q96_50, q96_51, q96_54, q96_58, q96_60, q96_61, q96_64, q96_65, q96_65N, q96_66, q96_69, q96_72, q96_73, q96_73T, q96_74, q96_75, q96_78, q96_79, q96_82, q96_86, q96_88, q96_89, q96_92, q96_93, q96_97, q96_99, q96_102, q96_103, q96_103N, q96_104, q96_105, q96_107, q96_110, q96_111, q96_114, q96_115, q96_118, q96_124, q96_128, q96_129, q96_132, q96_133, q96_133N, q96_134, q96_137, q96_137N, q96_138, q96_141, q96_144, q96_144N, q96_145, q96_148, q96_150, q96_153, q96_154, q96_155, q96_159, q96_160, q96_163, q96_164, q96_164N, q96_165, q96_167, q96_168, q96_171, q96_174, q96_175, q96_178, q96_182, q96_182N, q96_183, q96_186, q96_187, q96_190, q96_191, q96_192, q96_192N, q96_193, q96_196, q96_199, q96_202, q96_203, q96_204, q96_204N, q96_205, q96_208, q96_211, q96_212, q96_215, q96_216, q96_217, q96_221, q96_221N, q96_222, q96_225, q96_228, q96_231, q96_232, q96_232N, q96_233, q96_236, q96_238, q96_241, q96_242, q96_245, q96_246, q96_249, q96_252, q96_253, z6, nI_leI, h2, oL, xaf_s, xaf_v, va_rf_s, xix_n, nI_clamp, xk1_i, xk1_a, xk1_u, xk1_n, xk1_l, xk1_d, true_and, and_true, ↓reduceIte, Nat.reduceAdd, xtup]
    | succ k ih =>
      intro i u l4 hi Q
      have h2 : ¬ 6 ≤ i := by omega
      have gi := gσ i (by omega)
      rw [q96_31]
      simp (disch := first | assumption | (simp only [MM_Kd, rI_Kd, rJ_Kd, sI_Kd, sJ_Kd, sR_Kd]; assumption) | omega | decide) only [q96_0, q96_3, q96_4, q96_5, q96_7, q96_9, q96_12, q96_13, q96_13N, q96_14, q96_15, q96_18, q96_19, q96_22, q96_23, q96_26, q96_30, q96_32, q96_34, q96_37, q96_38, q96_38N, q96_39, q96_42, q96_45, q96_46, q96_47, q96_50, q96_51, q96_54, q96_58, q96_60, q96_61, q96_64, q96_65, q96_65N, q96_66, q96_69, q96_72, q96_73, q96_73T, q96_74, q96_75, q96_78, q96_79, q96_82, q96_86, q96_88, q96_89, q96_92, q96_93, q96_97, q96_99, q96_102, q96_103, q96_103N, q96_104, q96_105, q96_107, q96_110, q96_111, q96_114, q96_115, q96_118, q96_124, q96_128, q96_129, q96_132, q96_133, q96_133N, q96_134, q96_137, q96_137N, q96_138, q96_141, q96_144, q96_144N, q96_145, q96_148, q96_150, q96_153, q96_154, q96_155, q96_159, q96_160, q96_163, q96_164, q96_164N, q96_165, q96_167, q96_168, q96_171, q96_174, q96_175, q96_178, q96_182, q96_182N, q96_183, q96_186, q96_187, q96_190, q96_191, q96_192, q96_192N, q96_193, q96_196, q96_199, q96_202, q96_203, q96_204, q96_204N, q96_205, q96_208, q96_211, q96_212, q96_215, q96_216, q96_217, q96_221, q96_221N, q96_222, q96_225, q96_228, q96_231, q96_232, q96_232N, q96_233, q96_236, q96_238, q96_241, q96_242, q96_245, q96_246, q96_249, q96_252, q96_253, z6, nI_leI, h2, o0, r5, u6, gi, c99, nI_1, xaf_s, xaf_v, va_rf_s, xix_n, nI_clamp, xk1_i, xk1_a, xk1_u, xk1_n, xk1_l, xk1_d, true_and, and_true, ↓reduceIte, Nat.reduceAdd, xtup]
      exact ih (i + 1) _ _ (by omega) Q
  have k3l : ∀ k i u l4, i + k = 4 → ∀ Q, Rn G 96 59 [some (.ref o), some (.long u), none, some (.int (nI i)), l4] [] μ Q = Rn G 96 85 [some (.ref o), some (.long (oL (fun w h => mx h (x.1 (6 + w)).toInt64) k i u)), none, some (.int (nI 4)), l4] [] μ Q := by
    intro k
    induction k with
    | zero =>
      intro i u l4 hi Q
      have h2 : 4 ≤ i := by omega
      have e : i = 4 := by omega
      subst e
      rw [q96_59]
      simp (disch := first | assumption | (simp only [MM_Kd, rI_Kd, rJ_Kd, sI_Kd, sJ_Kd, sR_Kd]; assumption) | omega | decide) only [q96_0, q96_3, q96_4, q96_5, q96_7, q96_9, q96_12, q96_13, q96_13N, q96_14, q96_15, q96_18, q96_19, q96_22, q96_23, q96_26, q96_30, q96_32, q96_34, q96_37, q96_38, q96_38N, q96_39, q96_42, q96_45, q96_46, q96_47, q96_50, q96_51, q96_54, q96_58, q96_60, q96_61, q96_64, q96_65, q96_65N, q96_66, q96_69, q96_72, q96_73, q96_73T, q96_74, q96_75, q96_78, q96_79, q96_82, q96_86, q96_88, q96_89, q96_92, q96_93, q96_97, q96_99, q96_102, q96_103, q96_103N, q96_104, q96_105, q96_107, q96_110, q96_111, q96_114, q96_115, q96_118, q96_124, q96_128, q96_129, q96_132, q96_133, q96_133N, q96_134, q96_137, q96_137N, q96_138, q96_141, q96_144, q96_144N, q96_145, q96_148, q96_150, q96_153, q96_154, q96_155, q96_159, q96_160, q96_163, q96_164, q96_164N, q96_165, q96_167, q96_168, q96_171, q96_174, q96_175, q96_178, q96_182, q96_182N, q96_183, q96_186, q96_187, q96_190, q96_191, q96_192, q96_192N, q96_193, q96_196, q96_199, q96_202, q96_203, q96_204, q96_204N, q96_205, q96_208, q96_211, q96_212, q96_215, q96_216, q96_217, q96_221, q96_221N, q96_222, q96_225, q96_228, q96_231, q96_232, q96_232N, q96_233, q96_236, q96_238, q96_241, q96_242, q96_245, q96_246, q96_249, q96_252, q96_253, z4, nI_leI, h2, oL, xaf_s, xaf_v, va_rf_s, xix_n, nI_clamp, xk1_i, xk1_a, xk1_u, xk1_n, xk1_l, xk1_d, true_and, and_true, ↓reduceIte, Nat.reduceAdd, xtup]
    | succ k ih =>
      intro i u l4 hi Q
      have h2 : ¬ 4 ≤ i := by omega
      have gi := gs i (by omega)
      rw [q96_59]
      simp (disch := first | assumption | (simp only [MM_Kd, rI_Kd, rJ_Kd, sI_Kd, sJ_Kd, sR_Kd]; assumption) | omega | decide) only [q96_0, q96_3, q96_4, q96_5, q96_7, q96_9, q96_12, q96_13, q96_13N, q96_14, q96_15, q96_18, q96_19, q96_22, q96_23, q96_26, q96_30, q96_32, q96_34, q96_37, q96_38, q96_38N, q96_39, q96_42, q96_45, q96_46, q96_47, q96_50, q96_51, q96_54, q96_58, q96_60, q96_61, q96_64, q96_65, q96_65N, q96_66, q96_69, q96_72, q96_73, q96_73T, q96_74, q96_75, q96_78, q96_79, q96_82, q96_86, q96_88, q96_89, q96_92, q96_93, q96_97, q96_99, q96_102, q96_103, q96_103N, q96_104, q96_105, q96_107, q96_110, q96_111, q96_114, q96_115, q96_118, q96_124, q96_128, q96_129, q96_132, q96_133, q96_133N, q96_134, q96_137, q96_137N, q96_138, q96_141, q96_144, q96_144N, q96_145, q96_148, q96_150, q96_153, q96_154, q96_155, q96_159, q96_160, q96_163, q96_164, q96_164N, q96_165, q96_167, q96_168, q96_171, q96_174, q96_175, q96_178, q96_182, q96_182N, q96_183, q96_186, q96_187, q96_190, q96_191, q96_192, q96_192N, q96_193, q96_196, q96_199, q96_202, q96_203, q96_204, q96_204N, q96_205, q96_208, q96_211, q96_212, q96_215, q96_216, q96_217, q96_221, q96_221N, q96_222, q96_225, q96_228, q96_231, q96_232, q96_232N, q96_233, q96_236, q96_238, q96_241, q96_242, q96_245, q96_246, q96_249, q96_252, q96_253, z4, nI_leI, h2, o0, r0, u1, gi, c99, nI_1, xaf_s, xaf_v, va_rf_s, xix_n, nI_clamp, xk1_i, xk1_a, xk1_u, xk1_n, xk1_l, xk1_d, true_and, and_true, ↓reduceIte, Nat.reduceAdd, xtup]
      exact ih (i + 1) _ _ (by omega) Q
  have k4i : ∀ C, C < 3 → ∀ k i u, i + k = 6 → ∀ Q, Rn G 96 95 [some (.ref o), some (.long u), none, some (.int (nI C)), some (.int (nI i))] [] μ Q = Rn G 96 121 [some (.ref o), some (.long (oL (fun w h => mx h (vSec x.1 C w).toInt64) k i u)), none, some (.int (nI C)), some (.int (nI 6))] [] μ Q := by
    intro C hC3 k
    have clC : (nI C).toNatClampNeg = C := nI_clamp (by omega)
    induction k with
    | zero =>
      intro i u hi Q
      have h2 : 6 ≤ i := by omega
      have e : i = 6 := by omega
      subst e
      rw [q96_95]
      simp (disch := first | assumption | (simp only [MM_Kd, rI_Kd, rJ_Kd, sI_Kd, sJ_Kd, sR_Kd]; assumption) | omega | decide) only [q96_0, q96_3, q96_4, q96_5, q96_7, q96_9, q96_12, q96_13, q96_13N, q96_14, q96_15, q96_18, q96_19, q96_22, q96_23, q96_26, q96_30, q96_32, q96_34, q96_37, q96_38, q96_38N, q96_39, q96_42, q96_45, q96_46, q96_47, q96_50, q96_51, q96_54, q96_58, q96_60, q96_61, q96_64, q96_65, q96_65N, q96_66, q96_69, q96_72, q96_73, q96_73T, q96_74, q96_75, q96_78, q96_79, q96_82, q96_86, q96_88, q96_89, q96_92, q96_93, q96_97, q96_99, q96_102, q96_103, q96_103N, q96_104, q96_105, q96_107, q96_110, q96_111, q96_114, q96_115, q96_118, q96_124, q96_128, q96_129, q96_132, q96_133, q96_133N, q96_134, q96_137, q96_137N, q96_138, q96_141, q96_144, q96_144N, q96_145, q96_148, q96_150, q96_153, q96_154, q96_155, q96_159, q96_160, q96_163, q96_164, q96_164N, q96_165, q96_167, q96_168, q96_171, q96_174, q96_175, q96_178, q96_182, q96_182N, q96_183, q96_186, q96_187, q96_190, q96_191, q96_192, q96_192N, q96_193, q96_196, q96_199, q96_202, q96_203, q96_204, q96_204N, q96_205, q96_208, q96_211, q96_212, q96_215, q96_216, q96_217, q96_221, q96_221N, q96_222, q96_225, q96_228, q96_231, q96_232, q96_232N, q96_233, q96_236, q96_238, q96_241, q96_242, q96_245, q96_246, q96_249, q96_252, q96_253, z6, nI_leI, h2, oL, xaf_s, xaf_v, va_rf_s, xix_n, nI_clamp, xk1_i, xk1_a, xk1_u, xk1_n, xk1_l, xk1_d, true_and, and_true, ↓reduceIte, Nat.reduceAdd, xtup]
    | succ k ih =>
      intro i u hi Q
      have h2 : ¬ 6 ≤ i := by omega
      have hb : ¬ bad (nI i) 0 5 := nbad (k := 5) (by omega) (by omega)
      have hc85 := fun Q => (c85 (G := G) (Q := Q) h0 (nI C) (nI i)).trans ((if_neg (sec_ok hC3)).trans (if_neg hb))
      rw [clC, nI_clamp (by omega)] at hc85
      rw [q96_95]
      simp (disch := first | assumption | (simp only [MM_Kd, rI_Kd, rJ_Kd, sI_Kd, sJ_Kd, sR_Kd]; assumption) | omega | decide) only [q96_0, q96_3, q96_4, q96_5, q96_7, q96_9, q96_12, q96_13, q96_13N, q96_14, q96_15, q96_18, q96_19, q96_22, q96_23, q96_26, q96_30, q96_32, q96_34, q96_37, q96_38, q96_38N, q96_39, q96_42, q96_45, q96_46, q96_47, q96_50, q96_51, q96_54, q96_58, q96_60, q96_61, q96_64, q96_65, q96_65N, q96_66, q96_69, q96_72, q96_73, q96_73T, q96_74, q96_75, q96_78, q96_79, q96_82, q96_86, q96_88, q96_89, q96_92, q96_93, q96_97, q96_99, q96_102, q96_103, q96_103N, q96_104, q96_105, q96_107, q96_110, q96_111, q96_114, q96_115, q96_118, q96_124, q96_128, q96_129, q96_132, q96_133, q96_133N, q96_134, q96_137, q96_137N, q96_138, q96_141, q96_144, q96_144N, q96_145, q96_148, q96_150, q96_153, q96_154, q96_155, q96_159, q96_160, q96_163, q96_164, q96_164N, q96_165, q96_167, q96_168, q96_171, q96_174, q96_175, q96_178, q96_182, q96_182N, q96_183, q96_186, q96_187, q96_190, q96_191, q96_192, q96_192N, q96_193, q96_196, q96_199, q96_202, q96_203, q96_204, q96_204N, q96_205, q96_208, q96_211, q96_212, q96_215, q96_216, q96_217, q96_221, q96_221N, q96_222, q96_225, q96_228, q96_231, q96_232, q96_232N, q96_233, q96_236, q96_238, q96_241, q96_242, q96_245, q96_246, q96_249, q96_252, q96_253, z6, nI_leI, h2, hc85, c99, nI_1, xaf_s, xaf_v, va_rf_s, xix_n, nI_clamp, xk1_i, xk1_a, xk1_u, xk1_n, xk1_l, xk1_d, true_and, and_true, ↓reduceIte, Nat.reduceAdd, xtup]
      exact ih (i + 1) _ (by omega) Q
  have k4l : ∀ k i u l4, i + k = 3 → ∀ Q, ∃ l4', Rn G 96 87 [some (.ref o), some (.long u), none, some (.int (nI i)), l4] [] μ Q = Rn G 96 127 [some (.ref o), some (.long (oL (fun C h => oL (fun w h => mx h (vSec x.1 C w).toInt64) 6 0 h) k i u)), none, some (.int (nI 3)), l4'] [] μ Q := by
    intro k
    induction k with
    | zero =>
      intro i u l4 hi Q
      have h2 : 3 ≤ i := by omega
      have e : i = 3 := by omega
      subst e
      refine ⟨l4, ?_⟩
      rw [q96_87]
      simp (disch := first | assumption | (simp only [MM_Kd, rI_Kd, rJ_Kd, sI_Kd, sJ_Kd, sR_Kd]; assumption) | omega | decide) only [q96_0, q96_3, q96_4, q96_5, q96_7, q96_9, q96_12, q96_13, q96_13N, q96_14, q96_15, q96_18, q96_19, q96_22, q96_23, q96_26, q96_30, q96_32, q96_34, q96_37, q96_38, q96_38N, q96_39, q96_42, q96_45, q96_46, q96_47, q96_50, q96_51, q96_54, q96_58, q96_60, q96_61, q96_64, q96_65, q96_65N, q96_66, q96_69, q96_72, q96_73, q96_73T, q96_74, q96_75, q96_78, q96_79, q96_82, q96_86, q96_88, q96_89, q96_92, q96_93, q96_97, q96_99, q96_102, q96_103, q96_103N, q96_104, q96_105, q96_107, q96_110, q96_111, q96_114, q96_115, q96_118, q96_124, q96_128, q96_129, q96_132, q96_133, q96_133N, q96_134, q96_137, q96_137N, q96_138, q96_141, q96_144, q96_144N, q96_145, q96_148, q96_150, q96_153, q96_154, q96_155, q96_159, q96_160, q96_163, q96_164, q96_164N, q96_165, q96_167, q96_168, q96_171, q96_174, q96_175, q96_178, q96_182, q96_182N, q96_183, q96_186, q96_187, q96_190, q96_191, q96_192, q96_192N, q96_193, q96_196, q96_199, q96_202, q96_203, q96_204, q96_204N, q96_205, q96_208, q96_211, q96_212, q96_215, q96_216, q96_217, q96_221, q96_221N, q96_222, q96_225, q96_228, q96_231, q96_232, q96_232N, q96_233, q96_236, q96_238, q96_241, q96_242, q96_245, q96_246, q96_249, q96_252, q96_253, z3, nI_leI, h2, oL, xaf_s, xaf_v, va_rf_s, xix_n, nI_clamp, xk1_i, xk1_a, xk1_u, xk1_n, xk1_l, xk1_d, true_and, and_true, ↓reduceIte, Nat.reduceAdd, xtup]
    | succ k ih =>
      intro i u l4 hi Q
      have h2 : ¬ 3 ≤ i := by omega
      have hk := fun u => k4i i (by omega) 6 0 u (by omega) Q
      rw [show (nI 0 : Int32) = 0 from rfl] at hk
      obtain ⟨l4', hh⟩ := ih (i + 1) (oL (fun w h => mx h (vSec x.1 i w).toInt64) 6 0 u) (some (.int (nI 6))) (by omega) Q
      refine ⟨l4', ?_⟩
      rw [q96_87]
      simp (disch := first | assumption | (simp only [MM_Kd, rI_Kd, rJ_Kd, sI_Kd, sJ_Kd, sR_Kd]; assumption) | omega | decide) only [q96_0, q96_3, q96_4, q96_5, q96_7, q96_9, q96_12, q96_13, q96_13N, q96_14, q96_15, q96_18, q96_19, q96_22, q96_23, q96_26, q96_30, q96_32, q96_34, q96_37, q96_38, q96_38N, q96_39, q96_42, q96_45, q96_46, q96_47, q96_50, q96_51, q96_54, q96_58, q96_60, q96_61, q96_64, q96_65, q96_65N, q96_66, q96_69, q96_72, q96_73, q96_73T, q96_74, q96_75, q96_78, q96_79, q96_82, q96_86, q96_88, q96_89, q96_92, q96_93, q96_97, q96_99, q96_102, q96_103, q96_103N, q96_104, q96_105, q96_107, q96_110, q96_111, q96_114, q96_115, q96_118, q96_121, q96_124, q96_128, q96_129, q96_132, q96_133, q96_133N, q96_134, q96_137, q96_137N, q96_138, q96_141, q96_144, q96_144N, q96_145, q96_148, q96_150, q96_153, q96_154, q96_155, q96_159, q96_160, q96_163, q96_164, q96_164N, q96_165, q96_167, q96_168, q96_171, q96_174, q96_175, q96_178, q96_182, q96_182N, q96_183, q96_186, q96_187, q96_190, q96_191, q96_192, q96_192N, q96_193, q96_196, q96_199, q96_202, q96_203, q96_204, q96_204N, q96_205, q96_208, q96_211, q96_212, q96_215, q96_216, q96_217, q96_221, q96_221N, q96_222, q96_225, q96_228, q96_231, q96_232, q96_232N, q96_233, q96_236, q96_238, q96_241, q96_242, q96_245, q96_246, q96_249, q96_252, q96_253, z3, nI_leI, h2, hk, nI_1, xaf_s, xaf_v, va_rf_s, xix_n, nI_clamp, xk1_i, xk1_a, xk1_u, xk1_n, xk1_l, xk1_d, true_and, and_true, ↓reduceIte, Nat.reduceAdd, xtup]
      exact hh
  have hc97 := fun u Q => c97 (G := G) (Q := Q) h0 u
  -- what would be
  obtain ⟨π2, hh⟩ := hs.1
  obtain ⟨μ1, e1, e2, e3⟩ := c34 (G := G) hh.1 hh.2 hSC hI (by omega)
  obtain ⟨μ2, d1, d2, d3⟩ := c53 (G := G) (N := 24) e2 hI (by omega) (by omega)
  have hF2 : FS μ μ2 (BK (o + 56)) := e3.fs.tr d3.fs
  have hC1 := h0.trial e3.fs ⟨e2.1, e2.2.1⟩
  have hC2 := h0.trial hF2 ⟨d2.1, d2.2.1⟩
  obtain ⟨μ3, v1, v2, v3⟩ := c94 (G := G) hC2
  have hF3 : FS μ μ3 (fun q => o ≤ q ∧ q < o + 443) := (hF2.mono fun q hq => by unfold BK at hq; omega).tr v3
  have k5l : ∀ k i u, i + k = 4 → ∀ Q, Rn G 96 157 [some (.ref o), some (.long u), none, some (.int (zPass n 24 (x, 0)).2), some (.int (nI i))] [] μ2 Q = Rn G 96 181 [some (.ref o), some (.long (oL (fun w h => mx h (vIf n 24 w x)) k i u)), none, some (.int (zPass n 24 (x, 0)).2), some (.int (nI 4))] [] μ2 Q := by
    have ko2 := hC2.1.1
    intro k
    induction k with
    | zero =>
      intro i u hi Q
      have h2 : 4 ≤ i := by omega
      have e : i = 4 := by omega
      subst e
      rw [q96_157]
      simp (disch := first | assumption | (simp only [MM_Kd, rI_Kd, rJ_Kd, sI_Kd, sJ_Kd, sR_Kd]; assumption) | omega | decide) only [q96_0, q96_3, q96_4, q96_5, q96_7, q96_9, q96_12, q96_13, q96_13N, q96_14, q96_15, q96_18, q96_19, q96_22, q96_23, q96_26, q96_30, q96_32, q96_34, q96_37, q96_38, q96_38N, q96_39, q96_42, q96_45, q96_46, q96_47, q96_50, q96_51, q96_54, q96_58, q96_60, q96_61, q96_64, q96_65, q96_65N, q96_66, q96_69, q96_72, q96_73, q96_73T, q96_74, q96_75, q96_78, q96_79, q96_82, q96_86, q96_88, q96_89, q96_92, q96_93, q96_97, q96_99, q96_102, q96_103, q96_103N, q96_104, q96_105, q96_107, q96_110, q96_111, q96_114, q96_115, q96_118, q96_124, q96_128, q96_129, q96_132, q96_133, q96_133N, q96_134, q96_137, q96_137N, q96_138, q96_141, q96_144, q96_144N, q96_145, q96_148, q96_150, q96_153, q96_154, q96_155, q96_159, q96_160, q96_163, q96_164, q96_164N, q96_165, q96_167, q96_168, q96_171, q96_174, q96_175, q96_178, q96_182, q96_182N, q96_183, q96_186, q96_187, q96_190, q96_191, q96_192, q96_192N, q96_193, q96_196, q96_199, q96_202, q96_203, q96_204, q96_204N, q96_205, q96_208, q96_211, q96_212, q96_215, q96_216, q96_217, q96_221, q96_221N, q96_222, q96_225, q96_228, q96_231, q96_232, q96_232N, q96_233, q96_236, q96_238, q96_241, q96_242, q96_245, q96_246, q96_249, q96_252, q96_253, z4, nI_leI, h2, oL, xaf_s, xaf_v, va_rf_s, xix_n, nI_clamp, xk1_i, xk1_a, xk1_u, xk1_n, xk1_l, xk1_d, true_and, and_true, ↓reduceIte, Nat.reduceAdd, xtup]
    | succ k ih =>
      intro i u hi Q
      have h2 : ¬ 4 ≤ i := by omega
      have hc101 := fun Q => c101 (G := G) (Q := Q) hC2 d2 (r := (zPass n 24 (x, 0)).2) (w := i) (by omega)
      rw [q96_157]
      simp (disch := first | assumption | (simp only [MM_Kd, rI_Kd, rJ_Kd, sI_Kd, sJ_Kd, sR_Kd]; assumption) | omega | decide) only [q96_0, q96_3, q96_4, q96_5, q96_7, q96_9, q96_12, q96_13, q96_13N, q96_14, q96_15, q96_18, q96_19, q96_22, q96_23, q96_26, q96_30, q96_32, q96_34, q96_37, q96_38, q96_38N, q96_39, q96_42, q96_45, q96_46, q96_47, q96_50, q96_51, q96_54, q96_58, q96_60, q96_61, q96_64, q96_65, q96_65N, q96_66, q96_69, q96_72, q96_73, q96_73T, q96_74, q96_75, q96_78, q96_79, q96_82, q96_86, q96_88, q96_89, q96_92, q96_93, q96_97, q96_99, q96_102, q96_103, q96_103N, q96_104, q96_105, q96_107, q96_110, q96_111, q96_114, q96_115, q96_118, q96_124, q96_128, q96_129, q96_132, q96_133, q96_133N, q96_134, q96_137, q96_137N, q96_138, q96_141, q96_144, q96_144N, q96_145, q96_148, q96_150, q96_153, q96_154, q96_155, q96_159, q96_160, q96_163, q96_164, q96_164N, q96_165, q96_167, q96_168, q96_171, q96_174, q96_175, q96_178, q96_182, q96_182N, q96_183, q96_186, q96_187, q96_190, q96_191, q96_192, q96_192N, q96_193, q96_196, q96_199, q96_202, q96_203, q96_204, q96_204N, q96_205, q96_208, q96_211, q96_212, q96_215, q96_216, q96_217, q96_221, q96_221N, q96_222, q96_225, q96_228, q96_231, q96_232, q96_232N, q96_233, q96_236, q96_238, q96_241, q96_242, q96_245, q96_246, q96_249, q96_252, q96_253, z4, nI_leI, h2, hc101, c99, nI_1, xaf_s, xaf_v, va_rf_s, xix_n, nI_clamp, xk1_i, xk1_a, xk1_u, xk1_n, xk1_l, xk1_d, true_and, and_true, ↓reduceIte, Nat.reduceAdd, xtup]
      exact ih (i + 1) _ (by omega) Q
  have hB3 : CBF μ3 o L tx := CBF.of ⟨hL, l1, l2⟩ (hF3.2.2 (o + 443) (by omega)).1 (hF3.2.2 (o + 444) (by omega)).1
  obtain ⟨ko3, ⟨o03, o13, o23, o33, o43⟩, ⟨k13, k1r3⟩, -, ⟨k33, k3r3⟩, ⟨k43, k4l3⟩, k53⟩ := v2.1
  have l13 := hB3.2.1
  have k6l : ∀ k i u l3, i + k = L → ∀ Q, Rn G 96 219 [some (.ref o), some (.long u), none, l3, some (.int (nI i))] [] μ3 Q = Q (.inl (some (.long (oL (fun k h => mx h (tx k).toInt64) k i u)))) μ3 := by
    intro k
    induction k with
    | zero =>
      intro i u l3 hi Q
      have h2 : L ≤ i := by omega
      rw [q96_219]
      simp (disch := first | assumption | (simp only [MM_Kd, rI_Kd, rJ_Kd, sI_Kd, sJ_Kd, sR_Kd]; assumption) | omega | decide) only [q96_0, q96_3, q96_4, q96_5, q96_7, q96_9, q96_12, q96_13, q96_13N, q96_14, q96_15, q96_18, q96_19, q96_22, q96_23, q96_26, q96_30, q96_32, q96_34, q96_37, q96_38, q96_38N, q96_39, q96_42, q96_45, q96_46, q96_47, q96_50, q96_51, q96_54, q96_58, q96_60, q96_61, q96_64, q96_65, q96_65N, q96_66, q96_69, q96_72, q96_73, q96_73T, q96_74, q96_75, q96_78, q96_79, q96_82, q96_86, q96_88, q96_89, q96_92, q96_93, q96_97, q96_99, q96_102, q96_103, q96_103N, q96_104, q96_105, q96_107, q96_110, q96_111, q96_114, q96_115, q96_118, q96_124, q96_128, q96_129, q96_132, q96_133, q96_133N, q96_134, q96_137, q96_137N, q96_138, q96_141, q96_144, q96_144N, q96_145, q96_148, q96_150, q96_153, q96_154, q96_155, q96_159, q96_160, q96_163, q96_164, q96_164N, q96_165, q96_167, q96_168, q96_171, q96_174, q96_175, q96_178, q96_182, q96_182N, q96_183, q96_186, q96_187, q96_190, q96_191, q96_192, q96_192N, q96_193, q96_196, q96_199, q96_202, q96_203, q96_204, q96_204N, q96_205, q96_208, q96_211, q96_212, q96_215, q96_216, q96_217, q96_221, q96_221N, q96_222, q96_225, q96_228, q96_231, q96_232, q96_232N, q96_233, q96_236, q96_238, q96_241, q96_242, q96_245, q96_246, q96_249, q96_252, q96_253, o33, l13, nI_leI, h2, oL, xaf_s, xaf_v, va_rf_s, xix_n, nI_clamp, xk1_i, xk1_a, xk1_u, xk1_n, xk1_l, xk1_d, true_and, and_true, ↓reduceIte, Nat.reduceAdd, xtup]
    | succ k ih =>
      intro i u l3 hi Q
      have h2 : ¬ L ≤ i := by omega
      have hc3 := fun Q => c3 (G := G) (Q := Q) (k := i) v2.1 hB3 (by omega)
      rw [q96_219]
      simp (disch := first | assumption | (simp only [MM_Kd, rI_Kd, rJ_Kd, sI_Kd, sJ_Kd, sR_Kd]; assumption) | omega | decide) only [q96_0, q96_3, q96_4, q96_5, q96_7, q96_9, q96_12, q96_13, q96_13N, q96_14, q96_15, q96_18, q96_19, q96_22, q96_23, q96_26, q96_30, q96_32, q96_34, q96_37, q96_38, q96_38N, q96_39, q96_42, q96_45, q96_46, q96_47, q96_50, q96_51, q96_54, q96_58, q96_60, q96_61, q96_64, q96_65, q96_65N, q96_66, q96_69, q96_72, q96_73, q96_73T, q96_74, q96_75, q96_78, q96_79, q96_82, q96_86, q96_88, q96_89, q96_92, q96_93, q96_97, q96_99, q96_102, q96_103, q96_103N, q96_104, q96_105, q96_107, q96_110, q96_111, q96_114, q96_115, q96_118, q96_124, q96_128, q96_129, q96_132, q96_133, q96_133N, q96_134, q96_137, q96_137N, q96_138, q96_141, q96_144, q96_144N, q96_145, q96_148, q96_150, q96_153, q96_154, q96_155, q96_159, q96_160, q96_163, q96_164, q96_164N, q96_165, q96_167, q96_168, q96_171, q96_174, q96_175, q96_178, q96_182, q96_182N, q96_183, q96_186, q96_187, q96_190, q96_191, q96_192, q96_192N, q96_193, q96_196, q96_199, q96_202, q96_203, q96_204, q96_204N, q96_205, q96_208, q96_211, q96_212, q96_215, q96_216, q96_217, q96_221, q96_221N, q96_222, q96_225, q96_228, q96_231, q96_232, q96_232N, q96_233, q96_236, q96_238, q96_241, q96_242, q96_245, q96_246, q96_249, q96_252, q96_253, o33, l13, nI_leI, h2, hc3, c99, nI_1, xaf_s, xaf_v, va_rf_s, xix_n, nI_clamp, xk1_i, xk1_a, xk1_u, xk1_n, xk1_l, xk1_d, true_and, and_true, ↓reduceIte, Nat.reduceAdd, xtup]
      exact ih (i + 1) _ _ (by omega) Q
  have hc95 := fun Q => c95 (G := G) (Q := Q) v2 hc
  have hdv := (inT_ok hI.2.1 (by omega)).1
  have hc100 := fun μ Q => c100 (G := G) (μ := μ) (Q := Q) hdv
  refine ⟨μ3, fun Q => ?_, v2, hF3⟩
  have f1 := fun u l4 => k1l 8 0 u l4 (by omega) Q
  have f2 := fun u l4 => k2l 6 0 u l4 (by omega) Q
  have f3 := fun u l4 => k3l 4 0 u l4 (by omega) Q
  have f5 := fun u => k5l 4 0 u (by omega) Q
  have f6 := fun u l3 => k6l L 0 u l3 (by omega) Q
  rw [show (nI 0 : Int32) = 0 from rfl] at f1 f2 f3 f5 f6
  obtain ⟨l4', f4⟩ := k4l 3 0 (oL (fun k h => mx h (x.1 (6 + k)).toInt64) 4 0 (oL (fun w h => mx h (x.2 w)) 6 0 (oL (fun w h => mx h (vCnt x.1 t w).toInt64) 8 0 2897))) none (by omega) Q
  rw [show (nI 0 : Int32) = 0 from rfl] at f4
  have kn1 := hC1.2.2.2.2.2.1.1
  have ko1 := hC1.1.1
  have ko2 := hC2.1.1
  have kt := e2.1.1
  have kt0 := hh.1.1
  obtain ⟨-, ⟨o01, o11, -⟩, -⟩ := hC1.1
  have hin : Rn G 96 0 [some (.ref o), none, none, none, none] [] μ Q = Rn G 96 87 [some (.ref o), some (.long (oL (fun k h => mx h (x.1 (6 + k)).toInt64) 4 0 (oL (fun w h => mx h (x.2 w)) 6 0 (oL (fun w h => mx h (vCnt x.1 t w).toInt64) 8 0 2897)))), none, some (.int 0), none] [] μ Q := by
    simp (disch := first | assumption | (simp only [MM_Kd, rI_Kd, rJ_Kd, sI_Kd, sJ_Kd, sR_Kd]; assumption) | omega | decide) only [q96_0, q96_3, q96_4, q96_5, q96_29, q96_30, q96_57, q96_58, q96_85, q96_86, f1, f2, f3, xaf_s, xaf_v, va_rf_s, xix_n, nI_clamp, xk1_i, xk1_a, xk1_u, xk1_n, xk1_l, xk1_d, true_and, and_true, ↓reduceIte, Nat.reduceAdd, xtup]
  show Rn G 96 0 [some (.ref o), none, none, none, none] [] μ Q = _
  rw [hin, f4]
  simp (disch := first | assumption | (simp only [MM_Kd, rI_Kd, rJ_Kd, sI_Kd, sJ_Kd, sR_Kd]; assumption) | omega | decide) only [q96_0, q96_3, q96_4, q96_5, q96_7, q96_9, q96_12, q96_13, q96_13N, q96_14, q96_15, q96_18, q96_19, q96_22, q96_23, q96_26, q96_29, q96_30, q96_32, q96_34, q96_37, q96_38, q96_38N, q96_39, q96_42, q96_45, q96_46, q96_47, q96_50, q96_51, q96_54, q96_57, q96_58, q96_60, q96_61, q96_64, q96_65, q96_65N, q96_66, q96_69, q96_72, q96_73, q96_73T, q96_74, q96_75, q96_78, q96_79, q96_82, q96_85, q96_86, q96_88, q96_89, q96_92, q96_93, q96_97, q96_99, q96_102, q96_103, q96_103N, q96_104, q96_105, q96_107, q96_110, q96_111, q96_114, q96_115, q96_118, q96_121, q96_124, q96_127, q96_127N, q96_128, q96_129, q96_132, q96_133, q96_133N, q96_134, q96_137, q96_137N, q96_138, q96_141, q96_144, q96_144N, q96_145, q96_148, q96_150, q96_153, q96_154, q96_155, q96_159, q96_160, q96_163, q96_164, q96_164N, q96_165, q96_167, q96_168, q96_171, q96_174, q96_175, q96_178, q96_181, q96_182, q96_182N, q96_183, q96_186, q96_187, q96_190, q96_191, q96_192, q96_192N, q96_193, q96_196, q96_199, q96_202, q96_203, q96_204, q96_204N, q96_205, q96_208, q96_211, q96_212, q96_215, q96_216, q96_217, q96_221, q96_221N, q96_222, q96_225, q96_228, q96_231, q96_232, q96_232N, q96_233, q96_236, q96_238, q96_241, q96_242, q96_245, q96_246, q96_249, q96_252, q96_253, hc97, o0, o1, e1, o11, z24, d1, f5, v1, c99, hc95, hc100, o33, l13, f6, xaf_s, xaf_v, va_rf_s, xix_n, nI_clamp, xk1_i, xk1_a, xk1_u, xk1_n, xk1_l, xk1_d, true_and, and_true, ↓reduceIte, Nat.reduceAdd, xtup]
  rfl
end DGC
