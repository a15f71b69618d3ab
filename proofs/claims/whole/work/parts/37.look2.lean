/-! THE REFERENCE: COUNTS, WHAT WOULD BE -/
theorem d120 : (120 : Int32) = nI 120 := rfl
/-- nothing beyond the row is touched -/
def Hi (x y : ST) : Prop := (∀ j, 619 ≤ j → y.1 j = x.1 j) ∧ ∀ j, 6 ≤ j → y.2 j = x.2 j
theorem Hi.rf {x : ST} : Hi x x := ⟨fun _ _ => rfl, fun _ _ => rfl⟩
theorem Hi.tr {x y z : ST} (h : Hi x y) (h' : Hi y z) : Hi x z := ⟨fun j hj => (h'.1 j hj).trans (h.1 j hj), fun j hj => (h'.2 j hj).trans (h.2 j hj)⟩
theorem Hi.of {p : Nat} {x y : ST} (hp : p < 8) (h : only p x.1 y.1) (h2 : ∀ j, 6 ≤ j → y.2 j = x.2 j) : Hi x y := ⟨fun j hj => h j (by omega) (by omega) (by omega), h2⟩
theorem itr_hi {f : Nat → ST → ST} {x : ST} {n : Nat} (h : ∀ i, i < n → Hi (itr f i x) (f i (itr f i x))) : ∀ i, i ≤ n → Hi x (itr f i x) := by
  intro i
  induction i with
  | zero => intro _; exact Hi.rf
  | succ i ih => intro hi; exact (ih (by omega)).tr (h i (by omega))
section HI
variable {x : ST} {g n c : Nat}
theorem zCon_2 {p j : Nat} (h : 6 ≤ j) : (zCon p x).2 j = x.2 j := by
  unfold zCon
  split
  · unfold zCon1
    split
    · rfl
    · exact up_n (by omega)
  · rfl
theorem zOut_hi {p : Nat} : Hi x (zOut p x) := by
  unfold zOut zOut1
  split
  · split
    · exact ⟨fun j hj => up_n (by omega), fun j hj => up_n (by omega)⟩
    · exact ⟨fun j hj => rfl, fun j hj => up_n (by omega)⟩
  · exact Hi.rf
theorem zMon_hi (h : INV c g n x) (hg : g < 10300) : Hi x (zMon n x).1 := by
  have hn8 := h.1.2.2.1
  have q1 : Hi x (itr zCon n x) := by
    refine itr_hi (n := n) (fun i hi => ?_) n (by omega)
    obtain ⟨a, b, cc⟩ := itr_con (S := 10060 + g) ⟨h.1, h.2.1, h.2.2⟩ (by omega) (by omega) i (by omega)
    have m1 := cc i (by omega)
    dsimp only at m1
    rw [if_neg (by omega)] at m1
    obtain ⟨-, -, -, r4⟩ := zCon_ok a b m1 (by omega) (by omega) (by omega)
    exact Hi.of (by omega) r4 fun j hj => zCon_2 hj
  have q2 : Hi (itr zCon n x) (itr zLap n (itr zCon n x)) := by
    refine itr_hi (n := n) (fun i hi => ?_) n (by omega)
    obtain ⟨a, b, cc⟩ := itr_lap (itr_con' h hg) (by omega) i (by omega)
    have m1 := cc i (by omega)
    dsimp only at m1
    rw [if_neg (by omega)] at m1
    obtain ⟨-, -, l1, l2, -⟩ := m1.at (by omega)
    obtain ⟨-, -, r3⟩ := zLap1_ok (by omega) (by omega) (zLts (itr zLap i (itr zCon n x)).1 i) _ (by omega) a m1 l2
    exact Hi.of (p := i) (by omega) r3 fun j hj => rfl
  have q3 : Hi (itr zLap n (itr zCon n x)) (itr zOut n (itr zLap n (itr zCon n x))) := itr_hi (fun i hi => zOut_hi) n (by omega)
  have q4 : ∀ i, i ≤ n → Hi (itr zOut n (itr zLap n (itr zCon n x))) (itr zAge i (itr zOut n (itr zLap n (itr zCon n x)), 0)).1 := by
    intro i
    induction i with
    | zero => intro _; exact Hi.rf
    | succ i ih =>
      intro hi
      obtain ⟨a, b, cc⟩ := itr_age (y := (itr zOut n (itr zLap n (itr zCon n x)), 0)) (itr_out' h hg) (by omega) i (by omega)
      obtain ⟨-, r2, -, r4, -⟩ := zAge_ok a (cc i (by omega)) (by omega)
      exact (ih (by omega)).tr (Hi.of (p := i) (by omega) r4 fun j hj => congrFun r2 j)
  have q := (q1.tr (q2.tr q3)).tr (q4 n (by omega))
  unfold zMon zMon1
  exact ⟨fun j hj => (up_n (by omega)).trans (q.1 j hj), q.2⟩
theorem zPass_hi : ∀ k g y, INV c g n y.1 → g + k < 10300 → Hi y.1 (zPass n k y).1 := by
  intro k
  induction k with
  | zero => intro g y h _; exact Hi.rf
  | succ k ih =>
    intro g y h hg
    exact (zMon_hi h (by omega)).tr (ih (g + 1) _ (zMon_ok h (by omega)) (by omega))
end HI
def vIf (n k w : Nat) (x : ST) : Int64 :=
  if w = 0 then ((zPass n k (x, 0)).1.1 1).toInt64 else if w = 1 then (zPass n k (x, 0)).2.toInt64
  else if w = 2 then ((zPass n k (x, 0)).1.1 4 - x.1 4).toInt64 else (zPass n k (x, 0)).1.2 4 - x.2 4
/-- the month in which the sum of what is missing grows -/
def vLast (n : Nat) (b : Int64) : Nat → Nat → ST → Int32
  | 0, _, _ => -1
  | k + 1, i, x => if b < (zMon n x).1.2 4 then nI i else vLast n b k (i + 1) (zMon n x).1
section LK2
variable {G : xCtx} {μ : xMem} {Q : xOut → xMem → Prop} {m t g n F p c : Nat} {x : ST}
theorem s168_loop (hm : MS μ m) {w : Nat} (hw : w < 8) (hn : x.1 2 = nI n) (hn8 : n ≤ 8) : ∀ k i a, i + k = n → Rn G 168 4 [some (.ref m), some (.int (nI w)), some (.int a), some (.int (nI i))] [] (MM μ m x.1 x.2) Q = Rn G 168 62 [some (.ref m), some (.int (nI w)), some (.int (if w = 2 then itr (fun j b => b + x.1 (19 + 75 * (i + j) + 7)) k a else if w = 4 then itr (fun j b => b + x.1 (19 + 75 * (i + j) + 10)) k a else a)), some (.int (nI n))] [] (MM μ m x.1 x.2) Q := by
  have hm0 := hm
  obtain ⟨k0, ⟨k1, n1⟩, -, -, ⟨k4, n4⟩, -, -, -, r1, -, -, r4, -⟩ := hm
  have w2 : (nI w = (2 : Int32)) = (w = 2) := nI_eqk w 2 (by omega) (by omega)
  have w4 : (nI w = (4 : Int32)) = (w = 4) := nI_eqk w 4 (by omega) (by omega)
  have sh : ∀ (f : Nat → Int32) k i a, itr (fun j b => b + f (i + 1 + j)) k (a + f i) = itr (fun j b => b + f (i + j)) (k + 1) a := by
    intro f k
    induction k with
    | zero => intro i a; rfl
    | succ k ih =>
      intro i a
      show itr (fun j b => b + f (i + 1 + j)) k (a + f i) + f (i + 1 + k) = itr (fun j b => b + f (i + j)) (k + 1) a + f (i + (k + 1))
      rw [ih, show i + 1 + k = i + (k + 1) by omega]
  intro k
  induction k with
  | zero =>
    intro i a hi
    have h2 : n ≤ i := by omega
    rw [q168_4]
    simp (disch := first | assumption | (simp only [MM_Kd, rI_Kd, rJ_Kd, sI_Kd, sJ_Kd, sR_Kd, SV_Kd]; assumption) | omega | decide) only [q168_0, q168_1, q168_2, q168_3, q168_5, q168_5N, q168_6, q168_9, q168_10, q168_10T, q168_11, q168_14, q168_15, q168_16, q168_17, q168_20, q168_20N, q168_21, q168_24, q168_25, q168_27, q168_30, q168_30T, q168_31, q168_34, q168_35, q168_36, q168_39, q168_39N, q168_40, q168_43, q168_44, q168_46, q168_49, q168_49T, q168_50, q168_53, q168_54, q168_55, q168_56, q168_59, q168_104, q168_104N, q168_105, q168_108, q168_109, q168_109T, q168_110, q168_111, q168_111N, q168_112, q168_115, q168_116, q168_116T, q168_117, q168_118, q168_119, q168_120, q168_120N, q168_121, q168_124, q168_125, q168_125T, q168_126, q168_127, q168_127N, q168_128, q168_131, q168_132, q168_132T, q168_133, q168_134, q168_134N, q168_135, q168_138, q168_139, q168_139T, q168_140, q168_141, q168_141N, q168_142, q168_145, hn, xl2, nc2, nI_leI, h2, itr, ite_self, MM_Kd, MM_Ln, MM_R, MM_I, MM_J, MM_sI, MM_sJ, r1, n1, r4, n4, xaf_s, xaf_v, va_rf_s, xix_n, nI_clamp, xk1_i, xk1_a, xk1_u, xk1_n, xk1_l, xk1_d, true_and, and_true, ↓reduceIte, Nat.reduceAdd, xtup]
    rw [show i = n by omega]
  | succ k ih =>
    intro i a hi
    have h2 : ¬ n ≤ i := by omega
    by_cases e2 : w = 2
    · subst e2
      rw [q168_4]
      simp (disch := first | assumption | (simp only [MM_Kd, rI_Kd, rJ_Kd, sI_Kd, sJ_Kd, sR_Kd, SV_Kd]; assumption) | omega | decide) only [q168_0, q168_1, q168_2, q168_3, q168_5, q168_5N, q168_6, q168_9, q168_10, q168_10T, q168_11, q168_14, q168_15, q168_16, q168_17, q168_20, q168_20N, q168_21, q168_24, q168_25, q168_27, q168_30, q168_30T, q168_31, q168_34, q168_35, q168_36, q168_39, q168_39N, q168_40, q168_43, q168_44, q168_46, q168_49, q168_49T, q168_50, q168_53, q168_54, q168_55, q168_56, q168_59, q168_104, q168_104N, q168_105, q168_108, q168_109, q168_109T, q168_110, q168_111, q168_111N, q168_112, q168_115, q168_116, q168_116T, q168_117, q168_118, q168_119, q168_120, q168_120N, q168_121, q168_124, q168_125, q168_125T, q168_126, q168_127, q168_127N, q168_128, q168_131, q168_132, q168_132T, q168_133, q168_134, q168_134N, q168_135, q168_138, q168_139, q168_139T, q168_140, q168_141, q168_141N, q168_142, q168_145, hn, xl2, nc2, nI_leI, h2, w2, s112_7, nI_1, not_true_eq_false, MM_Kd, MM_Ln, MM_R, MM_I, MM_J, MM_sI, MM_sJ, r1, n1, r4, n4, xaf_s, xaf_v, va_rf_s, xix_n, nI_clamp, xk1_i, xk1_a, xk1_u, xk1_n, xk1_l, xk1_d, true_and, and_true, ↓reduceIte, Nat.reduceAdd, xtup]
      rw [ih (i + 1) _ (by omega)]
      simp only [↓reduceIte]
      rw [sh (fun q => x.1 (19 + 75 * q + 7))]
    · by_cases e4 : w = 4
      · subst e4
        have e2' : ¬ (4 : Nat) = 2 := by omega
        rw [q168_4]
        simp (disch := first | assumption | (simp only [MM_Kd, rI_Kd, rJ_Kd, sI_Kd, sJ_Kd, sR_Kd, SV_Kd]; assumption) | omega | decide) only [q168_0, q168_1, q168_2, q168_3, q168_5, q168_5N, q168_6, q168_9, q168_10, q168_10T, q168_11, q168_14, q168_15, q168_16, q168_17, q168_20, q168_20N, q168_21, q168_24, q168_25, q168_27, q168_30, q168_30T, q168_31, q168_34, q168_35, q168_36, q168_39, q168_39N, q168_40, q168_43, q168_44, q168_46, q168_49, q168_49T, q168_50, q168_53, q168_54, q168_55, q168_56, q168_59, q168_104, q168_104N, q168_105, q168_108, q168_109, q168_109T, q168_110, q168_111, q168_111N, q168_112, q168_115, q168_116, q168_116T, q168_117, q168_118, q168_119, q168_120, q168_120N, q168_121, q168_124, q168_125, q168_125T, q168_126, q168_127, q168_127N, q168_128, q168_131, q168_132, q168_132T, q168_133, q168_134, q168_134N, q168_135, q168_138, q168_139, q168_139T, q168_140, q168_141, q168_141N, q168_142, q168_145, hn, xl2, nc2, nI_leI, h2, w2, w4, e2', s112_10, nI_1, not_true_eq_false, not_false_eq_true, MM_Kd, MM_Ln, MM_R, MM_I, MM_J, MM_sI, MM_sJ, r1, n1, r4, n4, xaf_s, xaf_v, va_rf_s, xix_n, nI_clamp, xk1_i, xk1_a, xk1_u, xk1_n, xk1_l, xk1_d, true_and, and_true, ↓reduceIte, Nat.reduceAdd, xtup]
        rw [ih (i + 1) _ (by omega)]
        simp only [↓reduceIte, e2']
        rw [sh (fun q => x.1 (19 + 75 * q + 10))]
      · rw [q168_4]
        simp (disch := first | assumption | (simp only [MM_Kd, rI_Kd, rJ_Kd, sI_Kd, sJ_Kd, sR_Kd, SV_Kd]; assumption) | omega | decide) only [q168_0, q168_1, q168_2, q168_3, q168_5, q168_5N, q168_6, q168_9, q168_10, q168_10T, q168_11, q168_14, q168_15, q168_16, q168_17, q168_20, q168_20N, q168_21, q168_24, q168_25, q168_27, q168_30, q168_30T, q168_31, q168_34, q168_35, q168_36, q168_39, q168_39N, q168_40, q168_43, q168_44, q168_46, q168_49, q168_49T, q168_50, q168_53, q168_54, q168_55, q168_56, q168_59, q168_104, q168_104N, q168_105, q168_108, q168_109, q168_109T, q168_110, q168_111, q168_111N, q168_112, q168_115, q168_116, q168_116T, q168_117, q168_118, q168_119, q168_120, q168_120N, q168_121, q168_124, q168_125, q168_125T, q168_126, q168_127, q168_127N, q168_128, q168_131, q168_132, q168_132T, q168_133, q168_134, q168_134N, q168_135, q168_138, q168_139, q168_139T, q168_140, q168_141, q168_141N, q168_142, q168_145, hn, xl2, nc2, nI_leI, h2, w2, w4, e2, e4, nI_1, nI_a0, not_false_eq_true, MM_Kd, MM_Ln, MM_R, MM_I, MM_J, MM_sI, MM_sJ, r1, n1, r4, n4, xaf_s, xaf_v, va_rf_s, xix_n, nI_clamp, xk1_i, xk1_a, xk1_u, xk1_n, xk1_l, xk1_d, true_and, and_true, ↓reduceIte, Nat.reduceAdd, xtup]
        rw [ih (i + 1) _ (by omega)]
        simp only [e2, e4, ↓reduceIte]
theorem s168 (hm : MS μ m) {w : Nat} (hw : w < 8) (hn : x.1 2 = nI n) (hn8 : n ≤ 8) (h7 : xI μ m 7 = nI t) : Cn G 168 [.ref m, .int (nI w)] (MM μ m x.1 x.2) Q = Q (.inl (some (.int (vCnt x.1 t w)))) (MM μ m x.1 x.2) := by
  have hm0 := hm
  obtain ⟨k0, ⟨k1, n1⟩, -, -, ⟨k4, n4⟩, -, -, -, r1, -, -, r4, -⟩ := hm
  have e := s168_loop (G := G) (Q := Q) hm0 hw hn hn8 n 0 0 (by omega)
  simp only [Nat.zero_add] at e
  show Rn G 168 0 [some (.ref m), some (.int (nI w)), none, none] [] (MM μ m x.1 x.2) Q = _
  simp only [q168_0, q168_1, q168_2, q168_3, xk1_i]
  refine e.trans ?_
  have hc : (x.1 2).toNatClampNeg = n := by rw [hn, nI_clamp (by omega)]
  have : w = 0 ∨ w = 1 ∨ w = 2 ∨ w = 3 ∨ w = 4 ∨ w = 5 ∨ w = 6 ∨ w = 7 := by omega
  unfold vCnt
  rw [hc]
  have e0 : (nI 0 : Int32) = 0 := rfl
  have e1 : (nI 1 : Int32) = 1 := rfl
  have e2 : (nI 2 : Int32) = 2 := rfl
  have e3 : (nI 3 : Int32) = 3 := rfl
  have e4 : (nI 4 : Int32) = 4 := rfl
  have e5 : (nI 5 : Int32) = 5 := rfl
  have e6 : (nI 6 : Int32) = 6 := rfl
  have e7 : (nI 7 : Int32) = 7 := rfl
  rcases this with rfl | rfl | rfl | rfl | rfl | rfl | rfl | rfl
  all_goals simp (disch := first | assumption | (simp only [MM_Kd, rI_Kd, rJ_Kd, sI_Kd, sJ_Kd, sR_Kd, SV_Kd]; assumption) | omega | decide) only [q168_0, q168_1, q168_2, q168_3, q168_5, q168_5N, q168_6, q168_9, q168_10, q168_10T, q168_11, q168_14, q168_15, q168_16, q168_17, q168_20, q168_20N, q168_21, q168_24, q168_25, q168_27, q168_30, q168_30T, q168_31, q168_34, q168_35, q168_36, q168_39, q168_39N, q168_40, q168_43, q168_44, q168_46, q168_49, q168_49T, q168_50, q168_53, q168_54, q168_55, q168_56, q168_59, q168_62, q168_104, q168_104N, q168_105, q168_108, q168_109, q168_109T, q168_110, q168_111, q168_111N, q168_112, q168_115, q168_116, q168_116T, q168_117, q168_118, q168_119, q168_120, q168_120N, q168_121, q168_124, q168_125, q168_125T, q168_126, q168_127, q168_127N, q168_128, q168_131, q168_132, q168_132T, q168_133, q168_134, q168_134N, q168_135, q168_138, q168_139, q168_139T, q168_140, q168_141, q168_141N, q168_142, q168_145, e0, e1, e2, e3, e4, e5, e6, e7, q168_63c0, q168_63c1, q168_63c2, q168_63c3, q168_63c4, q168_63c5, q168_63c6, q168_63d, xl0, nc0, xl1, nc1, xl2, nc2, xl4, nc4, xl5, nc5, h7, MM_Io, Nat.reduceEqDiff, MM_Kd, MM_Ln, MM_R, MM_I, MM_J, MM_sI, MM_sJ, r1, n1, r4, n4, xaf_s, xaf_v, va_rf_s, xix_n, nI_clamp, xk1_i, xk1_a, xk1_u, xk1_n, xk1_l, xk1_d, true_and, and_true, ↓reduceIte, Nat.reduceAdd, xtup]
end LK2
