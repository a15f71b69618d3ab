/-! THE CLASS: TEXTS -/
/-- the reader's row after p characters -/
def rS (tx r0 : Nat → Int32) : Nat → (Nat → Int32)
  | 0 => up r0 0 0
  | p + 1 => (rT (tx p) (rS tx r0 p)).2
def rK (tx r0 : Nat → Int32) (p : Nat) : Prop := ∀ i, i < p → (rT (tx i) (rS tx r0 i)).1 = 1
theorem rT_q {code : Int32} {r : Nat → Int32} {q : Nat} (hq : q ≤ 8) (h0 : r 0 = nI q) : ∃ q', q' ≤ 8 ∧ (rT code r).2 0 = nI q' := by
  have n4 : ∀ (f : Nat → Int32) (k : Nat) v, k ≠ 0 → up f k v 0 = f 0 := fun f k v hk => up_n (fun z => hk z.symm)
  unfold rT
  repeat' split
  all_goals try dsimp only
  all_goals first
    | exact ⟨q, hq, h0⟩
    | exact ⟨0, by omega, up_e (f := _) (k := 0) (v := nI 0)⟩
    | exact ⟨1, by omega, up_e (f := _) (k := 0) (v := nI 1)⟩
    | exact ⟨2, by omega, up_e (f := _) (k := 0) (v := nI 2)⟩
    | exact ⟨3, by omega, up_e (f := _) (k := 0) (v := nI 3)⟩
    | exact ⟨4, by omega, up_e (f := _) (k := 0) (v := nI 4)⟩
    | exact ⟨5, by omega, up_e (f := _) (k := 0) (v := nI 5)⟩
    | exact ⟨6, by omega, up_e (f := _) (k := 0) (v := nI 6)⟩
    | exact ⟨7, by omega, up_e (f := _) (k := 0) (v := nI 7)⟩
    | exact ⟨8, by omega, up_e (f := _) (k := 0) (v := nI 8)⟩
    | (refine ⟨q, hq, ?_⟩; rw [n4 _ 1 _ (by omega)]; exact h0)
    | (refine ⟨q, hq, ?_⟩; rw [n4 _ 2 _ (by omega)]; exact h0)
    | (refine ⟨q, hq, ?_⟩; rw [n4 _ 3 _ (by omega)]; exact h0)
    | (refine ⟨q, hq, ?_⟩; rw [n4 _ 4 _ (by omega)]; exact h0)
    | (refine ⟨q, hq, ?_⟩; rw [n4 _ 4 _ (by omega), n4 _ 1 _ (by omega)]; exact h0)
theorem rT_01 {code : Int32} {r : Nat → Int32} : (rT code r).1 = 0 ∨ (rT code r).1 = 1 := by
  unfold rT
  repeat' split
  all_goals first | exact Or.inl rfl | exact Or.inr rfl
theorem rS_q {tx r0 : Nat → Int32} : ∀ p, ∃ q, q ≤ 8 ∧ rS tx r0 p 0 = nI q := by
  intro p
  induction p with
  | zero => exact ⟨0, by omega, up_e⟩
  | succ p ih =>
    obtain ⟨q, hq, h0⟩ := ih
    exact rT_q hq h0
section RD2
variable {G : xCtx} {μ : xMem} {Q : xOut → xMem → Prop} {o n k c p g t b L : Nat} {π : Nat → Nat} {S : Nat → ST} {x : ST} {tx r : Nat → Int32}
theorem CSH.rd (h : CSH μ o) : CSH (xrI μ (o + 445) r) o := h
theorem CBF.rd (h : CBF μ o L tx) : CBF (xrI μ (o + 445) r) o L tx := by
  obtain ⟨a1, a2, a3⟩ := h
  exact ⟨a1, by rw [rI_n (by omega)]; exact a2, fun k hk => by rw [rI_n (by omega)]; exact a3 k hk⟩
theorem c82 (hC : CSH μ o) (hB : CBF μ o L tx) : ∃ a r', a ≤ L ∧ (∀ Q, Cn G 82 [.ref o] μ Q = Q (.inl (some (.int (nI a)))) (xrI μ (o + 445) r')) ∧ rK tx (xI μ (o + 445)) a ∧ ((a = L ∧ r' = rS tx (xI μ (o + 445)) L) ∨ (a < L ∧ (rT (tx a) (rS tx (xI μ (o + 445)) a)).1 = 0)) := by
  have hC0 := hC
  obtain ⟨ko, ⟨o0, o1, o2, o3, o4⟩, ⟨k1, k1r⟩, -, ⟨k3, k3r⟩, ⟨k4, k4l⟩, k5⟩ := hC
  obtain ⟨hL, l1, l2⟩ := hB
  generalize hr0 : xI μ (o + 445) = r0
  have key : ∀ k i, i + k = L → rK tx r0 i → ∃ a r', a ≤ L ∧ (∀ Q, Rn G 82 9 [some (.ref o), some (.int (nI i))] [] (xrI μ (o + 445) (rS tx r0 i)) Q = Q (.inl (some (.int (nI a)))) (xrI μ (o + 445) r')) ∧ rK tx r0 a ∧ ((a = L ∧ r' = rS tx r0 L) ∨ (a < L ∧ (rT (tx a) (rS tx r0 a)).1 = 0)) := by
    intro k
    induction k with
    | zero =>
      intro i hi hK
      have h2 : L ≤ i := by omega
      have e : i = L := by omega
      subst e
      refine ⟨i, rS tx r0 i, Nat.le_refl i, fun Q => ?_, hK, Or.inl ⟨rfl, rfl⟩⟩
      have j1 : xI (xrI μ (o + 445) (rS tx r0 i)) (o + 443) 1 = nI i := by rw [rI_n (by omega)]; exact l1
      rw [q82_9]
      simp (disch := first | assumption | (simp only [MM_Kd, rI_Kd, rJ_Kd, sI_Kd, sJ_Kd, sR_Kd]; assumption) | omega | decide) only [q82_0, q82_0N, q82_1, q82_4, q82_7, q82_8, q82_10, q82_10N, q82_11, q82_14, q82_17, q82_20, q82_20N, q82_21, q82_24, q82_24N, q82_25, q82_28, q82_29, q82_32, q82_35, q82_38, q82_39, q82_40, q82_43, q82_46, q82_46N, q82_47, q82_50, q82_53, o3, j1, nI_leI, h2, rI_Kd, rI_Ln, rI_R, rI_J, rJ_Kd, rJ_Ln, rJ_R, rJ_I, sI_Kd, sI_Ln, sI_R, sI_J, sJ_Kd, sJ_Ln, sJ_R, sJ_I, sR_Kd, sR_Ln, sR_I, sR_J, xaf_s, xaf_v, va_rf_s, xix_n, nI_clamp, xk1_i, xk1_a, xk1_u, xk1_n, xk1_l, xk1_d, true_and, and_true, ↓reduceIte, Nat.reduceAdd, xtup]
    | succ k ih =>
      intro i hi hK
      have h2 : ¬ L ≤ i := by omega
      have j1 : xI (xrI μ (o + 445) (rS tx r0 i)) (o + 443) 1 = nI L := by rw [rI_n (by omega)]; exact l1
      obtain ⟨q, hq, hq0⟩ := rS_q (tx := tx) (r0 := r0) i
      have hc29 := fun Q => c29 (G := G) (μ := μ) (Q := Q) k5 (tx i) hq hq0
      have hc3 := fun Q => c3 (G := G) (Q := Q) (k := i) (hC0.rd (r := rS tx r0 i)) (CBF.rd (r := rS tx r0 i) ⟨hL, l1, l2⟩) (by omega)
      rcases rT_01 (code := tx i) (r := rS tx r0 i) with h0 | h0
      · refine ⟨i, rS tx r0 (i + 1), by omega, fun Q => ?_, hK, Or.inr ⟨by omega, h0⟩⟩
        rw [q82_9]
        simp (disch := first | assumption | (simp only [MM_Kd, rI_Kd, rJ_Kd, sI_Kd, sJ_Kd, sR_Kd]; assumption) | omega | decide) only [q82_0, q82_0N, q82_1, q82_4, q82_7, q82_8, q82_10, q82_10N, q82_11, q82_14, q82_17, q82_20, q82_20N, q82_21, q82_24, q82_24N, q82_25, q82_28, q82_29, q82_32, q82_35, q82_38, q82_39, q82_40, q82_43, q82_46, q82_46N, q82_47, q82_50, q82_53, o3, o4, j1, nI_leI, h2, hc3, hc29, h0, c00, not_true_eq_false, rI_Kd, rI_Ln, rI_R, rI_J, rJ_Kd, rJ_Ln, rJ_R, rJ_I, sI_Kd, sI_Ln, sI_R, sI_J, sJ_Kd, sJ_Ln, sJ_R, sJ_I, sR_Kd, sR_Ln, sR_I, sR_J, xaf_s, xaf_v, va_rf_s, xix_n, nI_clamp, xk1_i, xk1_a, xk1_u, xk1_n, xk1_l, xk1_d, true_and, and_true, ↓reduceIte, Nat.reduceAdd, xtup]
        rfl
      · have hK' : rK tx r0 (i + 1) := fun j hj => by
          by_cases hji : j = i
          · subst hji; exact h0
          · exact hK j (by omega)
        obtain ⟨a, r', w1, w2, w3, w4⟩ := ih (i + 1) (by omega) hK'
        refine ⟨a, r', w1, fun Q => ?_, w3, w4⟩
        rw [q82_9]
        simp (disch := first | assumption | (simp only [MM_Kd, rI_Kd, rJ_Kd, sI_Kd, sJ_Kd, sR_Kd]; assumption) | omega | decide) only [q82_0, q82_0N, q82_1, q82_4, q82_7, q82_8, q82_10, q82_10N, q82_11, q82_14, q82_17, q82_20, q82_20N, q82_21, q82_24, q82_24N, q82_25, q82_28, q82_29, q82_32, q82_35, q82_38, q82_39, q82_40, q82_43, q82_46, q82_46N, q82_47, q82_50, q82_53, o3, o4, j1, nI_leI, h2, hc3, hc29, h0, c10, not_false_eq_true, nI_1, rI_Kd, rI_Ln, rI_R, rI_J, rJ_Kd, rJ_Ln, rJ_R, rJ_I, sI_Kd, sI_Ln, sI_R, sI_J, sJ_Kd, sJ_Ln, sJ_R, sJ_I, sR_Kd, sR_Ln, sR_I, sR_J, xaf_s, xaf_v, va_rf_s, xix_n, nI_clamp, xk1_i, xk1_a, xk1_u, xk1_n, xk1_l, xk1_d, true_and, and_true, ↓reduceIte, Nat.reduceAdd, xtup]
        exact w2 Q
  obtain ⟨a, r', w1, w2, w3, w4⟩ := key L 0 (by omega) (fun i hi => by omega)
  refine ⟨a, r', w1, fun Q => ?_, w3, w4⟩
  have w2' := w2 Q
  rw [show (nI 0 : Int32) = 0 from rfl] at w2'
  have hc27 := fun Q => c27 (G := G) (Q := Q) (μ := μ) (r := r0) k5
  rw [← hr0, rI_self, hr0] at hc27
  show Rn G 82 0 [some (.ref o), none] [] μ Q = _
  simp (disch := first | assumption | (simp only [MM_Kd, rI_Kd, rJ_Kd, sI_Kd, sJ_Kd, sR_Kd]; assumption) | omega | decide) only [q82_0, q82_0N, q82_1, q82_4, q82_7, q82_8, q82_10, q82_10N, q82_11, q82_14, q82_17, q82_20, q82_20N, q82_21, q82_24, q82_24N, q82_25, q82_28, q82_29, q82_32, q82_35, q82_38, q82_39, q82_40, q82_43, q82_46, q82_46N, q82_47, q82_50, q82_53, o4, hc27, rI_Kd, rI_Ln, rI_R, rI_J, rJ_Kd, rJ_Ln, rJ_R, rJ_I, sI_Kd, sI_Ln, sI_R, sI_J, sJ_Kd, sJ_Ln, sJ_R, sJ_I, sR_Kd, sR_Ln, sR_I, sR_J, xaf_s, xaf_v, va_rf_s, xix_n, nI_clamp, xk1_i, xk1_a, xk1_u, xk1_n, xk1_l, xk1_d, true_and, and_true, ↓reduceIte, Nat.reduceAdd, xtup]
  exact w2'
/-- a part is taken: whether nothing is refused, and the state -/
def pTake (C q ye am n : Nat) (y : ST) : Prop × ST :=
  (pCan y.1 C ∧ (am = 0 ∨ pCanT (zJoin (nI C) (nI q) (nI (12 * ye)) y.1 n) n (nI am)),
   if am = 0 then (zJoin (nI C) (nI q) (nI (12 * ye)) y.1 n, y.2) else zTran n (nI am) (zJoin (nI C) (nI q) (nI (12 * ye)) y.1 n, y.2))
theorem INV.sums {c' : Nat} {y y' : ST} (h : INV c' g n y') (h0 : SI y.2 (32760 * g) (10000000 * c)) (e0 : y'.2 0 = y.2 0) (e1 : y'.2 1 = y.2 1) : INV c g n y' := ⟨h.1, ⟨by rw [e0]; exact h0.1, by rw [e1]; exact h0.2⟩, h.2.2⟩
theorem zTran_s {p j : Nat} {m : Int32} {y : ST} (h : j ≠ 2) : (zTran p m y).2 j = y.2 j := by
  unfold zTran; dsimp only; rw [up_n h]
theorem pTake_INV (hI : INV c g n x) (hg : g ≤ 9999) (hn : n < 8) {C q ye am : Nat} (hC : C < 3) (hq : 1 ≤ q ∧ q ≤ 9999) (hy : ye ≤ 79) (ha : am ≤ 99999) (hp : (pTake C q ye am n x).1) : INV c g (n + 1) (pTake C q ye am n x).2 := by
  have j1 := (zJoin_INV hI hn hC hq (show 12 * ye ≤ 960 by omega)).sums (y := x) hI.2.1 rfl rfl
  unfold pTake at hp ⊢
  dsimp only at hp ⊢
  by_cases h0 : am = 0
  · rw [if_pos h0]; exact j1
  · rw [if_neg h0]
    exact (zTran_INV j1 hg (Nat.lt_succ_self n) (by omega) (hp.2.resolve_left h0)).sums hI.2.1 (zTran_s (by omega)) (zTran_s (by omega))
theorem c103 (hC : CSH μ o) (h : SC μ (o + 56) π n x) (hI : INV c g n x) (hg : g ≤ 9999) {C q ye am : Nat} (hc3 : C < 3) (hq : 1 ≤ q ∧ q ≤ 9999) (hy : ye ≤ 79) (ha : am ≤ 99999) (r2 : xI μ (o + 445) 2 = nI C) (r1 : xI μ (o + 445) 1 = nI q) (r3 : xI μ (o + 445) 3 = nI ye) (r4 : xI μ (o + 445) 4 = nI am) : ∃ μ', FS μ μ' (BK (o + 56)) ∧ SH μ' (o + 56) ∧ RWS μ' (o + 56) π ∧ ((pTake C q ye am n x).1 → n < 8 ∧ (∀ Q, Cn G 103 [.ref o] μ Q = Q (.inl (some (.int 1))) μ') ∧ SC μ' (o + 56) π (n + 1) (pTake C q ye am n x).2) ∧ (¬ (pTake C q ye am n x).1 → ∀ Q, Cn G 103 [.ref o] μ Q = Q (.inl (some (.int 0))) μ') := by
  have hC0 := hC
  obtain ⟨ko, ⟨o0, o1, o2, o3, o4⟩, ⟨k1, k1r⟩, -, ⟨k3, k3r⟩, ⟨k4, k4l⟩, k5⟩ := hC
  have hn8 := hI.1.2.2.1
  have b0 := h.1.1
  have hc37 := fun Q => c37 (G := G) (Q := Q) h hn8
  have hc38 := fun Q => c38 (G := G) (Q := Q) h hI.1 hc3
  have h28 : (x.1 2 < 8) = (n < 8) := by rw [hI.1.2.1]; exact propext (nI_ltI (b := 8) (by omega) (by omega))
  by_cases hn : n < 8
  · by_cases hcl : x.1 (12 + 3 * C) = 1
    · refine ⟨μ, FS.rf, h.1, h.2.1, fun z => absurd hcl z.1.1, fun _ Q => ?_⟩
      show Rn G 103 0 [some (.ref o), none] [] μ Q = _
      simp (disch := first | assumption | (simp only [MM_Kd, rI_Kd, rJ_Kd, sI_Kd, sJ_Kd, sR_Kd]; assumption) | omega | decide) only [q103_0, q103_0N, q103_1, q103_4, q103_7, q103_7N, q103_8, q103_8N, q103_9, q103_9N, q103_12, q103_12N, q103_13, q103_16, q103_16N, q103_17, q103_20, q103_23, q103_26, q103_29, q103_30, q103_31, q103_31N, q103_32, q103_35, q103_35N, q103_36, q103_36N, q103_37, q103_40, q103_43, q103_43N, q103_44, q103_47, q103_50, q103_52, q103_52N, q103_53, q103_56, q103_59, q103_60, q103_63, q103_63N, q103_64, q103_67, q103_70, q103_73, q103_74, q103_75, q103_75N, q103_76, q103_79, q103_79N, q103_80, q103_80N, q103_81, q103_84, q103_87, q103_90, q103_93, q103_94, q103_95, q103_95N, q103_96, q103_99, q103_99N, q103_100, q103_100N, q103_101, q103_104, q103_107, q103_110, q103_111, q103_112, o1, hc37, hn, o4, r2, hc38, hcl, c10, xaf_s, xaf_v, va_rf_s, xix_n, nI_clamp, xk1_i, xk1_a, xk1_u, xk1_n, xk1_l, xk1_d, true_and, and_true, ↓reduceIte, Nat.reduceAdd, xtup]
    · have hcan : pCan x.1 C := ⟨hcl, by rw [h28]; exact hn⟩
      obtain ⟨μ1, d1, d2, d3⟩ := c40 (G := G) h hn (nI C) (nI q) (nI (12 * ye))
      have jI := (zJoin_INV hI hn hc3 hq (show 12 * ye ≤ 960 by omega)).sums (y := x) hI.2.1 rfl rfl
      have hC1 : CSH μ1 o := hC0.fs d3.fs fun q hq => by rw [d3.2.2.1]
      obtain ⟨ko1, ⟨-, o11, -, -, o41⟩, -⟩ := hC1
      have rr : ∀ k, xI μ1 (o + 445) k = xI μ (o + 445) k := fun k => by rw [(d3.2.2.2 (o + 445) (by unfold BK; omega)).1]
      have k5' : xKd μ1 (o + 445) = 5 := by unfold xKd; rw [d3.1]; exact k5
      have i4 : xI μ1 (o + 445) 4 = nI am := by rw [rr]; exact r4
      have b0' := d2.1.1
      have e12 : (12 : Int32) * nI ye = nI (12 * ye) := pk_mul 12 ye
      by_cases h0 : am = 0
      · have h0' : nI am = (0 : Int32) := by rw [h0]; rfl
        have hp : (pTake C q ye am n x).1 := ⟨hcan, Or.inl h0⟩
        have he : (pTake C q ye am n x).2 = (zJoin (nI C) (nI q) (nI (12 * ye)) x.1 n, x.2) := by unfold pTake; exact if_pos h0
        refine ⟨μ1, d3.fs, d2.1, d2.2.1, fun _ => ⟨hn, fun Q => ?_, by rw [he]; exact d2⟩, fun z => absurd hp z⟩
        show Rn G 103 0 [some (.ref o), none] [] μ Q = _
        simp (disch := first | exact Or.inr rfl | first | assumption | (simp only [MM_Kd, rI_Kd, rJ_Kd, sI_Kd, sJ_Kd, sR_Kd]; assumption) | omega | decide) only [q103_0, q103_0N, q103_1, q103_4, q103_7, q103_7N, q103_8, q103_8N, q103_9, q103_9N, q103_12, q103_12N, q103_13, q103_16, q103_16N, q103_17, q103_20, q103_23, q103_26, q103_29, q103_30, q103_31, q103_31N, q103_32, q103_35, q103_35N, q103_36, q103_36N, q103_37, q103_40, q103_43, q103_43N, q103_44, q103_47, q103_50, q103_52, q103_52N, q103_53, q103_56, q103_59, q103_60, q103_63, q103_63N, q103_64, q103_67, q103_70, q103_73, q103_74, q103_75, q103_75N, q103_76, q103_79, q103_79N, q103_80, q103_80N, q103_81, q103_84, q103_87, q103_90, q103_93, q103_94, q103_95, q103_95N, q103_96, q103_99, q103_99N, q103_100, q103_100N, q103_101, q103_104, q103_107, q103_110, q103_111, q103_112, o1, hc37, hn, o4, r1, r2, r3, hc38, hcl, c00, e12, d1, o41, i4, h0', not_true_eq_false, xaf_s, xaf_v, va_rf_s, xix_n, nI_clamp, xk1_i, xk1_a, xk1_u, xk1_n, xk1_l, xk1_d, true_and, and_true, ↓reduceIte, Nat.reduceAdd, xtup]
      · have h0' : ¬ nI am = (0 : Int32) := by rw [show (0 : Int32) = nI 0 from rfl, nI_eq (by omega) (by omega)]; exact h0
        have hc46 := fun Q => c46 (G := G) (Q := Q) (m := am) d2 jI.1 (by omega) (jI.2.2 n (by omega)) (by omega) (Nat.lt_succ_self n) hn (by omega)
        by_cases hct : pCanT (zJoin (nI C) (nI q) (nI (12 * ye)) x.1 n) n (nI am)
        · have hp : (pTake C q ye am n x).1 := ⟨hcan, Or.inr hct⟩
          have he : (pTake C q ye am n x).2 = zTran n (nI am) (zJoin (nI C) (nI q) (nI (12 * ye)) x.1 n, x.2) := by unfold pTake; exact if_neg h0
          have hc46' := fun Q => (hc46 Q).trans (by rw [if_pos hct])
          obtain ⟨μ2, v1, v2, v3⟩ := c47 (G := G) (m := am) d2 jI.1 (by omega) (jI.2.2 n (by omega)) (by omega) (Nat.lt_succ_self n) hn (by omega)
          refine ⟨μ2, d3.fs.tr v3.fs, v2.1, v2.2.1, fun _ => ⟨hn, fun Q => ?_, by rw [he]; exact v2⟩, fun z => absurd hp z⟩
          show Rn G 103 0 [some (.ref o), none] [] μ Q = _
          simp (disch := first | exact Or.inr rfl | first | assumption | (simp only [MM_Kd, rI_Kd, rJ_Kd, sI_Kd, sJ_Kd, sR_Kd]; assumption) | omega | decide) only [q103_0, q103_0N, q103_1, q103_4, q103_7, q103_7N, q103_8, q103_8N, q103_9, q103_9N, q103_12, q103_12N, q103_13, q103_16, q103_16N, q103_17, q103_20, q103_23, q103_26, q103_29, q103_30, q103_31, q103_31N, q103_32, q103_35, q103_35N, q103_36, q103_36N, q103_37, q103_40, q103_43, q103_43N, q103_44, q103_47, q103_50, q103_52, q103_52N, q103_53, q103_56, q103_59, q103_60, q103_63, q103_63N, q103_64, q103_67, q103_70, q103_73, q103_74, q103_75, q103_75N, q103_76, q103_79, q103_79N, q103_80, q103_80N, q103_81, q103_84, q103_87, q103_90, q103_93, q103_94, q103_95, q103_95N, q103_96, q103_99, q103_99N, q103_100, q103_100N, q103_101, q103_104, q103_107, q103_110, q103_111, q103_112, o1, hc37, hn, o4, r1, r2, r3, hc38, hcl, c00, e12, d1, o11, o41, i4, h0', hc46', v1, not_true_eq_false, not_false_eq_true, xaf_s, xaf_v, va_rf_s, xix_n, nI_clamp, xk1_i, xk1_a, xk1_u, xk1_n, xk1_l, xk1_d, true_and, and_true, ↓reduceIte, Nat.reduceAdd, xtup]
        · have hp : ¬ (pTake C q ye am n x).1 := fun z => z.2.elim h0 hct
          have hc46' := fun Q => (hc46 Q).trans (by rw [if_neg hct])
          refine ⟨μ1, d3.fs, d2.1, d2.2.1, fun z => absurd z hp, fun _ Q => ?_⟩
          show Rn G 103 0 [some (.ref o), none] [] μ Q = _
          simp (disch := first | exact Or.inl rfl | first | assumption | (simp only [MM_Kd, rI_Kd, rJ_Kd, sI_Kd, sJ_Kd, sR_Kd]; assumption) | omega | decide) only [q103_0, q103_0N, q103_1, q103_4, q103_7, q103_7N, q103_8, q103_8N, q103_9, q103_9N, q103_12, q103_12N, q103_13, q103_16, q103_16N, q103_17, q103_20, q103_23, q103_26, q103_29, q103_30, q103_31, q103_31N, q103_32, q103_35, q103_35N, q103_36, q103_36N, q103_37, q103_40, q103_43, q103_43N, q103_44, q103_47, q103_50, q103_52, q103_52N, q103_53, q103_56, q103_59, q103_60, q103_63, q103_63N, q103_64, q103_67, q103_70, q103_73, q103_74, q103_75, q103_75N, q103_76, q103_79, q103_79N, q103_80, q103_80N, q103_81, q103_84, q103_87, q103_90, q103_93, q103_94, q103_95, q103_95N, q103_96, q103_99, q103_99N, q103_100, q103_100N, q103_101, q103_104, q103_107, q103_110, q103_111, q103_112, o1, hc37, hn, o4, r1, r2, r3, hc38, hcl, c00, c10, e12, d1, o11, o41, i4, h0', hc46', not_true_eq_false, not_false_eq_true, xaf_s, xaf_v, va_rf_s, xix_n, nI_clamp, xk1_i, xk1_a, xk1_u, xk1_n, xk1_l, xk1_d, true_and, and_true, ↓reduceIte, Nat.reduceAdd, xtup]
  · refine ⟨μ, FS.rf, h.1, h.2.1, fun z => absurd z.1.2 (by rw [h28]; exact hn), fun _ Q => ?_⟩
    show Rn G 103 0 [some (.ref o), none] [] μ Q = _
    simp (disch := first | exact Or.inl rfl | first | assumption | (simp only [MM_Kd, rI_Kd, rJ_Kd, sI_Kd, sJ_Kd, sR_Kd]; assumption) | omega | decide) only [q103_0, q103_0N, q103_1, q103_4, q103_7, q103_7N, q103_8, q103_8N, q103_9, q103_9N, q103_12, q103_12N, q103_13, q103_16, q103_16N, q103_17, q103_20, q103_23, q103_26, q103_29, q103_30, q103_31, q103_31N, q103_32, q103_35, q103_35N, q103_36, q103_36N, q103_37, q103_40, q103_43, q103_43N, q103_44, q103_47, q103_50, q103_52, q103_52N, q103_53, q103_56, q103_59, q103_60, q103_63, q103_63N, q103_64, q103_67, q103_70, q103_73, q103_74, q103_75, q103_75N, q103_76, q103_79, q103_79N, q103_80, q103_80N, q103_81, q103_84, q103_87, q103_90, q103_93, q103_94, q103_95, q103_95N, q103_96, q103_99, q103_99N, q103_100, q103_100N, q103_101, q103_104, q103_107, q103_110, q103_111, q103_112, o1, hc37, hn, xaf_s, xaf_v, va_rf_s, xix_n, nI_clamp, xk1_i, xk1_a, xk1_u, xk1_n, xk1_l, xk1_d, true_and, and_true, ↓reduceIte, Nat.reduceAdd, xtup]
/-- all parts of a text, from place p on, k characters left -/
def rTk (tx r0 : Nat → Int32) (_n0 : Nat) (p n : Nat) (x : ST) : Prop × ST := pTake (rS tx r0 p 2).toNatClampNeg (rS tx r0 p 1).toNatClampNeg (rS tx r0 p 3).toNatClampNeg (rS tx r0 p 4).toNatClampNeg n x
/-- all parts are taken, k characters from place p on: n' members then, in the state x' -/
def rOk (tx r0 : Nat → Int32) : Nat → Nat → Nat → ST → Nat → ST → Prop
  | 0, p, n, x, n', x' => (rTk tx r0 0 p n x).1 ∧ n' = n + 1 ∧ x' = (rTk tx r0 0 p n x).2
  | k + 1, p, n, x, n', x' => if tx p = 59 then ((rTk tx r0 0 p n x).1 ∧ rOk tx r0 k (p + 1) (n + 1) (rTk tx r0 0 p n x).2 n' x') else rOk tx r0 k (p + 1) n x n' x'
end RD2
