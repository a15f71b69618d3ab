/-! THE CLASS: CALLS THAT CHANGE A WORD -/
theorem MV_own {μ : xMem} {a : Nat} {v : Nat → Int32} {z : Int32} (h : MV μ a v) : MV (xsI μ a 4 z) a (up v 1 z) := by
  obtain ⟨a1, a2, a3, a4, a5, a6, a7, a8, a9, f, n, l1, l2, l3, l4, l5, l6⟩ := h
  refine ⟨?_, ?_, ?_, ?_, ?_, ?_, ?_, ?_, fun k hk => ?_, f, n, l1, l2, ?_, ?_, ?_, fun k hk => ?_⟩
  · simp only [xI_sI, xJ_sJ, rJ_I, sJ_I, sI_J, rI_J, Nat.add_left_cancel_iff, Nat.reduceEqDiff, Nat.add_eq_left, Nat.left_eq_add, false_and, true_and, and_true, and_false, ↓reduceIte]; exact a1
  · rw [up_n (by omega)]; simp only [xI_sI, xJ_sJ, rJ_I, sJ_I, sI_J, rI_J, Nat.add_left_cancel_iff, Nat.reduceEqDiff, Nat.add_eq_left, Nat.left_eq_add, false_and, true_and, and_true, and_false, ↓reduceIte]; exact a2
  · rw [up_e]; simp only [xI_sI, xJ_sJ, rJ_I, sJ_I, sI_J, rI_J, Nat.add_left_cancel_iff, Nat.reduceEqDiff, Nat.add_eq_left, Nat.left_eq_add, false_and, true_and, and_true, and_false, ↓reduceIte]
  · rw [up_n (by omega)]; simp only [xI_sI, xJ_sJ, rJ_I, sJ_I, sI_J, rI_J, Nat.add_left_cancel_iff, Nat.reduceEqDiff, Nat.add_eq_left, Nat.left_eq_add, false_and, true_and, and_true, and_false, ↓reduceIte]; exact a4
  · rw [up_n (by omega)]; simp only [xI_sI, xJ_sJ, rJ_I, sJ_I, sI_J, rI_J, Nat.add_left_cancel_iff, Nat.reduceEqDiff, Nat.add_eq_left, Nat.left_eq_add, false_and, true_and, and_true, and_false, ↓reduceIte]; exact a5
  · rw [up_n (by omega)]; simp only [xI_sI, xJ_sJ, rJ_I, sJ_I, sI_J, rI_J, Nat.add_left_cancel_iff, Nat.reduceEqDiff, Nat.add_eq_left, Nat.left_eq_add, false_and, true_and, and_true, and_false, ↓reduceIte]; exact a6
  · rw [up_n (by omega)]; simp only [xI_sI, xJ_sJ, rJ_I, sJ_I, sI_J, rI_J, Nat.add_left_cancel_iff, Nat.reduceEqDiff, Nat.add_eq_left, Nat.left_eq_add, false_and, true_and, and_true, and_false, ↓reduceIte]; exact a7
  · rw [up_n (by omega)]; simp only [xI_sI, xJ_sJ, rJ_I, sJ_I, sI_J, rI_J, Nat.add_left_cancel_iff, Nat.reduceEqDiff, Nat.add_eq_left, Nat.left_eq_add, false_and, true_and, and_true, and_false, ↓reduceIte]; exact a8
  · rw [up_n (by omega)]; simp only [xI_sI, xJ_sJ, rJ_I, sJ_I, sI_J, rI_J, Nat.add_left_cancel_iff, Nat.reduceEqDiff, Nat.add_eq_left, Nat.left_eq_add, false_and, true_and, and_true, and_false, ↓reduceIte]; exact a9 k hk
  · simp only [xI_sI, xJ_sJ, rJ_I, sJ_I, sI_J, rI_J, Nat.add_left_cancel_iff, Nat.reduceEqDiff, Nat.add_eq_left, Nat.left_eq_add, false_and, true_and, and_true, and_false, ↓reduceIte]; exact l3
  · simp only [xI_sI, xJ_sJ, rJ_I, sJ_I, sI_J, rI_J, Nat.add_left_cancel_iff, Nat.reduceEqDiff, Nat.add_eq_left, Nat.left_eq_add, false_and, true_and, and_true, and_false, ↓reduceIte]; exact l4
  · rw [up_n (by omega)]; exact l5
  · rw [up_n (by omega)]; simp only [xI_sI, xJ_sJ, rJ_I, sJ_I, sI_J, rI_J, Nat.add_left_cancel_iff, Nat.reduceEqDiff, Nat.add_eq_left, Nat.left_eq_add, false_and, true_and, and_true, and_false, ↓reduceIte]; exact l6 k hk
theorem MV_pay {μ : xMem} {a : Nat} {v : Nat → Int32} {z : Int32} (h : MV μ a v) : MV (xsI μ a 5 z) a (up v 2 z) := by
  obtain ⟨a1, a2, a3, a4, a5, a6, a7, a8, a9, f, n, l1, l2, l3, l4, l5, l6⟩ := h
  refine ⟨?_, ?_, ?_, ?_, ?_, ?_, ?_, ?_, fun k hk => ?_, f, n, l1, l2, ?_, ?_, ?_, fun k hk => ?_⟩
  · simp only [xI_sI, xJ_sJ, rJ_I, sJ_I, sI_J, rI_J, Nat.add_left_cancel_iff, Nat.reduceEqDiff, Nat.add_eq_left, Nat.left_eq_add, false_and, true_and, and_true, and_false, ↓reduceIte]; exact a1
  · rw [up_n (by omega)]; simp only [xI_sI, xJ_sJ, rJ_I, sJ_I, sI_J, rI_J, Nat.add_left_cancel_iff, Nat.reduceEqDiff, Nat.add_eq_left, Nat.left_eq_add, false_and, true_and, and_true, and_false, ↓reduceIte]; exact a2
  · rw [up_n (by omega)]; simp only [xI_sI, xJ_sJ, rJ_I, sJ_I, sI_J, rI_J, Nat.add_left_cancel_iff, Nat.reduceEqDiff, Nat.add_eq_left, Nat.left_eq_add, false_and, true_and, and_true, and_false, ↓reduceIte]; exact a3
  · rw [up_e]; simp only [xI_sI, xJ_sJ, rJ_I, sJ_I, sI_J, rI_J, Nat.add_left_cancel_iff, Nat.reduceEqDiff, Nat.add_eq_left, Nat.left_eq_add, false_and, true_and, and_true, and_false, ↓reduceIte]
  · rw [up_n (by omega)]; simp only [xI_sI, xJ_sJ, rJ_I, sJ_I, sI_J, rI_J, Nat.add_left_cancel_iff, Nat.reduceEqDiff, Nat.add_eq_left, Nat.left_eq_add, false_and, true_and, and_true, and_false, ↓reduceIte]; exact a5
  · rw [up_n (by omega)]; simp only [xI_sI, xJ_sJ, rJ_I, sJ_I, sI_J, rI_J, Nat.add_left_cancel_iff, Nat.reduceEqDiff, Nat.add_eq_left, Nat.left_eq_add, false_and, true_and, and_true, and_false, ↓reduceIte]; exact a6
  · rw [up_n (by omega)]; simp only [xI_sI, xJ_sJ, rJ_I, sJ_I, sI_J, rI_J, Nat.add_left_cancel_iff, Nat.reduceEqDiff, Nat.add_eq_left, Nat.left_eq_add, false_and, true_and, and_true, and_false, ↓reduceIte]; exact a7
  · rw [up_n (by omega)]; simp only [xI_sI, xJ_sJ, rJ_I, sJ_I, sI_J, rI_J, Nat.add_left_cancel_iff, Nat.reduceEqDiff, Nat.add_eq_left, Nat.left_eq_add, false_and, true_and, and_true, and_false, ↓reduceIte]; exact a8
  · rw [up_n (by omega)]; simp only [xI_sI, xJ_sJ, rJ_I, sJ_I, sI_J, rI_J, Nat.add_left_cancel_iff, Nat.reduceEqDiff, Nat.add_eq_left, Nat.left_eq_add, false_and, true_and, and_true, and_false, ↓reduceIte]; exact a9 k hk
  · simp only [xI_sI, xJ_sJ, rJ_I, sJ_I, sI_J, rI_J, Nat.add_left_cancel_iff, Nat.reduceEqDiff, Nat.add_eq_left, Nat.left_eq_add, false_and, true_and, and_true, and_false, ↓reduceIte]; exact l3
  · simp only [xI_sI, xJ_sJ, rJ_I, sJ_I, sI_J, rI_J, Nat.add_left_cancel_iff, Nat.reduceEqDiff, Nat.add_eq_left, Nat.left_eq_add, false_and, true_and, and_true, and_false, ↓reduceIte]; exact l4
  · rw [up_n (by omega)]; exact l5
  · rw [up_n (by omega)]; simp only [xI_sI, xJ_sJ, rJ_I, sJ_I, sI_J, rI_J, Nat.add_left_cancel_iff, Nat.reduceEqDiff, Nat.add_eq_left, Nat.left_eq_add, false_and, true_and, and_true, and_false, ↓reduceIte]; exact l6 k hk
theorem MV_beh {μ : xMem} {a : Nat} {v : Nat → Int32} {z : Int32} (h : MV μ a v) : MV (xsI μ a 9 z) a (up v 9 z) := by
  obtain ⟨a1, a2, a3, a4, a5, a6, a7, a8, a9, f, n, l1, l2, l3, l4, l5, l6⟩ := h
  refine ⟨?_, ?_, ?_, ?_, ?_, ?_, ?_, ?_, fun k hk => ?_, f, n, l1, l2, ?_, ?_, ?_, fun k hk => ?_⟩
  · simp only [xI_sI, xJ_sJ, rJ_I, sJ_I, sI_J, rI_J, Nat.add_left_cancel_iff, Nat.reduceEqDiff, Nat.add_eq_left, Nat.left_eq_add, false_and, true_and, and_true, and_false, ↓reduceIte]; exact a1
  · rw [up_n (by omega)]; simp only [xI_sI, xJ_sJ, rJ_I, sJ_I, sI_J, rI_J, Nat.add_left_cancel_iff, Nat.reduceEqDiff, Nat.add_eq_left, Nat.left_eq_add, false_and, true_and, and_true, and_false, ↓reduceIte]; exact a2
  · rw [up_n (by omega)]; simp only [xI_sI, xJ_sJ, rJ_I, sJ_I, sI_J, rI_J, Nat.add_left_cancel_iff, Nat.reduceEqDiff, Nat.add_eq_left, Nat.left_eq_add, false_and, true_and, and_true, and_false, ↓reduceIte]; exact a3
  · rw [up_n (by omega)]; simp only [xI_sI, xJ_sJ, rJ_I, sJ_I, sI_J, rI_J, Nat.add_left_cancel_iff, Nat.reduceEqDiff, Nat.add_eq_left, Nat.left_eq_add, false_and, true_and, and_true, and_false, ↓reduceIte]; exact a4
  · rw [up_n (by omega)]; simp only [xI_sI, xJ_sJ, rJ_I, sJ_I, sI_J, rI_J, Nat.add_left_cancel_iff, Nat.reduceEqDiff, Nat.add_eq_left, Nat.left_eq_add, false_and, true_and, and_true, and_false, ↓reduceIte]; exact a5
  · rw [up_n (by omega)]; simp only [xI_sI, xJ_sJ, rJ_I, sJ_I, sI_J, rI_J, Nat.add_left_cancel_iff, Nat.reduceEqDiff, Nat.add_eq_left, Nat.left_eq_add, false_and, true_and, and_true, and_false, ↓reduceIte]; exact a6
  · rw [up_n (by omega)]; simp only [xI_sI, xJ_sJ, rJ_I, sJ_I, sI_J, rI_J, Nat.add_left_cancel_iff, Nat.reduceEqDiff, Nat.add_eq_left, Nat.left_eq_add, false_and, true_and, and_true, and_false, ↓reduceIte]; exact a7
  · rw [up_e]; simp only [xI_sI, xJ_sJ, rJ_I, sJ_I, sI_J, rI_J, Nat.add_left_cancel_iff, Nat.reduceEqDiff, Nat.add_eq_left, Nat.left_eq_add, false_and, true_and, and_true, and_false, ↓reduceIte]
  · rw [up_n (by omega)]; simp only [xI_sI, xJ_sJ, rJ_I, sJ_I, sI_J, rI_J, Nat.add_left_cancel_iff, Nat.reduceEqDiff, Nat.add_eq_left, Nat.left_eq_add, false_and, true_and, and_true, and_false, ↓reduceIte]; exact a9 k hk
  · simp only [xI_sI, xJ_sJ, rJ_I, sJ_I, sI_J, rI_J, Nat.add_left_cancel_iff, Nat.reduceEqDiff, Nat.add_eq_left, Nat.left_eq_add, false_and, true_and, and_true, and_false, ↓reduceIte]; exact l3
  · simp only [xI_sI, xJ_sJ, rJ_I, sJ_I, sI_J, rI_J, Nat.add_left_cancel_iff, Nat.reduceEqDiff, Nat.add_eq_left, Nat.left_eq_add, false_and, true_and, and_true, and_false, ↓reduceIte]; exact l4
  · rw [up_n (by omega)]; exact l5
  · rw [up_n (by omega)]; simp only [xI_sI, xJ_sJ, rJ_I, sJ_I, sI_J, rI_J, Nat.add_left_cancel_iff, Nat.reduceEqDiff, Nat.add_eq_left, Nat.left_eq_add, false_and, true_and, and_true, and_false, ↓reduceIte]; exact l6 k hk
/-- all of the class's state: x now, t states S saved -/
def CST (μ : xMem) (o c g n : Nat) (π : Nat → Nat) (t : Nat) (S : Nat → ST) (x : ST) : Prop := CSH μ o ∧ CSS μ o ∧ CHS μ o c t S ∧ g ≤ 9999 ∧ INV c g n x ∧ SC μ (o + 1) π n x
/-- how a call that changes the state ends -/
def CRES (G : xCtx) (y : Nat) (args : List Value) (kd : Int32 → Nat) (μ : xMem) (o c t : Nat) (S : Nat → ST) (x : ST) : OUT → Prop
  | .inl e => ∀ Q, Cn G y (.ref o :: args) μ Q = Q (.inr (kd e)) (xex μ)
  | .inr v => ∃ μ' g' n' π', (∀ Q, Cn G y (.ref o :: args) μ Q = Q (.inl (some (.int v.1))) μ') ∧ CST μ' o (c + 1) g' n' π' (SVt t + 1) (push t S x) v.2 ∧ FS μ μ' (fun q => o ≤ q ∧ q < o + 443)
def kd3 (a b c : Nat) (e : Int32) : Nat := if e = 1 then a else if e = 2 then b else c
section PBC
variable {G : xCtx} {μ : xMem} {Q : xOut → xMem → Prop} {o n k c p g t b : Nat} {π : Nat → Nat} {S : Nat → ST} {x : ST}
theorem CHS.up {c' : Nat} (h : CHS μ o c t S) (hc : c ≤ c') : CHS μ o c' t S := by
  obtain ⟨f, a1, a2, a3, a4, a5⟩ := h
  exact ⟨f, a1, a2, a3, a4, fun k hk => by obtain ⟨g, n, π, b1, b2, b3⟩ := a5 k hk; exact ⟨g, n, π, b1, b2.up hc, b3⟩⟩
theorem CST.fin {μ1 μ2 : xMem} {c' g' n' : Nat} {π' : Nat → Nat} {x' : ST} (hC : CSH μ1 o) (hs : CSS μ1 o) (hH : CHS μ1 o c t S) (hc : c ≤ c') (hF : FS μ1 μ2 (BK (o + 1))) (hg : g' ≤ 9999) (hI : INV c' g' n' x') (h : SC μ2 (o + 1) π' n' x') : CST μ2 o c' g' n' π' t S x' := by
  obtain ⟨f, a1, a2, a3, a4, a5⟩ := hH.up hc
  have e := fun q (h1 : o + 56 ≤ q ∨ q = o) => hF.2.2 q (by unfold BK; omega)
  refine ⟨hC.fs hF fun q hq => (e q (by omega)).2.2, ⟨?_, fun j hj => ?_⟩, ⟨f, a1, a2, ?_, ?_, fun k hk => ?_⟩, hg, hI, h⟩
  · obtain ⟨π2, hh⟩ := hs.1
    exact ⟨π2, shape_fs hh hF fun q q1 q2 => by unfold BK; omega⟩
  · obtain ⟨π2, hh⟩ := hs.2 j hj
    exact ⟨π2, shape_fs hh hF fun q q1 q2 => by unfold BK; omega⟩
  · rw [(e (o + 111) (by omega)).1]; exact a3
  · rw [(e (o + 111) (by omega)).1]; exact a4
  · obtain ⟨g2, n2, π2, b1, b2, b3⟩ := a5 k hk
    exact ⟨g2, n2, π2, b1, b2, b3.fs hF fun q q1 q2 => by unfold BK; omega⟩
theorem fsn {μ1 μ2 : xMem} (h1 : FS μ μ1 (fun q => o + 111 ≤ q ∧ q < o + 443)) (h2 : FS μ1 μ2 (BK (o + 1))) : FS μ μ2 (fun q => o ≤ q ∧ q < o + 443) :=
  (h1.mono fun q hq => ⟨by omega, by omega⟩).tr (h2.mono fun q hq => by unfold BK at hq; exact ⟨by omega, by omega⟩)
/-- the scheme's own words change -/
theorem SC.glob {μ' : xMem} {x' : ST} (h : SC μ b π n x) (hF : FR μ μ' (fun q => b ≤ q ∧ q < b + 7)) (hG : GV μ' b x'.1 x'.2) (hm : ∀ i, i < n → mw x'.1 i = mw x.1 i) : SC μ' b π n x' := by
  obtain ⟨hS, hR, -, hM, h0⟩ := h
  refine ⟨hS.of hF.1 (by rw [hF.2.2.1]), hR.of hF.1 hF.2.2.1, hG, fun i hi hi8 => ?_, fun i hi hi8 => ?_⟩
  · rw [hm i hi]
    exact (hM i hi hi8).of fun q q1 q2 => (hF.2.2.2 q (by unfold AD at q1; omega)).1
  · rw [(hF.2.2.2 _ (by unfold AD; omega)).1]; exact h0 i hi hi8
theorem INV_word {v : Int32} {j : Nat} (h : INV c g n x) (hp : p < n) (hj : j < 75) (hM : MI (up (mw x.1 p) j v) (10060 + g) (g - 60) g) : INV (c + 1) g n (up x.1 (19 + 75 * p + j) v, x.2) := by
  obtain ⟨h1, h2, h3⟩ := h.up (Nat.le_succ c)
  refine ⟨h1.of (fun q hq _ _ _ _ => up_n (by omega)) (by dsimp only; rw [up_n (by omega)]; exact h1.2.2.2.1), h2, fun q hq => ?_⟩
  dsimp only
  by_cases hqp : q = p
  · subst hqp; rw [mw_in hj]; exact hM
  · rw [mw_out (by omega)]; exact h3 q hq
theorem c68 (h : CST μ o c g n π t S x) (sec rate share : Int32) : CRES G 68 [.int sec, .int rate, .int share] (kd3 0 1 0) μ o c t S x (pSection sec rate share x) := by
  obtain ⟨hC, hs, hH, hg, hI, hSC⟩ := h
  have hC0 := hC
  obtain ⟨ko, ⟨o0, o1, o2, o3, o4⟩, ⟨k1, k1r⟩, -⟩ := hC
  unfold pSection
  by_cases h1 : bad sec 0 2
  · rw [if_pos h1]
    intro Q
    show Rn G 68 0 [some (.ref o), some (.int sec), some (.int rate), some (.int share), none] [] μ Q = _
    simp (disch := first | assumption | (simp only [MM_Kd, rI_Kd, rJ_Kd, sI_Kd, sJ_Kd, sR_Kd]; assumption) | omega | decide) only [q68_0, q68_1, q68_4, q68_7, q68_10, q68_17, q68_18, q68_20, q68_23, q68_26, q68_29, q68_30, q68_32, q68_35, q68_38, q68_41, q68_44, q68_51, q68_51N, q68_52, q68_55, q68_55N, q68_56, q68_59, q68_62, q68_65, q68_65N, q68_66, q68_69, q68_72, q68_73, q68_73T, q68_74, q68_75, q68_75N, q68_76, q68_79, q68_82, q68_83, q68_83T, q68_84, q68_85, q68_87, q68_87N, q68_88, q68_91, q68_94, q68_95, q68_96, q68_97, q68_97N, q68_98, q68_101, q68_104, q68_105, q68_106, q68_107, q68_109, c105, h1, c00, c10, not_true_eq_false, not_false_eq_true, kd3, xaf_s, xaf_v, va_rf_s, xix_n, nI_clamp, xk1_i, xk1_a, xk1_u, xk1_n, xk1_l, xk1_d, true_and, and_true, ↓reduceIte, Nat.reduceAdd, xtup]
  · rw [if_neg h1]
    obtain ⟨C, hc3, rfl⟩ := sec3 h1
    by_cases h2 : bad rate 10 300 ∨ bad share 20 200
    · rw [if_pos h2]
      intro Q
      show Rn G 68 0 [some (.ref o), some (.int (nI C)), some (.int rate), some (.int share), none] [] μ Q = _
      have e2 : kd3 0 1 0 2 = 1 := rfl
      by_cases h3 : bad rate 10 300
      · simp (disch := first | assumption | (simp only [MM_Kd, rI_Kd, rJ_Kd, sI_Kd, sJ_Kd, sR_Kd]; assumption) | omega | decide) only [q68_0, q68_1, q68_4, q68_7, q68_10, q68_17, q68_18, q68_20, q68_23, q68_26, q68_29, q68_30, q68_32, q68_35, q68_38, q68_41, q68_44, q68_51, q68_51N, q68_52, q68_55, q68_55N, q68_56, q68_59, q68_62, q68_65, q68_65N, q68_66, q68_69, q68_72, q68_73, q68_73T, q68_74, q68_75, q68_75N, q68_76, q68_79, q68_82, q68_83, q68_83T, q68_84, q68_85, q68_87, q68_87N, q68_88, q68_91, q68_94, q68_95, q68_96, q68_97, q68_97N, q68_98, q68_101, q68_104, q68_105, q68_106, q68_107, q68_109, c105, c104, h1, h3, c00, c10, not_true_eq_false, not_false_eq_true, e2, xaf_s, xaf_v, va_rf_s, xix_n, nI_clamp, xk1_i, xk1_a, xk1_u, xk1_n, xk1_l, xk1_d, true_and, and_true, ↓reduceIte, Nat.reduceAdd, xtup]
      · have h4 := h2.resolve_left h3
        simp (disch := first | assumption | (simp only [MM_Kd, rI_Kd, rJ_Kd, sI_Kd, sJ_Kd, sR_Kd]; assumption) | omega | decide) only [q68_0, q68_1, q68_4, q68_7, q68_10, q68_17, q68_18, q68_20, q68_23, q68_26, q68_29, q68_30, q68_32, q68_35, q68_38, q68_41, q68_44, q68_51, q68_51N, q68_52, q68_55, q68_55N, q68_56, q68_59, q68_62, q68_65, q68_65N, q68_66, q68_69, q68_72, q68_73, q68_73T, q68_74, q68_75, q68_75N, q68_76, q68_79, q68_82, q68_83, q68_83T, q68_84, q68_85, q68_87, q68_87N, q68_88, q68_91, q68_94, q68_95, q68_96, q68_97, q68_97N, q68_98, q68_101, q68_104, q68_105, q68_106, q68_107, q68_109, c105, c104, h1, h3, h4, c00, c10, not_true_eq_false, not_false_eq_true, e2, xaf_s, xaf_v, va_rf_s, xix_n, nI_clamp, xk1_i, xk1_a, xk1_u, xk1_n, xk1_l, xk1_d, true_and, and_true, ↓reduceIte, Nat.reduceAdd, xtup]
    · rw [if_neg h2]
      have h3 : ¬ bad rate 10 300 := fun z => h2 (Or.inl z)
      have h4 : ¬ bad share 20 200 := fun z => h2 (Or.inr z)
      obtain ⟨μ1, e1, hH1, hs1, hC1, hSC1, hF1⟩ := c5 (G := G) hC0 hs hSC hI hg hH
      have hC1' := hC1
      obtain ⟨ko', ⟨o0', o1', o2', o3', o4'⟩, ⟨k1', k1r'⟩, -⟩ := hC1
      obtain ⟨b0, ⟨b1, u1⟩, ⟨b2, u2⟩, ⟨b3, u3⟩, ⟨b4, u4⟩, ⟨b5, u5⟩, ⟨b6, u6⟩, r0, r1, r2, r3, r4, r5⟩ := hSC1.1
      have hGV := hSC1.2.2.1
      obtain ⟨g3, g0, gf, g4, g5, gs, gr, gσ⟩ := hSC1.2.2.1
      obtain ⟨gr1, gr2, gr3⟩ := gr C hc3
      obtain ⟨R, R1, R2, rfl⟩ := rng (v := rate) (lo := 10) (hi := 300) (by omega) (by omega) h3
      obtain ⟨H, H1, H2, rfl⟩ := rng (v := share) (lo := 20) (hi := 200) (by omega) (by omega) h4
      have hfr : FR μ1 (xsI (xsI μ1 (o + 1 + 2) C (nI R)) (o + 1 + 3) C (nI H)) (fun q => o + 1 ≤ q ∧ q < o + 1 + 7) := (FR.sI ⟨by omega, by omega⟩).tr (FR.sI ⟨by omega, by omega⟩)
      have cl : (nI C).toNatClampNeg = C := nI_clamp (by omega)
      rw [cl]
      have hx' : ∀ j, j ≠ 10 + 3 * C → j ≠ 10 + 3 * C + 1 → up (up x.1 (10 + 3 * C) (nI R)) (10 + 3 * C + 1) (nI H) j = x.1 j := fun j h1 h2 => by rw [up_n h2, up_n h1]
      refine ⟨xsI (xsI μ1 (o + 1 + 2) C (nI R)) (o + 1 + 3) C (nI H), g, n, π, fun Q => ?_, CST.fin hC1' hs1 hH1 (Nat.le_succ c) (hfr.fs.mono fun q hq => ⟨by omega, by omega⟩) hg ?_ ?_, fsn hF1 (hfr.fs.mono fun q hq => ⟨by omega, by omega⟩)⟩
      · show Rn G 68 0 [some (.ref o), some (.int (nI C)), some (.int (nI R)), some (.int (nI H)), none] [] μ Q = _
        simp (disch := first | assumption | (simp only [MM_Kd, rI_Kd, rJ_Kd, sI_Kd, sJ_Kd, sR_Kd]; assumption) | omega | decide) only [q68_0, q68_1, q68_4, q68_7, q68_10, q68_17, q68_18, q68_20, q68_23, q68_26, q68_29, q68_30, q68_32, q68_35, q68_38, q68_41, q68_44, q68_51, q68_51N, q68_52, q68_55, q68_55N, q68_56, q68_59, q68_62, q68_65, q68_65N, q68_66, q68_69, q68_72, q68_73, q68_73T, q68_74, q68_75, q68_75N, q68_76, q68_79, q68_82, q68_83, q68_83T, q68_84, q68_85, q68_87, q68_87N, q68_88, q68_91, q68_94, q68_95, q68_96, q68_97, q68_97N, q68_98, q68_101, q68_104, q68_105, q68_106, q68_107, q68_109, c105, c104, h1, h3, h4, c00, c10, o0, o2, e1, o0', r1, r2, u2, u3, gr1, gr2, not_true_eq_false, not_false_eq_true, rI_Kd, rI_Ln, rI_R, rI_J, rJ_Kd, rJ_Ln, rJ_R, rJ_I, sI_Kd, sI_Ln, sI_R, sI_J, sJ_Kd, sJ_Ln, sJ_R, sJ_I, sR_Kd, sR_Ln, sR_I, sR_J, xaf_s, xaf_v, va_rf_s, xix_n, nI_clamp, xk1_i, xk1_a, xk1_u, xk1_n, xk1_l, xk1_d, true_and, and_true, ↓reduceIte, Nat.reduceAdd, xtup]
      · obtain ⟨i1, i2, i3⟩ := hI.up (Nat.le_succ c)
        obtain ⟨a1, a2, a3, a4, a5, a6, a7, a8, a9⟩ := i1
        refine ⟨⟨?_, ?_, a3, ?_, ?_, ?_, ?_, ?_, fun k hk => ?_⟩, i2, fun q hq => ?_⟩
        · dsimp only; rw [hx' 0 (by omega) (by omega)]; exact a1
        · dsimp only; rw [hx' 2 (by omega) (by omega)]; exact a2
        · dsimp only; rw [hx' 1 (by omega) (by omega)]; exact a4
        · dsimp only; rw [hx' 6 (by omega) (by omega)]; exact a5
        · dsimp only; rw [hx' 7 (by omega) (by omega)]; exact a6
        · dsimp only; rw [hx' 8 (by omega) (by omega)]; exact a7
        · dsimp only; rw [hx' 9 (by omega) (by omega)]; exact a8
        · dsimp only
          obtain ⟨y1, y2, y3⟩ := a9 k hk
          rw [hx' (12 + 3 * k) (by omega) (by omega)]
          by_cases hkC : k = C
          · subst hkC
            rw [up_n (by omega), up_e, up_e]
            exact ⟨⟨R, R1, R2, rfl⟩, ⟨H, H1, H2, rfl⟩, y3⟩
          · rw [hx' _ (by omega) (by omega), hx' _ (by omega) (by omega)]; exact ⟨y1, y2, y3⟩
        · dsimp only
          rw [mw_out (by omega), mw_out (by omega)]; exact i3 q hq
      · refine hSC1.glob hfr ⟨?_, ?_, ?_, ?_, ?_, fun k hk => ?_, fun k hk => ?_, gσ⟩ (fun i hi => by dsimp only; rw [mw_out (by omega), mw_out (by omega)])
        · dsimp only; rw [hx' 3 (by omega) (by omega), sI_n (by omega), sI_n (by omega)]; exact g3
        · dsimp only; rw [hx' 0 (by omega) (by omega), sI_n (by omega), sI_n (by omega)]; exact g0
        · dsimp only; rw [hx' 1 (by omega) (by omega)]; exact gf
        · dsimp only; rw [hx' 4 (by omega) (by omega), sI_n (by omega), sI_n (by omega)]; exact g4
        · dsimp only; rw [hx' 5 (by omega) (by omega), sI_n (by omega), sI_n (by omega)]; exact g5
        · dsimp only; rw [hx' _ (by omega) (by omega), sI_n (by omega), sI_n (by omega)]; exact gs k hk
        · dsimp only
          obtain ⟨y1, y2, y3⟩ := gr k hk
          have w2 : xI (xsI (xsI μ1 (o + 1 + 2) C (nI R)) (o + 1 + 3) C (nI H)) (o + 1 + 2) k = xI (xsI μ1 (o + 1 + 2) C (nI R)) (o + 1 + 2) k := by rw [sI_n (by omega)]
          have w4 : xI (xsI (xsI μ1 (o + 1 + 2) C (nI R)) (o + 1 + 3) C (nI H)) (o + 1 + 4) k = xI μ1 (o + 1 + 4) k := by rw [sI_n (by omega), sI_n (by omega)]
          rw [hx' (12 + 3 * k) (by omega) (by omega), w2, w4]
          by_cases hkC : k = C
          · subst hkC
            rw [sI_e, sI_e, up_n (by omega), up_e, up_e]
            exact ⟨rfl, rfl, y3⟩
          · rw [sI_k hkC, sI_k hkC, sI_n (by omega), hx' _ (by omega) (by omega), hx' _ (by omega) (by omega)]
            exact ⟨y1, y2, y3⟩
end PBC
