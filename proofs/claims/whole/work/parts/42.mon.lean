/-! THE CLASS: A MONTH -/
def BK (b q : Nat) : Prop := b ≤ q ∧ q < b + 55
theorem TP_BK {b i : Nat} {π : Nat → Nat} (h : π i < 8) : ∀ q, TP b π i q → BK b q := by
  intro q hq
  unfold TP AD at hq
  unfold BK
  rcases hq with z | z | z <;> omega
theorem wM_n {g c d : Nat} (hg : g < 100000) (hc : c < 3) (hd : d < 4096) : wM (nI (16384 * g + 4096 * c + d)) = nI g ∧ wD (nI (16384 * g + 4096 * c + d)) = nI d ∧ wS (nI (16384 * g + 4096 * c + d)) = nI c := by
  unfold wM wD wS
  rw [show (16384 : Int32) = nI 16384 from rfl, show (4096 : Int32) = nI 4096 from rfl, show (4 : Int32) = nI 4 from rfl, pk_div (by omega) (by omega) (by omega), pk_rem (by omega) (by omega) (by omega), pk_div (by omega) (by omega) (by omega), pk_rem (by omega) (by omega) (by omega)]
  refine ⟨?_, ?_, ?_⟩ <;> congr 1 <;> omega
/-- a late month comes to a member's words -/
theorem MV_add {μ : xMem} {a f n : Nat} {v : Nat → Int32} (h : MV μ a v) (hl : LT μ a v f n) (hn : n < 61) {w : Int32} : MV (xsI (xsI (xsI (xsI μ (a + 3) ((f + n) % 61) (wM w)) (a + 4) ((f + n) % 61) (wD w)) (a + 5) ((f + n) % 61) (wS w)) (a + 2) 4 (nI (n + 1))) a (up (up v (11 + n) w) 10 (nI (n + 1))) := by
  obtain ⟨a1, a2, a3, a4, a5, a6, a7, a8, a9, -⟩ := h
  refine ⟨?_, ?_, ?_, ?_, ?_, ?_, ?_, ?_, fun k hk => ?_, f, n + 1, LT_add hl hn⟩
  · simp only [xI_sI, xJ_sJ, rJ_I, sJ_I, sI_J, rI_J, Nat.add_left_cancel_iff, Nat.reduceEqDiff, Nat.add_eq_left, Nat.left_eq_add, false_and, true_and, and_true, and_false, ↓reduceIte]; exact a1
  · rw [up_n (by omega), up_n (by omega)]; simp only [xI_sI, xJ_sJ, rJ_I, sJ_I, sI_J, rI_J, Nat.add_left_cancel_iff, Nat.reduceEqDiff, Nat.add_eq_left, Nat.left_eq_add, false_and, true_and, and_true, and_false, ↓reduceIte]; exact a2
  · rw [up_n (by omega), up_n (by omega)]; simp only [xI_sI, xJ_sJ, rJ_I, sJ_I, sI_J, rI_J, Nat.add_left_cancel_iff, Nat.reduceEqDiff, Nat.add_eq_left, Nat.left_eq_add, false_and, true_and, and_true, and_false, ↓reduceIte]; exact a3
  · rw [up_n (by omega), up_n (by omega)]; simp only [xI_sI, xJ_sJ, rJ_I, sJ_I, sI_J, rI_J, Nat.add_left_cancel_iff, Nat.reduceEqDiff, Nat.add_eq_left, Nat.left_eq_add, false_and, true_and, and_true, and_false, ↓reduceIte]; exact a4
  · rw [up_n (by omega), up_n (by omega)]; simp only [xI_sI, xJ_sJ, rJ_I, sJ_I, sI_J, rI_J, Nat.add_left_cancel_iff, Nat.reduceEqDiff, Nat.add_eq_left, Nat.left_eq_add, false_and, true_and, and_true, and_false, ↓reduceIte]; exact a5
  · rw [up_n (by omega), up_n (by omega)]; simp only [xI_sI, xJ_sJ, rJ_I, sJ_I, sI_J, rI_J, Nat.add_left_cancel_iff, Nat.reduceEqDiff, Nat.add_eq_left, Nat.left_eq_add, false_and, true_and, and_true, and_false, ↓reduceIte]; exact a6
  · rw [up_n (by omega), up_n (by omega)]; simp only [xI_sI, xJ_sJ, rJ_I, sJ_I, sI_J, rI_J, Nat.add_left_cancel_iff, Nat.reduceEqDiff, Nat.add_eq_left, Nat.left_eq_add, false_and, true_and, and_true, and_false, ↓reduceIte]; exact a7
  · rw [up_n (by omega), up_n (by omega)]; simp only [xI_sI, xJ_sJ, rJ_I, sJ_I, sI_J, rI_J, Nat.add_left_cancel_iff, Nat.reduceEqDiff, Nat.add_eq_left, Nat.left_eq_add, false_and, true_and, and_true, and_false, ↓reduceIte]; exact a8
  · rw [up_n (by omega), up_n (by omega)]; simp only [xI_sI, xJ_sJ, rJ_I, sJ_I, sI_J, rI_J, Nat.add_left_cancel_iff, Nat.reduceEqDiff, Nat.add_eq_left, Nat.left_eq_add, false_and, true_and, and_true, and_false, ↓reduceIte]; exact a9 k hk
/-- service grows -/
theorem MV_serve {μ : xMem} {a c : Nat} {v : Nat → Int32} {z : Int32} (h : MV μ a v) (hc : c < 3) : MV (xsI μ (a + 1) c (xI μ (a + 1) c + z)) a (up v (4 + c) (v (4 + c) + z)) := by
  obtain ⟨a1, a2, a3, a4, a5, a6, a7, a8, a9, f, n, l1, l2, l3, l4, l5, l6⟩ := h
  refine ⟨?_, ?_, ?_, ?_, ?_, ?_, ?_, ?_, fun k hk => ?_, f, n, l1, l2, ?_, ?_, ?_, fun k hk => ?_⟩
  · simp only [xI_sI, xJ_sJ, rJ_I, sJ_I, sI_J, rI_J, Nat.add_left_cancel_iff, Nat.reduceEqDiff, Nat.add_eq_left, Nat.left_eq_add, false_and, true_and, and_true, and_false, ↓reduceIte]; exact a1
  · rw [up_n (by omega)]; simp only [xI_sI, xJ_sJ, rJ_I, sJ_I, sI_J, rI_J, Nat.add_left_cancel_iff, Nat.reduceEqDiff, Nat.add_eq_left, Nat.left_eq_add, false_and, true_and, and_true, and_false, ↓reduceIte]; exact a2
  · rw [up_n (by omega)]; simp only [xI_sI, xJ_sJ, rJ_I, sJ_I, sI_J, rI_J, Nat.add_left_cancel_iff, Nat.reduceEqDiff, Nat.add_eq_left, Nat.left_eq_add, false_and, true_and, and_true, and_false, ↓reduceIte]; exact a3
  · rw [up_n (by omega)]; simp only [xI_sI, xJ_sJ, rJ_I, sJ_I, sI_J, rI_J, Nat.add_left_cancel_iff, Nat.reduceEqDiff, Nat.add_eq_left, Nat.left_eq_add, false_and, true_and, and_true, and_false, ↓reduceIte]; exact a4
  · rw [up_n (by omega)]; simp only [xI_sI, xJ_sJ, rJ_I, sJ_I, sI_J, rI_J, Nat.add_left_cancel_iff, Nat.reduceEqDiff, Nat.add_eq_left, Nat.left_eq_add, false_and, true_and, and_true, and_false, ↓reduceIte]; exact a5
  · rw [up_n (by omega)]; simp only [xI_sI, xJ_sJ, rJ_I, sJ_I, sI_J, rI_J, Nat.add_left_cancel_iff, Nat.reduceEqDiff, Nat.add_eq_left, Nat.left_eq_add, false_and, true_and, and_true, and_false, ↓reduceIte]; exact a6
  · rw [up_n (by omega)]; simp only [xI_sI, xJ_sJ, rJ_I, sJ_I, sI_J, rI_J, Nat.add_left_cancel_iff, Nat.reduceEqDiff, Nat.add_eq_left, Nat.left_eq_add, false_and, true_and, and_true, and_false, ↓reduceIte]; exact a7
  · rw [up_n (by omega)]; simp only [xI_sI, xJ_sJ, rJ_I, sJ_I, sI_J, rI_J, Nat.add_left_cancel_iff, Nat.reduceEqDiff, Nat.add_eq_left, Nat.left_eq_add, false_and, true_and, and_true, and_false, ↓reduceIte]; exact a8
  · by_cases h1 : k = c
    · subst h1; rw [up_e, sI_e, a9 k hk]
    · rw [up_n (by omega), sI_k h1]; exact a9 k hk
  · simp only [xI_sI, xJ_sJ, rJ_I, sJ_I, sI_J, rI_J, Nat.add_left_cancel_iff, Nat.reduceEqDiff, Nat.add_eq_left, Nat.left_eq_add, false_and, true_and, and_true, and_false, ↓reduceIte]; exact l3
  · simp only [xI_sI, xJ_sJ, rJ_I, sJ_I, sI_J, rI_J, Nat.add_left_cancel_iff, Nat.reduceEqDiff, Nat.add_eq_left, Nat.left_eq_add, false_and, true_and, and_true, and_false, ↓reduceIte]; exact l4
  · rw [up_n (by omega)]; exact l5
  · rw [up_n (by omega)]; simp only [xI_sI, xJ_sJ, rJ_I, sJ_I, sI_J, rI_J, Nat.add_left_cancel_iff, Nat.reduceEqDiff, Nat.add_eq_left, Nat.left_eq_add, false_and, true_and, and_true, and_false, ↓reduceIte]; exact l6 k hk
section MNC
variable {G : xCtx} {μ : xMem} {a b f n k c p g F A B S lo hi t : Nat} {π : Nat → Nat} {x y : ST}
theorem con_step (h : SC μ b π n y) (hG : GI y.1 g n F) (hS : SI y.2 A B) (hM : MI (mw y.1 k) S (g - 60) g) (hk : k < n) (hF : F < 2 ^ 31 - 5000) (hg : g < 99990) : ∃ μ', (∀ Q l4 l5, ∃ l4' l5', Rn G 55 15 [some (.ref b), some (.ref (b + 5)), some (.int (nI 8)), some (.int (nI k)), l4, l5] [] μ Q = Rn G 55 101 [some (.ref b), some (.ref (b + 5)), some (.int (nI 8)), some (.int (nI k)), l4', l5'] [] μ' Q) ∧ SC μ' b π n (zCon k y) ∧ FR μ μ' (TP b π k) := by
  have h0 := h
  have hk8 : k < 8 := by have := hG.2.2.1; omega
  have hb := h.hb hk8
  have hb0 := hb
  have hmv := h.2.2.2.1 k hk hk8
  have hrow := (h.2.1.1 k hk8).2
  have hAD : AD b π k = b + 7 + 6 * π k := rfl
  have hlo : b + 7 ≤ AD b π k := by rw [hAD]; omega
  obtain ⟨hSH, hRW, hGV, -, -⟩ := h
  have hSH0 := hSH
  obtain ⟨b0, ⟨b1, u1⟩, ⟨b2, u2⟩, ⟨b3, u3⟩, ⟨b4, u4⟩, ⟨b5, u5⟩, ⟨b6, u6⟩, r0, r1, r2, r3, r4, r5⟩ := hSH
  obtain ⟨m2, m3, m4, m5, m6, m7, m8, m9, m1, f, N, hl⟩ := hmv.w
  obtain ⟨d1, d2, d3, d4, d5⟩ := hM.at (by omega)
  have hN : N = zLts y.1 k := by
    have := hl.2.2.2.2.1
    rw [mw_at (by omega), d4] at this
    exact ((nI_eq (by omega) (by have := hl.2.1; omega)).mp this).symm
  subst hN
  have h79 : y.1 (19 + 75 * k + 9) = 0 ∨ y.1 (19 + 75 * k + 9) = 1 := by
    obtain ⟨-, -, -, -, a5, -⟩ := hM
    rw [mw_at (by omega)] at a5; exact a5
  have hc56 := fun Q => c56 (G := G) (Q := Q) hSH0 hb0 hGV hmv d1 d2
  have hc23 := fun Q => c23 (G := G) (Q := Q) hb0 m2 (by rw [m7]; exact d5.imp id And.left)
  have hG0 := hGV
  obtain ⟨g3, g0, gf, g4, g5, gs, gr, gσ⟩ := hGV
  obtain ⟨d, dd1, dd2⟩ := due_n hG hM d1
  have i4 : xI μ (AD b π k) 4 = nI (zOwn y.1 k) := by rw [m4]; exact d2
  have hbad := hb
  obtain ⟨h0', ⟨h1, e1⟩, h2, ⟨h3', e3⟩, ⟨h4, e4⟩, ⟨h5, e5⟩, p0, p1, p2, p3, p4⟩ := hb
  have hFR : FR μ μ (TP b π k) := FR.rf
  generalize hA : AD b π k = a at *
  generalize hC : zOwn y.1 k = C at *
  generalize hL : zLts y.1 k = N at *
  rcases d5 with h7 | ⟨h7, -⟩
  · have i7 : xI μ a 7 = 0 := by rw [m7]; exact h7
    rcases h79 with h9 | h9
    · have i9 : xI μ a 9 = 0 := by rw [m9]; exact h9
      have hz : zCon k y = (up (up y.1 1 (y.1 1 + nI d)) (19 + 75 * k + (4 + C)) (y.1 (19 + 75 * k + (4 + C)) + 1), up y.2 0 (y.2 0 + (nI d).toInt64)) := by
        unfold zCon; rw [if_pos h7, hC, hL]; unfold zCon1; rw [if_neg (by rw [h9]; decide), dd2]
      obtain ⟨fu, fu1, fu2⟩ := hG.2.2.2.1
      have efu : xJ μ b 8 + (nI d).toInt64 = (nI (fu + d)).toInt64 := by rw [gf, fu1, nI_ladd (by omega)]
      have hc25 := fun Q => c25 (G := G) (Q := Q) (μ := xsJ (xsJ μ b 8 (xJ μ b 8 + (nI d).toInt64)) (b + 6) 0 (xJ μ (b + 6) 0 + (nI d).toInt64)) (a := a) (hb0.of rfl rfl rfl) d1 1
      refine ⟨xsI (xsJ (xsJ μ b 8 (xJ μ b 8 + (nI d).toInt64)) (b + 6) 0 (xJ μ (b + 6) 0 + (nI d).toInt64)) (a + 1) C (xI μ (a + 1) C + 1), fun Q l4 l5 => ⟨some (.ref a), some (.int (nI d)), ?_⟩, ?_, ?_⟩
      · simp (disch := first | assumption | (simp only [MM_Kd, rI_Kd, rJ_Kd, sI_Kd, sJ_Kd, sR_Kd]; assumption) | omega | decide) only [q55_0, q55_0N, q55_1, q55_4, q55_4N, q55_5, q55_5N, q55_6, q55_6T, q55_7, q55_8, q55_9, q55_11, q55_12, q55_15, q55_15N, q55_16, q55_17, q55_18, q55_18N, q55_20, q55_20N, q55_22, q55_25, q55_28, q55_28N, q55_29, q55_29N, q55_31, q55_34, q55_36, q55_36N, q55_38, q55_41, q55_44, q55_44N, q55_46, q55_49, q55_49N, q55_50, q55_53, q55_55, q55_55N, q55_57, q55_60, q55_63, q55_66, q55_66N, q55_67, q55_68, q55_71, q55_73, q55_74, q55_75, q55_78, q55_78N, q55_79, q55_82, q55_83, q55_84, q55_85, q55_87, q55_88, q55_89, q55_90, q55_90N, q55_92, q55_92N, q55_94, q55_97, q55_98, q55_104, q55_107, hrow, u5, hc23, i7, c10, hc56, dd2, i9, sJ_n, i4, hc25, r5, u6, xl0, nc0, rI_Kd, rI_Ln, rI_R, rI_J, rJ_Kd, rJ_Ln, rJ_R, rJ_I, sI_Kd, sI_Ln, sI_R, sI_J, sJ_Kd, sJ_Ln, sJ_R, sJ_I, sR_Kd, sR_Ln, sR_I, sR_J, xaf_s, xaf_v, va_rf_s, xix_n, nI_clamp, xk1_i, xk1_a, xk1_u, xk1_n, xk1_l, xk1_d, true_and, and_true, ↓reduceIte, Nat.reduceAdd, xtup]
      · rw [hz]
        refine h0.step hk hk8 ?_ ?_ ?_ ?_
        · have t1 : TP b π k b := Or.inl rfl
          have t2 : TP b π k (b + 6) := Or.inr (Or.inl rfl)
          have t3 : TP b π k (a + 1) := Or.inr (Or.inr (by rw [hA]; omega))
          exact ((FR.sJ t1).tr (FR.sJ t2)).tr (FR.sI t3)
        · refine hG0.of (fun q q1 q2 => ?_) (fun j hj => ?_) ?_ ?_ (fun j hj => ?_) (fun j hj j1 j4 => ?_)
          · rw [sI_n (by omega)]; rfl
          · rw [sI_n (by omega)]; rfl
          · rw [sI_n (by omega)]; dsimp only; rw [up_n (by omega), up_n (by omega)]; exact g4
          · dsimp only; rw [sI_J, sJ_n (by omega), sJ_e, up_n (by omega), up_e, efu, fu1, nI_add]
          · dsimp only
            rw [sI_J]
            by_cases hj0 : j = 0
            · subst hj0; rw [sJ_e, up_e, gσ 0 (by omega)]
            · rw [sJ_k hj0, up_n hj0, sJ_n (by omega)]; exact gσ j hj
          · dsimp only; rw [up_n (by omega), up_n (by omega)]
        · dsimp only
          have e : y.1 (19 + 75 * k + (4 + C)) = mw y.1 k (4 + C) := (mw_at (by omega)).symm
          rw [hA, mw_in (by omega), mw_out (by omega), e]
          exact MV_serve (μ := xsJ (xsJ μ b 8 (xJ μ b 8 + (nI d).toInt64)) (b + 6) 0 (xJ μ (b + 6) 0 + (nI d).toInt64)) (hmv.of fun q _ _ => rfl) d1
        · intro j _ hj
          dsimp only
          rw [mw_out (by omega), mw_out (by omega)]
      · have t1 : TP b π k b := Or.inl rfl
        have t2 : TP b π k (b + 6) := Or.inr (Or.inl rfl)
        have t3 : TP b π k (a + 1) := Or.inr (Or.inr (by rw [hA]; omega))
        exact ((FR.sJ t1).tr (FR.sJ t2)).tr (FR.sI t3)
    · have i9 : xI μ a 9 = 1 := by rw [m9]; exact h9
      have ew : 16384 * y.1 0 + 4096 * nI C + nI d = nI (16384 * g + 4096 * C + d) := by
        rw [hG.1, show (16384 : Int32) = nI 16384 from rfl, show (4096 : Int32) = nI 4096 from rfl, pk_mul, pk_mul, nI_add, nI_add]
      have hz : zCon k y = (up (up y.1 (19 + 75 * k + (11 + N)) (nI (16384 * g + 4096 * C + d))) (19 + 75 * k + 10) (nI (N + 1)), y.2) := by
        unfold zCon; rw [if_pos h7, hC, hL]; unfold zCon1; rw [if_pos h9, dd2, ew]
      obtain ⟨x1, x2, x3⟩ := wM_n (g := g) (c := C) (d := d) (by omega) d1 (by omega)
      have hc15 := fun Q => c15 (G := G) (Q := Q) hb0 hl (by omega) (nI g) (nI d) (nI C)
      have ig : xI μ b 7 = nI g := by rw [g0]; exact hG.1
      have t0 : ∀ q, a ≤ q → q < a + 6 → TP b π k q := fun q q1 q2 => Or.inr (Or.inr (by rw [hA]; omega))
      have hfr : FR μ (xsI (xsI (xsI (xsI μ (a + 3) ((f + N) % 61) (nI g)) (a + 4) ((f + N) % 61) (nI d)) (a + 5) ((f + N) % 61) (nI C)) (a + 2) 4 (nI (N + 1))) (TP b π k) :=
        (((FR.sI (t0 _ (by omega) (by omega))).tr (FR.sI (t0 _ (by omega) (by omega)))).tr (FR.sI (t0 _ (by omega) (by omega)))).tr (FR.sI (t0 _ (by omega) (by omega)))
      refine ⟨xsI (xsI (xsI (xsI μ (a + 3) ((f + N) % 61) (nI g)) (a + 4) ((f + N) % 61) (nI d)) (a + 5) ((f + N) % 61) (nI C)) (a + 2) 4 (nI (N + 1)), fun Q l4 l5 => ⟨some (.ref a), some (.int (nI d)), ?_⟩, ?_, hfr⟩
      · simp (disch := first | assumption | (simp only [MM_Kd, rI_Kd, rJ_Kd, sI_Kd, sJ_Kd, sR_Kd]; assumption) | omega | decide) only [q55_0, q55_0N, q55_1, q55_4, q55_4N, q55_5, q55_5N, q55_6, q55_6T, q55_7, q55_8, q55_9, q55_11, q55_12, q55_15, q55_15N, q55_16, q55_17, q55_18, q55_18N, q55_20, q55_20N, q55_22, q55_25, q55_28, q55_28N, q55_29, q55_29N, q55_31, q55_34, q55_36, q55_36N, q55_38, q55_41, q55_44, q55_44N, q55_46, q55_49, q55_49N, q55_50, q55_53, q55_55, q55_55N, q55_57, q55_60, q55_63, q55_66, q55_66N, q55_67, q55_68, q55_71, q55_73, q55_74, q55_75, q55_78, q55_78N, q55_79, q55_82, q55_83, q55_84, q55_85, q55_87, q55_88, q55_89, q55_90, q55_90N, q55_92, q55_92N, q55_94, q55_97, q55_98, q55_104, q55_107, hrow, u5, hc23, i7, c10, hc56, dd2, i9, ig, i4, p1, hc15, rI_Kd, rI_Ln, rI_R, rI_J, rJ_Kd, rJ_Ln, rJ_R, rJ_I, sI_Kd, sI_Ln, sI_R, sI_J, sJ_Kd, sJ_Ln, sJ_R, sJ_I, sR_Kd, sR_Ln, sR_I, sR_J, xaf_s, xaf_v, va_rf_s, xix_n, nI_clamp, xk1_i, xk1_a, xk1_u, xk1_n, xk1_l, xk1_d, true_and, and_true, ↓reduceIte, Nat.reduceAdd, xtup]
      · rw [hz]
        refine h0.step hk hk8 hfr ?_ ?_ ?_
        · refine hG0.of (fun q q1 q2 => ?_) (fun j hj => ?_) ?_ ?_ (fun j hj => ?_) (fun j hj j1 j4 => ?_)
          · rw [sI_n (by omega), sI_n (by omega), sI_n (by omega), sI_n (by omega)]
          · rw [sI_n (by omega), sI_n (by omega), sI_n (by omega), sI_n (by omega)]
          · rw [sI_n (by omega), sI_n (by omega), sI_n (by omega), sI_n (by omega)]; dsimp only; rw [up_n (by omega), up_n (by omega)]; exact g4
          · dsimp only; rw [up_n (by omega), up_n (by omega)]; exact gf
          · exact gσ j hj
          · dsimp only; rw [up_n (by omega), up_n (by omega)]
        · dsimp only
          rw [hA, mw_in (by omega), mw_in (by omega)]
          have r := MV_add (w := nI (16384 * g + 4096 * C + d)) hmv hl (by omega)
          rw [x1, x2, x3] at r
          exact r
        · intro j _ hj
          dsimp only
          rw [mw_out (by omega), mw_out (by omega)]
  · have i7 : xI μ a 7 = 1 := by rw [m7]; exact h7
    have hz : zCon k y = y := if_neg (by rw [h7]; decide)
    refine ⟨μ, fun Q l4 l5 => ⟨some (.ref a), l5, ?_⟩, by rw [hz]; exact h0, hFR⟩
    simp (disch := first | assumption | (simp only [MM_Kd, rI_Kd, rJ_Kd, sI_Kd, sJ_Kd, sR_Kd]; assumption) | omega | decide) only [q55_0, q55_0N, q55_1, q55_4, q55_4N, q55_5, q55_5N, q55_6, q55_6T, q55_7, q55_8, q55_9, q55_11, q55_12, q55_15, q55_15N, q55_16, q55_17, q55_18, q55_18N, q55_20, q55_20N, q55_22, q55_25, q55_28, q55_28N, q55_29, q55_29N, q55_31, q55_34, q55_36, q55_36N, q55_38, q55_41, q55_44, q55_44N, q55_46, q55_49, q55_49N, q55_50, q55_53, q55_55, q55_55N, q55_57, q55_60, q55_63, q55_66, q55_66N, q55_67, q55_68, q55_71, q55_73, q55_74, q55_75, q55_78, q55_78N, q55_79, q55_82, q55_83, q55_84, q55_85, q55_87, q55_88, q55_89, q55_90, q55_90N, q55_92, q55_92N, q55_94, q55_97, q55_98, q55_104, q55_107, hrow, u5, hc23, i7, c10, c00, rI_Kd, rI_Ln, rI_R, rI_J, rJ_Kd, rJ_Ln, rJ_R, rJ_I, sI_Kd, sI_Ln, sI_R, sI_J, sJ_Kd, sJ_Ln, sJ_R, sJ_I, sR_Kd, sR_Ln, sR_I, sR_J, xaf_s, xaf_v, va_rf_s, xix_n, nI_clamp, xk1_i, xk1_a, xk1_u, xk1_n, xk1_l, xk1_d, true_and, and_true, ↓reduceIte, Nat.reduceAdd, xtup]
theorem c55 (h : SC μ b π n x) (hI : INV c g n x) (hg : g < 10300) : ∃ μ', (∀ Q, Cn G 55 [.ref b] μ Q = Q (.inl none) μ') ∧ SC μ' b π n (itr zCon n x) ∧ FR μ μ' (BK b) := by
  have hn8 := hI.1.2.2.1
  have key : ∀ k i μ, i + k = 8 → SC μ b π n (itr zCon (min i n) x) → ∃ μ', (∀ Q l4 l5, Rn G 55 10 [some (.ref b), some (.ref (b + 5)), some (.int (nI 8)), some (.int (nI i)), l4, l5] [] μ Q = Q (.inl none) μ') ∧ SC μ' b π n (itr zCon n x) ∧ FR μ μ' (BK b) := by
    intro k
    induction k with
    | zero =>
      intro i μ hi h
      have h2 : 8 ≤ i := by omega
      rw [Nat.min_eq_right (by omega)] at h
      refine ⟨μ, fun Q l4 l5 => ?_, h, FR.rf⟩
      rw [q55_10]
      simp (disch := first | assumption | (simp only [MM_Kd, rI_Kd, rJ_Kd, sI_Kd, sJ_Kd, sR_Kd]; assumption) | omega | decide) only [q55_0, q55_0N, q55_1, q55_4, q55_4N, q55_5, q55_5N, q55_6, q55_6T, q55_7, q55_8, q55_9, q55_11, q55_12, q55_15, q55_15N, q55_16, q55_17, q55_18, q55_18N, q55_20, q55_20N, q55_22, q55_25, q55_28, q55_28N, q55_29, q55_29N, q55_31, q55_34, q55_36, q55_36N, q55_38, q55_41, q55_44, q55_44N, q55_46, q55_49, q55_49N, q55_50, q55_53, q55_55, q55_55N, q55_57, q55_60, q55_63, q55_66, q55_66N, q55_67, q55_68, q55_71, q55_73, q55_74, q55_75, q55_78, q55_78N, q55_79, q55_82, q55_83, q55_84, q55_85, q55_87, q55_88, q55_89, q55_90, q55_90N, q55_92, q55_92N, q55_94, q55_97, q55_98, q55_101, q55_104, q55_107, nI_leI, h2, xaf_s, xaf_v, va_rf_s, xix_n, nI_clamp, xk1_i, xk1_a, xk1_u, xk1_n, xk1_l, xk1_d, true_and, and_true, ↓reduceIte, Nat.reduceAdd, xtup]
    | succ k ih =>
      intro i μ hi h
      have h2 : ¬ 8 ≤ i := by omega
      by_cases hin : i < n
      · rw [Nat.min_eq_left (by omega)] at h
        obtain ⟨p1, p2, p3⟩ := itr_con (S := 10060 + g) ⟨hI.1, hI.2.1, hI.2.2⟩ (by omega) (by omega) i (by omega)
        have m1 := p3 i hin
        dsimp only at m1
        rw [if_neg (by omega)] at m1
        obtain ⟨μ1, s1, s2, s3⟩ := con_step (G := G) h p1 p2 m1 hin (by omega) (by omega)
        have s2' : SC μ1 b π n (itr zCon (min (i + 1) n) x) := by rw [Nat.min_eq_left (by omega)]; exact s2
        obtain ⟨μ', w1, w2, w3⟩ := ih (i + 1) μ1 (by omega) s2'
        refine ⟨μ', fun Q l4 l5 => ?_, w2, (s3.mono (TP_BK (h.2.1.1 i (by omega)).1)).tr w3⟩
        obtain ⟨l4', l5', e⟩ := s1 Q l4 l5
        rw [q55_10]
        simp (disch := first | assumption | (simp only [MM_Kd, rI_Kd, rJ_Kd, sI_Kd, sJ_Kd, sR_Kd]; assumption) | omega | decide) only [q55_0, q55_0N, q55_1, q55_4, q55_4N, q55_5, q55_5N, q55_6, q55_6T, q55_7, q55_8, q55_9, q55_11, q55_12, q55_16, q55_17, q55_18, q55_18N, q55_20, q55_20N, q55_22, q55_25, q55_28, q55_28N, q55_29, q55_29N, q55_31, q55_34, q55_36, q55_36N, q55_38, q55_41, q55_44, q55_44N, q55_46, q55_49, q55_49N, q55_50, q55_53, q55_55, q55_55N, q55_57, q55_60, q55_63, q55_66, q55_66N, q55_67, q55_68, q55_71, q55_73, q55_74, q55_75, q55_78, q55_78N, q55_79, q55_82, q55_83, q55_84, q55_85, q55_87, q55_88, q55_89, q55_90, q55_90N, q55_92, q55_92N, q55_94, q55_97, q55_98, q55_101, q55_104, q55_107, nI_leI, h2, xaf_s, xaf_v, va_rf_s, xix_n, nI_clamp, xk1_i, xk1_a, xk1_u, xk1_n, xk1_l, xk1_d, true_and, and_true, ↓reduceIte, Nat.reduceAdd, xtup]
        rw [e]
        simp (disch := first | assumption | (simp only [MM_Kd, rI_Kd, rJ_Kd, sI_Kd, sJ_Kd, sR_Kd]; assumption) | omega | decide) only [q55_101, q55_104, nI_1, xaf_s, xaf_v, va_rf_s, xix_n, nI_clamp, xk1_i, xk1_a, xk1_u, xk1_n, xk1_l, xk1_d, true_and, and_true, ↓reduceIte, Nat.reduceAdd, xtup]
        exact w1 Q _ _
      · rw [Nat.min_eq_right (by omega)] at h
        have hb := h.hb (show i < 8 by omega)
        have hrow := (h.2.1.1 i (by omega)).2
        have h0 := h.2.2.2.2 i (by omega) (by omega)
        have hc23 := fun Q => c23_0 (G := G) (Q := Q) hb h0
        have b5 := h.1.2.2.2.2.2.1.1
        have u5 := h.1.2.2.2.2.2.1.2
        obtain ⟨h0', -⟩ := hb
        have h' : SC μ b π n (itr zCon (min (i + 1) n) x) := by rw [Nat.min_eq_right (by omega)]; exact h
        obtain ⟨μ', w1, w2, w3⟩ := ih (i + 1) μ (by omega) h'
        refine ⟨μ', fun Q l4 l5 => ?_, w2, w3⟩
        rw [q55_10]
        simp (disch := first | exact Or.inl b5 | first | assumption | (simp only [MM_Kd, rI_Kd, rJ_Kd, sI_Kd, sJ_Kd, sR_Kd]; assumption) | omega | decide) only [q55_0, q55_0N, q55_1, q55_4, q55_4N, q55_5, q55_5N, q55_6, q55_6T, q55_7, q55_8, q55_9, q55_11, q55_12, q55_15, q55_15N, q55_16, q55_17, q55_18, q55_18N, q55_20, q55_20N, q55_22, q55_25, q55_28, q55_28N, q55_29, q55_29N, q55_31, q55_34, q55_36, q55_36N, q55_38, q55_41, q55_44, q55_44N, q55_46, q55_49, q55_49N, q55_50, q55_53, q55_55, q55_55N, q55_57, q55_60, q55_63, q55_66, q55_66N, q55_67, q55_68, q55_71, q55_73, q55_74, q55_75, q55_78, q55_78N, q55_79, q55_82, q55_83, q55_84, q55_85, q55_87, q55_88, q55_89, q55_90, q55_90N, q55_92, q55_92N, q55_94, q55_97, q55_98, q55_101, q55_104, q55_107, nI_leI, h2, hrow, u5, hc23, c00, nI_1, xaf_s, xaf_v, va_rf_s, xix_n, nI_clamp, xk1_i, xk1_a, xk1_u, xk1_n, xk1_l, xk1_d, true_and, and_true, ↓reduceIte, Nat.reduceAdd, xtup]
        exact w1 Q _ _
  have h0 : SC μ b π n (itr zCon (min 0 n) x) := by rw [Nat.zero_min]; exact h
  obtain ⟨μ', w1, w2, w3⟩ := key 8 0 μ (by omega) h0
  refine ⟨μ', fun Q => ?_, w2, w3⟩
  obtain ⟨b0, ⟨b1, u1⟩, ⟨b2, u2⟩, ⟨b3, u3⟩, ⟨b4, u4⟩, ⟨b5, u5⟩, ⟨b6, u6⟩, r0, r1, r2, r3, r4, r5⟩ := h.1
  have w1' := w1 Q none none
  rw [show (nI 0 : Int32) = 0 from rfl] at w1'
  show Rn G 55 0 [some (.ref b), none, none, none, none, none] [] μ Q = _
  simp (disch := first | assumption | (simp only [MM_Kd, rI_Kd, rJ_Kd, sI_Kd, sJ_Kd, sR_Kd]; assumption) | omega | decide) only [q55_0, q55_0N, q55_1, q55_4, q55_4N, q55_5, q55_5N, q55_6, q55_6T, q55_7, q55_8, q55_9, q55_11, q55_12, q55_15, q55_15N, q55_16, q55_17, q55_18, q55_18N, q55_20, q55_20N, q55_22, q55_25, q55_28, q55_28N, q55_29, q55_29N, q55_31, q55_34, q55_36, q55_36N, q55_38, q55_41, q55_44, q55_44N, q55_46, q55_49, q55_49N, q55_50, q55_53, q55_55, q55_55N, q55_57, q55_60, q55_63, q55_66, q55_66N, q55_67, q55_68, q55_71, q55_73, q55_74, q55_75, q55_78, q55_78N, q55_79, q55_82, q55_83, q55_84, q55_85, q55_87, q55_88, q55_89, q55_90, q55_90N, q55_92, q55_92N, q55_94, q55_97, q55_98, q55_101, q55_104, q55_107, r4, u5, xaf_s, xaf_v, va_rf_s, xix_n, nI_clamp, xk1_i, xk1_a, xk1_u, xk1_n, xk1_l, xk1_d, true_and, and_true, ↓reduceIte, Nat.reduceAdd, xtup]
  exact w1'
end MNC
