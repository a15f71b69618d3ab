/-! THE REFERENCE'S READER, METHOD BY METHOD -/
def goY (tx : Nat → Int32) (L : Nat) : Nat → Nat × Bool → Nat × Bool
  | 0, y => y
  | k + 1, y => if (prY tx L y).2 = false ∧ (prY tx L y).1 < L then (if (sg tx L 59 59 (prY tx L y)).2 = false then goY tx L k (sg tx L 59 59 (prY tx L y)) else sg tx L 59 59 (prY tx L y)) else prY tx L y
section TXT
variable {tx : Nat → Int32} {L p q e : Nat} {y : Nat × Bool}
theorem Er.nc (h : Er tx L y) : ¬ pComp tx L := by
  rintro ⟨h1, h2⟩
  rcases h.2.2.2 with ⟨-, z⟩ | ⟨z1, z2⟩
  · exact z h2
  · have := h1 y.1 z1
    rw [z2] at this
    exact absurd this (by decide)
/-- behind a part: a semicolon, or wrong -/
theorem Rd.semi (h : Rd tx L p e y) (hl : e < L) : (tx e = 59 ∧ sg tx L 59 59 (e, false) = (e + 1, false) ∧ At tx L (e + 1) 0) ∨ (tx e ≠ 59 ∧ sg tx L 59 59 (e, false) = (e, true) ∧ Er tx L (e, true)) := by
  obtain ⟨h1, h2, h3, h4, h5, h6, h7, h8, h9, h10, h11⟩ := h
  by_cases h59 : tx e = 59
  · left
    have hb : ¬ bad (tx e) 59 59 := by rw [h59]; exact fun w => w.elim (fun w => absurd w (by decide)) (fun w => absurd w (by decide))
    have hT : rT (tx e) (rS tx r00 e) = (1, up (rS tx r00 e) 0 0) := by
      rcases h5 with z | z
      · rw [rT6 z, if_neg (by rw [h59]; decide), if_pos h59]
      · rw [rT8 z, if_pos h59]
    have hS : rS tx r00 (e + 1) = up (rS tx r00 e) 0 0 := by show (rT (tx e) (rS tx r00 e)).2 = _; rw [hT]
    exact ⟨h59, sg_ok hl hb, by omega, rK_s h4 (by rw [hT]), by rw [hS, up_e]; rfl⟩
  · right
    refine ⟨h59, ?_, rfl, h3, h4, Or.inr ⟨hl, h11 hl h59⟩⟩
    unfold sg
    rw [if_pos (Or.inr ?_)]
    rw [pC_lt hl]
    refine Decidable.byContradiction fun w => h59 ?_
    obtain ⟨k, k1, k2, k3⟩ := rng (v := tx e) (lo := 59) (hi := 59) (by omega) (by omega) w
    rw [k3, show k = 59 by omega]; rfl
theorem goY_ok : ∀ k p, L - p < k → At tx L p 0 → (goY tx L k (p, false) = (L, false) ∧ pComp tx L) ∨ Er tx L (goY tx L k (p, false)) := by
  intro k
  induction k with
  | zero => intro p h; omega
  | succ k ih =>
    intro p hk h
    unfold goY
    rcases part_ok h with he | ⟨e, he⟩
    · right
      rw [if_neg (fun z => by have := he.1.symm.trans z.1; exact absurd this (by decide))]
      exact he
    · have he0 := he
      obtain ⟨h1, h2, h3, h4, h5, h6, h7, h8, h9, h10, h11⟩ := he
      rw [h1]
      by_cases hl : e < L
      · rw [if_pos ⟨rfl, hl⟩]
        rcases he0.semi hl with ⟨z1, z2, z3⟩ | ⟨z1, z2, z3⟩
        · rw [z2, if_pos rfl]
          exact ih (e + 1) (by omega) z3
        · rw [z2, if_neg (show ¬ true = false by decide)]
          exact Or.inr z3
      · left
        have e1 : e = L := by omega
        subst e1
        rw [if_neg (fun z => hl z.2)]
        exact ⟨rfl, h4, h5⟩
theorem rOk_skip {n n' : Nat} {x x' : ST} : ∀ d p k, (∀ i, p ≤ i → i < p + d → tx i ≠ 59) → (rOk tx r00 (d + k) p n x n' x' ↔ rOk tx r00 k (p + d) n x n' x') := by
  intro d
  induction d with
  | zero => intro p k h; rw [Nat.zero_add, Nat.add_zero]
  | succ d ih =>
    intro p k h
    rw [show d + 1 + k = (d + k) + 1 by omega]
    have h0 := h p (Nat.le_refl p) (by omega)
    have : rOk tx r00 (d + k + 1) p n x n' x' = rOk tx r00 (d + k) (p + 1) n x n' x' := by
      show (if tx p = 59 then _ else _) = _
      rw [if_neg h0]
    rw [this, show p + (d + 1) = (p + 1) + d by omega]
    exact ih (p + 1) k fun i h1 h2 => h i (by omega) (by omega)
end TXT
def b01 (b : Bool) : Int32 := if b = true then 1 else 0
/-- the reference's reader stands at y -/
def PR (f : Nat → Int32) (L : Nat) (y : Nat × Bool) : Prop := f 9 = nI L ∧ f 10 = nI y.1 ∧ f 11 = b01 y.2 ∧ y.1 ≤ L
def fw (f f' : Nat → Int32) : Prop := ∀ j, j ≠ 10 → j ≠ 11 → f' j = f j
def fp (f f' : Nat → Int32) : Prop := ∀ j, j < 10 ∨ 15 < j → f' j = f j
theorem fw.fp {f f' : Nat → Int32} (h : fw f f') : fp f f' := fun j hj => h j (by omega) (by omega)
theorem fw.tr {f f' f'' : Nat → Int32} (h : fw f f') (h' : fw f' f'') : fw f f'' := fun j h1 h2 => (h' j h1 h2).trans (h j h1 h2)
theorem fp.tr {f f' f'' : Nat → Int32} (h : fp f f') (h' : fp f' f'') : fp f f'' := fun j hj => (h' j hj).trans (h j hj)
theorem fp.up {f : Nat → Int32} {k : Nat} {v : Int32} (h : 10 ≤ k) (h2 : k ≤ 15) : fp f (up f k v) := fun j hj => up_n (by omega)
theorem PR.up {f : Nat → Int32} {L k : Nat} {y : Nat × Bool} {v : Int32} (h : PR f L y) (hk : 11 < k) : PR (up f k v) L y := ⟨by rw [up_n (by omega)]; exact h.1, by rw [up_n (by omega)]; exact h.2.1, by rw [up_n (by omega)]; exact h.2.2.1, h.2.2.2⟩
theorem b01_0 {b : Bool} : (b01 b = 0) = (b = false) := by cases b <;> decide
section RRD
variable {G : xCtx} {μ : xMem} {Q : xOut → xMem → Prop} {m L n g c p t F : Nat} {x : ST} {s : Nat → Int32} {σ : Nat → Int64} {tx f : Nat → Int32} {y : Nat × Bool}
theorem MSr (hm : MS μ m) : MS (xrI μ m f) m := hm
theorem s152 (hm : MS μ m) (hL : L ≤ 60) (htx : ∀ k, k < L → xI μ (m + 7) k = tx k) (h : PR f L y) {lo hi : Int32} (hlo : 0 < lo) : ∃ f', (∀ Q, Cn G 152 [.ref m, .int lo, .int hi] (MM (xrI μ m f) m s σ) Q = Q (.inl (some (.int (pC tx L y.1)))) (MM (xrI μ m f') m s σ)) ∧ PR f' L (sg tx L lo hi y) ∧ fw f f' := by
  obtain ⟨k0, ⟨k1, n1⟩, ⟨k2, n2⟩, -, ⟨k4, n4⟩, ⟨k5, n5⟩, -, ⟨k7, n7⟩, r1, r2, -, r4, r5, -, r8⟩ := hm
  obtain ⟨at', b⟩ := y
  obtain ⟨f9, f10, f11, hy⟩ := h
  dsimp only at f10 f11 hy ⊢
  have hge : ¬ m = m + 1 := by omega
  have hrow : xI (xrI μ m f) (m + 7) = xI μ (m + 7) := rI_n (by omega)
  have a0 : nI at' + 0 = nI at' := nI_a0 _
  by_cases hp : at' < L
  · have h2 : ¬ L ≤ at' := by omega
    have hc := htx at' hp
    rw [pC_lt hp]
    cases b with
    | true =>
      have f11 : f 11 = 1 := f11
      refine ⟨up (up f 11 1) 10 (nI at'), fun Q => ?_, ?_, fun j h1 h2 => by rw [up_n h1, up_n h2]⟩
      · show Rn G 152 0 [some (.ref m), some (.int lo), some (.int hi), none] [] (MM (xrI μ m f) m s σ) Q = _
        simp (disch := first | exact Or.inr rfl | exact Or.inl rfl | first | assumption | (simp only [MM_Kd, rI_Kd, rJ_Kd, sI_Kd, sJ_Kd, sR_Kd, SV_Kd]; assumption) | omega | decide) only [q152_0, q152_0N, q152_1, q152_4, q152_4N, q152_5, q152_8, q152_11, q152_11N, q152_12, q152_15, q152_15N, q152_16, q152_19, q152_19T, q152_20, q152_23, q152_24, q152_25, q152_25N, q152_26, q152_26N, q152_27, q152_30, q152_33, q152_34, q152_35, q152_36, q152_39, q152_42, q152_43, q152_46, q152_47, q152_50, q152_50N, q152_51, q152_52, q152_55, q152_55N, q152_56, q152_59, q152_62, q152_63, q152_66, q152_67, q152_68, q152_71, q152_72, MM_Io, MM_sIo, rI_sI, rI_e, up_e, up_n, f9, f10, f11, nI_leI, h2, MM_R, MM_Ln, r8, n7, hrow, hc, c10, a0, not_false_eq_true, rI_Kd, rI_Ln, rI_R, rI_J, rJ_Kd, rJ_Ln, rJ_R, rJ_I, sI_Kd, sI_Ln, sI_R, sI_J, sJ_Kd, sJ_Ln, sJ_R, sJ_I, sR_Kd, sR_Ln, sR_I, sR_J, xaf_s, xaf_v, va_rf_s, xix_n, nI_clamp, xk1_i, xk1_a, xk1_u, xk1_n, xk1_l, xk1_d, true_and, and_true, ↓reduceIte, Nat.reduceAdd, xtup]
      · have e : sg tx L lo hi (at', true) = (at', true) := by unfold sg; rw [if_pos (Or.inl rfl)]
        rw [e]
        exact ⟨by rw [up_n (by omega), up_n (by omega)]; exact f9, by rw [up_e], by rw [up_n (by omega), up_e]; rfl, hy⟩
    | false =>
      have f11 : f 11 = 0 := f11
      by_cases hb : bad (tx at') lo hi
      · refine ⟨up (up f 11 1) 10 (nI at'), fun Q => ?_, ?_, fun j h1 h2 => by rw [up_n h1, up_n h2]⟩
        · show Rn G 152 0 [some (.ref m), some (.int lo), some (.int hi), none] [] (MM (xrI μ m f) m s σ) Q = _
          simp (disch := first | exact Or.inr rfl | exact Or.inl rfl | first | assumption | (simp only [MM_Kd, rI_Kd, rJ_Kd, sI_Kd, sJ_Kd, sR_Kd, SV_Kd]; assumption) | omega | decide) only [q152_0, q152_0N, q152_1, q152_4, q152_4N, q152_5, q152_8, q152_11, q152_11N, q152_12, q152_15, q152_15N, q152_16, q152_19, q152_19T, q152_20, q152_23, q152_24, q152_25, q152_25N, q152_26, q152_26N, q152_27, q152_30, q152_33, q152_34, q152_35, q152_36, q152_39, q152_42, q152_43, q152_46, q152_47, q152_50, q152_50N, q152_51, q152_52, q152_55, q152_55N, q152_56, q152_59, q152_62, q152_63, q152_66, q152_67, q152_68, q152_71, q152_72, MM_Io, MM_sIo, rI_sI, rI_e, up_e, up_n, f9, f10, f11, nI_leI, h2, MM_R, MM_Ln, r8, n7, hrow, hc, c10, c00, s110, in_0 hb, a0, not_true_eq_false, not_false_eq_true, rI_Kd, rI_Ln, rI_R, rI_J, rJ_Kd, rJ_Ln, rJ_R, rJ_I, sI_Kd, sI_Ln, sI_R, sI_J, sJ_Kd, sJ_Ln, sJ_R, sJ_I, sR_Kd, sR_Ln, sR_I, sR_J, xaf_s, xaf_v, va_rf_s, xix_n, nI_clamp, xk1_i, xk1_a, xk1_u, xk1_n, xk1_l, xk1_d, true_and, and_true, ↓reduceIte, Nat.reduceAdd, xtup]
        · have e : sg tx L lo hi (at', false) = (at', true) := by unfold sg; rw [if_pos (Or.inr (by rw [pC_lt hp]; exact hb))]
          rw [e]
          exact ⟨by rw [up_n (by omega), up_n (by omega)]; exact f9, by rw [up_e], by rw [up_n (by omega), up_e]; rfl, hy⟩
      · refine ⟨up (up f 11 0) 10 (nI (at' + 1)), fun Q => ?_, ?_, fun j h1 h2 => by rw [up_n h1, up_n h2]⟩
        · show Rn G 152 0 [some (.ref m), some (.int lo), some (.int hi), none] [] (MM (xrI μ m f) m s σ) Q = _
          simp (disch := first | exact Or.inr rfl | exact Or.inl rfl | first | assumption | (simp only [MM_Kd, rI_Kd, rJ_Kd, sI_Kd, sJ_Kd, sR_Kd, SV_Kd]; assumption) | omega | decide) only [q152_0, q152_0N, q152_1, q152_4, q152_4N, q152_5, q152_8, q152_11, q152_11N, q152_12, q152_15, q152_15N, q152_16, q152_19, q152_19T, q152_20, q152_23, q152_24, q152_25, q152_25N, q152_26, q152_26N, q152_27, q152_30, q152_33, q152_34, q152_35, q152_36, q152_39, q152_42, q152_43, q152_46, q152_47, q152_50, q152_50N, q152_51, q152_52, q152_55, q152_55N, q152_56, q152_59, q152_62, q152_63, q152_66, q152_67, q152_68, q152_71, q152_72, MM_Io, MM_sIo, rI_sI, rI_e, up_e, up_n, f9, f10, f11, nI_leI, h2, MM_R, MM_Ln, r8, n7, hrow, hc, c10, c00, s110, in_1 hb, nI_1, not_true_eq_false, not_false_eq_true, rI_Kd, rI_Ln, rI_R, rI_J, rJ_Kd, rJ_Ln, rJ_R, rJ_I, sI_Kd, sI_Ln, sI_R, sI_J, sJ_Kd, sJ_Ln, sJ_R, sJ_I, sR_Kd, sR_Ln, sR_I, sR_J, xaf_s, xaf_v, va_rf_s, xix_n, nI_clamp, xk1_i, xk1_a, xk1_u, xk1_n, xk1_l, xk1_d, true_and, and_true, ↓reduceIte, Nat.reduceAdd, xtup]
        · rw [sg_ok hp hb]
          exact ⟨by rw [up_n (by omega), up_n (by omega)]; exact f9, by rw [up_e], by rw [up_n (by omega), up_e]; rfl, by dsimp only; omega⟩
  · have h2 : L ≤ at' := by omega
    have e0 : pC tx L at' = 0 := if_neg hp
    have hb : bad 0 lo hi := Or.inl hlo
    have e : sg tx L lo hi (at', b) = (at', true) := by unfold sg; rw [if_pos (Or.inr (by rw [e0]; exact hb))]
    rw [e0, e]
    refine ⟨up (up f 11 1) 10 (nI at'), fun Q => ?_, ⟨by rw [up_n (by omega), up_n (by omega)]; exact f9, by rw [up_e], by rw [up_n (by omega), up_e]; rfl, hy⟩, fun j h1 h2 => by rw [up_n h1, up_n h2]⟩
    show Rn G 152 0 [some (.ref m), some (.int lo), some (.int hi), none] [] (MM (xrI μ m f) m s σ) Q = _
    cases b with
    | true =>
      have f11 : f 11 = 1 := f11
      simp (disch := first | exact Or.inr rfl | exact Or.inl rfl | first | assumption | (simp only [MM_Kd, rI_Kd, rJ_Kd, sI_Kd, sJ_Kd, sR_Kd, SV_Kd]; assumption) | omega | decide) only [q152_0, q152_0N, q152_1, q152_4, q152_4N, q152_5, q152_8, q152_11, q152_11N, q152_12, q152_15, q152_15N, q152_16, q152_19, q152_19T, q152_20, q152_23, q152_24, q152_25, q152_25N, q152_26, q152_26N, q152_27, q152_30, q152_33, q152_34, q152_35, q152_36, q152_39, q152_42, q152_43, q152_46, q152_47, q152_50, q152_50N, q152_51, q152_52, q152_55, q152_55N, q152_56, q152_59, q152_62, q152_63, q152_66, q152_67, q152_68, q152_71, q152_72, MM_Io, MM_sIo, rI_sI, rI_e, up_e, up_n, f9, f10, f11, nI_leI, h2, c10, a0, not_false_eq_true, rI_Kd, rI_Ln, rI_R, rI_J, rJ_Kd, rJ_Ln, rJ_R, rJ_I, sI_Kd, sI_Ln, sI_R, sI_J, sJ_Kd, sJ_Ln, sJ_R, sJ_I, sR_Kd, sR_Ln, sR_I, sR_J, xaf_s, xaf_v, va_rf_s, xix_n, nI_clamp, xk1_i, xk1_a, xk1_u, xk1_n, xk1_l, xk1_d, true_and, and_true, ↓reduceIte, Nat.reduceAdd, xtup]
    | false =>
      have f11 : f 11 = 0 := f11
      simp (disch := first | exact Or.inr rfl | exact Or.inl rfl | first | assumption | (simp only [MM_Kd, rI_Kd, rJ_Kd, sI_Kd, sJ_Kd, sR_Kd, SV_Kd]; assumption) | omega | decide) only [q152_0, q152_0N, q152_1, q152_4, q152_4N, q152_5, q152_8, q152_11, q152_11N, q152_12, q152_15, q152_15N, q152_16, q152_19, q152_19T, q152_20, q152_23, q152_24, q152_25, q152_25N, q152_26, q152_26N, q152_27, q152_30, q152_33, q152_34, q152_35, q152_36, q152_39, q152_42, q152_43, q152_46, q152_47, q152_50, q152_50N, q152_51, q152_52, q152_55, q152_55N, q152_56, q152_59, q152_62, q152_63, q152_66, q152_67, q152_68, q152_71, q152_72, MM_Io, MM_sIo, rI_sI, rI_e, up_e, up_n, f9, f10, f11, nI_leI, h2, c10, c00, s110, in_0 hb, a0, not_true_eq_false, not_false_eq_true, rI_Kd, rI_Ln, rI_R, rI_J, rJ_Kd, rJ_Ln, rJ_R, rJ_I, sI_Kd, sI_Ln, sI_R, sI_J, sJ_Kd, sJ_Ln, sJ_R, sJ_I, sR_Kd, sR_Ln, sR_I, sR_J, xaf_s, xaf_v, va_rf_s, xix_n, nI_clamp, xk1_i, xk1_a, xk1_u, xk1_n, xk1_l, xk1_d, true_and, and_true, ↓reduceIte, Nat.reduceAdd, xtup]
theorem s153 (hm : MS μ m) (hL : L ≤ 60) (htx : ∀ k, k < L → xI μ (m + 7) k = tx k) (h : PR f L y) {lo hi : Int32} : Cn G 153 [.ref m, .int lo, .int hi] (MM (xrI μ m f) m s σ) Q = Q (.inl (some (.int (if nx tx L lo hi y then 1 else 0)))) (MM (xrI μ m f) m s σ) := by
  obtain ⟨k0, ⟨k1, n1⟩, ⟨k2, n2⟩, -, ⟨k4, n4⟩, ⟨k5, n5⟩, -, ⟨k7, n7⟩, r1, r2, -, r4, r5, -, r8⟩ := hm
  obtain ⟨at', b⟩ := y
  obtain ⟨f9, f10, f11, hy⟩ := h
  dsimp only at f10 f11 hy
  have hge : ¬ m = m + 1 := by omega
  have hrow : xI (xrI μ m f) (m + 7) = xI μ (m + 7) := rI_n (by omega)
  show Rn G 153 0 [some (.ref m), some (.int lo), some (.int hi)] [] (MM (xrI μ m f) m s σ) Q = _
  cases b with
  | true =>
    have f11 : f 11 = 1 := f11
    rw [if_neg (fun z : nx tx L lo hi (at', true) => by exact absurd z.1 (by simp))]
    simp (disch := first | exact Or.inr rfl | exact Or.inl rfl | first | assumption | (simp only [MM_Kd, rI_Kd, rJ_Kd, sI_Kd, sJ_Kd, sR_Kd, SV_Kd]; assumption) | omega | decide) only [q153_0, q153_0N, q153_1, q153_4, q153_7, q153_7N, q153_8, q153_11, q153_11N, q153_12, q153_15, q153_18, q153_18N, q153_19, q153_22, q153_22N, q153_23, q153_26, q153_26T, q153_27, q153_28, q153_29, q153_32, q153_35, q153_36, q153_39, q153_40, MM_Io, rI_e, f11, c10, not_false_eq_true, rI_Kd, rI_Ln, rI_R, rI_J, rJ_Kd, rJ_Ln, rJ_R, rJ_I, sI_Kd, sI_Ln, sI_R, sI_J, sJ_Kd, sJ_Ln, sJ_R, sJ_I, sR_Kd, sR_Ln, sR_I, sR_J, xaf_s, xaf_v, va_rf_s, xix_n, nI_clamp, xk1_i, xk1_a, xk1_u, xk1_n, xk1_l, xk1_d, true_and, and_true, ↓reduceIte, Nat.reduceAdd, xtup]
  | false =>
    have f11 : f 11 = 0 := f11
    by_cases hp : at' < L
    · have h2 : ¬ L ≤ at' := by omega
      have hc := htx at' hp
      by_cases hb : bad (tx at') lo hi
      · rw [if_neg (fun z : nx tx L lo hi (at', false) => z.2.2 hb)]
        simp (disch := first | exact Or.inr rfl | exact Or.inl rfl | first | assumption | (simp only [MM_Kd, rI_Kd, rJ_Kd, sI_Kd, sJ_Kd, sR_Kd, SV_Kd]; assumption) | omega | decide) only [q153_0, q153_0N, q153_1, q153_4, q153_7, q153_7N, q153_8, q153_11, q153_11N, q153_12, q153_15, q153_18, q153_18N, q153_19, q153_22, q153_22N, q153_23, q153_26, q153_26T, q153_27, q153_28, q153_29, q153_32, q153_35, q153_36, q153_39, q153_40, MM_Io, rI_e, f9, f10, f11, nI_leI, h2, MM_R, MM_Ln, r8, n7, hrow, hc, c10, c00, s110, in_0 hb, not_true_eq_false, not_false_eq_true, rI_Kd, rI_Ln, rI_R, rI_J, rJ_Kd, rJ_Ln, rJ_R, rJ_I, sI_Kd, sI_Ln, sI_R, sI_J, sJ_Kd, sJ_Ln, sJ_R, sJ_I, sR_Kd, sR_Ln, sR_I, sR_J, xaf_s, xaf_v, va_rf_s, xix_n, nI_clamp, xk1_i, xk1_a, xk1_u, xk1_n, xk1_l, xk1_d, true_and, and_true, ↓reduceIte, Nat.reduceAdd, xtup]
      · rw [if_pos (⟨rfl, hp, hb⟩ : nx tx L lo hi (at', false))]
        simp (disch := first | exact Or.inr rfl | exact Or.inl rfl | first | assumption | (simp only [MM_Kd, rI_Kd, rJ_Kd, sI_Kd, sJ_Kd, sR_Kd, SV_Kd]; assumption) | omega | decide) only [q153_0, q153_0N, q153_1, q153_4, q153_7, q153_7N, q153_8, q153_11, q153_11N, q153_12, q153_15, q153_18, q153_18N, q153_19, q153_22, q153_22N, q153_23, q153_26, q153_26T, q153_27, q153_28, q153_29, q153_32, q153_35, q153_36, q153_39, q153_40, MM_Io, rI_e, f9, f10, f11, nI_leI, h2, MM_R, MM_Ln, r8, n7, hrow, hc, c10, c00, s110, in_1 hb, not_true_eq_false, not_false_eq_true, rI_Kd, rI_Ln, rI_R, rI_J, rJ_Kd, rJ_Ln, rJ_R, rJ_I, sI_Kd, sI_Ln, sI_R, sI_J, sJ_Kd, sJ_Ln, sJ_R, sJ_I, sR_Kd, sR_Ln, sR_I, sR_J, xaf_s, xaf_v, va_rf_s, xix_n, nI_clamp, xk1_i, xk1_a, xk1_u, xk1_n, xk1_l, xk1_d, true_and, and_true, ↓reduceIte, Nat.reduceAdd, xtup]
    · have h2 : L ≤ at' := by omega
      rw [if_neg (fun z : nx tx L lo hi (at', false) => hp z.2.1)]
      simp (disch := first | exact Or.inr rfl | exact Or.inl rfl | first | assumption | (simp only [MM_Kd, rI_Kd, rJ_Kd, sI_Kd, sJ_Kd, sR_Kd, SV_Kd]; assumption) | omega | decide) only [q153_0, q153_0N, q153_1, q153_4, q153_7, q153_7N, q153_8, q153_11, q153_11N, q153_12, q153_15, q153_18, q153_18N, q153_19, q153_22, q153_22N, q153_23, q153_26, q153_26T, q153_27, q153_28, q153_29, q153_32, q153_35, q153_36, q153_39, q153_40, MM_Io, rI_e, f9, f10, f11, nI_leI, h2, c10, c00, not_true_eq_false, not_false_eq_true, rI_Kd, rI_Ln, rI_R, rI_J, rJ_Kd, rJ_Ln, rJ_R, rJ_I, sI_Kd, sI_Ln, sI_R, sI_J, sJ_Kd, sJ_Ln, sJ_R, sJ_I, sR_Kd, sR_Ln, sR_I, sR_J, xaf_s, xaf_v, va_rf_s, xix_n, nI_clamp, xk1_i, xk1_a, xk1_u, xk1_n, xk1_l, xk1_d, true_and, and_true, ↓reduceIte, Nat.reduceAdd, xtup]
theorem s154_loop (hm : MS μ m) (hL : L ≤ 60) (htx : ∀ k, k < L → xI μ (m + 7) k = tx k) {D : Nat} (hD : D ≤ 5) : ∀ k i v y f, i + k = D → PR f L y → ∃ f', (∀ Q, Rn G 154 14 [some (.ref m), some (.int (nI D)), some (.int v), some (.int (nI i))] [] (MM (xrI μ m f) m s σ) Q = Q (.inl (some (.int (nmL tx L k (v, y)).1))) (MM (xrI μ m f') m s σ)) ∧ PR f' L (nmL tx L k (v, y)).2 ∧ fw f f' := by
  have k0 := hm.1
  intro k
  induction k with
  | zero =>
    intro i v y f hi h
    have h2 : D ≤ i := by omega
    refine ⟨f, fun Q => ?_, h, fun j _ _ => rfl⟩
    rw [q154_14]
    simp (disch := first | assumption | (simp only [MM_Kd, rI_Kd, rJ_Kd, sI_Kd, sJ_Kd, sR_Kd, SV_Kd]; assumption) | omega | decide) only [q154_0, q154_0N, q154_1, q154_3, q154_5, q154_8, q154_10, q154_11, q154_12, q154_13, q154_15, q154_16, q154_19, q154_19N, q154_20, q154_22, q154_24, q154_27, q154_30, q154_32, q154_33, q154_34, q154_34N, q154_35, q154_37, q154_39, q154_42, q154_43, q154_45, q154_46, q154_47, q154_50, q154_53, q154_54, nI_leI, h2, nmL, xaf_s, xaf_v, va_rf_s, xix_n, nI_clamp, xk1_i, xk1_a, xk1_u, xk1_n, xk1_l, xk1_d, true_and, and_true, ↓reduceIte, Nat.reduceAdd, xtup]
  | succ k ih =>
    intro i v y f hi h
    have h2 : ¬ D ≤ i := by omega
    have h153 := fun Q => s153 (G := G) (Q := Q) (s := s) (σ := σ) hm hL htx h (lo := 48) (hi := 57)
    by_cases hn : nx tx L 48 57 y
    · have h153' := fun Q => (h153 Q).trans (by rw [if_pos hn])
      obtain ⟨f1, w1, w2, w3⟩ := s152 (G := G) (s := s) (σ := σ) hm hL htx h (lo := 48) (hi := 57) (by decide)
      obtain ⟨f', v1, v2, v3⟩ := ih (i + 1) (10 * v + pC tx L y.1 - 48) (sg tx L 48 57 y) f1 (by omega) w2
      have e : nmL tx L (k + 1) (v, y) = nmL tx L k (10 * v + pC tx L y.1 - 48, sg tx L 48 57 y) := by
        show (if nx tx L 48 57 y then _ else _) = _
        rw [if_pos hn]
      rw [e]
      refine ⟨f', fun Q => ?_, v2, w3.tr v3⟩
      rw [q154_14]
      simp (disch := first | assumption | (simp only [MM_Kd, rI_Kd, rJ_Kd, sI_Kd, sJ_Kd, sR_Kd, SV_Kd]; assumption) | omega | decide) only [q154_0, q154_0N, q154_1, q154_3, q154_5, q154_8, q154_10, q154_11, q154_12, q154_13, q154_15, q154_16, q154_19, q154_19N, q154_20, q154_22, q154_24, q154_27, q154_30, q154_32, q154_33, q154_34, q154_34N, q154_35, q154_37, q154_39, q154_42, q154_43, q154_45, q154_46, q154_47, q154_50, q154_53, q154_54, nI_leI, h2, h153', w1, c10, nI_1, xaf_s, xaf_v, va_rf_s, xix_n, nI_clamp, xk1_i, xk1_a, xk1_u, xk1_n, xk1_l, xk1_d, true_and, and_true, ↓reduceIte, Nat.reduceAdd, xtup]
      exact v1 Q
    · have h153' := fun Q => (h153 Q).trans (by rw [if_neg hn])
      have e : nmL tx L (k + 1) (v, y) = (v, y) := by
        show (if nx tx L 48 57 y then _ else _) = _
        rw [if_neg hn]
      rw [e]
      refine ⟨f, fun Q => ?_, h, fun j _ _ => rfl⟩
      rw [q154_14]
      simp (disch := first | assumption | (simp only [MM_Kd, rI_Kd, rJ_Kd, sI_Kd, sJ_Kd, sR_Kd, SV_Kd]; assumption) | omega | decide) only [q154_0, q154_0N, q154_1, q154_3, q154_5, q154_8, q154_10, q154_11, q154_12, q154_13, q154_15, q154_16, q154_19, q154_19N, q154_20, q154_22, q154_24, q154_27, q154_30, q154_32, q154_33, q154_34, q154_34N, q154_35, q154_37, q154_39, q154_42, q154_43, q154_45, q154_46, q154_47, q154_50, q154_53, q154_54, nI_leI, h2, h153', c00, xaf_s, xaf_v, va_rf_s, xix_n, nI_clamp, xk1_i, xk1_a, xk1_u, xk1_n, xk1_l, xk1_d, true_and, and_true, ↓reduceIte, Nat.reduceAdd, xtup]
theorem s154 (hm : MS μ m) (hL : L ≤ 60) (htx : ∀ k, k < L → xI μ (m + 7) k = tx k) {D : Nat} (hD : D ≤ 5) (hD1 : 1 ≤ D) (h : PR f L y) : ∃ f', (∀ Q, Cn G 154 [.ref m, .int (nI D)] (MM (xrI μ m f) m s σ) Q = Q (.inl (some (.int (num tx L D y).1))) (MM (xrI μ m f') m s σ)) ∧ PR f' L (num tx L D y).2 ∧ fw f f' := by
  have k0 := hm.1
  obtain ⟨f1, w1, w2, w3⟩ := s152 (G := G) (s := s) (σ := σ) hm hL htx h (lo := 49) (hi := 57) (by decide)
  obtain ⟨f', v1, v2, v3⟩ := s154_loop (G := G) (s := s) (σ := σ) hm hL htx hD (D - 1) 1 (pC tx L y.1 - 48) (sg tx L 49 57 y) f1 (by omega) w2
  refine ⟨f', fun Q => ?_, v2, w3.tr v3⟩
  have v1' := v1 Q
  rw [show (nI 1 : Int32) = 1 from rfl] at v1'
  show Rn G 154 0 [some (.ref m), some (.int (nI D)), none, none] [] (MM (xrI μ m f) m s σ) Q = _
  simp (disch := first | assumption | (simp only [MM_Kd, rI_Kd, rJ_Kd, sI_Kd, sJ_Kd, sR_Kd, SV_Kd]; assumption) | omega | decide) only [q154_0, q154_0N, q154_1, q154_3, q154_5, q154_8, q154_10, q154_11, q154_12, q154_13, q154_15, q154_16, q154_19, q154_19N, q154_20, q154_22, q154_24, q154_27, q154_30, q154_32, q154_33, q154_34, q154_34N, q154_35, q154_37, q154_39, q154_42, q154_43, q154_45, q154_46, q154_47, q154_50, q154_53, q154_54, w1, xaf_s, xaf_v, va_rf_s, xix_n, nI_clamp, xk1_i, xk1_a, xk1_u, xk1_n, xk1_l, xk1_d, true_and, and_true, ↓reduceIte, Nat.reduceAdd, xtup]
  exact v1'
theorem s155 (hm : MS μ m) (hL : L ≤ 60) (htx : ∀ k, k < L → xI μ (m + 7) k = tx k) (h : PR f L y) : ∃ f', (∀ Q, Cn G 155 [.ref m] (MM (xrI μ m f) m s σ) Q = Q (.inl none) (MM (xrI μ m f') m s σ)) ∧ PR f' L (prY tx L y) ∧ fp f f' ∧ f' 12 = prP tx L y ∧ f' 13 = prS tx L y ∧ f' 14 = prA tx L y ∧ f' 15 = prM tx L y := by
  have k0 := hm.1
  obtain ⟨f1, u1, p1, e1⟩ := s154 (G := G) (s := s) (σ := σ) hm hL htx (D := 4) (by omega) (by omega) h
  have p1' := p1.up (k := 12) (v := prP tx L y) (by omega)
  obtain ⟨f2, u2, p2, e2⟩ := s152 (G := G) (s := s) (σ := σ) hm hL htx p1' (lo := 115) (hi := 115) (by decide)
  obtain ⟨f3, u3, p3, e3⟩ := s152 (G := G) (s := s) (σ := σ) hm hL htx p2 (lo := 48) (hi := 50) (by decide)
  have p3' := p3.up (k := 13) (v := prS tx L y) (by omega)
  obtain ⟨f4, u4, p4, e4⟩ := s152 (G := G) (s := s) (σ := σ) hm hL htx p3' (lo := 97) (hi := 97) (by decide)
  obtain ⟨f5, u5, p5, e5⟩ := s152 (G := G) (s := s) (σ := σ) hm hL htx p4 (lo := 49) (hi := 55) (by decide)
  have hlo : (0 : Int32) < (if prT tx L y = 1 then 54 else 48) := by split <;> decide
  obtain ⟨f6, u6, p6, e6⟩ := s152 (G := G) (s := s) (σ := σ) hm hL htx p5 (lo := if prT tx L y = 1 then 54 else 48) (hi := 57) hlo
  have p6' : PR (up f6 14 (prA tx L y)) L (pr6 tx L y) := p6.up (k := 14) (v := prA tx L y) (by omega)
  have h153 := fun Q => s153 (G := G) (Q := Q) (s := s) (σ := σ) hm hL htx p6' (lo := 43) (hi := 43)
  have z4 : (4 : Int32) = nI 4 := rfl
  have z5 : (5 : Int32) = nI 5 := rfl
  have d1 : (num tx L 4 y).1 = prP tx L y := rfl
  have d2 : pC tx L (pr2 tx L y).1 - 48 = prS tx L y := rfl
  have d3 : pC tx L (pr4 tx L y).1 - 48 = prT tx L y := rfl
  have d4 : pC tx L (pr5 tx L y).1 - 48 = prO tx L y := rfl
  have d5 : 12 * (10 * prT tx L y + prO tx L y) = prA tx L y := rfl
  have u2 : ∀ Q, Cn G 152 [.ref m, .int 115, .int 115] (MM (xrI μ m (up f1 12 (prP tx L y))) m s σ) Q = Q (.inl (some (.int (pC tx L (num tx L 4 y).2.1)))) (MM (xrI μ m f2) m s σ) := u2
  have u3 : ∀ Q, Cn G 152 [.ref m, .int 48, .int 50] (MM (xrI μ m f2) m s σ) Q = Q (.inl (some (.int (pC tx L (pr2 tx L y).1)))) (MM (xrI μ m f3) m s σ) := u3
  have u5 : ∀ Q, Cn G 152 [.ref m, .int 49, .int 55] (MM (xrI μ m f4) m s σ) Q = Q (.inl (some (.int (pC tx L (pr4 tx L y).1)))) (MM (xrI μ m f5) m s σ) := u5
  have u6 : ∀ Q, Cn G 152 [.ref m, .int (if prT tx L y = 1 then 54 else 48), .int 57] (MM (xrI μ m f5) m s σ) Q = Q (.inl (some (.int (pC tx L (pr5 tx L y).1)))) (MM (xrI μ m f6) m s σ) := u6
  have hten : ∀ Q, Rn G 155 54 [some (.ref m), some (.int (pC tx L (sg tx L 48 50 (pr2 tx L y)).1)), some (.int (prT tx L y)), none, none, none] [] (MM (xrI μ m f5) m s σ) Q = Rn G 155 67 [some (.ref m), some (.int (pC tx L (sg tx L 48 50 (pr2 tx L y)).1)), some (.int (prT tx L y)), none, none, none] [.int (if prT tx L y = 1 then 54 else 48), .ref m] (MM (xrI μ m f5) m s σ) Q := fun Q => by
    by_cases h1 : prT tx L y = 1
    · rw [if_pos h1]
      simp (disch := first | assumption | (simp only [MM_Kd, rI_Kd, rJ_Kd, sI_Kd, sJ_Kd, sR_Kd, SV_Kd]; assumption) | omega | decide) only [q155_54, q155_55, q155_56, q155_57, q155_60, q155_62, eq_true h1, not_true_eq_false, xaf_s, xaf_v, va_rf_s, xix_n, nI_clamp, xk1_i, xk1_a, xk1_u, xk1_n, xk1_l, xk1_d, true_and, and_true, ↓reduceIte, Nat.reduceAdd, xtup]
    · rw [if_neg h1]
      simp (disch := first | assumption | (simp only [MM_Kd, rI_Kd, rJ_Kd, sI_Kd, sJ_Kd, sR_Kd, SV_Kd]; assumption) | omega | decide) only [q155_54, q155_55, q155_56, q155_57, q155_65, h1, not_false_eq_true, xaf_s, xaf_v, va_rf_s, xix_n, nI_clamp, xk1_i, xk1_a, xk1_u, xk1_n, xk1_l, xk1_d, true_and, and_true, ↓reduceIte, Nat.reduceAdd, xtup]
  have hA : ∀ Q, Rn G 155 0 [some (.ref m), none, none, none, none, none] [] (MM (xrI μ m f) m s σ) Q = Rn G 155 54 [some (.ref m), some (.int (pC tx L (sg tx L 48 50 (pr2 tx L y)).1)), some (.int (prT tx L y)), none, none, none] [] (MM (xrI μ m f5) m s σ) Q := fun Q => by
    simp (disch := first | assumption | (simp only [MM_Kd, rI_Kd, rJ_Kd, sI_Kd, sJ_Kd, sR_Kd, SV_Kd]; assumption) | omega | decide) only [q155_0, q155_0N, q155_1, q155_1N, q155_2, q155_3, q155_6, q155_9, q155_9N, q155_10, q155_12, q155_14, q155_17, q155_18, q155_18N, q155_19, q155_19N, q155_20, q155_22, q155_24, q155_27, q155_29, q155_30, q155_33, q155_33N, q155_34, q155_36, q155_38, q155_41, q155_42, q155_42N, q155_43, q155_45, q155_47, q155_50, q155_52, q155_53, q155_67, q155_69, q155_72, q155_74, q155_75, q155_76, q155_76N, q155_77, q155_79, q155_81, q155_82, q155_83, q155_84, q155_85, q155_86, q155_89, q155_89N, q155_90, q155_92, q155_94, q155_97, q155_99, q155_101, q155_104, q155_104N, q155_105, q155_107, q155_109, q155_112, q155_115, q155_116, q155_118, q155_118N, q155_119, q155_121, q155_124, q155_124N, q155_125, q155_126, q155_129, q155_132, q155_133, q155_136, z4, u1, u2, u3, u4, u5, d1, d2, d3, MM_sIo, rI_sI, rI_Kd, rI_Ln, rI_R, rI_J, rJ_Kd, rJ_Ln, rJ_R, rJ_I, sI_Kd, sI_Ln, sI_R, sI_J, sJ_Kd, sJ_Ln, sJ_R, sJ_I, sR_Kd, sR_Ln, sR_I, sR_J, xaf_s, xaf_v, va_rf_s, xix_n, nI_clamp, xk1_i, xk1_a, xk1_u, xk1_n, xk1_l, xk1_d, true_and, and_true, ↓reduceIte, Nat.reduceAdd, xtup]
    rfl
  have g12 : f6 12 = prP tx L y := by rw [e6 12 (by omega) (by omega), e5 12 (by omega) (by omega), e4 12 (by omega) (by omega), up_n (by omega), e3 12 (by omega) (by omega), e2 12 (by omega) (by omega), up_e]
  have g13 : f6 13 = prS tx L y := by rw [e6 13 (by omega) (by omega), e5 13 (by omega) (by omega), e4 13 (by omega) (by omega), up_e]
  have hfp : fp f f6 := e1.fp.tr ((fp.up (by omega) (by omega)).tr (e2.fp.tr (e3.fp.tr ((fp.up (by omega) (by omega)).tr (e4.fp.tr (e5.fp.tr e6.fp))))))
  have hB : ∀ Q, Rn G 155 67 [some (.ref m), some (.int (pC tx L (sg tx L 48 50 (pr2 tx L y)).1)), some (.int (prT tx L y)), none, none, none] [.int (if prT tx L y = 1 then 54 else 48), .ref m] (MM (xrI μ m f5) m s σ) Q = Rn G 155 89 [some (.ref m), some (.int (pC tx L (sg tx L 48 50 (pr2 tx L y)).1)), some (.int (prT tx L y)), some (.int (prO tx L y)), none, none] [] (MM (xrI μ m (up f6 14 (prA tx L y))) m s σ) Q := fun Q => by
    simp (disch := first | assumption | (simp only [MM_Kd, rI_Kd, rJ_Kd, sI_Kd, sJ_Kd, sR_Kd, SV_Kd]; assumption) | omega | decide) only [q155_0, q155_0N, q155_1, q155_1N, q155_2, q155_3, q155_6, q155_9, q155_9N, q155_10, q155_12, q155_14, q155_17, q155_18, q155_18N, q155_19, q155_19N, q155_20, q155_22, q155_24, q155_27, q155_29, q155_30, q155_33, q155_33N, q155_34, q155_36, q155_38, q155_41, q155_42, q155_42N, q155_43, q155_45, q155_47, q155_50, q155_52, q155_53, q155_67, q155_69, q155_72, q155_74, q155_75, q155_76, q155_76N, q155_77, q155_79, q155_81, q155_82, q155_83, q155_84, q155_85, q155_86, q155_90, q155_92, q155_94, q155_97, q155_99, q155_101, q155_104, q155_104N, q155_105, q155_107, q155_109, q155_112, q155_115, q155_116, q155_118, q155_118N, q155_119, q155_121, q155_124, q155_124N, q155_125, q155_126, q155_129, q155_132, q155_133, q155_136, u6, d4, d5, MM_sIo, rI_sI, rI_Kd, rI_Ln, rI_R, rI_J, rJ_Kd, rJ_Ln, rJ_R, rJ_I, sI_Kd, sI_Ln, sI_R, sI_J, sJ_Kd, sJ_Ln, sJ_R, sJ_I, sR_Kd, sR_Ln, sR_I, sR_J, xaf_s, xaf_v, va_rf_s, xix_n, nI_clamp, xk1_i, xk1_a, xk1_u, xk1_n, xk1_l, xk1_d, true_and, and_true, ↓reduceIte, Nat.reduceAdd, xtup]
  by_cases hn : nx tx L 43 43 (pr6 tx L y)
  · have h153' := fun Q => (h153 Q).trans (by rw [if_pos hn])
    obtain ⟨f7, u7, p7, e7⟩ := s152 (G := G) (s := s) (σ := σ) hm hL htx p6' (lo := 43) (hi := 43) (by decide)
    obtain ⟨f8, u8, p8, e8⟩ := s154 (G := G) (s := s) (σ := σ) hm hL htx (D := 5) (by omega) (by omega) p7
    have hY : prY tx L y = (num tx L 5 (sg tx L 43 43 (pr6 tx L y))).2 := if_pos hn
    have hM : prM tx L y = (num tx L 5 (sg tx L 43 43 (pr6 tx L y))).1 := if_pos hn
    refine ⟨up f8 15 (num tx L 5 (sg tx L 43 43 (pr6 tx L y))).1, fun Q => ?_, by rw [hY]; exact p8.up (by omega), hfp.tr ((fp.up (by omega) (by omega)).tr (e7.fp.tr (e8.fp.tr (fp.up (by omega) (by omega))))), ?_, ?_, ?_, by rw [up_e, hM]⟩
    · show Rn G 155 0 [some (.ref m), none, none, none, none, none] [] (MM (xrI μ m f) m s σ) Q = _
      rw [hA, hten, hB]
      simp (disch := first | assumption | (simp only [MM_Kd, rI_Kd, rJ_Kd, sI_Kd, sJ_Kd, sR_Kd, SV_Kd]; assumption) | omega | decide) only [q155_0, q155_0N, q155_1, q155_1N, q155_2, q155_3, q155_6, q155_9, q155_9N, q155_10, q155_12, q155_14, q155_17, q155_18, q155_18N, q155_19, q155_19N, q155_20, q155_22, q155_24, q155_27, q155_29, q155_30, q155_33, q155_33N, q155_34, q155_36, q155_38, q155_41, q155_42, q155_42N, q155_43, q155_45, q155_47, q155_50, q155_52, q155_53, q155_67, q155_69, q155_72, q155_74, q155_75, q155_76, q155_76N, q155_77, q155_79, q155_81, q155_82, q155_83, q155_84, q155_85, q155_86, q155_89, q155_89N, q155_90, q155_92, q155_94, q155_97, q155_99, q155_101, q155_104, q155_104N, q155_105, q155_107, q155_109, q155_112, q155_115, q155_116, q155_118, q155_118N, q155_119, q155_121, q155_124, q155_124N, q155_125, q155_126, q155_129, q155_132, q155_133, q155_136, h153', u7, z5, u8, c10, MM_sIo, rI_sI, rI_Kd, rI_Ln, rI_R, rI_J, rJ_Kd, rJ_Ln, rJ_R, rJ_I, sI_Kd, sI_Ln, sI_R, sI_J, sJ_Kd, sJ_Ln, sJ_R, sJ_I, sR_Kd, sR_Ln, sR_I, sR_J, xaf_s, xaf_v, va_rf_s, xix_n, nI_clamp, xk1_i, xk1_a, xk1_u, xk1_n, xk1_l, xk1_d, true_and, and_true, ↓reduceIte, Nat.reduceAdd, xtup]
    · rw [up_n (by omega), e8 12 (by omega) (by omega), e7 12 (by omega) (by omega), up_n (by omega)]; exact g12
    · rw [up_n (by omega), e8 13 (by omega) (by omega), e7 13 (by omega) (by omega), up_n (by omega)]; exact g13
    · rw [up_n (by omega), e8 14 (by omega) (by omega), e7 14 (by omega) (by omega), up_e]
  · have h153' := fun Q => (h153 Q).trans (by rw [if_neg hn])
    have hY : prY tx L y = pr6 tx L y := if_neg hn
    have hM : prM tx L y = 0 := if_neg hn
    refine ⟨up (up f6 14 (prA tx L y)) 15 0, fun Q => ?_, by rw [hY]; exact p6'.up (by omega), hfp.tr ((fp.up (by omega) (by omega)).tr (fp.up (by omega) (by omega))), ?_, ?_, ?_, by rw [up_e, hM]⟩
    · show Rn G 155 0 [some (.ref m), none, none, none, none, none] [] (MM (xrI μ m f) m s σ) Q = _
      rw [hA, hten, hB]
      simp (disch := first | assumption | (simp only [MM_Kd, rI_Kd, rJ_Kd, sI_Kd, sJ_Kd, sR_Kd, SV_Kd]; assumption) | omega | decide) only [q155_0, q155_0N, q155_1, q155_1N, q155_2, q155_3, q155_6, q155_9, q155_9N, q155_10, q155_12, q155_14, q155_17, q155_18, q155_18N, q155_19, q155_19N, q155_20, q155_22, q155_24, q155_27, q155_29, q155_30, q155_33, q155_33N, q155_34, q155_36, q155_38, q155_41, q155_42, q155_42N, q155_43, q155_45, q155_47, q155_50, q155_52, q155_53, q155_67, q155_69, q155_72, q155_74, q155_75, q155_76, q155_76N, q155_77, q155_79, q155_81, q155_82, q155_83, q155_84, q155_85, q155_86, q155_89, q155_89N, q155_90, q155_92, q155_94, q155_97, q155_99, q155_101, q155_104, q155_104N, q155_105, q155_107, q155_109, q155_112, q155_115, q155_116, q155_118, q155_118N, q155_119, q155_121, q155_124, q155_124N, q155_125, q155_126, q155_129, q155_132, q155_133, q155_136, h153', c00, MM_sIo, rI_sI, rI_Kd, rI_Ln, rI_R, rI_J, rJ_Kd, rJ_Ln, rJ_R, rJ_I, sI_Kd, sI_Ln, sI_R, sI_J, sJ_Kd, sJ_Ln, sJ_R, sJ_I, sR_Kd, sR_Ln, sR_I, sR_J, xaf_s, xaf_v, va_rf_s, xix_n, nI_clamp, xk1_i, xk1_a, xk1_u, xk1_n, xk1_l, xk1_d, true_and, and_true, ↓reduceIte, Nat.reduceAdd, xtup]
    · rw [up_n (by omega), up_n (by omega)]; exact g12
    · rw [up_n (by omega), up_n (by omega)]; exact g13
    · rw [up_n (by omega), up_e]
end RRD
