/-! THE CLASS: A MEMBER LEAVES -/
/-- the rows of a scheme after member p has left -/
def piL (π : Nat → Nat) (i : Nat) (P : Nat) : Nat → Nat := fun j => if j < i then π j else if j < 7 then π (j + 1) else P
theorem sR_e {μ : xMem} {a k : Nat} {v : Option Nat} : xR (xsR μ a k v) a k = v := if_pos ⟨rfl, rfl⟩
theorem sR_k {μ : xMem} {a k j : Nat} {v : Option Nat} (h : j ≠ k) : xR (xsR μ a k v) a j = xR μ a j := if_neg fun z => h z.2
theorem sR_n {μ : xMem} {a b k : Nat} {v : Option Nat} (h : b ≠ a) : xR (xsR μ a k v) b = xR μ b := xR_sR_ne h
/-- only the references of row a change -/
def FRR (μ μ' : xMem) (a : Nat) : Prop := μ'.1 = μ.1 ∧ μ'.2.1 = μ.2.1 ∧ xI μ' = xI μ ∧ xJ μ' = xJ μ ∧ ∀ q, q ≠ a → xR μ' q = xR μ q
theorem FRR.tr {μ μ' μ'' : xMem} {a : Nat} (h : FRR μ μ' a) (h' : FRR μ' μ'' a) : FRR μ μ'' a :=
  ⟨h'.1.trans h.1, h'.2.1.trans h.2.1, h'.2.2.1.trans h.2.2.1, h'.2.2.2.1.trans h.2.2.2.1, fun q hq => (h'.2.2.2.2 q hq).trans (h.2.2.2.2 q hq)⟩
theorem FRR.sR {μ : xMem} {a k : Nat} {v : Option Nat} : FRR μ (xsR μ a k v) a := ⟨rfl, rfl, rfl, rfl, fun q hq => sR_n hq⟩
theorem FRR.rf {μ : xMem} {a : Nat} : FRR μ μ a := ⟨rfl, rfl, rfl, rfl, fun _ _ => rfl⟩
section LVC
variable {G : xCtx} {μ : xMem} {Q : xOut → xMem → Prop} {a b f n k c p g F A B S lo hi t : Nat} {π : Nat → Nat} {x : ST}
theorem c43_b {P : Nat} : ∀ k i μ π, i + k = 7 → SH μ b → (∀ j, j < 8 → xKd μ (b + 7 + 6 * π j) = 4 ∧ xR μ (b + 5) j = some (b + 7 + 6 * π j)) → π i = P → ∃ μ', (∀ Q, Rn G 43 2 [some (.ref b), some (.ref (b + 7 + 6 * P)), some (.int (nI i))] [] μ Q = Q (.inl none) μ') ∧ (∀ j, j < 8 → xR μ' (b + 5) j = some (b + 7 + 6 * piL π i P j)) ∧ FRR μ μ' (b + 5) := by
  intro k
  induction k with
  | zero =>
    intro i μ π hi hS hr hP
    have i7 : i = 7 := by omega
    subst i7
    have z : (8 : Int32) ≤ nI 7 + 1 := by decide
    refine ⟨μ, fun Q => ?_, fun j hj => ?_, FRR.rf⟩
    · rw [q43_2]
      simp (disch := first | assumption | (simp only [MM_Kd, rI_Kd, rJ_Kd, sI_Kd, sJ_Kd, sR_Kd]; assumption) | omega | decide) only [q43_0, q43_1, q43_3, q43_4, q43_5, q43_7, q43_10, q43_10N, q43_11, q43_14, q43_15, q43_16, q43_16N, q43_17, q43_20, q43_20N, q43_21, q43_24, q43_25, q43_25N, q43_26, q43_29, q43_30, q43_31, q43_32, q43_33, q43_34, q43_34N, q43_35, q43_38, q43_39, q43_40, q43_41, q43_41N, q43_42, q43_43, q43_46, q43_49, z, xaf_s, xaf_v, va_rf_s, xix_n, nI_clamp, xk1_i, xk1_a, xk1_u, xk1_n, xk1_l, xk1_d, true_and, and_true, ↓reduceIte, Nat.reduceAdd, xtup]
    · rw [(hr j hj).2]
      unfold piL
      by_cases h : j < 7
      · rw [if_pos h]
      · rw [if_neg h, if_neg h, show j = 7 by omega, hP]
  | succ k ih =>
    intro i μ π hi hS hr hP
    obtain ⟨b0, ⟨b1, u1⟩, ⟨b2, u2⟩, ⟨b3, u3⟩, ⟨b4, u4⟩, ⟨b5, u5⟩, ⟨b6, u6⟩, r0, r1, r2, r3, r4, r5⟩ := hS
    have h8 : ¬ (8 : Int32) ≤ nI (i + 1) := by
      rw [show (8 : Int32) = nI 8 from rfl, nI_leI (by omega) (by omega)]; omega
    have e0 := (hr i (by omega)).2
    have e1 := (hr (i + 1) (by omega)).2
    have k1 := (hr (i + 1) (by omega)).1
    have k0 := (hr i (by omega)).1
    rw [hP] at e0 k0
    have hb5 : xKd μ (b + 5) = 13 := b5
    obtain ⟨μ', w1, w2, w3⟩ := ih (i + 1) (xsR (xsR μ (b + 5) i (some (b + 7 + 6 * π (i + 1)))) (b + 5) (i + 1) (some (b + 7 + 6 * P))) (fun j => if j = i then π (i + 1) else if j = i + 1 then P else π j) (by omega) (by
        have rb : ∀ k, xR (xsR (xsR μ (b + 5) i (some (b + 7 + 6 * π (i + 1)))) (b + 5) (i + 1) (some (b + 7 + 6 * P))) b k = xR μ b k := fun k => by rw [sR_n (by omega), sR_n (by omega)]
        exact ⟨b0, ⟨b1, u1⟩, ⟨b2, u2⟩, ⟨b3, u3⟩, ⟨b4, u4⟩, ⟨b5, u5⟩, ⟨b6, u6⟩, (rb 0).trans r0, (rb 1).trans r1, (rb 2).trans r2, (rb 3).trans r3, (rb 4).trans r4, (rb 5).trans r5⟩) (fun j hj => by
        by_cases h1 : j = i
        · subst h1
          rw [if_pos rfl, sR_k (by omega), sR_e]
          exact ⟨k1, rfl⟩
        · rw [if_neg h1]
          by_cases h2 : j = i + 1
          · subst h2
            rw [if_pos rfl, sR_e]; exact ⟨k0, rfl⟩
          · rw [if_neg h2, sR_k h2, sR_k h1]; exact hr j hj) (by rw [if_neg (by omega), if_pos rfl])
    refine ⟨μ', fun Q => ?_, fun j hj => ?_, (FRR.sR.tr FRR.sR).tr w3⟩
    · rw [q43_2]
      have c1 : (xKd μ (b + 5) = 13 ∧ xKd μ (b + 7 + 6 * π (i + 1)) = 4) ∨ (xKd μ (b + 5) = 14 ∧ xKd μ (b + 7 + 6 * π (i + 1)) = 6) := Or.inl ⟨b5, k1⟩
      have c2 : (xKd μ (b + 5) = 13 ∧ xKd μ (b + 7 + 6 * P) = 4) ∨ (xKd μ (b + 5) = 14 ∧ xKd μ (b + 7 + 6 * P) = 6) := Or.inl ⟨b5, k0⟩
      have c3 : xR (xsR μ (b + 5) i (some (b + 7 + 6 * π (i + 1)))) b 4 = some (b + 5) := by rw [sR_n (by omega)]; exact r4
      simp (disch := first | exact Or.inl b5 | exact c1 | exact c2 | first | assumption | (simp only [MM_Kd, rI_Kd, rJ_Kd, sI_Kd, sJ_Kd, sR_Kd]; assumption) | omega | decide) only [q43_0, q43_1, q43_3, q43_4, q43_5, q43_7, q43_10, q43_10N, q43_11, q43_14, q43_15, q43_16, q43_16N, q43_17, q43_20, q43_20N, q43_21, q43_24, q43_25, q43_25N, q43_26, q43_29, q43_30, q43_31, q43_32, q43_33, q43_34, q43_34N, q43_35, q43_38, q43_39, q43_40, q43_41, q43_41N, q43_42, q43_43, q43_46, q43_49, nI_1, h8, r4, u5, e0, e1, c3, rI_Kd, rI_Ln, rI_R, rI_J, rJ_Kd, rJ_Ln, rJ_R, rJ_I, sI_Kd, sI_Ln, sI_R, sI_J, sJ_Kd, sJ_Ln, sJ_R, sJ_I, sR_Kd, sR_Ln, sR_I, sR_J, xaf_s, xaf_v, va_rf_s, xix_n, nI_clamp, xk1_i, xk1_a, xk1_u, xk1_n, xk1_l, xk1_d, true_and, and_true, ↓reduceIte, Nat.reduceAdd, xtup]
      exact w1 Q
    · rw [w2 j hj]
      congr 2
      unfold piL
      by_cases h1 : j < i
      · rw [if_pos (by omega), if_pos h1]; dsimp only; rw [if_neg (by omega), if_neg (by omega)]
      · rw [if_neg h1]
        by_cases h2 : j = i
        · subst h2
          rw [if_pos (by omega)]; dsimp only; rw [if_pos rfl, if_pos (by omega)]
        · rw [if_neg (by omega)]
          by_cases h3 : j < 7
          · rw [if_pos h3, if_pos h3]; dsimp only; rw [if_neg (by omega), if_neg (by omega)]
          · rw [if_neg h3, if_neg h3]
theorem c43 (hS : SH μ b) (hR : RWS μ b π) (hp : p < 8) : ∃ μ', (∀ Q, Cn G 43 [.ref b, .ref (AD b π p)] μ Q = Q (.inl none) μ') ∧ RWS μ' b (piL π p (π p)) ∧ SH μ' b ∧ FRR μ μ' (b + 5) := by
  have hrw : ∀ j, j < 8 → xKd μ (b + 7 + 6 * π j) = 4 ∧ xR μ (b + 5) j = some (b + 7 + 6 * π j) := fun j hj => ⟨(hR.2.2 (π j) (hR.1 j hj).1).1, (hR.1 j hj).2⟩
  have key : ∀ k i, i + k = p → ∃ μ', (∀ Q, Rn G 43 2 [some (.ref b), some (.ref (b + 7 + 6 * π p)), some (.int (nI i))] [] μ Q = Q (.inl none) μ') ∧ (∀ j, j < 8 → xR μ' (b + 5) j = some (b + 7 + 6 * piL π p (π p) j)) ∧ FRR μ μ' (b + 5) := by
    intro k
    induction k with
    | zero =>
      intro i hi
      have : i = p := by omega
      subst this
      exact c43_b (7 - i) i μ π (by omega) hS hrw rfl
    | succ k ih =>
      intro i hi
      obtain ⟨μ', w1, w2, w3⟩ := ih (i + 1) (by omega)
      obtain ⟨b0, ⟨b1, u1⟩, ⟨b2, u2⟩, ⟨b3, u3⟩, ⟨b4, u4⟩, ⟨b5, u5⟩, ⟨b6, u6⟩, r0, r1, r2, r3, r4, r5⟩ := hS
      have h8 : ¬ (8 : Int32) ≤ nI (i + 1) := by
        rw [show (8 : Int32) = nI 8 from rfl, nI_leI (by omega) (by omega)]; omega
      have e0 := (hrw i (by omega)).2
      have hne : ¬ b + 7 + 6 * π i = b + 7 + 6 * π p := by
        intro z
        have := hR.2.1 i p (by omega) hp (by omega)
        omega
      refine ⟨μ', fun Q => ?_, w2, w3⟩
      rw [q43_2]
      simp (disch := first | exact Or.inl b5 | first | assumption | (simp only [MM_Kd, rI_Kd, rJ_Kd, sI_Kd, sJ_Kd, sR_Kd]; assumption) | omega | decide) only [q43_0, q43_1, q43_3, q43_4, q43_5, q43_7, q43_10, q43_10N, q43_11, q43_14, q43_15, q43_16, q43_16N, q43_17, q43_20, q43_20N, q43_21, q43_24, q43_25, q43_25N, q43_26, q43_29, q43_30, q43_31, q43_32, q43_33, q43_34, q43_34N, q43_35, q43_38, q43_39, q43_40, q43_41, q43_41N, q43_42, q43_43, q43_46, q43_49, nI_1, h8, r4, u5, e0, hne, rI_Kd, rI_Ln, rI_R, rI_J, rJ_Kd, rJ_Ln, rJ_R, rJ_I, sI_Kd, sI_Ln, sI_R, sI_J, sJ_Kd, sJ_Ln, sJ_R, sJ_I, sR_Kd, sR_Ln, sR_I, sR_J, xaf_s, xaf_v, va_rf_s, xix_n, nI_clamp, xk1_i, xk1_a, xk1_u, xk1_n, xk1_l, xk1_d, true_and, and_true, ↓reduceIte, Nat.reduceAdd, xtup]
      exact w1 Q
  obtain ⟨μ', w1, w2, w3⟩ := key p 0 (by omega)
  refine ⟨μ', fun Q => ?_, ⟨fun j hj => ⟨?_, w2 j hj⟩, fun i j hi hj z => ?_, fun j hj => ?_⟩, ?_, w3⟩
  · show Rn G 43 0 [some (.ref b), some (.ref (AD b π p)), none] [] μ Q = _
    simp only [q43_0, q43_1, xk1_a]
    exact w1 Q
  · unfold piL
    by_cases h1 : j < p
    · rw [if_pos h1]; exact (hR.1 j hj).1
    · rw [if_neg h1]
      by_cases h2 : j < 7
      · rw [if_pos h2]; exact (hR.1 (j + 1) (by omega)).1
      · rw [if_neg h2]; exact (hR.1 p hp).1
  · have inj := hR.2.1
    unfold piL at z
    by_cases h1 : i < p
    · rw [if_pos h1] at z
      by_cases h2 : j < p
      · rw [if_pos h2] at z; exact inj i j hi hj z
      · rw [if_neg h2] at z
        by_cases h3 : j < 7
        · rw [if_pos h3] at z; have := inj i (j + 1) hi (by omega) z; omega
        · rw [if_neg h3] at z; have := inj i p hi hp z; omega
    · rw [if_neg h1] at z
      by_cases h2 : j < p
      · rw [if_pos h2] at z
        by_cases h3 : i < 7
        · rw [if_pos h3] at z; have := inj (i + 1) j (by omega) hj z; omega
        · rw [if_neg h3] at z; have := inj p j hp hj z; omega
      · rw [if_neg h2] at z
        by_cases h3 : i < 7
        · rw [if_pos h3] at z
          by_cases h4 : j < 7
          · rw [if_pos h4] at z; have := inj (i + 1) (j + 1) (by omega) (by omega) z; omega
          · rw [if_neg h4] at z; have := inj (i + 1) p (by omega) hp z; omega
        · rw [if_neg h3] at z
          by_cases h4 : j < 7
          · rw [if_pos h4] at z; have := inj p (j + 1) hp (by omega) z; omega
          · omega
  · exact (hR.2.2 j hj).of w3.1 (w3.2.2.2.2 _ (by omega)) (w3.2.2.2.2 _ (by omega))
  · exact hS.of w3.1 (w3.2.2.2.2 b (by omega))
theorem c211 (u w : Int64) : Cn G 211 [.long u, .long w] μ Q = Q (.inl (some (.long (if u ≤ w then u else w)))) μ := by
  show Rn G 211 0 [some (.long u), none, some (.long w), none] [] μ Q = _
  by_cases h : u ≤ w
  · have h' : ¬ w < u := Int64.not_lt.mpr h
    simp (disch := first | assumption | (simp only [MM_Kd, rI_Kd, rJ_Kd, sI_Kd, sJ_Kd, sR_Kd]; assumption) | omega | decide) only [q211_0, q211_1, q211_2, q211_3, q211_6, q211_7, q211_10, q211_11, cmp_gt, h, h', xaf_s, xaf_v, va_rf_s, xix_n, nI_clamp, xk1_i, xk1_a, xk1_u, xk1_n, xk1_l, xk1_d, true_and, and_true, ↓reduceIte, Nat.reduceAdd, xtup]
  · have h' : w < u := Int64.not_le.mp h
    simp (disch := first | assumption | (simp only [MM_Kd, rI_Kd, rJ_Kd, sI_Kd, sJ_Kd, sR_Kd]; assumption) | omega | decide) only [q211_0, q211_1, q211_2, q211_3, q211_6, q211_7, q211_10, q211_11, cmp_gt, h, h', xaf_s, xaf_v, va_rf_s, xix_n, nI_clamp, xk1_i, xk1_a, xk1_u, xk1_n, xk1_l, xk1_d, true_and, and_true, ↓reduceIte, Nat.reduceAdd, xtup]
theorem c42 (hS : SH μ b) (hb : HB μ a) {s : Nat → Int32} {σ : Nat → Int64} (hG : GV μ b s σ) (hM : MV μ a (mw s p)) : Cn G 42 [.ref b, .ref a] μ Q = Q (.inl (some (.long (zAll s p 3 0 0)))) μ := by
  obtain ⟨b0, ⟨b1, u1⟩, ⟨b2, u2⟩, ⟨b3, u3⟩, ⟨b4, u4⟩, ⟨b5, u5⟩, ⟨b6, u6⟩, r0, r1, r2, r3, r4, r5⟩ := hS
  obtain ⟨h0, ⟨h1, e1⟩, h2, -, -, -, p0, p1, -⟩ := hb
  obtain ⟨-, -, -, m5, -, -, -, -, m1, -⟩ := hM.w
  obtain ⟨-, -, -, -, -, -, g3, -⟩ := hG
  have z3 : (3 : Int32) = nI 3 := rfl
  have z1000 : ¬ (1000 : Int64) = 0 := by decide
  have key : ∀ k i acc, i + k = 3 → Rn G 42 5 [some (.ref b), some (.ref a), some (.long acc), none, some (.int (nI i))] [] μ Q = Q (.inl (some (.long (zAll s p k i acc)))) μ := by
    intro k
    induction k with
    | zero =>
      intro i acc hi
      have h2' : 3 ≤ i := by omega
      rw [q42_5]
      simp (disch := first | assumption | (simp only [MM_Kd, rI_Kd, rJ_Kd, sI_Kd, sJ_Kd, sR_Kd]; assumption) | omega | decide) only [q42_0, q42_1, q42_2, q42_3, q42_7, q42_8, q42_11, q42_12, q42_12N, q42_13, q42_16, q42_17, q42_17N, q42_18, q42_21, q42_23, q42_23T, q42_24, q42_25, q42_26, q42_26N, q42_27, q42_30, q42_32, q42_32T, q42_33, q42_34, q42_35, q42_38, q42_39, q42_40, q42_41, q42_44, q42_47, q42_48, z3, nI_leI, h2', zAll, xaf_s, xaf_v, va_rf_s, xix_n, nI_clamp, xk1_i, xk1_a, xk1_u, xk1_n, xk1_l, xk1_d, true_and, and_true, ↓reduceIte, Nat.reduceAdd, xtup]
    | succ k ih =>
      intro i acc hi
      have h2' : ¬ 3 ≤ i := by omega
      have hi3 : i < 3 := by omega
      have i1 := m1 i hi3
      have i2 := (g3 i hi3).1
      rw [q42_5]
      simp (disch := first | assumption | (simp only [MM_Kd, rI_Kd, rJ_Kd, sI_Kd, sJ_Kd, sR_Kd]; assumption) | omega | decide) only [q42_0, q42_1, q42_2, q42_3, q42_7, q42_8, q42_11, q42_12, q42_12N, q42_13, q42_16, q42_17, q42_17N, q42_18, q42_21, q42_23, q42_23T, q42_24, q42_25, q42_26, q42_26N, q42_27, q42_30, q42_32, q42_32T, q42_33, q42_34, q42_35, q42_38, q42_39, q42_40, q42_41, q42_44, q42_47, q42_48, z3, nI_leI, h2', p0, e1, i1, i2, m5, r1, u2, z1000, nI_1, not_false_eq_true, zAll, xaf_s, xaf_v, va_rf_s, xix_n, nI_clamp, xk1_i, xk1_a, xk1_u, xk1_n, xk1_l, xk1_d, true_and, and_true, ↓reduceIte, Nat.reduceAdd, xtup]
      exact ih (i + 1) _ (by omega)
  show Rn G 42 0 [some (.ref b), some (.ref a), none, none, none] [] μ Q = _
  simp only [q42_0, q42_1, q42_2, q42_3, xk1_i, xk1_a]
  exact key 3 0 0 (by omega)
theorem zAll_n {s : Nat → Int32} (hG : GI s g n F) (hM : MI (mw s p) S lo hi) (hS : S ≤ 20500) : ∃ A, A < 2 ^ 40 ∧ zAll s p 3 0 0 = lN A := by
  obtain ⟨q, e, h, q1, q2, q3, q4, -, -⟩ := pen_of hG hM hS
  have hr : ∀ k, k < 3 → ∃ r, r ≤ 300 ∧ s (10 + 3 * k) = nI r := fun k hk => by
    obtain ⟨⟨r, r1, r2, r3⟩, -⟩ := hG.2.2.2.2.2.2.2.2 k hk
    exact ⟨r, r2, r3⟩
  have key : ∀ k i acc, i + k = 3 → acc ≤ 70000000 * i → ∃ A, A ≤ 70000000 * 3 ∧ zAll s p k i (lN acc) = lN A := by
    intro k
    induction k with
    | zero => intro i acc hi ha; exact ⟨acc, by omega, rfl⟩
    | succ k ih =>
      intro i acc hi ha
      obtain ⟨r, r1, r2⟩ := hr i (by omega)
      have he := q3 i (by omega)
      have b1 : q * r ≤ 9999 * 300 := Nat.mul_le_mul q1 r1
      have b2 : q * r * e i ≤ 9999 * 300 * 20500 := Nat.mul_le_mul b1 he
      unfold zAll
      rw [q2, r2, q4 i (by omega), nI_l (by omega), nI_l (by omega), nI_l (by omega), lN_mul, lN_mul, show (1000 : Int64) = lN 1000 from rfl, pk_lDiv (by omega) (by omega) (by omega), lN_add]
      exact ih (i + 1) _ (by omega) (by omega)
  obtain ⟨A, a1, a2⟩ := key 3 0 0 (by omega) (by omega)
  exact ⟨A, by omega, a2⟩
end LVC
