/-! THE REFERENCE: TEXTS AND UNDO OVER ITS STATE -/
/-- where the first error of a text is -/
def FE (tx : Nat → Int32) (L e : Nat) : Prop := e ≤ L ∧ rK tx r00 e ∧ (e = L ∨ (e < L ∧ (rT (tx e) (rS tx r00 e)).1 = 0))
theorem FE.one {tx : Nat → Int32} {L a b : Nat} (h : FE tx L a) (h' : FE tx L b) : a = b := by
  have z : ¬ (0 : Int32) = 1 := by decide
  obtain ⟨a1, a2, a3⟩ := h
  obtain ⟨b1, b2, b3⟩ := h'
  rcases Nat.lt_trichotomy a b with hl | hl | hl
  · rcases a3 with w | ⟨w1, w2⟩
    · omega
    · exact absurd (w2.symm.trans (b2 a hl)) z
  · exact hl
  · rcases b3 with w | ⟨w1, w2⟩
    · omega
    · exact absurd (w2.symm.trans (a2 b hl)) z
theorem AS_rI {μ : xMem} {m : Nat} {s g : Nat → Int32} {σ : Nat → Int64} : xrI (AS μ m s σ) m g = AS (xrI μ m g) m s σ := by
  have e1 : xI (xrI μ m g) (m + 2) = xI μ (m + 2) := rI_n (by omega)
  have e : xu1 (xu1 (xI μ) (m + 2) (cpy s (xI μ (m + 2)) 0 619)) m g = xu1 (xu1 (xI μ) m g) (m + 2) (cpy s (xI μ (m + 2)) 0 619) := by
    funext b
    unfold xu1
    by_cases hb : b = m
    · rw [if_pos hb, if_neg (by omega), if_pos hb]
    · by_cases hb2 : b = m + 2
      · rw [if_neg hb, if_pos hb2, if_pos hb2]
      · rw [if_neg hb, if_neg hb2, if_neg hb2, if_neg hb]
  unfold AS
  rw [e1]
  show (μ.1, μ.2.1, xu1 (xu1 (xI μ) (m + 2) (cpy s (xI μ (m + 2)) 0 619)) m g, _, xR μ) = _
  rw [e]
  rfl
section RTX
variable {G : xCtx} {μ ν γ : xMem} {Q : xOut → xMem → Prop} {m L n g c p t F y : Nat} {x : ST} {S : Nat → ST} {tx f : Nat → Int32} {s : Nat → Int32} {σ : Nat → Int64}
theorem At0 : At tx L 0 0 := ⟨Nat.zero_le L, fun i hi => absurd hi (Nat.not_lt_zero i), up_e⟩
theorem PR0 (h9 : f 9 = nI L) : PR (up (up f 10 0) 11 0) L (0, false) := ⟨by rw [up_n (by omega), up_n (by omega)]; exact h9, by rw [up_n (by omega), up_e]; rfl, up_e, Nat.zero_le L⟩
theorem fp0 : fp f (up (up f 10 0) 11 0) := (fp.up (by omega) (by omega)).tr (fp.up (by omega) (by omega))
theorem go_in (hm : MS μ m) (b : Int32) : Cn G 156 [.ref m, .int b] (MM (xrI μ m f) m s σ) Q = Rn G 156 12 [some (.ref m), some (.int b), some (.int 1), none] [] (MM (xrI μ m (up (up f 10 0) 11 0)) m s σ) Q := by
  have k0 := hm.1
  show Rn G 156 0 [some (.ref m), some (.int b), none, none] [] (MM (xrI μ m f) m s σ) Q = _
  simp (disch := first | exact Or.inl rfl | first | assumption | (simp only [MM_Kd, rI_Kd, rJ_Kd, sI_Kd, sJ_Kd, sR_Kd, SV_Kd]; assumption) | omega | decide) only [q156_0, q156_0N, q156_1, q156_2, q156_5, q156_5N, q156_6, q156_7, q156_10, q156_11, q156_13, q156_16, q156_16N, q156_17, q156_20, q156_21, q156_24, q156_24N, q156_25, q156_28, q156_31, q156_32, q156_33, q156_33N, q156_34, q156_37, q156_40, q156_40N, q156_41, q156_44, q156_44N, q156_45, q156_48, q156_51, q156_52, q156_55, q156_56, q156_57, q156_58, q156_61, q156_61N, q156_62, q156_64, q156_66, q156_69, q156_70, q156_70N, q156_71, q156_74, q156_77, q156_78, q156_81, q156_82, q156_83, q156_86, q156_87, MM_sIo, rI_sI, rI_Kd, rI_Ln, rI_R, rI_J, rJ_Kd, rJ_Ln, rJ_R, rJ_I, sI_Kd, sI_Ln, sI_R, sI_J, sJ_Kd, sJ_Ln, sJ_R, sJ_I, sR_Kd, sR_Ln, sR_I, sR_J, xaf_s, xaf_v, va_rf_s, xix_n, nI_clamp, xk1_i, xk1_a, xk1_u, xk1_n, xk1_l, xk1_d, true_and, and_true, ↓reduceIte, Nat.reduceAdd, xtup]
theorem go_0 (hm : MS μ m) (hL : L ≤ 60) (htx : ∀ k, k < L → xI μ (m + 7) k = tx k) (h9 : f 9 = nI L) : ∃ f' y', (∀ Q, Cn G 156 [.ref m, .int 0] (MM (xrI μ m f) m s σ) Q = Q (.inl (some (.int 1))) (MM (xrI μ m f') m s σ)) ∧ PR f' L y' ∧ fp f f' ∧ ((y' = (L, false) ∧ pComp tx L) ∨ Er tx L y') := by
  obtain ⟨f', w1, w2, w3⟩ := s156_0 (G := G) (s := s) (σ := σ) hm hL htx (L + 1) 0 _ (by omega) At0 (PR0 h9)
  exact ⟨f', _, fun Q => (go_in hm 0).trans (w1 Q none), w2, fp0.tr w3, goY_ok (L + 1) 0 (by omega) At0⟩
theorem go_1 (hm : MS μ m) (hL : L ≤ 60) (htx : ∀ k, k < L → xI μ (m + 7) k = tx k) (h9 : f 9 = nI L) (hc : pComp tx L) (hg : g ≤ 9999) (hI : INV c g n x) : (∀ n' x', rOk tx r00 L 0 n x n' x' → Hi x x' ∧ ∃ f', (∀ Q, Cn G 156 [.ref m, .int 1] (MM (xrI μ m f) m x.1 x.2) Q = Q (.inl (some (.int 1))) (MM (xrI μ m f') m x'.1 x'.2)) ∧ fp f f') ∧ ((¬ ∃ n' x', rOk tx r00 L 0 n x n' x') → ∃ (x1 : ST) (f' : Nat → Int32), Hi x x1 ∧ (∀ Q, Cn G 156 [.ref m, .int 1] (MM (xrI μ m f) m x.1 x.2) Q = Q (.inl (some (.int 0))) (MM (xrI μ m f') m x1.1 x1.2)) ∧ fp f f') := by
  obtain ⟨w1, w2⟩ := s156_1 (G := G) hm hL htx hc hg (L + 1) 0 n x _ (by omega) At0 (PR0 h9) hI
  rw [Nat.sub_zero] at w1 w2
  refine ⟨fun n' x' hr => ?_, fun hno => ?_⟩
  · obtain ⟨hh, f', y1, y2⟩ := w1 n' x' hr
    exact ⟨hh, f', fun Q => (go_in hm 1).trans (y1 Q none), fp0.tr y2⟩
  · obtain ⟨x1, f', hh, y1, y2⟩ := w2 hno
    exact ⟨x1, f', hh, fun Q => (go_in hm 1).trans (y1 Q none), fp0.tr y2⟩
theorem RST.row (h : RST (MM γ m x.1 x.2) m t L tx S x) {gg : Nat → Int32} {L' : Nat} (h7 : gg 7 = nI t) (h9 : gg 9 = nI L') (hL : L' ≤ L) : RST (MM (xrI γ m gg) m x.1 x.2) m t L' tx S x := by
  obtain ⟨a1, a2, a3, a4, a5, a6, a7, a8, a9⟩ := h
  refine ⟨a1, a2, by omega, by rw [MM_Io (by omega), rI_e]; exact h7, by rw [MM_Io (by omega), rI_e]; exact h9, fun k hk => ?_, MM_I, MM_J, fun k hk => ?_⟩
  · have := a6 k (by omega)
    rw [MM_Io (by omega)] at this ⊢
    rw [rI_n (by omega)]; exact this
  · have := a9 k hk
    unfold slc at this ⊢
    rw [MM_Io (by omega), MM_Jo (by omega)] at this ⊢
    rw [rI_n (by omega)]; exact this
theorem FS_rI (h : FS μ ν (RP m)) {gg : Nat → Int32} : FS μ (xrI ν m gg) (RP m) := by
  refine ⟨h.1, h.2.1, fun q hq => ?_⟩
  rw [rI_n (fun z => hq (by unfold RP; omega))]
  exact h.2.2 q hq
theorem first_r (h : RST μ m t L tx S x) : ∃ e, FE tx L e ∧ RLK G 158 [] μ m t L tx S x 0 (.int (nI e)) := by
  obtain ⟨a1, a2, a3, a4, a5, a6, a7, a8, a9⟩ := h
  have k0 := a1.1
  have hge : ¬ m = m + 1 := by omega
  have h9 : (up (xI μ m) 0 0) 9 = nI L := by rw [up_n (by omega)]; exact a5
  obtain ⟨f', y', w1, w2, w3, w4⟩ := go_0 (G := G) (s := x.1) (σ := x.2) a1 a3 a6 h9
  have e0 : xsI μ m 0 0 = xrI μ m (up (xI μ m) 0 0) := by
    have := rI_sI (μ := μ) (a := m) (f := xI μ m) (k := 0) (v := 0)
    rw [rI_self] at this; exact this
  have w1 : ∀ Q, Cn G 156 [.ref m, .int 0] (MM (xsI μ m 0 0) m x.1 x.2) Q = Q (.inl (some (.int 1))) (MM (xrI μ m f') m x.1 x.2) := fun Q => by rw [e0]; exact w1 Q
  have f7 : f' 7 = nI t := by rw [w3 7 (by omega), up_n (by omega)]; exact a4
  have f9 : f' 9 = nI L := w2.1
  have hR : RST (MM (xrI μ m f') m x.1 x.2) m t L tx S x := RST.row (by rw [RST.mm ⟨a1, a2, a3, a4, a5, a6, a7, a8, a9⟩]; exact ⟨a1, a2, a3, a4, a5, a6, a7, a8, a9⟩) f7 f9 (Nat.le_refl L)
  have h0 : xI (MM (xrI μ m f') m x.1 x.2) m 0 = 0 := by rw [MM_Io (by omega), rI_e, w3 0 (by omega), up_e]
  have hF : FS μ (MM (xrI μ m f') m x.1 x.2) (RP m) := FS_MM (FS_rI FS.rf)
  have hmm : MM μ m x.1 x.2 = μ := RST.mm ⟨a1, a2, a3, a4, a5, a6, a7, a8, a9⟩
  have f10 := w2.2.1
  have f11 := w2.2.2.1
  rcases w4 with ⟨z1, z2⟩ | z
  · have f11 : f' 11 = 0 := by rw [f11, z1]; rfl
    refine ⟨L, ⟨Nat.le_refl L, z2.1, Or.inl rfl⟩, _, fun Q => ?_, hR, h0, hF⟩
    have hst : Rn G 158 0 [some (.ref m), none] [] μ Q = Rn G 158 0 [some (.ref m), none] [] (MM μ m x.1 x.2) Q := by rw [hmm]
    show Rn G 158 0 [some (.ref m), none] [] μ Q = _
    rw [hst]
    simp (disch := first | assumption | (simp only [MM_Kd, rI_Kd, rJ_Kd, sI_Kd, sJ_Kd, sR_Kd, SV_Kd]; assumption) | omega | decide) only [q158_0, q158_0N, q158_1, q158_2, q158_5, q158_5N, q158_6, q158_7, q158_10, q158_11, q158_11N, q158_12, q158_15, q158_18, q158_18N, q158_19, q158_22, q158_25, q158_25N, q158_26, q158_29, MM_sIo, w1, MM_Io, rI_e, f11, f9, rI_Kd, rI_Ln, rI_R, rI_J, rJ_Kd, rJ_Ln, rJ_R, rJ_I, sI_Kd, sI_Ln, sI_R, sI_J, sJ_Kd, sJ_Ln, sJ_R, sJ_I, sR_Kd, sR_Ln, sR_I, sR_J, xaf_s, xaf_v, va_rf_s, xix_n, nI_clamp, xk1_i, xk1_a, xk1_u, xk1_n, xk1_l, xk1_d, true_and, and_true, ↓reduceIte, Nat.reduceAdd, xtup]
  · have f11 : f' 11 = 1 := by rw [f11, z.1]; rfl
    refine ⟨y'.1, ⟨z.2.1, z.2.2.1, ?_⟩, _, fun Q => ?_, hR, h0, hF⟩
    · rcases z.2.2.2 with ⟨q, -⟩ | q
      · exact Or.inl q
      · exact Or.inr q
    · have hst : Rn G 158 0 [some (.ref m), none] [] μ Q = Rn G 158 0 [some (.ref m), none] [] (MM μ m x.1 x.2) Q := by rw [hmm]
      show Rn G 158 0 [some (.ref m), none] [] μ Q = _
      rw [hst]
      simp (disch := first | assumption | (simp only [MM_Kd, rI_Kd, rJ_Kd, sI_Kd, sJ_Kd, sR_Kd, SV_Kd]; assumption) | omega | decide) only [q158_0, q158_0N, q158_1, q158_2, q158_5, q158_5N, q158_6, q158_7, q158_10, q158_11, q158_11N, q158_12, q158_15, q158_18, q158_18N, q158_19, q158_22, q158_25, q158_25N, q158_26, q158_29, MM_sIo, w1, MM_Io, rI_e, f11, f10, c10, rI_Kd, rI_Ln, rI_R, rI_J, rJ_Kd, rJ_Ln, rJ_R, rJ_I, sI_Kd, sI_Ln, sI_R, sI_J, sJ_Kd, sJ_Ln, sJ_R, sJ_I, sR_Kd, sR_Ln, sR_I, sR_J, xaf_s, xaf_v, va_rf_s, xix_n, nI_clamp, xk1_i, xk1_a, xk1_u, xk1_n, xk1_l, xk1_d, true_and, and_true, ↓reduceIte, Nat.reduceAdd, xtup]
theorem join_r0 (h : RST μ m t L tx S x) (hc : ¬ pComp tx L) : RLK G 159 [] μ m t L tx S x 1 (.int 0) := by
  have h0 := h
  obtain ⟨a1, a2, a3, a4, a5, a6, a7, a8, a9⟩ := h
  have k0 := a1.1
  have hge : ¬ m = m + 1 := by omega
  obtain ⟨f', y', w1, w2, w3, w4⟩ := go_0 (G := G) (s := x.1) (σ := x.2) (f := xI μ m) a1 a3 a6 a5
  rw [rI_self] at w1
  have hE : Er tx L y' := w4.resolve_left fun z => hc z.2
  have f11 : f' 11 = 1 := by rw [w2.2.2.1, hE.1]; rfl
  have h114 := fun Q => s114' (G := G) (Q := Q) (μ := xrI μ m f') (m := m) (x := x) a1 1
  rw [rI_sI] at h114
  have hR : RST (MM (xrI μ m (up f' 0 1)) m x.1 x.2) m t L tx S x := RST.row (by rw [h0.mm]; exact h0) (by rw [up_n (by omega), w3 7 (by omega)]; exact a4) (by rw [up_n (by omega)]; exact w2.1) (Nat.le_refl L)
  refine ⟨_, fun Q => ?_, hR, by rw [MM_Io (by omega), rI_e, up_e], FS_MM (FS_rI FS.rf)⟩
  show Rn G 159 0 [some (.ref m), none] [] μ Q = _
  rw [h0.mm] at w1
  simp (disch := first | assumption | (simp only [MM_Kd, rI_Kd, rJ_Kd, sI_Kd, sJ_Kd, sR_Kd, SV_Kd]; assumption) | omega | decide) only [q159_0, q159_0N, q159_1, q159_2, q159_5, q159_6, q159_6N, q159_7, q159_7N, q159_8, q159_11, q159_14, q159_15, q159_18, q159_19, q159_22, q159_25, q159_26, q159_27, q159_27N, q159_28, q159_31, q159_31N, q159_32, q159_33, q159_36, q159_37, q159_37N, q159_38, q159_41, q159_41N, q159_42, q159_43, q159_46, q159_47, q159_50, q159_51, q159_54, q159_57, q159_58, q159_59, q159_59N, q159_60, q159_63, q159_63N, q159_64, q159_65, q159_68, q159_69, q159_69N, q159_70, q159_71, q159_74, q159_74N, q159_75, q159_78, q159_79, q159_79T, q159_80, w1, MM_Io, rI_e, f11, c10, h114, c00, not_true_eq_false, rI_Kd, rI_Ln, rI_R, rI_J, rJ_Kd, rJ_Ln, rJ_R, rJ_I, sI_Kd, sI_Ln, sI_R, sI_J, sJ_Kd, sJ_Ln, sJ_R, sJ_I, sR_Kd, sR_Ln, sR_I, sR_J, xaf_s, xaf_v, va_rf_s, xix_n, nI_clamp, xk1_i, xk1_a, xk1_u, xk1_n, xk1_l, xk1_d, true_and, and_true, ↓reduceIte, Nat.reduceAdd, xtup]
theorem join_tail (h : RST ν m t L tx S x) (hc : pComp tx L) (hg : g ≤ 9999) (hI : INV c g n x) {n' : Nat} {x' : ST} (hn' : x'.1 2 = nI n') (hr : rOk tx r00 L 0 n x n' x') {l1 : Option Value} : ∃ μ', (∀ Q, Rn G 159 59 [some (.ref m), l1] [] (MM (xsI ν m 0 0) m x.1 x.2) Q = Q (.inl (some (.int (nI n')))) μ') ∧ RST μ' m (SVt t + 1) 0 tx (push t S x) x' ∧ xI μ' m 0 = 0 ∧ FS ν μ' (RP m) := by
  have h0 := h
  obtain ⟨a1, a2, a3, a4, a5, a6, a7, a8, a9⟩ := h
  have k0 := a1.1
  have hge : ¬ m = m + 1 := by omega
  obtain ⟨γ, hγ⟩ : ∃ γ, γ = SV (xsI ν m 0 0) m t x.1 x.2 := ⟨_, rfl⟩
  have h115 := fun Q => s115' (G := G) (Q := Q) (μ := ν) (m := m) (x := x) a1 a2 a4 0
  rw [← hγ] at h115
  have hsv := h0.sv (x' := x') (ν := MM γ m x'.1 x'.2) (by rw [hγ])
  have hF4 : FS ν γ (RP m) := by rw [hγ]; exact FS_SV FS_0
  have g9 : xI γ m 9 = nI L := by rw [hγ, SV_k (by omega), sI_k (by omega)]; exact a5
  have g7 : xI γ m 7 = nI (SVt t + 1) := by rw [hγ]; exact SV_7
  have g0 : xI γ m 0 = 0 := by rw [hγ, SV_k (by omega)]; exact sI_e
  have tx4 : ∀ k, k < L → xI γ (m + 7) k = tx k := fun k hk => by rw [hγ, SV_I (by omega) (by omega), sI_n (by omega)]; exact a6 k hk
  have hm4 : MS γ m := by rw [hγ]; exact MSx rfl rfl a1
  have kB := hm4.1
  obtain ⟨y1, -⟩ := go_1 (G := G) (f := xI γ m) hm4 a3 tx4 g9 hc hg hI
  rw [rI_self] at y1
  obtain ⟨-, f5, z1, z2⟩ := y1 n' x' hr
  have k91 : xKd γ (m + 1) = 9 := hm4.2.1.1
  have n91 : xLn γ (m + 1) = 619 := hm4.2.1.2
  have r91 : xR γ m 1 = some (m + 1) := hm4.2.2.2.2.2.2.2.2.1
  refine ⟨MM (xrI γ m (up f5 9 0)) m x'.1 x'.2, fun Q => ?_, hsv.1.row (by rw [up_n (by omega), z2 7 (by omega)]; exact g7) (by rw [up_e]; rfl) (Nat.zero_le L), by rw [MM_Io (by omega), rI_e, up_n (by omega), z2 0 (by omega)]; exact g0, FS_MM (FS_rI hF4)⟩
  simp (disch := first | assumption | (simp only [MM_Kd, rI_Kd, rJ_Kd, sI_Kd, sJ_Kd, sR_Kd, SV_Kd]; assumption) | omega | decide) only [q159_59, q159_60, q159_63, q159_64, q159_65, q159_68, q159_69, q159_70, q159_71, q159_74, q159_75, q159_78, q159_79, q159_80, h115, z1, MM_sIo, rI_sI, MM_R, MM_Ln, MM_I, r91, n91, xl2, nc2, hn', rI_Kd, rI_Ln, rI_R, rI_J, rJ_Kd, rJ_Ln, rJ_R, rJ_I, sI_Kd, sI_Ln, sI_R, sI_J, sJ_Kd, sJ_Ln, sJ_R, sJ_I, sR_Kd, sR_Ln, sR_I, sR_J, xaf_s, xaf_v, va_rf_s, xix_n, nI_clamp, xk1_i, xk1_a, xk1_u, xk1_n, xk1_l, xk1_d, true_and, and_true, ↓reduceIte, Nat.reduceAdd, xtup]
theorem join_r (h : RST μ m t L tx S x) (hc : pComp tx L) (hg : g ≤ 9999) (hI : INV c g n x) : ((¬ ∃ n' x', rOk tx r00 L 0 n x n' x') → RLK G 159 [] μ m t L tx S x 2 (.int 0)) ∧ ∀ n' x', x'.1 2 = nI n' → rOk tx r00 L 0 n x n' x' → ∃ μ', (∀ Q, Cn G 159 [.ref m] μ Q = Q (.inl (some (.int (nI n')))) μ') ∧ RST μ' m (SVt t + 1) 0 tx (push t S x) x' ∧ xI μ' m 0 = 0 ∧ FS μ μ' (RP m) := by
  have h0 := h
  obtain ⟨a1, a2, a3, a4, a5, a6, a7, a8, a9⟩ := h
  have k0 := a1.1
  have hge : ¬ m = m + 1 := by omega
  obtain ⟨f1, y', w1, w2, w3, w4⟩ := go_0 (G := G) (s := x.1) (σ := x.2) (f := xI μ m) a1 a3 a6 a5
  rw [rI_self, h0.mm] at w1
  have hE := w4.resolve_right fun z => z.nc hc
  have f11 : f1 11 = 0 := by rw [w2.2.2.1, hE.1]; rfl
  have h114 := fun Q => s114' (G := G) (Q := Q) (μ := xrI μ m f1) (m := m) (x := x) (MSx rfl rfl a1) 0
  rw [rI_sI] at h114
  -- put aside
  have hm2 : MS (xrI μ m (up f1 0 0)) m := MSx rfl rfl a1
  have h116 := fun Q => s116 (G := G) (Q := Q) (μ := xrI μ m (up f1 0 0)) (m := m) (s := x.1) (σ := x.2) hm2
  have fa7 : (up f1 0 0) 7 = nI t := by rw [up_n (by omega), w3 7 (by omega)]; exact a4
  have fa9 : (up f1 0 0) 9 = nI L := by rw [up_n (by omega)]; exact w2.1
  have hm3 : MS (AS (xrI μ m (up f1 0 0)) m x.1 x.2) m := MSx rfl rfl a1
  have tx3 : ∀ k, k < L → xI (AS (xrI μ m (up f1 0 0)) m x.1 x.2) (m + 7) k = tx k := fun k hk => by rw [AS_Io (by omega), rI_n (by omega)]; exact a6 k hk
  have r3 : ∀ gg, xrI (AS (xrI μ m (up f1 0 0)) m x.1 x.2) m gg = AS (xrI μ m gg) m x.1 x.2 := fun gg => by rw [AS_rI, rI_rI]
  obtain ⟨v1, v2⟩ := go_1 (G := G) (f := up f1 0 0) hm3 a3 tx3 fa9 hc hg hI
  simp only [r3] at v1 v2
  have hb : ∀ gg (x1 : ST), Hi x x1 → ∀ Q, Cn G 117 [.ref m] (MM (AS (xrI μ m gg) m x.1 x.2) m x1.1 x1.2) Q = Q (.inl none) (MM (AS (xrI μ m gg) m x.1 x.2) m x.1 x.2) := fun gg x1 hh Q => back (G := G) (Q := Q) (μ := xrI μ m gg) (m := m) (x := x) (MSx rfl rfl a1) hh
  have hRa : ∀ gg, fp (up f1 0 0) gg → RST (AS (xrI μ m gg) m x.1 x.2) m t L tx S x := fun gg hgg => by
    refine h0.fr rfl rfl ?_ ?_ ?_ ?_ ?_ ?_ ?_
    · rw [AS_Io (by omega), rI_e, hgg 7 (by omega), fa7, a4]
    · rw [AS_Io (by omega), rI_e, hgg 9 (by omega), fa9, a5]
    · rw [AS_Io (by omega), rI_n (by omega)]
    · rw [AS_Io (by omega), rI_n (by omega)]
    · rw [AS_Io (by omega), rI_n (by omega)]
    · show xJ (xrJ (xrI (xrI μ m gg) (m + 2) _) (m + 5) _) (m + 4) = _
      rw [rJ_n (by omega)]; rfl
    · show xJ (xrJ (xrI (xrI μ m gg) (m + 2) _) (m + 5) _) (m + 6) = _
      rw [rJ_n (by omega)]; rfl
  have hFa : ∀ gg, FS μ (AS (xrI μ m gg) m x.1 x.2) (RP m) := fun gg => FS_AS (FS_rI FS.rf)
  constructor
  · intro hno
    obtain ⟨x1, f3, hh, u1, u2⟩ := v2 hno
    have hRR := hRa f3 u2
    have kA : xKd (AS (xrI μ m f3) m x.1 x.2) m = 8 := (MSx (μ' := AS (xrI μ m f3) m x.1 x.2) rfl rfl a1).1
    have h114b := fun Q => s114' (G := G) (Q := Q) (μ := AS (xrI μ m f3) m x.1 x.2) (m := m) (x := x) (MSx rfl rfl a1) 2
    refine ⟨_, fun Q => ?_, hRR.th (e := 2), by rw [MM_Io (by omega)]; exact sI_e, FS_MM (h := ?_)⟩
    · show Rn G 159 0 [some (.ref m), none] [] μ Q = _
      simp (disch := first | assumption | (simp only [MM_Kd, AS_Kd, rI_Kd, sI_Kd, SV_Kd]; assumption) | omega | decide) only [q159_0, q159_0N, q159_1, q159_2, q159_5, q159_6, q159_6N, q159_7, q159_7N, q159_8, q159_11, q159_14, q159_15, q159_18, q159_19, q159_22, q159_25, q159_26, q159_27, q159_27N, q159_28, q159_31, q159_31N, q159_32, q159_33, q159_36, q159_37, q159_37N, q159_38, q159_41, q159_41N, q159_42, q159_43, q159_46, q159_47, q159_50, q159_51, q159_54, q159_57, q159_58, q159_59, q159_59N, q159_60, q159_63, q159_63N, q159_64, q159_65, q159_68, q159_69, q159_69N, q159_70, q159_71, q159_74, q159_74N, q159_75, q159_78, q159_79, q159_79T, q159_80, w1, MM_Io, rI_e, f11, c10, c20, h114, h116, u1, hb f3 x1 hh, h114b, c00, not_true_eq_false, not_false_eq_true, rI_Kd, rI_Ln, rI_R, rI_J, rJ_Kd, rJ_Ln, rJ_R, rJ_I, sI_Kd, sI_Ln, sI_R, sI_J, sJ_Kd, sJ_Ln, sJ_R, sJ_I, sR_Kd, sR_Ln, sR_I, sR_J, xaf_s, xaf_v, va_rf_s, xix_n, nI_clamp, xk1_i, xk1_a, xk1_u, xk1_n, xk1_l, xk1_d, true_and, and_true, ↓reduceIte, Nat.reduceAdd, xtup]
    · exact (hFa f3).tr FS_0
  · intro n' x' hn' hr
    obtain ⟨hh, f3, u1, u2⟩ := v1 n' x' hr
    have hRR := hRa f3 u2
    have kA : xKd (AS (xrI μ m f3) m x.1 x.2) m = 8 := (MSx (μ' := AS (xrI μ m f3) m x.1 x.2) rfl rfl a1).1
    have h114b := fun Q => s114' (G := G) (Q := Q) (μ := AS (xrI μ m f3) m x.1 x.2) (m := m) (x := x) (MSx rfl rfl a1) 0
    obtain ⟨μ', y1, y2, y3, y4⟩ := join_tail (G := G) hRR hc hg hI hn' hr (l1 := some (.int 1))
    refine ⟨μ', fun Q => ?_, y2, y3, (hFa f3).tr y4⟩
    show Rn G 159 0 [some (.ref m), none] [] μ Q = _
    rw [← y1 Q]
    simp (disch := first | assumption | (simp only [MM_Kd, AS_Kd, rI_Kd, sI_Kd, SV_Kd]; assumption) | omega | decide) only [q159_0, q159_0N, q159_1, q159_2, q159_5, q159_6, q159_6N, q159_7, q159_7N, q159_8, q159_11, q159_14, q159_15, q159_18, q159_19, q159_22, q159_25, q159_26, q159_27, q159_27N, q159_28, q159_31, q159_31N, q159_32, q159_33, q159_36, q159_37, q159_37N, q159_38, q159_41, q159_41N, q159_42, q159_43, q159_46, q159_47, q159_50, q159_51, q159_54, q159_57, q159_58, q159_60, q159_63, q159_63N, q159_64, q159_65, q159_68, q159_69, q159_69N, q159_70, q159_71, q159_74, q159_74N, q159_75, q159_78, q159_79, q159_79T, q159_80, w1, MM_Io, rI_e, f11, c10, h114, h116, u1, hb f3 x' hh, h114b, c00, not_true_eq_false, not_false_eq_true, rI_Kd, rI_Ln, rI_R, rI_J, rJ_Kd, rJ_Ln, rJ_R, rJ_I, sI_Kd, sI_Ln, sI_R, sI_J, sJ_Kd, sJ_Ln, sJ_R, sJ_I, sR_Kd, sR_Ln, sR_I, sR_J, xaf_s, xaf_v, va_rf_s, xix_n, nI_clamp, xk1_i, xk1_a, xk1_u, xk1_n, xk1_l, xk1_d, true_and, and_true, ↓reduceIte, Nat.reduceAdd, xtup]
theorem undo_r0 (h : RST μ m 0 L tx S x) : RLK G 160 [] μ m 0 L tx S x 1 (.int 0) := look_of h fun Q => s160_0 h.1 h.2.2.2.1
theorem undo_r (h : RST μ m (t + 1) L tx S x) : ∃ μ' x', (∀ Q, Cn G 160 [.ref m] μ Q = Q (.inl (some (.int (nI t)))) μ') ∧ RST μ' m t L tx S x' ∧ EQ (S t) x' ∧ xI μ' m 0 = 0 ∧ FS μ μ' (RP m) := by
  have h0 := h
  obtain ⟨a1, a2, a3, a4, a5, a6, a7, a8, a9⟩ := h
  have hE := a9 t (Nat.lt_succ_self t)
  have hq := fun Q => s160_1 (G := G) (Q := Q) (x := x) a1 (show t < 6 by omega) a4
  rw [h0.mm] at hq
  refine ⟨_, (cpy (fun j => xI μ (m + 3) (619 * t + j)) x.1 0 619, cpy (fun j => xJ μ (m + 6) (6 * t + j)) x.2 0 6), hq, ⟨a1, by omega, a3, ?_, ?_, fun k hk => ?_, MM_I, MM_J, fun k hk => ?_⟩, ⟨fun j hj => ?_, fun j hj => ?_⟩, ?_, ?_⟩
  · rw [MM_Io (by omega)]; exact sI_e
  · rw [MM_Io (by omega), sI_k (by omega), sI_k (by omega)]; exact a5
  · rw [MM_Io (by omega), sI_n (by omega), sI_n (by omega)]; exact a6 k hk
  · have := a9 k (by omega)
    unfold slc at this ⊢
    rw [MM_Io (by omega), MM_Jo (by omega), sI_n (by omega), sI_n (by omega)]
    exact this
  · dsimp only; rw [cpy_i' hj]; exact hE.1 j hj
  · dsimp only; rw [cpy_i' hj]; exact hE.2 j hj
  · rw [MM_Io (by omega), sI_k (by omega)]; exact sI_e
  · exact FS_MM ((FS_0 (m := m)).tr FS_0)
theorem app_r (h : RST μ m t L tx S x) (code : Int32) : (bad code 33 126 → RLK G 150 [.int code] μ m t L tx S x 1 (.int 0)) ∧ (¬ bad code 33 126 → L = 60 → RLK G 150 [.int code] μ m t L tx S x 2 (.int 0)) ∧ (¬ bad code 33 126 → L ≠ 60 → ∃ μ', (∀ Q, Cn G 150 [.ref m, .int code] μ Q = Q (.inl (some (.int (nI (L + 1))))) μ') ∧ RST μ' m t (L + 1) (up tx L code) S x ∧ xI μ' m 0 = 0 ∧ FS μ μ' (RP m)) := by
  have h0 := h
  obtain ⟨a1, a2, a3, a4, a5, a6, a7, a8, a9⟩ := h
  have hq := fun Q => s150 (G := G) (Q := Q) (x := x) a1 a3 a5 code
  refine ⟨fun hb => look_of h0 fun Q => (hq Q).trans (if_pos hb), fun hb hL => look_of h0 fun Q => (hq Q).trans ((if_neg hb).trans (if_pos hL)), fun hb hL => ?_⟩
  have hq' := fun Q => (hq Q).trans ((if_neg hb).trans (if_neg hL))
  rw [h0.mm] at hq'
  refine ⟨_, hq', ⟨a1, a2, by omega, ?_, ?_, fun k hk => ?_, MM_I, MM_J, fun k hk => ?_⟩, ?_, ?_⟩
  · rw [MM_Io (by omega), sI_k (by omega), sI_n (by omega), sI_k (by omega)]; exact a4
  · rw [MM_Io (by omega)]; exact sI_e
  · rw [MM_Io (by omega), sI_n (by omega)]
    by_cases hkL : k = L
    · subst hkL; rw [sI_e, up_e]
    · rw [sI_k hkL, up_n hkL, sI_n (by omega)]; exact a6 k (by omega)
  · have := a9 k hk
    unfold slc at this ⊢
    rw [MM_Io (by omega), MM_Jo (by omega), sI_n (by omega), sI_n (by omega), sI_n (by omega)]
    exact this
  · rw [MM_Io (by omega), sI_k (by omega), sI_n (by omega)]; exact sI_e
  · exact FS_MM ((FS_0 (m := m)).tr (((FR.sI (P := RP m) (a := m + 7) ⟨by omega, by omega⟩).fs).tr FS_0))
theorem clr_r (h : RST μ m t L tx S x) : ∃ μ', (∀ Q, Cn G 151 [.ref m] μ Q = Q (.inl (some (.int (nI L)))) μ') ∧ RST μ' m t 0 tx S x ∧ FS μ μ' (RP m) := by
  have h0 := h
  obtain ⟨a1, a2, a3, a4, a5, a6, a7, a8, a9⟩ := h
  have hq := fun Q => s151 (G := G) (Q := Q) (x := x) a1
  rw [h0.mm, a5] at hq
  refine ⟨_, hq, ⟨a1, a2, by omega, ?_, ?_, fun k hk => absurd hk (Nat.not_lt_zero k), MM_I, MM_J, fun k hk => ?_⟩, ?_⟩
  · rw [MM_Io (by omega), sI_k (by omega), sI_k (by omega)]; exact a4
  · rw [MM_Io (by omega)]; exact sI_e
  · have := a9 k hk
    unfold slc at this ⊢
    rw [MM_Io (by omega), MM_Jo (by omega), sI_n (by omega), sI_n (by omega)]
    exact this
  · exact FS_MM ((FS_0 (m := m)).tr FS_0)
end RTX
