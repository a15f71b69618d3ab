/-! THE WHOLE OBJECT, ITS HISTORY -/
theorem SC.fs {μ μ' : xMem} {b n : Nat} {π : Nat → Nat} {x : ST} {P : Nat → Prop} (h : SC μ b π n x) (hF : FS μ μ' P) (hp : ∀ q, b ≤ q → q < b + 55 → ¬ P q) : SC μ' b π n x := by
  obtain ⟨hS, hR, ⟨g3, g0, gf, g4, g5, gs, gr, gσ⟩, hM, h0⟩ := h
  have e := fun q h1 h2 => hF.2.2 q (hp q h1 h2)
  have pi := fun j (hj : j < 8) => (hR.1 j hj).1
  refine ⟨hS.of hF.1 (e b (by omega) (by omega)).2.2, ⟨fun i hi => ⟨(hR.1 i hi).1, ?_⟩, hR.2.1, fun j hj => (hR.2.2 j hj).of hF.1 (e _ (by omega) (by omega)).2.2 (e _ (by omega) (by omega)).2.2⟩, ⟨?_, ?_, ?_, ?_, ?_, fun k hk => ?_, fun k hk => ?_, fun k hk => ?_⟩, fun i hi hi8 => (hM i hi hi8).of fun q q1 q2 => ?_, fun i hi hi8 => ?_⟩
  · rw [(e (b + 5) (by omega) (by omega)).2.2]; exact (hR.1 i hi).2
  · rw [(e b (by omega) (by omega)).1]; exact g3
  · rw [(e b (by omega) (by omega)).1]; exact g0
  · rw [(e b (by omega) (by omega)).2.1]; exact gf
  · rw [(e b (by omega) (by omega)).1]; exact g4
  · rw [(e b (by omega) (by omega)).1]; exact g5
  · rw [(e (b + 1) (by omega) (by omega)).1]; exact gs k hk
  · rw [(e (b + 2) (by omega) (by omega)).1, (e (b + 3) (by omega) (by omega)).1, (e (b + 4) (by omega) (by omega)).1]; exact gr k hk
  · rw [(e (b + 6) (by omega) (by omega)).2.1]; exact gσ k hk
  · have := pi i hi8; unfold AD at q1 q2; exact (e q (by omega) (by omega)).1
  · have := pi i hi8; unfold AD; rw [(e _ (by omega) (by omega)).1]; exact h0 i hi hi8
theorem shape_fs {μ μ' : xMem} {b : Nat} {π : Nat → Nat} {P : Nat → Prop} (h : SH μ b ∧ RWS μ b π) (hF : FS μ μ' P) (hp : ∀ q, b ≤ q → q < b + 55 → ¬ P q) : SH μ' b ∧ RWS μ' b π := by
  obtain ⟨hS, hR⟩ := h
  have e := fun q h1 h2 => hF.2.2 q (hp q h1 h2)
  refine ⟨hS.of hF.1 (e b (by omega) (by omega)).2.2, ⟨fun i hi => ⟨(hR.1 i hi).1, ?_⟩, hR.2.1, fun j hj => (hR.2.2 j hj).of hF.1 (e _ (by omega) (by omega)).2.2 (e _ (by omega) (by omega)).2.2⟩⟩
  rw [(e (b + 5) (by omega) (by omega)).2.2]; exact (hR.1 i hi).2
/-- the same row and sums -/
def EQ (x y : ST) : Prop := (∀ j, j < 619 → y.1 j = x.1 j) ∧ ∀ j, j < 6 → y.2 j = x.2 j
theorem EQ.mw {x y : ST} (h : EQ x y) {p : Nat} (hp : p < 8) : mw y.1 p = mw x.1 p := mw_cg fun j h1 h2 => h.1 j (by omega)
theorem SC.cg {μ : xMem} {b n : Nat} {π : Nat → Nat} {x y : ST} (h : SC μ b π n x) (he : EQ x y) : SC μ b π n y := by
  obtain ⟨hS, hR, ⟨g3, g0, gf, g4, g5, gs, gr, gσ⟩, hM, h0⟩ := h
  refine ⟨hS, hR, ⟨?_, ?_, ?_, ?_, ?_, fun k hk => ?_, fun k hk => ?_, fun k hk => ?_⟩, fun i hi hi8 => ?_, h0⟩
  · rw [he.1 3 (by omega)]; exact g3
  · rw [he.1 0 (by omega)]; exact g0
  · rw [he.1 1 (by omega)]; exact gf
  · rw [he.1 4 (by omega)]; exact g4
  · rw [he.1 5 (by omega)]; exact g5
  · rw [he.1 _ (by omega)]; exact gs k hk
  · rw [he.1 _ (by omega), he.1 _ (by omega), he.1 _ (by omega)]; exact gr k hk
  · rw [he.2 k hk]; exact gσ k hk
  · rw [he.mw hi8]; exact hM i hi hi8
theorem INV.cg {c g n : Nat} {x y : ST} (h : INV c g n x) (he : EQ x y) : INV c g n y := by
  obtain ⟨h1, ⟨h2, h3⟩, h4⟩ := h
  have h8 := h1.2.2.1
  refine ⟨h1.of (fun j hj _ _ _ _ => he.1 j (by omega)) (by rw [he.1 1 (by omega)]; exact h1.2.2.2.1), ⟨by rw [he.2 0 (by omega)]; exact h2, by rw [he.2 1 (by omega)]; exact h3⟩, fun p hp => by rw [he.mw (by omega)]; exact h4 p hp⟩
theorem INV.up {c c' g n : Nat} {x : ST} (h : INV c g n x) (hc : c ≤ c') : INV c' g n x := by
  obtain ⟨h1, ⟨h2, s, h3, h5⟩, h4⟩ := h
  exact ⟨h1, ⟨h2, s, h3, by have := Nat.mul_le_mul_left 10000000 hc; omega⟩, h4⟩
def CSH (μ : xMem) (o : Nat) : Prop := xKd μ o = 7 ∧ (xR μ o 0 = some (o + 1) ∧ xR μ o 1 = some (o + 56) ∧ xR μ o 2 = some (o + 111) ∧ xR μ o 3 = some (o + 443) ∧ xR μ o 4 = some (o + 445)) ∧ (xKd μ (o + 111) = 2 ∧ xR μ (o + 111) 0 = some (o + 112)) ∧ (xKd μ (o + 112) = 14 ∧ xLn μ (o + 112) = 6 ∧ ∀ j, j < 6 → xR μ (o + 112) j = some (o + 113 + 55 * j)) ∧
  (xKd μ (o + 443) = 1 ∧ xR μ (o + 443) 0 = some (o + 444)) ∧ (xKd μ (o + 444) = 10 ∧ xLn μ (o + 444) = 60) ∧ xKd μ (o + 445) = 5
def CSS (μ : xMem) (o : Nat) : Prop := (∃ π, SH μ (o + 56) ∧ RWS μ (o + 56) π) ∧ ∀ j, j < 6 → ∃ π, SH μ (o + 113 + 55 * j) ∧ RWS μ (o + 113 + 55 * j) π
def CHS (μ : xMem) (o c t : Nat) (S : Nat → ST) : Prop := ∃ f, f < 6 ∧ t ≤ 6 ∧ xI μ (o + 111) 1 = nI f ∧ xI μ (o + 111) 2 = nI t ∧ ∀ k, k < t → ∃ g n π, g ≤ 9999 ∧ INV c g n (S k) ∧ SC μ (o + 113 + 55 * ((f + k) % 6)) π n (S k)
def push (t : Nat) (S : Nat → ST) (x : ST) : Nat → ST := fun k => if t = 6 then (if k = 5 then x else S (k + 1)) else if k = t then x else S k
section TPC
variable {G : xCtx} {μ : xMem} {Q : xOut → xMem → Prop} {o n k c p g t : Nat} {π : Nat → Nat} {S : Nat → ST} {x : ST}
theorem CSH.fs {μ' : xMem} {P : Nat → Prop} (h : CSH μ o) (hF : FS μ μ' P) (h0 : ∀ q, q = o ∨ q = o + 111 ∨ q = o + 112 ∨ q = o + 443 → xR μ' q = xR μ q) : CSH μ' o := by
  unfold CSH xKd xLn at *
  rw [hF.1, h0 o (by omega), h0 (o + 111) (by omega), h0 (o + 112) (by omega), h0 (o + 443) (by omega)]
  exact h
/-- the state is saved -/
theorem c5 (hC : CSH μ o) (hs : CSS μ o) (h : SC μ (o + 1) π n x) (hI : INV c g n x) (hg : g ≤ 9999) (hH : CHS μ o c t S) : ∃ μ', (∀ Q, Cn G 5 [.ref (o + 111), .ref (o + 1)] μ Q = Q (.inl none) μ') ∧ CHS μ' o c (SVt t + 1) (push t S x) ∧ CSS μ' o ∧ CSH μ' o ∧ SC μ' (o + 1) π n x ∧ FS μ μ' (fun q => o + 111 ≤ q ∧ q < o + 443) := by
  obtain ⟨f, hf, ht, hf1, ht1, hk⟩ := hH
  have hC0 := hC
  obtain ⟨ko, ⟨o0, o1, o2, o3, o4⟩, ⟨k1, k1r⟩, ⟨k2, k2l, k2r⟩, ⟨k3, k3r⟩, ⟨k4, k4l⟩, k5⟩ := hC
  have hi6 : (f + t) % 6 < 6 := Nat.mod_lt _ (by omega)
  obtain ⟨π1, hS1, hR1⟩ := hs.2 _ hi6
  obtain ⟨μ1, e1, e2, e3⟩ := c34 (G := G) hS1 hR1 h hI (by omega)
  have e3' : FS μ μ1 (fun q => o + 111 ≤ q ∧ q < o + 443) := e3.fs.mono fun q hq => by unfold BK at hq; omega
  have hrow := k2r _ hi6
  have kS := hS1.1
  have n6 : ((6 : Int32) ≤ nI t) = (6 ≤ t) := propext (nI_leI (a := 6) (by omega) (by omega))
  have k1' : xKd μ1 (o + 111) = 2 := by unfold xKd; rw [e3'.1]; exact k1
  have i1 : xI μ1 (o + 111) 1 = nI f := by rw [(e3.2.2.2 (o + 111) (by unfold BK; omega)).1]; exact hf1
  have i2 : xI μ1 (o + 111) 2 = nI t := by rw [(e3.2.2.2 (o + 111) (by unfold BK; omega)).1]; exact ht1
  have h209a := fun Q => c209 (G := G) (μ := μ) (Q := Q) (i := f + t) (d := 6) (by omega) (by omega) (by omega)
  have h209b := fun Q => c209 (G := G) (μ := μ1) (Q := Q) (i := f + 1) (d := 6) (by omega) (by omega) (by omega)
  have z6 : (6 : Int32) = nI 6 := rfl
  have k14 : xKd μ (o + 112) = 13 ∨ xKd μ (o + 112) = 14 := Or.inr k2
  have fin : ∀ μ2 f', f' < 6 → FS μ1 μ2 (fun q => q = o + 111) → xI μ2 (o + 111) 1 = nI f' → xI μ2 (o + 111) 2 = nI (SVt t + 1) → xR μ2 (o + 111) = xR μ1 (o + 111) → (∀ k, k < SVt t + 1 → (push t S x k = x ∧ (f' + k) % 6 = (f + t) % 6) ∨ ∃ k', k' < t ∧ push t S x k = S k' ∧ (f' + k) % 6 = (f + k') % 6 ∧ (f + k') % 6 ≠ (f + t) % 6) → CHS μ2 o c (SVt t + 1) (push t S x) ∧ CSS μ2 o ∧ CSH μ2 o ∧ SC μ2 (o + 1) π n x ∧ FS μ μ2 (fun q => o + 111 ≤ q ∧ q < o + 443) := by
    intro μ2 f' hf' hF h1 h2 hr hpos
    have hF' : FS μ μ2 (fun q => o + 111 ≤ q ∧ q < o + 443) := e3'.tr (hF.mono fun q hq => by omega)
    refine ⟨⟨f', hf', by unfold SVt; split <;> omega, h1, h2, fun k hk' => ?_⟩, ⟨?_, fun j hj => ?_⟩, hC0.fs hF' (fun q hq => ?_), h.fs hF' (fun q q1 q2 => by omega), hF'⟩
    · rcases hpos k hk' with ⟨p1, p2⟩ | ⟨k', p1, p2, p3, p4⟩
      · rw [p1, p2]
        exact ⟨g, n, π1, hg, hI, e2.fs hF fun q q1 q2 => by omega⟩
      · rw [p2, p3]
        obtain ⟨g', n', π', w1, w2, w3⟩ := hk k' p1
        have hm6 : (f + k') % 6 < 6 := Nat.mod_lt _ (by omega)
        refine ⟨g', n', π', w1, w2, (w3.fs e3.fs fun q q1 q2 => ?_).fs hF fun q q1 q2 => by omega⟩
        unfold BK; omega
    · obtain ⟨π2, hh⟩ := hs.1
      exact ⟨π2, shape_fs hh hF' fun q q1 q2 => by omega⟩
    · obtain ⟨π2, hh⟩ := hs.2 j hj
      by_cases hji : j = (f + t) % 6
      · subst hji
        exact ⟨π1, shape_fs ⟨e2.1, e2.2.1⟩ hF fun q q1 q2 => by omega⟩
      · refine ⟨π2, shape_fs (shape_fs hh e3.fs fun q q1 q2 => ?_) hF fun q q1 q2 => by omega⟩
        unfold BK; omega
    · rcases hq with rfl | rfl | rfl | rfl
      · exact (hF'.2.2 _ (by omega)).2.2
      · rw [hr, e3.2.2.1]
      · rw [(hF.2.2 _ (by omega)).2.2, e3.2.2.1]
      · exact (hF'.2.2 _ (by omega)).2.2
  by_cases h6 : t = 6
  · subst h6
    have hle : (6 ≤ 6) := Nat.le_refl 6
    have hfr : FS μ1 (xsI μ1 (o + 111) 1 (nI ((f + 1) % 6))) (fun q => q = o + 111) := (FR.sI (P := fun q => q = o + 111) rfl).fs
    refine ⟨xsI μ1 (o + 111) 1 (nI ((f + 1) % 6)), fun Q => ?_, fin _ ((f + 1) % 6) (Nat.mod_lt _ (by omega)) hfr sI_e (by rw [sI_k (by omega), i2]; rfl) rfl fun k hk' => ?_⟩
    · show Rn G 5 0 [some (.ref (o + 111)), some (.ref (o + 1))] [] μ Q = _
      simp (disch := first | assumption | omega) only [q5_0, q5_0N, q5_1, q5_4, q5_4N, q5_5, q5_8, q5_8N, q5_9, q5_12, q5_13, q5_15, q5_18, q5_19, q5_19N, q5_20, q5_23, q5_23N, q5_24, q5_27, q5_29, q5_32, q5_32N, q5_33, q5_34, q5_37, q5_38, q5_39, q5_42, q5_45, q5_45N, q5_46, q5_46N, q5_47, q5_50, q5_51, q5_52, q5_54, q5_57, q5_60, k1r, hf1, ht1, nI_add, z6, h209a, h209b, k2l, hrow, e1, i1, i2, n6, nI_leI, hle, nI_1, rI_Kd, rI_Ln, rI_R, rI_J, rJ_Kd, rJ_Ln, rJ_R, rJ_I, sI_Kd, sI_Ln, sI_R, sI_J, sJ_Kd, sJ_Ln, sJ_R, sJ_I, sR_Kd, sR_Ln, sR_I, sR_J, xaf_s, xaf_v, va_rf_s, xix_n, nI_clamp, xk1_i, xk1_a, xk1_u, xk1_n, xk1_l, xk1_d, true_and, and_true, ↓reduceIte, Nat.reduceAdd, xtup]
    · have hk6 : k < 6 := hk'
      unfold push
      rw [if_pos rfl]
      by_cases h5 : k = 5
      · left; rw [if_pos h5]; exact ⟨rfl, by omega⟩
      · right; rw [if_neg h5]; exact ⟨k + 1, by omega, rfl, by omega, by omega⟩
  · have hlt : ¬ 6 ≤ t := by omega
    have hsv : SVt t = t := if_neg h6
    have hfr : FS μ1 (xsI μ1 (o + 111) 2 (nI (t + 1))) (fun q => q = o + 111) := (FR.sI (P := fun q => q = o + 111) rfl).fs
    refine ⟨xsI μ1 (o + 111) 2 (nI (t + 1)), fun Q => ?_, fin _ f hf hfr (by rw [sI_k (by omega)]; exact i1) (by rw [sI_e, hsv]) rfl fun k hk' => ?_⟩
    · show Rn G 5 0 [some (.ref (o + 111)), some (.ref (o + 1))] [] μ Q = _
      simp (disch := first | assumption | omega) only [q5_0, q5_0N, q5_1, q5_4, q5_4N, q5_5, q5_8, q5_8N, q5_9, q5_12, q5_13, q5_15, q5_18, q5_19, q5_19N, q5_20, q5_23, q5_23N, q5_24, q5_27, q5_29, q5_32, q5_32N, q5_33, q5_34, q5_37, q5_38, q5_39, q5_42, q5_45, q5_45N, q5_46, q5_46N, q5_47, q5_50, q5_51, q5_52, q5_54, q5_57, q5_60, k1r, hf1, ht1, nI_add, z6, h209a, k2l, hrow, e1, i1, i2, n6, nI_leI, hlt, nI_1, rI_Kd, rI_Ln, rI_R, rI_J, rJ_Kd, rJ_Ln, rJ_R, rJ_I, sI_Kd, sI_Ln, sI_R, sI_J, sJ_Kd, sJ_Ln, sJ_R, sJ_I, sR_Kd, sR_Ln, sR_I, sR_J, xaf_s, xaf_v, va_rf_s, xix_n, nI_clamp, xk1_i, xk1_a, xk1_u, xk1_n, xk1_l, xk1_d, true_and, and_true, ↓reduceIte, Nat.reduceAdd, xtup]
    · rw [hsv] at hk'
      unfold push
      rw [if_neg h6]
      by_cases h5 : k = t
      · left; rw [if_pos h5]; exact ⟨rfl, by omega⟩
      · right; rw [if_neg h5]; exact ⟨k, by omega, rfl, rfl, by omega⟩
/-- the last saved state comes back -/
theorem c6 (hC : CSH μ o) (hs : CSS μ o) (h : SH μ (o + 1) ∧ RWS μ (o + 1) π) (hH : CHS μ o c (t + 1) S) : ∃ μ' g' n' π', (∀ Q, Cn G 6 [.ref (o + 111), .ref (o + 1)] μ Q = Q (.inl none) μ') ∧ CHS μ' o c t S ∧ CSS μ' o ∧ CSH μ' o ∧ g' ≤ 9999 ∧ INV c g' n' (S t) ∧ SC μ' (o + 1) π' n' (S t) ∧ FS μ μ' (fun q => (o + 1 ≤ q ∧ q < o + 56) ∨ q = o + 111) := by
  obtain ⟨f, hf, ht, hf1, ht1, hk⟩ := hH
  have hC0 := hC
  obtain ⟨ko, ⟨o0, o1, o2, o3, o4⟩, ⟨k1, k1r⟩, ⟨k2, k2l, k2r⟩, ⟨k3, k3r⟩, ⟨k4, k4l⟩, k5⟩ := hC
  have hi6 : (f + t) % 6 < 6 := Nat.mod_lt _ (by omega)
  obtain ⟨g', n', π1, hg, hI, hSC⟩ := hk t (by omega)
  have hrow := k2r _ hi6
  have hfr : FS μ (xsI μ (o + 111) 2 (nI t)) (fun q => q = o + 111) := (FR.sI (P := fun q => q = o + 111) rfl).fs
  obtain ⟨hS0, hR0⟩ := shape_fs h hfr fun q q1 q2 => by omega
  obtain ⟨μ1, e1, e2, e3⟩ := c34 (G := G) hS0 hR0 (hSC.fs hfr fun q q1 q2 => by omega) hI (by omega)
  have e3' : FS (xsI μ (o + 111) 2 (nI t)) μ1 (fun q => o + 1 ≤ q ∧ q < o + 56) := e3.fs.mono fun q hq => by unfold BK at hq; omega
  have hF : FS μ μ1 (fun q => (o + 1 ≤ q ∧ q < o + 56) ∨ q = o + 111) := (hfr.mono fun q hq => Or.inr hq).tr (e3'.mono fun q hq => Or.inl hq)
  have z0 : (nI (t + 1) ≤ (0 : Int32)) = False := by apply eq_false; rw [show (0 : Int32) = nI 0 from rfl, nI_leI (by omega) (by omega)]; omega
  have z6 : (6 : Int32) = nI 6 := rfl
  have h209a := fun Q => c209 (G := G) (μ := xsI μ (o + 111) 2 (nI t)) (Q := Q) (i := f + t) (d := 6) (by omega) (by omega) (by omega)
  have j1 : xI (xsI μ (o + 111) 2 (nI t)) (o + 111) 1 = nI f := by rw [sI_k (by omega)]; exact hf1
  have j2 : xI (xsI μ (o + 111) 2 (nI t)) (o + 111) 2 = nI t := sI_e
  have kN := h.1.1
  have i1 : xI μ1 (o + 111) 1 = nI f := by rw [(e3'.2.2 (o + 111) (by omega)).1]; exact j1
  have i2 : xI μ1 (o + 111) 2 = nI t := by rw [(e3'.2.2 (o + 111) (by omega)).1]; exact j2
  have k14 : xKd μ (o + 112) = 13 ∨ xKd μ (o + 112) = 14 := Or.inr k2
  refine ⟨μ1, g', n', π, fun Q => ?_, ⟨f, hf, by omega, i1, i2, fun k hk' => ?_⟩, ⟨?_, fun j hj => ?_⟩, hC0.fs hF fun q hq => ?_, hg, hI, e2, hF⟩
  · show Rn G 6 0 [some (.ref (o + 111)), some (.ref (o + 1))] [] μ Q = _
    simp (disch := first | assumption | (simp only [rI_Kd, rI_Ln, rI_R, rI_J, rJ_Kd, rJ_Ln, rJ_R, rJ_I, sI_Kd, sI_Ln, sI_R, sI_J, sJ_Kd, sJ_Ln, sJ_R, sJ_I, sR_Kd, sR_Ln, sR_I, sR_J]; assumption) | omega) only [q6_0, q6_0N, q6_1, q6_4, q6_7, q6_7N, q6_8, q6_9, q6_12, q6_13, q6_14, q6_17, q6_17N, q6_18, q6_18N, q6_19, q6_22, q6_22N, q6_23, q6_26, q6_26N, q6_27, q6_30, q6_31, q6_33, q6_36, q6_37, q6_40, k1r, ht1, z0, nI_s1, j1, j2, nI_add, z6, h209a, k2l, hrow, e1, rI_Kd, rI_Ln, rI_R, rI_J, rJ_Kd, rJ_Ln, rJ_R, rJ_I, sI_Kd, sI_Ln, sI_R, sI_J, sJ_Kd, sJ_Ln, sJ_R, sJ_I, sR_Kd, sR_Ln, sR_I, sR_J, xaf_s, xaf_v, va_rf_s, xix_n, nI_clamp, xk1_i, xk1_a, xk1_u, xk1_n, xk1_l, xk1_d, true_and, and_true, ↓reduceIte, Nat.reduceAdd, xtup]
  · obtain ⟨g2, n2, π2, w1, w2, w3⟩ := hk k (by omega)
    exact ⟨g2, n2, π2, w1, w2, w3.fs hF fun q q1 q2 => by omega⟩
  · obtain ⟨π2, hh⟩ := hs.1
    exact ⟨π2, shape_fs hh hF fun q q1 q2 => by omega⟩
  · obtain ⟨π2, hh⟩ := hs.2 j hj
    exact ⟨π2, shape_fs hh hF fun q q1 q2 => by omega⟩
  · rcases hq with rfl | rfl | rfl | rfl
    · exact (hF.2.2 _ (by omega)).2.2
    · rw [(e3'.2.2 _ (by omega)).2.2]; rfl
    · exact (hF.2.2 _ (by omega)).2.2
    · exact (hF.2.2 _ (by omega)).2.2
end TPC
