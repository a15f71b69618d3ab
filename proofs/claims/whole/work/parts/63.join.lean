/-! THE CLASS: ALL MEMBERS OF A TEXT -/
def r00 : Nat → Int32 := fun _ => 0
/-- complete members as a text -/
def pComp (tx : Nat → Int32) (L : Nat) : Prop := rK tx r00 L ∧ (rS tx r00 L 0 = 6 ∨ rS tx r00 L 0 = 8)
section JAC
variable {G : xCtx} {μ : xMem} {Q : xOut → xMem → Prop} {o n k c p g t b L : Nat} {π : Nat → Nat} {S : Nat → ST} {x : ST} {tx r0 : Nat → Int32}
theorem CST.fs {μ' : xMem} {P : Nat → Prop} (h : CST μ o c g n π t S x) (hF : FS μ μ' P) (hp : ∀ q, o ≤ q → q < o + 443 → ¬ P q) (hr : xR μ' (o + 443) = xR μ (o + 443)) : CST μ' o c g n π t S x := by
  obtain ⟨hC, hs, ⟨f, a1, a2, a3, a4, a5⟩, hg, hI, hSC⟩ := h
  have e := fun q (h1 : o ≤ q) (h2 : q < o + 443) => hF.2.2 q (hp q h1 h2)
  refine ⟨hC.fs hF fun q hq => ?_, ⟨?_, fun j hj => ?_⟩, ⟨f, a1, a2, ?_, ?_, fun k hk => ?_⟩, hg, hI, hSC.fs hF fun q q1 q2 => hp q (by omega) (by omega)⟩
  · rcases hq with rfl | rfl | rfl | rfl
    · exact (e _ (by omega) (by omega)).2.2
    · exact (e _ (by omega) (by omega)).2.2
    · exact (e _ (by omega) (by omega)).2.2
    · exact hr
  · obtain ⟨π2, hh⟩ := hs.1
    exact ⟨π2, shape_fs hh hF fun q q1 q2 => hp q (by omega) (by omega)⟩
  · obtain ⟨π2, hh⟩ := hs.2 j hj
    exact ⟨π2, shape_fs hh hF fun q q1 q2 => hp q (by omega) (by omega)⟩
  · rw [(e (o + 111) (by omega) (by omega)).1]; exact a3
  · rw [(e (o + 111) (by omega) (by omega)).1]; exact a4
  · obtain ⟨g2, n2, π2, b1, b2, b3⟩ := a5 k hk
    exact ⟨g2, n2, π2, b1, b2, b3.fs hF fun q q1 q2 => hp q (by omega) (by omega)⟩
theorem FSrd {r : Nat → Int32} : FS μ (xrI μ (o + 445) r) (fun q => q = o + 445) := ⟨rfl, rfl, fun q hq => ⟨by rw [rI_n hq], rfl, rfl⟩⟩
theorem CBF.of {μ' : xMem} (h : CBF μ o L tx) (e1 : xI μ' (o + 443) = xI μ (o + 443)) (e2 : xI μ' (o + 444) = xI μ (o + 444)) : CBF μ' o L tx := by
  unfold CBF at *
  rw [e1, e2]; exact h
theorem c102 (hC : CSH μ o) (hB : CBF μ o L tx) (h : SC μ (o + 56) π n x) (hI : INV c g n x) (hg : g ≤ 9999) (hc : pComp tx L) : ∃ μ', FS μ μ' (fun q => BK (o + 56) q ∨ q = o + 445) ∧ SH μ' (o + 56) ∧ RWS μ' (o + 56) π ∧ (∀ n' x', rOk tx r00 L 0 n x n' x' → (∀ Q, Cn G 102 [.ref o] μ Q = Q (.inl (some (.int 1))) μ') ∧ SC μ' (o + 56) π n' x' ∧ INV c g n' x') ∧ ((¬ ∃ n' x', rOk tx r00 L 0 n x n' x') → ∀ Q, Cn G 102 [.ref o] μ Q = Q (.inl (some (.int 0))) μ') := by
  have hC0 := hC
  obtain ⟨ko, ⟨o0, o1, o2, o3, o4⟩, ⟨k1, k1r⟩, -, ⟨k3, k3r⟩, ⟨k4, k4l⟩, k5⟩ := hC
  generalize hr0 : xI μ (o + 445) = r0
  have hfr : FS μ (xrI μ (o + 445) (rS tx r0 0)) (fun q => q = o + 445) := FSrd
  have hKL : rK tx r0 L := rK_ag hc.1
  have h68 : rS tx r0 L 0 = 6 ∨ rS tx r0 L 0 = 8 := by rw [rS0_ag (r0 := r00) (r0' := r0) L]; exact hc.2
  obtain ⟨μ1, d1, d2, d3, d4, d5⟩ := c102_loop (G := G) (c := c) hg hKL h68 L 0 n x (xrI μ (o + 445) (rS tx r0 0)) (by omega) rI_e hC0.rd hB.rd (h.fs hfr fun q q1 q2 => by omega) hI
  have hin : ∀ Q, Cn G 102 [.ref o] μ Q = Rn G 102 9 [some (.ref o), some (.int (nI 0)), none] [] (xrI μ (o + 445) (rS tx r0 0)) Q := fun Q => by
    have hc27 := fun Q => c27 (G := G) (Q := Q) (μ := μ) (r := r0) k5
    rw [← hr0, rI_self, hr0] at hc27
    have e0 : up r0 0 0 = rS tx r0 0 := rfl
    rw [e0] at hc27
    show Rn G 102 0 [some (.ref o), none, none] [] μ Q = _
    simp (disch := first | assumption | (simp only [MM_Kd, rI_Kd, rJ_Kd, sI_Kd, sJ_Kd, sR_Kd]; assumption) | omega | decide) only [q102_0, q102_1, q102_4, q102_7, q102_8, o4, hc27, rI_Kd, rI_Ln, rI_R, rI_J, rJ_Kd, rJ_Ln, rJ_R, rJ_I, sI_Kd, sI_Ln, sI_R, sI_J, sJ_Kd, sJ_Ln, sJ_R, sJ_I, sR_Kd, sR_Ln, sR_I, sR_J, xaf_s, xaf_v, va_rf_s, xix_n, nI_clamp, xk1_i, xk1_a, xk1_u, xk1_n, xk1_l, xk1_d, true_and, and_true, ↓reduceIte, Nat.reduceAdd, xtup]
    rfl
  refine ⟨μ1, (hfr.mono fun q hq => Or.inr hq).tr d1, d2, d3, fun n' x' hok => ?_, fun hno Q => ?_⟩
  · obtain ⟨w1, w2, w3⟩ := d4 n' x' ((rOk_ag (r0 := r00) (r0' := r0) hc.1 hc.2 L 0 n x (by omega)).mp hok)
    exact ⟨fun Q => (hin Q).trans (w1 Q none), w2, w3⟩
  · refine (hin Q).trans (d5 (fun z => hno ?_) Q none)
    obtain ⟨n', x', hz⟩ := z
    exact ⟨n', x', (rOk_ag (r0 := r00) (r0' := r0) hc.1 hc.2 L 0 n x (by omega)).mpr hz⟩
theorem c83_0 (h : CST μ o c g n π t S x) (hB : CBF μ o L tx) (hc : ¬ pComp tx L) : ∃ μ', (∀ Q, Cn G 83 [.ref o] μ Q = Q (.inr 1) (xex μ')) ∧ CST μ' o c g n π t S x ∧ FS μ μ' (fun q => q = o + 445) ∧ CBF μ' o L tx := by
  obtain ⟨a, r', ha, e82, hK, hcase⟩ := c82 (G := G) h.1 hB
  obtain ⟨ko, ⟨o0, o1, o2, o3, o4⟩, ⟨k1, k1r⟩, -, ⟨k3, k3r⟩, ⟨k4, k4l⟩, k5⟩ := h.1
  obtain ⟨hL, l1, l2⟩ := hB
  have j1 : xI (xrI μ (o + 445) r') (o + 443) 1 = nI L := by rw [rI_n (by omega)]; exact l1
  refine ⟨xrI μ (o + 445) r', fun Q => ?_, h.fs FSrd (fun q q1 q2 => by omega) rfl, FSrd, CBF.rd ⟨hL, l1, l2⟩⟩
  show Rn G 83 0 [some (.ref o)] [] μ Q = _
  rcases hcase with ⟨z1, z2⟩ | ⟨z1, z2⟩
  · subst z1
    have h2 : ¬ a < a := by omega
    have hf : ¬ (r' 0 = 6 ∨ r' 0 = 8) := fun z => hc ⟨rK_ag hK, by rw [rS0_ag (r0 := xI μ (o + 445)) (r0' := r00) a, ← z2]; exact z⟩
    have hc28 := fun Q => (c28 (G := G) (Q := Q) (μ := μ) (r := r') k5).trans (by rw [if_neg hf])
    simp (disch := first | assumption | (simp only [MM_Kd, rI_Kd, rJ_Kd, sI_Kd, sJ_Kd, sR_Kd]; assumption) | omega | decide) only [q83_0, q83_0N, q83_1, q83_4, q83_4N, q83_5, q83_8, q83_11, q83_14, q83_14N, q83_15, q83_18, q83_21, q83_24, q83_27, q83_34, q83_34N, q83_35, q83_38, q83_38N, q83_39, q83_42, q83_45, q83_45N, q83_46, q83_49, q83_52, q83_55, q83_62, q83_62N, q83_63, q83_66, q83_66N, q83_67, q83_70, q83_73, q83_73N, q83_74, q83_77, q83_77N, q83_78, q83_81, q83_84, q83_84N, q83_85, q83_88, q83_89, q83_92, q83_92N, q83_93, q83_96, q83_99, e82, o3, o4, j1, nI_ltI, h2, hc28, c00, not_true_eq_false, rI_Kd, rI_Ln, rI_R, rI_J, rJ_Kd, rJ_Ln, rJ_R, rJ_I, sI_Kd, sI_Ln, sI_R, sI_J, sJ_Kd, sJ_Ln, sJ_R, sJ_I, sR_Kd, sR_Ln, sR_I, sR_J, xaf_s, xaf_v, va_rf_s, xix_n, nI_clamp, xk1_i, xk1_a, xk1_u, xk1_n, xk1_l, xk1_d, true_and, and_true, ↓reduceIte, Nat.reduceAdd, xtup]
  · simp (disch := first | assumption | (simp only [MM_Kd, rI_Kd, rJ_Kd, sI_Kd, sJ_Kd, sR_Kd]; assumption) | omega | decide) only [q83_0, q83_0N, q83_1, q83_4, q83_4N, q83_5, q83_8, q83_11, q83_14, q83_14N, q83_15, q83_18, q83_21, q83_24, q83_27, q83_34, q83_34N, q83_35, q83_38, q83_38N, q83_39, q83_42, q83_45, q83_45N, q83_46, q83_49, q83_52, q83_55, q83_62, q83_62N, q83_63, q83_66, q83_66N, q83_67, q83_70, q83_73, q83_73N, q83_74, q83_77, q83_77N, q83_78, q83_81, q83_84, q83_84N, q83_85, q83_88, q83_89, q83_92, q83_92N, q83_93, q83_96, q83_99, e82, o3, o4, j1, nI_ltI, z1, rI_Kd, rI_Ln, rI_R, rI_J, rJ_Kd, rJ_Ln, rJ_R, rJ_I, sI_Kd, sI_Ln, sI_R, sI_J, sJ_Kd, sJ_Ln, sJ_R, sJ_I, sR_Kd, sR_Ln, sR_I, sR_J, xaf_s, xaf_v, va_rf_s, xix_n, nI_clamp, xk1_i, xk1_a, xk1_u, xk1_n, xk1_l, xk1_d, true_and, and_true, ↓reduceIte, Nat.reduceAdd, xtup]
theorem c83 (h : CST μ o c g n π t S x) (hB : CBF μ o L tx) (hc : pComp tx L) : ((¬ ∃ n' x', rOk tx r00 L 0 n x n' x') → ∃ μ', (∀ Q, Cn G 83 [.ref o] μ Q = Q (.inr 2) (xex μ')) ∧ CST μ' o c g n π t S x ∧ FS μ μ' (fun q => o ≤ q ∧ q < o + 446) ∧ CBF μ' o L tx) ∧
    ∀ n' x', rOk tx r00 L 0 n x n' x' → ∃ μ', (∀ Q, Cn G 83 [.ref o] μ Q = Q (.inl (some (.int (nI n')))) μ') ∧ CST μ' o c g n' π (SVt t + 1) (push t S x) x' ∧ FS μ μ' (fun q => o ≤ q ∧ q < o + 446) ∧ CBF μ' o 0 tx := by
  have hC0 := h.1
  obtain ⟨a, r', ha, e82, hK, hcase⟩ := c82 (G := G) h.1 hB
  obtain ⟨ko, ⟨o0, o1, o2, o3, o4⟩, ⟨k1, k1r⟩, -, ⟨k3, k3r⟩, ⟨k4, k4l⟩, k5⟩ := h.1
  have hB0 := hB
  obtain ⟨hL, l1, l2⟩ := hB
  have hcase : a = L ∧ r' = rS tx (xI μ (o + 445)) L := by
    rcases hcase with z | ⟨z1, z2⟩
    · exact z
    · have := (rK_ag (r0 := r00) (r0' := xI μ (o + 445)) hc.1) a z1
      rw [z2] at this
      exact absurd this (by decide)
  obtain ⟨rfl, z2⟩ := hcase
  have h2 : ¬ a < a := by omega
  have hf : r' 0 = 6 ∨ r' 0 = 8 := by rw [z2, rS0_ag (r0 := r00) (r0' := xI μ (o + 445)) a]; exact hc.2
  have hc28 := fun Q => (c28 (G := G) (Q := Q) (μ := μ) (r := r') k5).trans (by rw [if_pos hf])
  have hfr1 : FS μ (xrI μ (o + 445) r') (fun q => q = o + 445) := FSrd
  have h1 : CST (xrI μ (o + 445) r') o c g n π t S x := h.fs hfr1 (fun q q1 q2 => by omega) rfl
  have hB1 : CBF (xrI μ (o + 445) r') o a tx := hB0.rd
  generalize xrI μ (o + 445) r' = μ1 at *
  obtain ⟨hC1, hs1, hH1, hg, hI, hSC1⟩ := h1
  obtain ⟨π2, hh⟩ := hs1.1
  obtain ⟨μ2, e1, e2, e3⟩ := c34 (G := G) hh.1 hh.2 hSC1 hI (by omega)
  have h2' : CST μ2 o c g n π t S x := CST.trial ⟨hC1, hs1, hH1, hg, hI, hSC1⟩ e3.fs ⟨e2.1, e2.2.1⟩
  have hB2 : CBF μ2 o a tx := hB1.of (by rw [(e3.2.2.2 (o + 443) (by unfold BK; omega)).1]) (by rw [(e3.2.2.2 (o + 444) (by unfold BK; omega)).1])
  obtain ⟨μ3, d1, d2, d3, d4, d5⟩ := c102 (G := G) (c := c) h2'.1 hB2 e2 hI hg hc
  have j1 := hB1.2.1
  obtain ⟨ko1, ⟨o01, o11, o21, o31, o41⟩, ⟨k11, k1r1⟩, -, ⟨k31, k3r1⟩, -, k51⟩ := hC1
  have ko2 := h2'.1.1
  have kn1 := hSC1.1.1
  have kt1 := hh.1.1
  have hF3 : FS μ μ3 (fun q => BK (o + 56) q ∨ q = o + 445) := (hfr1.mono fun q hq => Or.inr hq).tr ((e3.fs.mono fun q hq => Or.inl hq).tr d1)
  have h3 : CST μ3 o c g n π t S x := by
    have hq : ∀ q, o + 111 ≤ q ∧ q ≠ o + 445 ∨ q < o + 56 → xI μ3 q = xI μ2 q ∧ xJ μ3 q = xJ μ2 q ∧ xR μ3 q = xR μ2 q := fun q hq => d1.2.2 q (by unfold BK; omega)
    obtain ⟨hC, hs, ⟨f, a1, a2, a3, a4, a5⟩, hg, hI, hSC⟩ := h2'
    refine ⟨hC.fs d1 fun q hq' => (hq q (by omega)).2.2, ⟨⟨π2, d2, d3⟩, fun j hj => ?_⟩, ⟨f, a1, a2, ?_, ?_, fun k hk => ?_⟩, hg, hI, hSC.fs d1 fun q q1 q2 => by unfold BK; omega⟩
    · obtain ⟨π3, hh⟩ := hs.2 j hj
      exact ⟨π3, shape_fs hh d1 fun q q1 q2 => by unfold BK; omega⟩
    · rw [(hq (o + 111) (by omega)).1]; exact a3
    · rw [(hq (o + 111) (by omega)).1]; exact a4
    · obtain ⟨g2, n2, π3, b1, b2, b3⟩ := a5 k hk
      exact ⟨g2, n2, π3, b1, b2, b3.fs d1 fun q q1 q2 => by unfold BK; omega⟩
  have hB3 : CBF μ3 o a tx := hB2.of (by rw [(d1.2.2 (o + 443) (by unfold BK; omega)).1]) (by rw [(d1.2.2 (o + 444) (by unfold BK; omega)).1])
  constructor
  · intro hno
    have hc102 := d5 hno
    refine ⟨μ3, fun Q => ?_, h3, hF3.mono fun q hq => by unfold BK at hq; omega, hB3⟩
    show Rn G 83 0 [some (.ref o)] [] μ Q = _
    simp (disch := first | assumption | (simp only [MM_Kd, rI_Kd, rJ_Kd, sI_Kd, sJ_Kd, sR_Kd]; assumption) | omega | decide) only [q83_0, q83_0N, q83_1, q83_4, q83_4N, q83_5, q83_8, q83_11, q83_14, q83_14N, q83_15, q83_18, q83_21, q83_24, q83_27, q83_34, q83_34N, q83_35, q83_38, q83_38N, q83_39, q83_42, q83_45, q83_45N, q83_46, q83_49, q83_52, q83_55, q83_62, q83_62N, q83_63, q83_66, q83_66N, q83_67, q83_70, q83_73, q83_73N, q83_74, q83_77, q83_77N, q83_78, q83_81, q83_84, q83_84N, q83_85, q83_88, q83_89, q83_92, q83_92N, q83_93, q83_96, q83_99, e82, o31, o41, j1, nI_ltI, h2, hc28, c10, o11, o01, e1, hc102, not_true_eq_false, not_false_eq_true, rI_Kd, rI_Ln, rI_R, rI_J, rJ_Kd, rJ_Ln, rJ_R, rJ_I, sI_Kd, sI_Ln, sI_R, sI_J, sJ_Kd, sJ_Ln, sJ_R, sJ_I, sR_Kd, sR_Ln, sR_I, sR_J, xaf_s, xaf_v, va_rf_s, xix_n, nI_clamp, xk1_i, xk1_a, xk1_u, xk1_n, xk1_l, xk1_d, true_and, and_true, ↓reduceIte, Nat.reduceAdd, xtup]
  · intro n' x' hok
    obtain ⟨hc102, hT, hI'⟩ := d4 n' x' hok
    have h30 := h3
    obtain ⟨hC3, hs3, hH3, -, -, hSC3⟩ := h3
    obtain ⟨μ4, f1, hH4, hs4, hC4, hSC4, hF4⟩ := c5 (G := G) hC3 hs3 hSC3 hI hg hH3
    have hT4 : SC μ4 (o + 56) π2 n' x' := hT.fs hF4 fun q q1 q2 => by omega
    obtain ⟨μ5, v1, v2, v3⟩ := c34 (G := G) hSC4.1 hSC4.2.1 hT4 hI' (by omega)
    have h5 : CST μ5 o c g n' π (SVt t + 1) (push t S x) x' := CST.fin hC4 hs4 hH4 (Nat.le_refl c) v3.fs hg hI' v2
    have hfr6 : FS μ5 (xsI μ5 (o + 443) 1 0) (fun q => q = o + 443) := (FR.sI (P := fun q => q = o + 443) rfl).fs
    have h6 : CST (xsI μ5 (o + 443) 1 0) o c g n' π (SVt t + 1) (push t S x) x' := h5.fs hfr6 (fun q q1 q2 => by omega) rfl
    have hc60 := fun Q => c60 (G := G) (Q := Q) h6.2.2.2.2.2 hI'.1.2.2.1
    rw [itr_n] at hc60
    have hF5 : FS μ μ5 (fun q => o ≤ q ∧ q < o + 446) := (hF3.mono fun q hq => by unfold BK at hq; omega).tr ((hF4.mono fun q hq => by omega).tr (v3.fs.mono fun q hq => by unfold BK at hq; omega))
    refine ⟨xsI μ5 (o + 443) 1 0, fun Q => ?_, h6, hF5.tr (hfr6.mono fun q hq => by omega), ⟨by omega, sI_e, fun k hk => by omega⟩⟩
    obtain ⟨ko3, ⟨o03, o13, o23, o33, o43⟩, ⟨k13, k1r3⟩, -, ⟨k33, k3r3⟩, -, k53⟩ := hC3
    obtain ⟨ko4, ⟨o04, o14, o24, o34, o44⟩, ⟨k14, k1r4⟩, -, ⟨k34, k3r4⟩, -, k54⟩ := hC4
    obtain ⟨ko5, ⟨o05, o15, o25, o35, o45⟩, ⟨k15, k1r5⟩, -, ⟨k35, k3r5⟩, -, k55⟩ := h5.1
    have kn4 := hSC4.1.1
    have kn5 := v2.1.1
    show Rn G 83 0 [some (.ref o)] [] μ Q = _
    simp (disch := first | assumption | (simp only [MM_Kd, rI_Kd, rJ_Kd, sI_Kd, sJ_Kd, sR_Kd]; assumption) | omega | decide) only [q83_0, q83_0N, q83_1, q83_4, q83_4N, q83_5, q83_8, q83_11, q83_14, q83_14N, q83_15, q83_18, q83_21, q83_24, q83_27, q83_34, q83_34N, q83_35, q83_38, q83_38N, q83_39, q83_42, q83_45, q83_45N, q83_46, q83_49, q83_52, q83_55, q83_62, q83_62N, q83_63, q83_66, q83_66N, q83_67, q83_70, q83_73, q83_73N, q83_74, q83_77, q83_77N, q83_78, q83_81, q83_84, q83_84N, q83_85, q83_88, q83_89, q83_92, q83_92N, q83_93, q83_96, q83_99, e82, o31, o41, j1, nI_ltI, h2, hc28, c10, o11, o01, e1, hc102, o23, o03, f1, o04, o14, v1, o35, o05, hc60, not_true_eq_false, not_false_eq_true, rI_Kd, rI_Ln, rI_R, rI_J, rJ_Kd, rJ_Ln, rJ_R, rJ_I, sI_Kd, sI_Ln, sI_R, sI_J, sJ_Kd, sJ_Ln, sJ_R, sJ_I, sR_Kd, sR_Ln, sR_I, sR_J, xaf_s, xaf_v, va_rf_s, xix_n, nI_clamp, xk1_i, xk1_a, xk1_u, xk1_n, xk1_l, xk1_d, true_and, and_true, ↓reduceIte, Nat.reduceAdd, xtup]
end JAC
