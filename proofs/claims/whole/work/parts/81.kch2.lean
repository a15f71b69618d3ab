/-! EACH CALL: TEXTS, UNDO, WHAT WOULD BE -/
section KC2
variable {G : xCtx} {μ : xMem} {Q : xOut → xMem → Prop} {o b Ln c g n t L i : Nat} {f : Nat → Int32} {π : Nat → Nat} {S : Nat → ST} {x : ST} {tx : Nat → Int32} {a1 : Int32}
theorem K12 (h : LST G μ o b Ln f c g n π t L tx S x) : STEP G μ o b Ln f c 197 150 [.int a1] := by
  have h0 := h
  obtain ⟨hX, hb, hC, hB, hR, ho, hcc, hcs⟩ := h
  have ko := hC.1.1
  have hq := fun Q => c80 (G := G) (Q := Q) hC.1 hB a1
  by_cases h1 : bad a1 33 126
  · exact (look_e h0 (fun Q => (hq Q).trans (if_pos h1)) (fun μ1 hR => (app_r hR a1).1 h1) (fun hq Q => wr197_1 ko hq) (by decide)).1 0 rfl
  · by_cases h2 : L = 60
    · exact (look_e h0 (fun Q => (hq Q).trans ((if_neg h1).trans (if_pos h2))) (fun μ1 hR => (app_r hR a1).2.1 h1 h2) (fun hq Q => wr197_2 ko hq) (by decide)).1 0 rfl
    · have hq' := fun Q => (hq Q).trans ((if_neg h1).trans (if_neg h2))
      have hF : FS μ (xsI (xsI μ (o + 444) L a1) (o + 443) 1 (nI (L + 1))) (fun q => q = o + 443 ∨ q = o + 444) := ((FR.sI (P := fun q => q = o + 443 ∨ q = o + 444) (Or.inr rfl)).fs).tr ((FR.sI (P := fun q => q = o + 443 ∨ q = o + 444) (Or.inl rfl)).fs)
      have hC1 : CST (xsI (xsI μ (o + 444) L a1) (o + 443) 1 (nI (L + 1))) o (c + 1) g n π t S x := (hC.fs hF (fun q q1 q2 => by omega) rfl).up (Nat.le_succ c)
      have hB1 : CBF (xsI (xsI μ (o + 444) L a1) (o + 443) 1 (nI (L + 1))) o (L + 1) (up tx L a1) := by
        obtain ⟨b1, b2, b3⟩ := hB
        refine ⟨by omega, sI_e, fun k hk => ?_⟩
        by_cases hkL : k = L
        · subst hkL
          rw [sI_n (by omega), sI_e, up_e]; exact ⟨rfl, h1⟩
        · rw [sI_n (by omega), sI_k hkL, up_n hkL]; exact b3 k (by omega)
      obtain ⟨k1, k2⟩ := k_out h0 hF.1
      have hR1 : RST (xsJ (xsI (xsI μ (o + 444) L a1) (o + 443) 1 (nI (L + 1))) (o + 454) 0 (nI (L + 1)).toInt64) (o + 446) t L tx S x := (hR.fs hF fun q q1 q2 => by omega).fs FS_out fun q q1 q2 => by omega
      obtain ⟨μ2, r1, r2, r3, r4⟩ := (app_r (G := G) hR1 a1).2.2 h1 h2
      obtain ⟨f1, f2, f3, f4⟩ := fin_v h0 (hF.mono fun q hq => by omega) hC1 hB1 r4 r2
      exact ⟨_, μ2, 0, nI (L + 1), fun Q => wr197_v ko hq' k1 k2, r1, r3, fun _ => f3, f1, f2, f4⟩
theorem K15 (h : LST G μ o b Ln f c g n π t L tx S x) : STEP G μ o b Ln f c 198 159 [] := by
  have h0 := h
  obtain ⟨hX, hb, hC, hB, hR, ho, hcc, hcs⟩ := h
  have ko := hC.1.1
  have hg := hC.2.2.2.1
  have hI := hC.2.2.2.2.1
  by_cases hc : pComp tx L
  · obtain ⟨w1, w2⟩ := c83 (G := G) hC hB hc
    by_cases hno : ∃ n' x', rOk tx r00 L 0 n x n' x'
    · obtain ⟨n', x', hok⟩ := hno
      obtain ⟨μ1, c1, c2, c3, c4⟩ := w2 n' x' hok
      have c2' := c2.up (Nat.le_succ c)
      have hn' : x'.1 2 = nI n' := c2.2.2.2.2.1.1.2.1
      obtain ⟨k1, k2⟩ := k_out h0 c3.1
      have hR1 : RST (xsJ μ1 (o + 454) 0 (nI n').toInt64) (o + 446) t L tx S x := (hR.fs c3 fun q q1 q2 => by omega).fs FS_out fun q q1 q2 => by omega
      obtain ⟨μ2, r1, r2, r3, r4⟩ := (join_r (G := G) hR1 hc hg hI).2 n' x' hn' hok
      obtain ⟨f1, f2, f3, f4⟩ := fin_v h0 c3 c2' c4 r4 r2
      exact ⟨_, μ2, 0, nI n', fun Q => wr198_v ko c1 k1 k2, r1, r3, fun _ => f3, f1, f2, f4⟩
    · obtain ⟨μ1, c1, c2, c3, c4⟩ := w1 hno
      obtain ⟨μ2, r1, r2, r3, r4⟩ := (join_r (G := G) (hR.fs c3 fun q q1 q2 => by omega).ex hc hg hI).1 hno
      obtain ⟨f1, f2, f3⟩ := fin_e h0 c3 (c2.up (Nat.le_succ c)) c4 r4 r2
      exact ⟨xex μ1, μ2, 2, 0, fun Q => wr198_2 ko c1, r1, r3, fun z => absurd z (by decide), f1, f2, f3⟩
  · obtain ⟨μ1, c1, c2, c3, c4⟩ := c83_0 (G := G) hC hB hc
    have c3' : FS μ μ1 (fun q => o ≤ q ∧ q < o + 446) := c3.mono fun q hq => by omega
    obtain ⟨μ2, r1, r2, r3, r4⟩ := join_r0 (G := G) (hR.fs c3' fun q q1 q2 => by omega).ex hc
    obtain ⟨f1, f2, f3⟩ := fin_e h0 c3' (c2.up (Nat.le_succ c)) c4 r4 r2
    exact ⟨xex μ1, μ2, 1, 0, fun Q => wr198_1 ko c1, r1, r3, fun z => absurd z (by decide), f1, f2, f3⟩
theorem K16 (h : LST G μ o b Ln f c g n π t L tx S x) : STEP G μ o b Ln f c 199 160 [] := by
  have h0 := h
  obtain ⟨hX, hb, hC, hB, hR, ho, hcc, hcs⟩ := h
  have ko := hC.1.1
  cases t with
  | zero => exact (look_e h0 (fun Q => c84_0 (G := G) (Q := Q) hC) (fun μ1 hR => undo_r0 hR) (fun hq Q => wr199_2 ko hq) (by decide)).1 0 rfl
  | succ t =>
    obtain ⟨μ1, g', n', π', c1, c2, c3⟩ := c84 (G := G) hC
    obtain ⟨k1, k2⟩ := k_out h0 c3.1
    have c3' : FS μ μ1 (fun q => o ≤ q ∧ q < o + 446) := c3.mono fun q hq => ⟨hq.1, by omega⟩
    have hB1 : CBF μ1 o L tx := hB.of (c3.2.2 (o + 443) (by omega)).1 (c3.2.2 (o + 444) (by omega)).1
    have hR1 : RST (xsJ μ1 (o + 454) 0 (nI t).toInt64) (o + 446) (t + 1) L tx S x := (hR.fs c3' fun q q1 q2 => by omega).fs FS_out fun q q1 q2 => by omega
    obtain ⟨μ2, x', r1, r2, r5, r3, r4⟩ := undo_r (G := G) hR1
    have c2' : CST μ1 o (c + 1) g' n' π' t S x' := by
      obtain ⟨d1, d2, d3, d4, d5, d6⟩ := c2.up (Nat.le_succ c)
      exact ⟨d1, d2, d3, d4, d5.cg r5, d6.cg r5⟩
    obtain ⟨f1, f2, f3, f4⟩ := fin_v h0 c3' c2' hB1 r4 r2
    exact ⟨_, μ2, 0, nI t, fun Q => wr199_v ko c1 k1 k2, r1, r3, fun _ => f3, f1, f2, f4⟩
/-- a call without a wrapper -/
theorem fin_d (h : LST G μ o b Ln f c g n π t L tx S x) {μ1 μ2 : xMem} {t' L' : Nat} {tx' : Nat → Int32} {S' : Nat → ST} {x' : ST} {g' n' : Nat} {π' : Nat → Nat} (hF : FS μ μ1 (fun q => o ≤ q ∧ q < o + 446)) (hC : CST μ1 o (c + 1) g' n' π' t' S' x') (hB : CBF μ1 o L' tx') (hF2 : FS μ1 μ2 (RP (o + 446))) (hR : RST μ2 (o + 446) t' L' tx' S' x') : LSt G μ2 o b Ln f (c + 1) := by
  obtain ⟨hX, hb, -, -, -, ho, hcc, hcs⟩ := h
  have e2 : μ2.1 = μ.1 := hF2.1.trans hF.1
  have cn := cnt_fs hF
  have cn2 := cnt_fs hF2
  exact LST.mk hX hb ho e2 (by omega) (by omega) (hC.oth hF2 fun q q1 q2 => by unfold RP; omega) (hB.oth hF2 fun q q1 q2 => by unfold RP; omega) hR
theorem L13 (h : LST G μ o b Ln f c g n π t L tx S x) : LAW G μ o b Ln f c i 1060 := by
  have h0 := h
  obtain ⟨hX, hb, hC, hB, hR, ho, hcc, hcs⟩ := h
  have ko := hC.1.1
  have hF : FS μ (xsI μ (o + 443) 1 0) (fun q => q = o + 443) := (FR.sI (P := fun q => q = o + 443) rfl).fs
  have c1 := fun Q => c81 (G := G) (Q := Q) hC.1 hB
  obtain ⟨μ2, r1, r2, r4⟩ := clr_r (G := G) (hR.fs hF fun q q1 q2 => by omega)
  have km : xKd (xsI μ (o + 443) 1 0) (o + 446) = 8 := hR.1.1
  refine ⟨μ2, fin_d h0 (hF.mono fun q hq => by omega) ((hC.fs hF (fun q q1 q2 => by omega) rfl).up (Nat.le_succ c)) (L' := 0) (tx' := tx) ⟨by omega, sI_e, fun k hk => absurd hk (Nat.not_lt_zero k)⟩ r4 r2, fun Q l5 l6 l7 l8 => ⟨l5, l6, l7, l8, ?_⟩⟩
  simp (disch := first | assumption | omega | decide) only [q212_1060, q212_1060N, q212_1061, q212_1064, q212_1064N, q212_1065, q212_1068, q212_1071, q212_1072, c1, r1, eq_self, xaf_s, xaf_v, va_rf_s, xix_n, nI_clamp, xk1_i, xk1_a, xk1_u, xk1_n, xk1_l, xk1_d, true_and, and_true, ↓reduceIte, Nat.reduceAdd, xtup]
theorem L14 (h : LST G μ o b Ln f c g n π t L tx S x) : LAW G μ o b Ln f c i 1073 := by
  have h0 := h
  obtain ⟨hX, hb, hC, hB, hR, ho, hcc, hcs⟩ := h
  have ko := hC.1.1
  obtain ⟨a, r', ha, c1, hK, hcase⟩ := c82 (G := G) hC.1 hB
  have hF : FS μ (xrI μ (o + 445) r') (fun q => q = o + 445) := FSrd
  have hFE : FE tx L a := by
    refine ⟨ha, rK_ag hK, ?_⟩
    rcases hcase with ⟨z, -⟩ | ⟨z1, z2⟩
    · exact Or.inl z
    · right
      refine ⟨z1, ?_⟩
      obtain ⟨q, hq, hag⟩ := rS_ag (tx := tx) (r0 := xI μ (o + 445)) (r0' := r00) a
      rw [(rT_ag (code := tx a) hq hag).1]; exact z2
  obtain ⟨e, he, μ2, r1, r2, r3, r4⟩ := first_r (G := G) (hR.fs hF fun q q1 q2 => by omega)
  have hae : e = a := he.one hFE
  subst hae
  have km : xKd (xrI μ (o + 445) r') (o + 446) = 8 := hR.1.1
  refine ⟨μ2, fin_d h0 (hF.mono fun q hq => by omega) ((hC.fs hF (fun q q1 q2 => by omega) rfl).up (Nat.le_succ c)) (hB.rd (r := r')) r4 r2, fun Q l5 l6 l7 l8 => ⟨l5, l6, l7, l8, ?_⟩⟩
  simp (disch := first | assumption | omega | decide) only [q212_1073, q212_1073N, q212_1074, q212_1077, q212_1077N, q212_1078, q212_1081, q212_1084, q212_1085, c1, r1, eq_self, xaf_s, xaf_v, va_rf_s, xix_n, nI_clamp, xk1_i, xk1_a, xk1_u, xk1_n, xk1_l, xk1_d, true_and, and_true, ↓reduceIte, Nat.reduceAdd, xtup]
theorem L26 (h : LST G μ o b Ln f c g n π t L tx S x) : LAW G μ o b Ln f c i 1748 := by
  have h0 := h
  obtain ⟨hX, hb, hC, hB, hR, ho, hcc, hcs⟩ := h
  have ko := hC.1.1
  have hg := hC.2.2.2.1
  have hI := hC.2.2.2.2.1
  obtain ⟨μ1, c1, c2, c3⟩ := c94 (G := G) hC
  have hR1 : RST μ1 (o + 446) t L tx S x := hR.fs c3 fun q q1 q2 => by omega
  obtain ⟨μ2, r1, r2, r3, r4⟩ := look_as (G := G) (y := 179) (args := []) (e := 0) hR1 (fun Q => s179 (G := G) (Q := Q) hR1.1 hI (by omega))
  have km : xKd μ1 (o + 446) = 8 := hR1.1.1
  refine ⟨μ2, fin_d h0 (c3.mono fun q hq => ⟨hq.1, by omega⟩) (c2.up (Nat.le_succ c)) (hB.of (c3.2.2 (o + 443) (by omega)).1 (c3.2.2 (o + 444) (by omega)).1) r4 r2, fun Q l5 l6 l7 l8 => ⟨l5, l6, l7, l8, ?_⟩⟩
  simp (disch := first | assumption | omega | decide) only [q212_1748, q212_1748N, q212_1749, q212_1752, q212_1752N, q212_1753, q212_1756, q212_1759, q212_1760, c1, r1, eq_self, xaf_s, xaf_v, va_rf_s, xix_n, nI_clamp, xk1_i, xk1_a, xk1_u, xk1_n, xk1_l, xk1_d, true_and, and_true, ↓reduceIte, Nat.reduceAdd, xtup]
theorem L27 (h : LST G μ o b Ln f c g n π t L tx S x) (hc : c ≤ 600) : LAW G μ o b Ln f c i 1761 := by
  have h0 := h
  obtain ⟨hX, hb, hC, hB, hR, ho, hcc, hcs⟩ := h
  have ko := hC.1.1
  have hg := hC.2.2.2.1
  have hI := hC.2.2.2.2.1
  have c1 := fun Q => c95 (G := G) (Q := Q) hC hc
  obtain ⟨μ2, r1, r2, r3, r4⟩ := look_of (G := G) (y := 181) (args := []) (e := 0) hR (fun Q => s181 (G := G) (Q := Q) hR.1 hI.2.1 (by omega) hc)
  have km : xKd μ (o + 446) = 8 := hR.1.1
  have hd : FP.dcmp (inT x.2) (inT x.2) = some .eq := FP.Core.dcmp_self (inT_ok hI.2.1 (by omega)).1.nn
  refine ⟨μ2, fin_d h0 FS.rf (hC.up (Nat.le_succ c)) hB r4 r2, fun Q l5 l6 l7 l8 => ⟨some (.double (inT x.2)), none, some (.double (inT x.2)), none, ?_⟩⟩
  simp (disch := first | assumption | omega | decide) only [q212_1761, q212_1761N, q212_1762, q212_1765, q212_1767, q212_1767N, q212_1768, q212_1771, q212_1773, q212_1775, q212_1777, q212_1778, q212_1781, q212_1783, q212_1785, q212_1786, q212_1789, q212_1791, q212_1793, q212_1794, q212_1797, q212_1798, q212_1799, c1, r1, hd, cv_eq, xaf_s, xaf_v, va_rf_s, xix_n, nI_clamp, xk1_i, xk1_a, xk1_u, xk1_n, xk1_l, xk1_d, true_and, and_true, ↓reduceIte, Nat.reduceAdd, xtup]
theorem RST.dig {m : Nat} {D : Int64} (h : RST μ m t L tx S x) : RST (MM (xsJ (AS (xsI μ m 0 0) m x.1 x.2) m 16 D) m x.1 x.2) m t L tx S x ∧ FS μ (MM (xsJ (AS (xsI μ m 0 0) m x.1 x.2) m 16 D) m x.1 x.2) (RP m) := by
  obtain ⟨β, hβ⟩ : ∃ β, β = AS (xsI μ m 0 0) m x.1 x.2 := ⟨_, rfl⟩
  have hR := h.as (e := 0)
  have hF : FS μ β (RP m) := by rw [hβ]; exact FS_AS FS_0
  rw [← hβ] at hR ⊢
  refine ⟨hR.fr rfl rfl ?_ ?_ ?_ ?_ ?_ ?_ ?_, FS_MM (hF.tr ((FR.sJ (P := RP m) ⟨Nat.le_refl _, by omega⟩).fs))⟩
  · rw [MM_Io (by omega), MM_Io (by omega), sJ_I]
  · rw [MM_Io (by omega), MM_Io (by omega), sJ_I]
  · rw [MM_I, MM_I]
  · rw [MM_Io (by omega), MM_Io (by omega), sJ_I]
  · rw [MM_Io (by omega), MM_Io (by omega), sJ_I]
  · rw [MM_J, MM_J]
  · rw [MM_Jo (by omega), MM_Jo (by omega), sJ_n (by omega)]
theorem dig_r {m : Nat} {D : Int64} (h : RST μ m t L tx S x) (hI : INV c g n x) (hg : g ≤ 9999) (hc : c ≤ 600) (hD : D = dAll x n t L tx) : ∃ μ2, (∀ Q, Cn G 184 [.ref m] μ Q = Q (.inl (some (.long D))) μ2) ∧ RST μ2 m t L tx S x ∧ FS μ μ2 (RP m) := by
  have r1 := fun Q => s184 (G := G) (Q := Q) (x := x) (c := c) (g := g) (n := n) h.1 hI hg hc h.2.2.2.1 h.2.2.1 h.2.2.2.2.1 h.2.2.2.2.2.1
  rw [h.mm, ← hD] at r1
  have hd := h.dig (D := D)
  exact ⟨_, r1, hd.1, hd.2⟩
theorem L28 (h : LST G μ o b Ln f c g n π t L tx S x) (hc : c ≤ 600) : LAW G μ o b Ln f c i 1802 := by
  have h0 := h
  obtain ⟨hX, hb, hC, hB, hR, ho, hcc, hcs⟩ := h
  have ko := hC.1.1
  have hg := hC.2.2.2.1
  have hI := hC.2.2.2.2.1
  obtain ⟨D, hD⟩ : ∃ D, D = dAll x n t L tx := ⟨_, rfl⟩
  obtain ⟨μ1, c1, c2, c3⟩ := c96 (G := G) hC hB hc
  rw [← hD] at c1
  have hR1 : RST μ1 (o + 446) t L tx S x := hR.fs c3 fun q q1 q2 => by omega
  obtain ⟨μ2, r1, r2, r4⟩ := dig_r (G := G) hR1 hI hg hc hD
  have km : xKd μ1 (o + 446) = 8 := hR1.1.1
  refine ⟨μ2, fin_d h0 (c3.mono fun q hq => ⟨hq.1, by omega⟩) (c2.up (Nat.le_succ c)) (hB.of (c3.2.2 (o + 443) (by omega)).1 (c3.2.2 (o + 444) (by omega)).1) r4 r2, fun Q l5 l6 l7 l8 => ⟨l5, l6, l7, l8, ?_⟩⟩
  simp (disch := first | assumption | omega | decide) only [q212_1802, q212_1802N, q212_1803, q212_1806, q212_1806N, q212_1807, q212_1810, q212_1811, q212_1814, q212_1815, c1, r1, cmp_0, eq_self, xaf_s, xaf_v, va_rf_s, xix_n, nI_clamp, xk1_i, xk1_a, xk1_u, xk1_n, xk1_l, xk1_d, true_and, and_true, ↓reduceIte, Nat.reduceAdd, xtup]
end KC2
