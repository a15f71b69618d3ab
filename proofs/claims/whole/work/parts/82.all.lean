/-! ALL CALLS OF A SCRIPT -/
theorem and31 (x : Int32) : ∃ k, k < 32 ∧ x &&& 31 = nI k := by
  have h : (x &&& 31).toBitVec.toNat ≤ 31 := by rw [Int32.toBitVec_and, BitVec.toNat_and]; exact Nat.and_le_right
  refine ⟨(x &&& 31).toBitVec.toNat, by omega, ?_⟩
  apply Int32.toBitVec_inj.mp
  show _ = BitVec.ofNat 32 _
  exact (BitVec.ofNat_toNat _ _).symm.trans rfl |>.symm ▸ rfl
theorem sub4_lt {a i : Nat} (ha : a < 2 ^ 30) (hi : i < 2 ^ 30) : (nI a - 4 < nI i) = (a < i + 4) := by
  rw [Int32.lt_iff_toInt_lt, show (4 : Int32) = nI 4 from rfl, pk_sub_toInt ha (by omega), nI_toInt (by omega)]
  exact propext ⟨fun h => by omega, fun h => by omega⟩
section ALL
variable {G : xCtx} {μ : xMem} {Q : xOut → xMem → Prop} {o b Ln c g n t L i : Nat} {f : Nat → Int32} {π : Nat → Nat} {S : Nat → ST} {x : ST} {tx : Nat → Int32}
theorem bz {v : Int32} : (if v = 0 then (0 : Int32) else 1) = 0 ∨ (if v = 0 then (0 : Int32) else 1) = 1 := by split <;> simp
theorem call_ok (h : LST G μ o b Ln f c g n π t L tx S x) (hc : c ≤ 600) (hi : i + 4 ≤ Ln) (hL : Ln ≤ 2048) : LAW G μ o b Ln f c i 32 := by
  obtain ⟨k, hk, hv⟩ := and31 (f i)
  obtain ⟨hb, hg⟩ := h.2.1
  have hm : xKd μ (o + 446) = 8 := h.2.2.2.2.1.1.1
  have ho := h.2.2.2.2.2.1
  have hin : ∀ Q l5 l6 l7 l8, Rn G 212 32 [some (.ref b), some (.ref o), some (.ref (o + 446)), some (.ref (o + 454)), some (.int (nI i)), l5, l6, l7, l8] [] μ Q = Rn G 212 39 [some (.ref b), some (.ref o), some (.ref (o + 446)), some (.ref (o + 454)), some (.int (nI i)), l5, l6, l7, l8] [.int (nI k)] μ Q := fun Q l5 l6 l7 l8 => by
    rw [← hv]
    simp (disch := first | assumption | omega | decide) only [q212_32, q212_33, q212_35T, q212_36, q212_38, xaf_s, xaf_v, va_rf_s, xix_n, nI_clamp, xk1_i, xk1_a, xk1_u, xk1_n, xk1_l, xk1_d, true_and, and_true, ↓reduceIte, Nat.reduceAdd, xtup]
  have go : ∀ pc, (∀ Q l5 l6 l7 l8, Rn G 212 39 [some (.ref b), some (.ref o), some (.ref (o + 446)), some (.ref (o + 454)), some (.int (nI i)), l5, l6, l7, l8] [.int (nI k)] μ Q = Rn G 212 pc [some (.ref b), some (.ref o), some (.ref (o + 446)), some (.ref (o + 454)), some (.int (nI i)), l5, l6, l7, l8] [] μ Q) → LAW G μ o b Ln f c i pc → LAW G μ o b Ln f c i 32 := by
    rintro pc hq ⟨μ2, w1, w2⟩
    refine ⟨μ2, w1, fun Q l5 l6 l7 l8 => ?_⟩
    obtain ⟨a1, a2, a3, a4, w3⟩ := w2 Q l5 l6 l7 l8
    exact ⟨a1, a2, a3, a4, (hin Q l5 l6 l7 l8).trans ((hq Q l5 l6 l7 l8).trans w3)⟩
  have : k = 0 ∨ k = 1 ∨ k = 2 ∨ k = 3 ∨ k = 4 ∨ k = 5 ∨ k = 6 ∨ k = 7 ∨ k = 8 ∨ k = 9 ∨ k = 10 ∨ k = 11 ∨ k = 12 ∨ k = 13 ∨ k = 14 ∨ k = 15 ∨ k = 16 ∨ k = 17 ∨ k = 18 ∨ k = 19 ∨ k = 20 ∨ k = 21 ∨ k = 22 ∨ k = 23 ∨ k = 24 ∨ k = 25 ∨ k = 26 ∨ k = 27 ∨ k = 28 ∨ 28 < k := by omega
  rcases this with rfl | rfl | rfl | rfl | rfl | rfl | rfl | rfl | rfl | rfl | rfl | rfl | rfl | rfl | rfl | rfl | rfl | rfl | rfl | rfl | rfl | rfl | rfl | rfl | rfl | rfl | rfl | rfl | rfl | hd
  · exact go 168 (fun Q l5 l6 l7 l8 => q212_39c0) (L0 (K0 (a1 := f (i + 1)) (a2 := f (i + 2)) (a3 := f (i + 3)) h) ⟨hb, hg⟩ hm ho hi hL)
  · exact go 248 (fun Q l5 l6 l7 l8 => q212_39c1) (L1 (K1 (a1 := f (i + 1)) (a2 := if f (i + 2) = 0 then 0 else 1) h bz) ⟨hb, hg⟩ hm ho hi hL)
  · exact go 332 (fun Q l5 l6 l7 l8 => q212_39c2) (L2 (K2 (a1 := f (i + 1)) (a2 := f (i + 2)) (a3 := f (i + 3)) h) ⟨hb, hg⟩ hm ho hi hL)
  · exact go 412 (fun Q l5 l6 l7 l8 => q212_39c3) (L3 (K3 (a1 := f (i + 1)) h) ⟨hb, hg⟩ hm ho hi hL)
  · exact go 468 (fun Q l5 l6 l7 l8 => q212_39c4) (L4 (K4 (a1 := f (i + 1)) (a2 := f (i + 2)) h) ⟨hb, hg⟩ hm ho hi hL)
  · exact go 536 (fun Q l5 l6 l7 l8 => q212_39c5) (L5 (K5 (a1 := f (i + 1)) (a2 := f (i + 2)) h) ⟨hb, hg⟩ hm ho hi hL)
  · exact go 604 (fun Q l5 l6 l7 l8 => q212_39c6) (L6 (K6 (a1 := f (i + 1)) (a2 := if f (i + 2) = 0 then 0 else 1) h bz) ⟨hb, hg⟩ hm ho hi hL)
  · exact go 688 (fun Q l5 l6 l7 l8 => q212_39c7) (L7 (K7 (a1 := f (i + 1)) (a2 := f (i + 2)) h) ⟨hb, hg⟩ hm ho hi hL)
  · exact go 756 (fun Q l5 l6 l7 l8 => q212_39c8) (L8 (K8 (a1 := f (i + 1)) (a2 := f (i + 2)) h) ⟨hb, hg⟩ hm ho hi hL)
  · exact go 824 (fun Q l5 l6 l7 l8 => q212_39c9) (L9 (K9 (a1 := f (i + 1)) h) ⟨hb, hg⟩ hm ho hi hL)
  · exact go 880 (fun Q l5 l6 l7 l8 => q212_39c10) (L10 (K10 (a1 := f (i + 1)) (a2 := f (i + 2)) h) ⟨hb, hg⟩ hm ho hi hL)
  · exact go 948 (fun Q l5 l6 l7 l8 => q212_39c11) (L11 (K11 (a1 := f (i + 1)) h) ⟨hb, hg⟩ hm ho hi hL)
  · exact go 1004 (fun Q l5 l6 l7 l8 => q212_39c12) (L12 (K12 (a1 := f (i + 1)) h) ⟨hb, hg⟩ hm ho hi hL)
  · exact go 1060 (fun Q l5 l6 l7 l8 => q212_39c13) (L13 h)
  · exact go 1073 (fun Q l5 l6 l7 l8 => q212_39c14) (L14 h)
  · exact go 1086 (fun Q l5 l6 l7 l8 => q212_39c15) (L15 (K15  h) ⟨hb, hg⟩ hm ho hi hL)
  · exact go 1130 (fun Q l5 l6 l7 l8 => q212_39c16) (L16 (K16  h) ⟨hb, hg⟩ hm ho hi hL)
  · exact go 1174 (fun Q l5 l6 l7 l8 => q212_39c17) (L17 (K17 (a1 := f (i + 1)) (a2 := f (i + 2)) h) ⟨hb, hg⟩ hm ho hi hL)
  · exact go 1242 (fun Q l5 l6 l7 l8 => q212_39c18) (L18 (K18 (a1 := f (i + 1)) (a2 := f (i + 2)) h) ⟨hb, hg⟩ hm ho hi hL)
  · exact go 1310 (fun Q l5 l6 l7 l8 => q212_39c19) (L19 (K19 (a1 := f (i + 1)) (a2 := f (i + 2)) (a3 := f (i + 3)) h) ⟨hb, hg⟩ hm ho hi hL)
  · exact go 1390 (fun Q l5 l6 l7 l8 => q212_39c20) (L20 (K20 (a1 := f (i + 1)) h) ⟨hb, hg⟩ hm ho hi hL)
  · exact go 1446 (fun Q l5 l6 l7 l8 => q212_39c21) (L21 (K21 (a1 := f (i + 1)) h) ⟨hb, hg⟩ hm ho hi hL)
  · exact go 1501 (fun Q l5 l6 l7 l8 => q212_39c22) (L22 (K22 (a1 := f (i + 1)) h) ⟨hb, hg⟩ hm ho hi hL)
  · exact go 1557 (fun Q l5 l6 l7 l8 => q212_39c23) (L23 (K23 (a1 := f (i + 1)) (a2 := f (i + 2)) h) ⟨hb, hg⟩ hm ho hi hL)
  · exact go 1624 (fun Q l5 l6 l7 l8 => q212_39c24) (L24 (K24 (a1 := f (i + 1)) (a2 := f (i + 2)) h) ⟨hb, hg⟩ hm ho hi hL)
  · exact go 1692 (fun Q l5 l6 l7 l8 => q212_39c25) (L25 (K25 (a1 := f (i + 1)) h) ⟨hb, hg⟩ hm ho hi hL)
  · exact go 1748 (fun Q l5 l6 l7 l8 => q212_39c26) (L26 h)
  · exact go 1761 (fun Q l5 l6 l7 l8 => q212_39c27) (L27 h hc)
  · exact go 1802 (fun Q l5 l6 l7 l8 => q212_39c28) (L28 h hc)
  · have hd' : nI k < 0 ∨ 28 < nI k := Or.inr (by rw [show (28 : Int32) = nI 28 from rfl, nI_ltI (by omega) (by omega)]; exact hd)
    refine go 1816 (fun Q l5 l6 l7 l8 => q212_39d hd') ⟨μ, ⟨g, n, π, t, L, tx, S, x, h.1, h.2.1, h.2.2.1.up (Nat.le_succ c), h.2.2.2.1, h.2.2.2.2.1, ho, ?_, ?_⟩, fun Q l5 l6 l7 l8 => ⟨l5, l6, l7, l8, rfl⟩⟩
    · have := h.2.2.2.2.2.2.1; omega
    · have := h.2.2.2.2.2.2.2; omega
theorem law_loop (hL : Ln ≤ 2048) : ∀ d c i μ, i = 4 * c → c + d ≤ 512 → Ln < i + 4 + 4 * d → LSt G μ o b Ln f c → ∃ μ', (∀ Q l5 l6 l7 l8, Rn G 212 23 [some (.ref b), some (.ref o), some (.ref (o + 446)), some (.ref (o + 454)), some (.int (nI i)), l5, l6, l7, l8] [] μ Q = Q (.inl (some (.int 1))) μ') ∧ xCc μ' ≤ 1512 ∧ xCs μ' ≤ 103072 := by
  have nn : Int32.ofNat Ln = nI Ln := rfl
  have exit_ : ∀ c i μ, i = 4 * c → c ≤ 512 → Ln < i + 4 → LSt G μ o b Ln f c → ∃ μ', (∀ Q l5 l6 l7 l8, Rn G 212 23 [some (.ref b), some (.ref o), some (.ref (o + 446)), some (.ref (o + 454)), some (.int (nI i)), l5, l6, l7, l8] [] μ Q = Q (.inl (some (.int 1))) μ') ∧ xCc μ' ≤ 1512 ∧ xCs μ' ≤ 103072 := by
    intro c i μ hi hc he hS
    obtain ⟨g, n, π, t, L, tx, S, x, h⟩ := hS
    obtain ⟨hb, hg⟩ := h.2.1
    have c1 := h.2.2.2.2.2.2.1
    have c2 := h.2.2.2.2.2.2.2
    refine ⟨μ, fun Q l5 l6 l7 l8 => ?_, by omega, by omega⟩
    have hlt : (nI Ln - 4 < nI i) = True := by rw [sub4_lt (by omega) (by omega)]; exact eq_true he
    simp (disch := first | assumption | exact Or.inr rfl | omega | decide) only [q212_23, q212_25, q212_26T, q212_27, q212_28, q212_29, nn, hlt, q212_1822, q212_1823, xaf_s, xaf_v, va_rf_s, xix_n, nI_clamp, xk1_i, xk1_a, xk1_u, xk1_n, xk1_l, xk1_d, true_and, and_true, ↓reduceIte, Nat.reduceAdd, xtup]
  intro d
  induction d with
  | zero => intro c i μ hi hc he hS; exact exit_ c i μ hi (by omega) (by omega) hS
  | succ d ih =>
    intro c i μ hi hc he hS
    by_cases hx : Ln < i + 4
    · exact exit_ c i μ hi (by omega) hx hS
    · obtain ⟨g, n, π, t, L, tx, S, x, h⟩ := hS
      obtain ⟨hb, hg⟩ := h.2.1
      obtain ⟨μ2, w1, w2⟩ := call_ok h (i := i) (by omega) (by omega) hL
      obtain ⟨μ', y1, y2, y3⟩ := ih (c + 1) (i + 4) μ2 (by omega) (by omega) (by omega) w1
      refine ⟨μ', fun Q l5 l6 l7 l8 => ?_, y2, y3⟩
      have hlt : (nI Ln - 4 < nI i) = False := by rw [sub4_lt (by omega) (by omega)]; exact eq_false hx
      obtain ⟨a5, a6, a7, a8, w3⟩ := w2 Q l5 l6 l7 l8
      have y1' := fun l5 l6 l7 l8 => y1 Q l5 l6 l7 l8
      have p4 : nI i + 4 = nI (i + 4) := nI_add i 4
      have hst : Rn G 212 23 [some (.ref b), some (.ref o), some (.ref (o + 446)), some (.ref (o + 454)), some (.int (nI i)), l5, l6, l7, l8] [] μ Q = Rn G 212 32 [some (.ref b), some (.ref o), some (.ref (o + 446)), some (.ref (o + 454)), some (.int (nI i)), l5, l6, l7, l8] [] μ Q := by
        simp (disch := first | assumption | omega | decide) only [q212_23, q212_25, q212_26T, q212_27, q212_28, q212_29, nn, hlt, xaf_s, xaf_v, va_rf_s, xix_n, nI_clamp, xk1_i, xk1_a, xk1_u, xk1_n, xk1_l, xk1_d, true_and, and_true, ↓reduceIte, Nat.reduceAdd, xtup]
      rw [hst, w3]
      simp (disch := first | assumption | omega | decide) only [q212_1816, q212_1819, p4, y1', xaf_s, xaf_v, va_rf_s, xix_n, nI_clamp, xk1_i, xk1_a, xk1_u, xk1_n, xk1_l, xk1_d, true_and, and_true, ↓reduceIte, Nat.reduceAdd, xtup]
end ALL
