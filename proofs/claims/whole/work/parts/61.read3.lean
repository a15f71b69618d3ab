/-! THE CLASS: ALL PARTS OF A TEXT -/
theorem dg_of (code : Int32) : dg code = -1 ∨ ∃ d, d ≤ 9 ∧ dg code = nI d ∧ code = nI (48 + d) := by
  unfold dg
  by_cases h : code < 48 ∨ 57 < code
  · rw [if_pos h]; exact Or.inl rfl
  · rw [if_neg h]
    obtain ⟨k, k1, k2, rfl⟩ := rng (v := code) (lo := 48) (hi := 57) (by omega) (by omega) h
    refine Or.inr ⟨k - 48, by omega, ?_, by rw [show 48 + (k - 48) = k by omega]⟩
    exact pk_sub (b := 48) k1
/-- what the reader's words are in state q -/
def RG (r : Nat → Int32) (q : Nat) : Prop := (1 ≤ q → ∃ p, 1 ≤ p ∧ p ≤ 9999 ∧ r 1 = nI p) ∧ (3 ≤ q → ∃ C, C < 3 ∧ r 2 = nI C) ∧ (q = 5 → ∃ y, 1 ≤ y ∧ y ≤ 7 ∧ r 3 = nI y) ∧ (6 ≤ q → ∃ y, 16 ≤ y ∧ y ≤ 79 ∧ r 3 = nI y) ∧ (1 ≤ q → ∃ am, am ≤ 99999 ∧ r 4 = nI am ∧ (q ≤ 7 → am = 0))
theorem neg1 : (-1 : Int32) < 0 := by decide
theorem neg1' : (-1 : Int32) < 1 := by decide
theorem rT_ok {code : Int32} {r : Nat → Int32} {q : Nat} (hq : q ≤ 8) (h0 : r 0 = nI q) (hr : RG r q) (h1 : (rT code r).1 = 1) : (∃ q', q' ≤ 8 ∧ (rT code r).2 0 = nI q' ∧ RG (rT code r).2 q') ∧ (code = 59 → q = 6 ∨ q = 8) := by
  have z01 : ¬ (0 : Int32) = 1 := by decide
  obtain ⟨g1, g2, g3, g4, g5⟩ := hr
  have hdg := dg_of code
  have h59 : dg 59 = -1 := by decide
  unfold rT at h1 ⊢
  have : q = 0 ∨ q = 1 ∨ q = 2 ∨ q = 3 ∨ q = 4 ∨ q = 5 ∨ q = 6 ∨ q = 7 ∨ q = 8 := by omega
  rcases this with rfl | rfl | rfl | rfl | rfl | rfl | rfl | rfl | rfl
  · have e0 : r 0 = 0 := h0
    rw [if_pos e0] at h1 ⊢
    by_cases hd : dg code < 1
    · rw [if_pos hd] at h1; exact absurd h1 z01
    · rw [if_neg hd]
      rcases hdg with hd' | ⟨d, d9, hd', -⟩
      · rw [hd'] at hd; exact absurd neg1' hd
      · have d1 : 1 ≤ d := by
          rw [hd', show (1 : Int32) = nI 1 from rfl, nI_ltI (by omega) (by omega)] at hd; omega
        refine ⟨⟨1, by omega, (by dsimp only; exact up_e.trans rfl), fun _ => ⟨d, d1, by omega, ?_⟩, fun z => by omega, fun z => by omega, fun z => by omega, fun _ => ⟨0, by omega, ?_, fun _ => rfl⟩⟩, fun z => by rw [z, h59] at hd; exact absurd neg1' hd⟩
        · dsimp only; rw [up_n (by omega), up_n (by omega), up_e]; exact hd'
        · dsimp only; rw [up_n (by omega), up_e]; rfl
  · have e0 : r 0 = 1 := h0
    rw [if_neg (by rw [e0]; decide), if_pos e0] at h1 ⊢
    obtain ⟨p, p1, p2, p3⟩ := g1 (by omega)
    obtain ⟨am, a1, a2, a3⟩ := g5 (by omega)
    by_cases hs : code = 115
    · rw [if_pos hs]
      refine ⟨⟨2, by omega, (by dsimp only; exact up_e.trans rfl), fun _ => ⟨p, p1, p2, by dsimp only; rw [up_n (by omega)]; exact p3⟩, fun z => by omega, fun z => by omega, fun z => by omega, fun _ => ⟨am, a1, by dsimp only; rw [up_n (by omega)]; exact a2, fun _ => a3 (by omega)⟩⟩, fun z => by rw [z] at hs; exact absurd hs (by decide)⟩
    · rw [if_neg hs] at h1 ⊢
      by_cases hd : dg code < 0 ∨ 999 < r 1
      · rw [if_pos hd] at h1; exact absurd h1 z01
      · rw [if_neg hd]
        rcases hdg with hd' | ⟨d, d9, hd', -⟩
        · exact absurd (Or.inl (by rw [hd']; exact neg1)) hd
        · have p9 : p ≤ 999 := by
            rcases Nat.lt_or_ge 999 p with z | z
            · exact absurd (Or.inr (by rw [p3]; exact (nI_ltI (a := 999) (by omega) (by omega)).mpr z)) hd
            · exact z
          refine ⟨⟨1, by omega, by dsimp only; rw [up_n (by omega)]; exact e0, fun _ => ⟨10 * p + d, by omega, by omega, ?_⟩, fun z => by omega, fun z => by omega, fun z => by omega, fun _ => ⟨am, a1, by dsimp only; rw [up_n (by omega)]; exact a2, fun _ => a3 (by omega)⟩⟩, fun z => by rw [z, h59] at hd; exact absurd (Or.inl neg1) hd⟩
          dsimp only
          rw [up_e, p3, hd', show (10 : Int32) = nI 10 from rfl, pk_mul, nI_add]
  · have e0 : r 0 = 2 := h0
    rw [if_neg (by rw [e0]; decide), if_neg (by rw [e0]; decide), if_pos e0] at h1 ⊢
    obtain ⟨p, p1, p2, p3⟩ := g1 (by omega)
    obtain ⟨am, a1, a2, a3⟩ := g5 (by omega)
    by_cases hd : bad (dg code) 0 2
    · rw [if_pos hd] at h1; exact absurd h1 z01
    · rw [if_neg hd]
      obtain ⟨C, C1, C2⟩ := sec3 hd
      refine ⟨⟨3, by omega, (by dsimp only; exact up_e.trans rfl), fun _ => ⟨p, p1, p2, by dsimp only; rw [up_n (by omega), up_n (by omega)]; exact p3⟩, fun _ => ⟨C, C1, by dsimp only; rw [up_n (by omega), up_e]; exact C2⟩, fun z => by omega, fun z => by omega, fun _ => ⟨am, a1, by dsimp only; rw [up_n (by omega), up_n (by omega)]; exact a2, fun _ => a3 (by omega)⟩⟩, fun z => by rw [z, h59] at hd; exact absurd (Or.inl neg1) hd⟩
  · have e0 : r 0 = 3 := h0
    rw [if_neg (by rw [e0]; decide), if_neg (by rw [e0]; decide), if_neg (by rw [e0]; decide), if_pos e0] at h1 ⊢
    obtain ⟨p, p1, p2, p3⟩ := g1 (by omega)
    obtain ⟨C, C1, C2⟩ := g2 (by omega)
    obtain ⟨am, a1, a2, a3⟩ := g5 (by omega)
    by_cases hs : code = 97
    · rw [if_pos hs]
      refine ⟨⟨4, by omega, (by dsimp only; exact up_e.trans rfl), fun _ => ⟨p, p1, p2, by dsimp only; rw [up_n (by omega)]; exact p3⟩, fun _ => ⟨C, C1, by dsimp only; rw [up_n (by omega)]; exact C2⟩, fun z => by omega, fun z => by omega, fun _ => ⟨am, a1, by dsimp only; rw [up_n (by omega)]; exact a2, fun _ => a3 (by omega)⟩⟩, fun z => by rw [z] at hs; exact absurd hs (by decide)⟩
    · rw [if_neg hs] at h1; exact absurd h1 z01
  · have e0 : r 0 = 4 := h0
    rw [if_neg (by rw [e0]; decide), if_neg (by rw [e0]; decide), if_neg (by rw [e0]; decide), if_neg (by rw [e0]; decide), if_pos e0] at h1 ⊢
    obtain ⟨p, p1, p2, p3⟩ := g1 (by omega)
    obtain ⟨C, C1, C2⟩ := g2 (by omega)
    obtain ⟨am, a1, a2, a3⟩ := g5 (by omega)
    by_cases hd : bad (dg code) 1 7
    · rw [if_pos hd] at h1; exact absurd h1 z01
    · rw [if_neg hd]
      obtain ⟨y, y1, y2, y3⟩ := rng (v := dg code) (lo := 1) (hi := 7) (by omega) (by omega) hd
      refine ⟨⟨5, by omega, (by dsimp only; exact up_e.trans rfl), fun _ => ⟨p, p1, p2, by dsimp only; rw [up_n (by omega), up_n (by omega)]; exact p3⟩, fun _ => ⟨C, C1, by dsimp only; rw [up_n (by omega), up_n (by omega)]; exact C2⟩, fun _ => ⟨y, y1, y2, by dsimp only; rw [up_n (by omega), up_e]; exact y3⟩, fun z => by omega, fun _ => ⟨am, a1, by dsimp only; rw [up_n (by omega), up_n (by omega)]; exact a2, fun _ => a3 (by omega)⟩⟩, fun z => by rw [z, h59] at hd; exact absurd (Or.inl neg1') hd⟩
  · have e0 : r 0 = 5 := h0
    rw [if_neg (by rw [e0]; decide), if_neg (by rw [e0]; decide), if_neg (by rw [e0]; decide), if_neg (by rw [e0]; decide), if_neg (by rw [e0]; decide), if_pos e0] at h1 ⊢
    obtain ⟨p, p1, p2, p3⟩ := g1 (by omega)
    obtain ⟨C, C1, C2⟩ := g2 (by omega)
    obtain ⟨y, y1, y2, y3⟩ := g3 rfl
    obtain ⟨am, a1, a2, a3⟩ := g5 (by omega)
    by_cases hd : dg code < 0 ∨ 10 * r 3 + dg code < 16
    · rw [if_pos hd] at h1; exact absurd h1 z01
    · rw [if_neg hd]
      rcases hdg with hd' | ⟨d, d9, hd', -⟩
      · exact absurd (Or.inl (by rw [hd']; exact neg1)) hd
      · have ey : 10 * r 3 + dg code = nI (10 * y + d) := by rw [y3, hd', show (10 : Int32) = nI 10 from rfl, pk_mul, nI_add]
        have y16 : 16 ≤ 10 * y + d := by
          rcases Nat.lt_or_ge (10 * y + d) 16 with z | z
          · exact absurd (Or.inr (by rw [ey]; exact (nI_ltI (b := 16) (by omega) (by omega)).mpr z)) hd
          · exact z
        refine ⟨⟨6, by omega, (by dsimp only; exact up_e.trans rfl), fun _ => ⟨p, p1, p2, by dsimp only; rw [up_n (by omega), up_n (by omega)]; exact p3⟩, fun _ => ⟨C, C1, by dsimp only; rw [up_n (by omega), up_n (by omega)]; exact C2⟩, fun z => by omega, fun _ => ⟨10 * y + d, y16, by omega, by dsimp only; rw [up_n (by omega), up_e]; exact ey⟩, fun _ => ⟨am, a1, by dsimp only; rw [up_n (by omega), up_n (by omega)]; exact a2, fun _ => a3 (by omega)⟩⟩, fun z => by rw [z, h59] at hd; exact absurd (Or.inl neg1) hd⟩
  · refine ⟨?_, fun _ => Or.inl rfl⟩
    have e0 : r 0 = 6 := h0
    rw [if_neg (by rw [e0]; decide), if_neg (by rw [e0]; decide), if_neg (by rw [e0]; decide), if_neg (by rw [e0]; decide), if_neg (by rw [e0]; decide), if_neg (by rw [e0]; decide), if_pos e0] at h1 ⊢
    obtain ⟨p, p1, p2, p3⟩ := g1 (by omega)
    obtain ⟨C, C1, C2⟩ := g2 (by omega)
    obtain ⟨y, y1, y2, y3⟩ := g4 (by omega)
    obtain ⟨am, a1, a2, a3⟩ := g5 (by omega)
    by_cases hs : code = 43
    · rw [if_pos hs]
      exact ⟨7, by omega, (by dsimp only; exact up_e.trans rfl), fun _ => ⟨p, p1, p2, by dsimp only; rw [up_n (by omega)]; exact p3⟩, fun _ => ⟨C, C1, by dsimp only; rw [up_n (by omega)]; exact C2⟩, fun z => by omega, fun _ => ⟨y, y1, y2, by dsimp only; rw [up_n (by omega)]; exact y3⟩, fun _ => ⟨am, a1, by dsimp only; rw [up_n (by omega)]; exact a2, fun _ => a3 (by omega)⟩⟩
    · rw [if_neg hs] at h1 ⊢
      by_cases hs2 : code = 59
      · rw [if_pos hs2]
        exact ⟨0, by omega, (by dsimp only; exact up_e.trans rfl), fun z => by omega, fun z => by omega, fun z => by omega, fun z => by omega, fun z => by omega⟩
      · rw [if_neg hs2] at h1; exact absurd h1 z01
  · have e0 : r 0 = 7 := h0
    rw [if_neg (by rw [e0]; decide), if_neg (by rw [e0]; decide), if_neg (by rw [e0]; decide), if_neg (by rw [e0]; decide), if_neg (by rw [e0]; decide), if_neg (by rw [e0]; decide), if_neg (by rw [e0]; decide), if_pos e0] at h1 ⊢
    obtain ⟨p, p1, p2, p3⟩ := g1 (by omega)
    obtain ⟨C, C1, C2⟩ := g2 (by omega)
    obtain ⟨y, y1, y2, y3⟩ := g4 (by omega)
    by_cases hd : dg code < 1
    · rw [if_pos hd] at h1; exact absurd h1 z01
    · rw [if_neg hd]
      rcases hdg with hd' | ⟨d, d9, hd', -⟩
      · rw [hd'] at hd; exact absurd neg1' hd
      · refine ⟨⟨8, by omega, (by dsimp only; exact up_e.trans rfl), fun _ => ⟨p, p1, p2, by dsimp only; rw [up_n (by omega), up_n (by omega)]; exact p3⟩, fun _ => ⟨C, C1, by dsimp only; rw [up_n (by omega), up_n (by omega)]; exact C2⟩, fun z => by omega, fun _ => ⟨y, y1, y2, by dsimp only; rw [up_n (by omega), up_n (by omega)]; exact y3⟩, fun _ => ⟨d, by omega, by dsimp only; rw [up_n (by omega), up_e]; exact hd', fun z => by omega⟩⟩, fun z => by rw [z, h59] at hd; exact absurd neg1' hd⟩
  · refine ⟨?_, fun _ => Or.inr rfl⟩
    have e0 : r 0 = nI 8 := h0
    rw [if_neg (by rw [e0]; decide), if_neg (by rw [e0]; decide), if_neg (by rw [e0]; decide), if_neg (by rw [e0]; decide), if_neg (by rw [e0]; decide), if_neg (by rw [e0]; decide), if_neg (by rw [e0]; decide), if_neg (by rw [e0]; decide)] at h1 ⊢
    obtain ⟨p, p1, p2, p3⟩ := g1 (by omega)
    obtain ⟨C, C1, C2⟩ := g2 (by omega)
    obtain ⟨y, y1, y2, y3⟩ := g4 (by omega)
    obtain ⟨am, a1, a2, a3⟩ := g5 (by omega)
    by_cases hs2 : code = 59
    · rw [if_pos hs2]
      exact ⟨0, by omega, (by dsimp only; exact up_e.trans rfl), fun z => by omega, fun z => by omega, fun z => by omega, fun z => by omega, fun z => by omega⟩
    · rw [if_neg hs2] at h1 ⊢
      by_cases hd : dg code < 0 ∨ 9999 < r 4
      · rw [if_pos hd] at h1; exact absurd h1 z01
      · rw [if_neg hd]
        rcases hdg with hd' | ⟨d, d9, hd', -⟩
        · exact absurd (Or.inl (by rw [hd']; exact neg1)) hd
        · have p9 : am ≤ 9999 := by
            rcases Nat.lt_or_ge 9999 am with z | z
            · exact absurd (Or.inr (by rw [a2]; exact (nI_ltI (a := 9999) (by omega) (by omega)).mpr z)) hd
            · exact z
          refine ⟨8, by omega, by dsimp only; rw [up_n (by omega)]; exact e0, fun _ => ⟨p, p1, p2, by dsimp only; rw [up_n (by omega)]; exact p3⟩, fun _ => ⟨C, C1, by dsimp only; rw [up_n (by omega)]; exact C2⟩, fun z => by omega, fun _ => ⟨y, y1, y2, by dsimp only; rw [up_n (by omega)]; exact y3⟩, fun _ => ⟨10 * am + d, by omega, ?_, fun z => by omega⟩⟩
          dsimp only
          rw [up_e, a2, hd', show (10 : Int32) = nI 10 from rfl, pk_mul, nI_add]
theorem rS_g {tx r0 : Nat → Int32} : ∀ p, rK tx r0 p → ∃ q, q ≤ 8 ∧ rS tx r0 p 0 = nI q ∧ RG (rS tx r0 p) q := by
  intro p
  induction p with
  | zero => intro _; exact ⟨0, by omega, (show up r0 0 0 0 = nI 0 from up_e), fun z => by omega, fun z => by omega, fun z => by omega, fun z => by omega, fun z => by omega⟩
  | succ p ih =>
    intro hK
    obtain ⟨q, hq, h0, hr⟩ := ih fun i hi => hK i (by omega)
    exact (rT_ok hq h0 hr (hK p (by omega))).1
section RD3
variable {G : xCtx} {μ : xMem} {Q : xOut → xMem → Prop} {o n k c p g t b L : Nat} {π : Nat → Nat} {S : Nat → ST} {x : ST} {tx r0 : Nat → Int32}
/-- the words of a complete part -/
theorem RG.fin {r : Nat → Int32} {q : Nat} (h : RG r q) (hq : q = 6 ∨ q = 8) : ∃ C P ye am, C < 3 ∧ (1 ≤ P ∧ P ≤ 9999) ∧ ye ≤ 79 ∧ am ≤ 99999 ∧ r 2 = nI C ∧ r 1 = nI P ∧ r 3 = nI ye ∧ r 4 = nI am := by
  have q6 : 6 ≤ q := by rcases hq with z | z <;> rw [z] <;> decide
  obtain ⟨g1, g2, g3, g4, g5⟩ := h
  obtain ⟨P, p1, p2, p3⟩ := g1 (Nat.le_trans (by decide) q6)
  obtain ⟨C, C1, C2⟩ := g2 (Nat.le_trans (by decide) q6)
  obtain ⟨y, y1, y2, y3⟩ := g4 q6
  obtain ⟨am, a1, a2, -⟩ := g5 (Nat.le_trans (by decide) q6)
  exact ⟨C, P, y, am, C1, ⟨p1, p2⟩, y2, a1, C2, p3, y3, a2⟩
theorem CBF.fs {μ' : xMem} (h : CBF μ o L tx) (hF : FS μ μ' (fun q => BK (o + 56) q ∨ q = o + 445)) : CBF μ' o L tx := by
  obtain ⟨a1, a2, a3⟩ := h
  refine ⟨a1, ?_, fun k hk => ?_⟩
  · rw [(hF.2.2 (o + 443) (by unfold BK; omega)).1]; exact a2
  · rw [(hF.2.2 (o + 444) (by unfold BK; omega)).1]; exact a3 k hk
/-- one part, by the reader's words at place p -/
theorem c103' (hC : CSH μ o) (h : SC μ (o + 56) π n x) (hI : INV c g n x) (hg : g ≤ 9999) (hr : xI μ (o + 445) = rS tx r0 p) (hK : rK tx r0 p) (h68 : rS tx r0 p 0 = 6 ∨ rS tx r0 p 0 = 8) : ∃ μ', FS μ μ' (BK (o + 56)) ∧ SH μ' (o + 56) ∧ RWS μ' (o + 56) π ∧ ((rTk tx r0 0 p n x).1 → n < 8 ∧ (∀ Q, Cn G 103 [.ref o] μ Q = Q (.inl (some (.int 1))) μ') ∧ SC μ' (o + 56) π (n + 1) (rTk tx r0 0 p n x).2 ∧ INV c g (n + 1) (rTk tx r0 0 p n x).2) ∧ (¬ (rTk tx r0 0 p n x).1 → ∀ Q, Cn G 103 [.ref o] μ Q = Q (.inl (some (.int 0))) μ') := by
  obtain ⟨q, hq, hq0, hrg⟩ := rS_g p hK
  have hq68 : q = 6 ∨ q = 8 := by
    rcases h68 with z | z
    · exact Or.inl ((nI_eq (by omega) (by omega)).mp (hq0.symm.trans z : nI q = nI 6))
    · exact Or.inr ((nI_eq (by omega) (by omega)).mp (hq0.symm.trans z : nI q = nI 8))
  obtain ⟨C, P, ye, am, w1, w2, w3, w4, w5, w6, w7, w8⟩ := hrg.fin hq68
  have e : rTk tx r0 0 p n x = pTake C P ye am n x := by
    unfold rTk
    rw [w5, w6, w7, w8, nI_clamp (by omega), nI_clamp (by omega), nI_clamp (by omega), nI_clamp (by omega)]
  rw [e]
  obtain ⟨μ', v1, v2, v3, v4, v5⟩ := c103 (G := G) hC h hI hg w1 w2 w3 w4 (by rw [hr]; exact w5) (by rw [hr]; exact w6) (by rw [hr]; exact w7) (by rw [hr]; exact w8)
  exact ⟨μ', v1, v2, v3, fun z => ⟨(v4 z).1, (v4 z).2.1, (v4 z).2.2, pTake_INV hI hg (v4 z).1 w1 w2 w3 w4 z⟩, v5⟩
theorem c102_loop (hg : g ≤ 9999) (hKL : rK tx r0 L) (hfin : rS tx r0 L 0 = 6 ∨ rS tx r0 L 0 = 8) : ∀ k p n x μ, p + k = L → xI μ (o + 445) = rS tx r0 p → CSH μ o → CBF μ o L tx → SC μ (o + 56) π n x → INV c g n x → ∃ μ', FS μ μ' (fun q => BK (o + 56) q ∨ q = o + 445) ∧ SH μ' (o + 56) ∧ RWS μ' (o + 56) π ∧ (∀ n' x', rOk tx r0 k p n x n' x' → (∀ Q l2, Rn G 102 9 [some (.ref o), some (.int (nI p)), l2] [] μ Q = Q (.inl (some (.int 1))) μ') ∧ SC μ' (o + 56) π n' x' ∧ INV c g n' x') ∧ ((¬ ∃ n' x', rOk tx r0 k p n x n' x') → ∀ Q l2, Rn G 102 9 [some (.ref o), some (.int (nI p)), l2] [] μ Q = Q (.inl (some (.int 0))) μ') := by
  intro k
  induction k with
  | zero =>
    intro p n x μ hp hr hC hB h hI
    have e : p = L := by omega
    subst e
    have h2 : p ≤ p := Nat.le_refl p
    obtain ⟨μ', v1, v2, v3, v4, v5⟩ := c103' (G := G) hC h hI hg hr hKL hfin
    obtain ⟨ko, ⟨o0, o1, o2, o3, o4⟩, -, -, ⟨k3, k3r⟩, ⟨k4, k4l⟩, k5⟩ := hC
    obtain ⟨hL, l1, l2⟩ := hB
    refine ⟨μ', v1.mono fun q hq => Or.inl hq, v2, v3, fun n' x' hok => ?_, fun hno => ?_⟩
    · obtain ⟨z1, z2, z3⟩ := hok
      subst z2 z3
      obtain ⟨-, y2, y3, y4⟩ := v4 z1
      refine ⟨fun Q l2 => ?_, y3, y4⟩
      rw [q102_9]
      simp (disch := first | exact Or.inr rfl | first | assumption | (simp only [MM_Kd, rI_Kd, rJ_Kd, sI_Kd, sJ_Kd, sR_Kd]; assumption) | omega | decide) only [q102_0, q102_0N, q102_1, q102_4, q102_7, q102_8, q102_10, q102_10N, q102_11, q102_14, q102_17, q102_20, q102_20N, q102_21, q102_24, q102_25, q102_28, q102_29, q102_30, q102_32, q102_35, q102_35N, q102_36, q102_39, q102_42, q102_43, q102_44, q102_44N, q102_45, q102_48, q102_49, q102_52, q102_53, q102_56, q102_59, q102_59N, q102_60, q102_63, o3, l1, nI_leI, h2, y2, xaf_s, xaf_v, va_rf_s, xix_n, nI_clamp, xk1_i, xk1_a, xk1_u, xk1_n, xk1_l, xk1_d, true_and, and_true, ↓reduceIte, Nat.reduceAdd, xtup]
    · have hn : ¬ (rTk tx r0 0 p n x).1 := fun z => hno ⟨_, _, z, rfl, rfl⟩
      have y2 := v5 hn
      intro Q l2
      rw [q102_9]
      simp (disch := first | exact Or.inl rfl | first | assumption | (simp only [MM_Kd, rI_Kd, rJ_Kd, sI_Kd, sJ_Kd, sR_Kd]; assumption) | omega | decide) only [q102_0, q102_0N, q102_1, q102_4, q102_7, q102_8, q102_10, q102_10N, q102_11, q102_14, q102_17, q102_20, q102_20N, q102_21, q102_24, q102_25, q102_28, q102_29, q102_30, q102_32, q102_35, q102_35N, q102_36, q102_39, q102_42, q102_43, q102_44, q102_44N, q102_45, q102_48, q102_49, q102_52, q102_53, q102_56, q102_59, q102_59N, q102_60, q102_63, o3, l1, nI_leI, h2, y2, xaf_s, xaf_v, va_rf_s, xix_n, nI_clamp, xk1_i, xk1_a, xk1_u, xk1_n, xk1_l, xk1_d, true_and, and_true, ↓reduceIte, Nat.reduceAdd, xtup]
  | succ k ih =>
    intro p n x μ hp hr hC hB h hI
    have hC0 := hC
    have h2 : ¬ L ≤ p := by omega
    have hKp : rK tx r0 p := fun i hi => hKL i (by omega)
    obtain ⟨q, hq, hq0, hrg⟩ := rS_g p hKp
    obtain ⟨ko, ⟨o0, o1, o2, o3, o4⟩, -, -, ⟨k3, k3r⟩, ⟨k4, k4l⟩, k5⟩ := hC
    have hc3 := fun Q => c3 (G := G) (Q := Q) (k := p) hC0 hB (by omega)
    have l1 := hB.2.1
    have hL60 := hB.1
    have hstep := hKL p (by omega)
    by_cases h59 : tx p = 59
    · have h68 : rS tx r0 p 0 = 6 ∨ rS tx r0 p 0 = 8 := by
        rcases (rT_ok hq hq0 hrg hstep).2 h59 with z | z
        · exact Or.inl (by rw [hq0, z]; rfl)
        · exact Or.inr (by rw [hq0, z]; rfl)
      obtain ⟨μ1, v1, v2, v3, v4, v5⟩ := c103' (G := G) hC0 h hI hg hr hKp h68
      by_cases hok : (rTk tx r0 0 p n x).1
      · obtain ⟨-, y2, y3, y4⟩ := v4 hok
        have hr1 : xI μ1 (o + 445) = rS tx r0 p := by rw [(v1.2.2 (o + 445) (by unfold BK; omega)).1]; exact hr
        have hC1 : CSH μ1 o := hC0.fs v1 fun q hq => (v1.2.2 q (by unfold BK; omega)).2.2
        have hB1 : CBF μ1 o L tx := hB.fs (v1.mono fun q hq => Or.inl hq)
        have k5' : xKd μ1 (o + 445) = 5 := hC1.2.2.2.2.2.2
        have ko' := hC1.1
        have o4' := hC1.2.1.2.2.2.2
        have hc29 := fun Q => c29 (G := G) (μ := μ1) (Q := Q) k5' (tx p) hq hq0
        rw [← hr1, rI_self, hr1] at hc29
        have hstep' : (rT (tx p) (rS tx r0 p)).1 = 1 := hstep
        obtain ⟨μ', s1, s2, s3, s4, s5⟩ := ih (p + 1) (n + 1) (rTk tx r0 0 p n x).2 (xrI μ1 (o + 445) (rT (tx p) (rS tx r0 p)).2) (by omega) rI_e (CSH.rd hC1) (CBF.rd hB1) (y3.fs (μ' := xrI μ1 (o + 445) (rT (tx p) (rS tx r0 p)).2) (P := fun q => q = o + 445) ⟨rfl, rfl, fun q hq => ⟨rI_n hq, rfl, rfl⟩⟩ fun q q1 q2 => by omega) y4
        have hFr : FS μ1 (xrI μ1 (o + 445) (rT (tx p) (rS tx r0 p)).2) (fun q => BK (o + 56) q ∨ q = o + 445) := ⟨rfl, rfl, fun q hq => ⟨rI_n fun z => hq (Or.inr z), rfl, rfl⟩⟩
        have go : ∀ Q l2, Rn G 102 9 [some (.ref o), some (.int (nI p)), l2] [] μ Q = Rn G 102 9 [some (.ref o), some (.int (nI (p + 1))), some (.int (tx p))] [] (xrI μ1 (o + 445) (rT (tx p) (rS tx r0 p)).2) Q := by
          intro Q l2
          conv => lhs; rw [q102_9]
          simp (disch := first | assumption | (simp only [MM_Kd, rI_Kd, rJ_Kd, sI_Kd, sJ_Kd, sR_Kd]; assumption) | omega | decide) only [q102_0, q102_0N, q102_1, q102_4, q102_7, q102_8, q102_10, q102_10N, q102_11, q102_14, q102_17, q102_20, q102_20N, q102_21, q102_24, q102_25, q102_28, q102_29, q102_30, q102_32, q102_35, q102_35N, q102_36, q102_39, q102_42, q102_43, q102_44, q102_44N, q102_45, q102_48, q102_49, q102_52, q102_53, q102_56, q102_59, q102_59N, q102_60, q102_63, o3, l1, nI_leI, h2, hc3, eq_true h59, y2, c10, o4', hc29, not_true_eq_false, not_false_eq_true, nI_1, xaf_s, xaf_v, va_rf_s, xix_n, nI_clamp, xk1_i, xk1_a, xk1_u, xk1_n, xk1_l, xk1_d, true_and, and_true, ↓reduceIte, Nat.reduceAdd, xtup]
        refine ⟨μ', ((v1.mono fun q hq => Or.inl hq).tr hFr).tr s1, s2, s3, fun n' x' hok' => ?_, fun hno Q l2 => ?_⟩
        · have e : rOk tx r0 (k + 1) p n x n' x' = ((rTk tx r0 0 p n x).1 ∧ rOk tx r0 k (p + 1) (n + 1) (rTk tx r0 0 p n x).2 n' x') := if_pos h59
          rw [e] at hok'
          obtain ⟨t1, t2, t3⟩ := s4 n' x' hok'.2
          exact ⟨fun Q l2 => (go Q l2).trans (t1 Q _), t2, t3⟩
        · refine (go Q l2).trans (s5 (fun ⟨n', x', z⟩ => hno ⟨n', x', ?_⟩) Q _)
          have e : rOk tx r0 (k + 1) p n x n' x' = ((rTk tx r0 0 p n x).1 ∧ rOk tx r0 k (p + 1) (n + 1) (rTk tx r0 0 p n x).2 n' x') := if_pos h59
          rw [e]; exact ⟨hok, z⟩
      · have y2 := v5 hok
        refine ⟨μ1, v1.mono fun q hq => Or.inl hq, v2, v3, fun n' x' hok' => ?_, fun hno Q l2 => ?_⟩
        · have e : rOk tx r0 (k + 1) p n x n' x' = ((rTk tx r0 0 p n x).1 ∧ rOk tx r0 k (p + 1) (n + 1) (rTk tx r0 0 p n x).2 n' x') := if_pos h59
          rw [e] at hok'; exact absurd hok'.1 hok
        · rw [q102_9]
          simp (disch := first | exact Or.inl rfl | first | assumption | (simp only [MM_Kd, rI_Kd, rJ_Kd, sI_Kd, sJ_Kd, sR_Kd]; assumption) | omega | decide) only [q102_0, q102_0N, q102_1, q102_4, q102_7, q102_8, q102_10, q102_10N, q102_11, q102_14, q102_17, q102_20, q102_20N, q102_21, q102_24, q102_25, q102_28, q102_29, q102_30, q102_32, q102_35, q102_35N, q102_36, q102_39, q102_42, q102_43, q102_44, q102_44N, q102_45, q102_48, q102_49, q102_52, q102_53, q102_56, q102_59, q102_59N, q102_60, q102_63, o3, l1, nI_leI, h2, hc3, eq_true h59, y2, c00, not_true_eq_false, xaf_s, xaf_v, va_rf_s, xix_n, nI_clamp, xk1_i, xk1_a, xk1_u, xk1_n, xk1_l, xk1_d, true_and, and_true, ↓reduceIte, Nat.reduceAdd, xtup]
    · have hc29 := fun Q => c29 (G := G) (μ := μ) (Q := Q) k5 (tx p) hq hq0
      rw [← hr, rI_self, hr] at hc29
      obtain ⟨μ', s1, s2, s3, s4, s5⟩ := ih (p + 1) n x (xrI μ (o + 445) (rT (tx p) (rS tx r0 p)).2) (by omega) rI_e (CSH.rd hC0) (CBF.rd hB) (h.fs (μ' := xrI μ (o + 445) (rT (tx p) (rS tx r0 p)).2) (P := fun q => q = o + 445) ⟨rfl, rfl, fun q hq => ⟨rI_n hq, rfl, rfl⟩⟩ fun q q1 q2 => by omega) hI
      have hFr : FS μ (xrI μ (o + 445) (rT (tx p) (rS tx r0 p)).2) (fun q => BK (o + 56) q ∨ q = o + 445) := ⟨rfl, rfl, fun q hq => ⟨rI_n fun z => hq (Or.inr z), rfl, rfl⟩⟩
      have go : ∀ Q l2, Rn G 102 9 [some (.ref o), some (.int (nI p)), l2] [] μ Q = Rn G 102 9 [some (.ref o), some (.int (nI (p + 1))), some (.int (tx p))] [] (xrI μ (o + 445) (rT (tx p) (rS tx r0 p)).2) Q := by
        intro Q l2
        conv => lhs; rw [q102_9]
        simp (disch := first | assumption | (simp only [MM_Kd, rI_Kd, rJ_Kd, sI_Kd, sJ_Kd, sR_Kd]; assumption) | omega | decide) only [q102_0, q102_0N, q102_1, q102_4, q102_7, q102_8, q102_10, q102_10N, q102_11, q102_14, q102_17, q102_20, q102_20N, q102_21, q102_24, q102_25, q102_28, q102_29, q102_30, q102_32, q102_35, q102_35N, q102_36, q102_39, q102_42, q102_43, q102_44, q102_44N, q102_45, q102_48, q102_49, q102_52, q102_53, q102_56, q102_59, q102_59N, q102_60, q102_63, o3, o4, l1, nI_leI, h2, hc3, h59, hc29, not_false_eq_true, nI_1, xaf_s, xaf_v, va_rf_s, xix_n, nI_clamp, xk1_i, xk1_a, xk1_u, xk1_n, xk1_l, xk1_d, true_and, and_true, ↓reduceIte, Nat.reduceAdd, xtup]
      refine ⟨μ', hFr.tr s1, s2, s3, fun n' x' hok' => ?_, fun hno Q l2 => ?_⟩
      · have e : rOk tx r0 (k + 1) p n x n' x' = rOk tx r0 k (p + 1) n x n' x' := if_neg h59
        rw [e] at hok'
        obtain ⟨t1, t2, t3⟩ := s4 n' x' hok'
        exact ⟨fun Q l2 => (go Q l2).trans (t1 Q _), t2, t3⟩
      · refine (go Q l2).trans (s5 (fun ⟨n', x', z⟩ => hno ⟨n', x', ?_⟩) Q _)
        have e : rOk tx r0 (k + 1) p n x n' x' = rOk tx r0 k (p + 1) n x n' x' := if_neg h59
        rw [e]; exact z
end RD3
