/-! THE REFERENCE'S READER AND THE CLASS'S, PURE -/
def pC (tx : Nat → Int32) (L a : Nat) : Int32 := if a < L then tx a else 0
def sg (tx : Nat → Int32) (L : Nat) (lo hi : Int32) (y : Nat × Bool) : Nat × Bool := if y.2 = true ∨ bad (pC tx L y.1) lo hi then (y.1, true) else (y.1 + 1, false)
abbrev nx (tx : Nat → Int32) (L : Nat) (lo hi : Int32) (y : Nat × Bool) : Prop := y.2 = false ∧ y.1 < L ∧ ¬ bad (tx y.1) lo hi
def nmL (tx : Nat → Int32) (L : Nat) : Nat → Int32 × (Nat × Bool) → Int32 × (Nat × Bool)
  | 0, z => z
  | k + 1, z => if nx tx L 48 57 z.2 then nmL tx L k (10 * z.1 + pC tx L z.2.1 - 48, sg tx L 48 57 z.2) else z
def num (tx : Nat → Int32) (L D : Nat) (y : Nat × Bool) : Int32 × (Nat × Bool) := nmL tx L (D - 1) (pC tx L y.1 - 48, sg tx L 49 57 y)
section PRT
variable (tx : Nat → Int32) (L : Nat) (y : Nat × Bool)
def pr2 : Nat × Bool := sg tx L 115 115 (num tx L 4 y).2
def prS : Int32 := pC tx L (pr2 tx L y).1 - 48
def pr4 : Nat × Bool := sg tx L 97 97 (sg tx L 48 50 (pr2 tx L y))
def prT : Int32 := pC tx L (pr4 tx L y).1 - 48
def pr5 : Nat × Bool := sg tx L 49 55 (pr4 tx L y)
def prO : Int32 := pC tx L (pr5 tx L y).1 - 48
def pr6 : Nat × Bool := sg tx L (if prT tx L y = 1 then 54 else 48) 57 (pr5 tx L y)
def prY : Nat × Bool := if nx tx L 43 43 (pr6 tx L y) then (num tx L 5 (sg tx L 43 43 (pr6 tx L y))).2 else pr6 tx L y
def prM : Int32 := if nx tx L 43 43 (pr6 tx L y) then (num tx L 5 (sg tx L 43 43 (pr6 tx L y))).1 else 0
def prA : Int32 := 12 * (10 * prT tx L y + prO tx L y)
def prP : Int32 := (num tx L 4 y).1
end PRT
/-- wrong at the place where the class's reader is, too -/
def Er (tx : Nat → Int32) (L : Nat) (y : Nat × Bool) : Prop := y.2 = true ∧ y.1 ≤ L ∧ rK tx r00 y.1 ∧ ((y.1 = L ∧ ¬ (rS tx r00 L 0 = 6 ∨ rS tx r00 L 0 = 8)) ∨ (y.1 < L ∧ (rT (tx y.1) (rS tx r00 y.1)).1 = 0))
section PRS
variable {tx : Nat → Int32} {L p q : Nat} {y : Nat × Bool} {lo hi : Int32} {r : Nat → Int32} {code : Int32}
theorem Er.sgE (h : Er tx L y) : sg tx L lo hi y = y := by
  unfold sg
  rw [if_pos (Or.inl h.1)]
  exact Prod.ext rfl h.1.symm
theorem Er.nxE (h : Er tx L y) : ¬ nx tx L lo hi y := fun z => by have := h.1.symm.trans z.1; exact absurd this (by decide)
theorem Er.numE {D : Nat} (h : Er tx L y) : (num tx L D y).2 = y := by
  unfold num
  rw [h.sgE]
  cases D - 1 with
  | zero => rfl
  | succ k =>
    unfold nmL
    rw [if_neg h.nxE]
theorem Er.part (h : Er tx L (num tx L 4 y).2) : Er tx L (prY tx L y) := by
  have h2 : pr2 tx L y = (num tx L 4 y).2 := h.sgE
  have h4 : pr4 tx L y = (num tx L 4 y).2 := by unfold pr4; rw [h2, h.sgE, h.sgE]
  have h5 : pr5 tx L y = (num tx L 4 y).2 := by unfold pr5; rw [h4, h.sgE]
  have h6 : pr6 tx L y = (num tx L 4 y).2 := by unfold pr6; rw [h5, h.sgE]
  unfold prY
  rw [h6, if_neg h.nxE]; exact h
theorem Er.part2 (h : Er tx L (pr2 tx L y)) : Er tx L (prY tx L y) := by
  have h4 : pr4 tx L y = pr2 tx L y := by unfold pr4; rw [h.sgE, h.sgE]
  have h5 : pr5 tx L y = pr2 tx L y := by unfold pr5; rw [h4, h.sgE]
  have h6 : pr6 tx L y = pr2 tx L y := by unfold pr6; rw [h5, h.sgE]
  unfold prY
  rw [h6, if_neg h.nxE]; exact h
theorem Er.part4 (h : Er tx L (pr4 tx L y)) : Er tx L (prY tx L y) := by
  have h5 : pr5 tx L y = pr4 tx L y := by unfold pr5; rw [h.sgE]
  have h6 : pr6 tx L y = pr4 tx L y := by unfold pr6; rw [h5, h.sgE]
  unfold prY
  rw [h6, if_neg h.nxE]; exact h
theorem Er.part5 (h : Er tx L (pr5 tx L y)) : Er tx L (prY tx L y) := by
  have h6 : pr6 tx L y = pr5 tx L y := by unfold pr6; rw [h.sgE]
  unfold prY
  rw [h6, if_neg h.nxE]; exact h
theorem Er.part6 (h : Er tx L (pr6 tx L y)) : Er tx L (prY tx L y) := by
  unfold prY
  rw [if_neg h.nxE]; exact h
/-- the class's reader at place p, in state q -/
def At (tx : Nat → Int32) (L p q : Nat) : Prop := p ≤ L ∧ rK tx r00 p ∧ rS tx r00 p 0 = nI q
theorem rK_s (h : rK tx r00 p) (h1 : (rT (tx p) (rS tx r00 p)).1 = 1) : rK tx r00 (p + 1) := fun j hj => by
  by_cases hji : j = p
  · subst hji; exact h1
  · exact h j (by omega)
theorem pC_lt (h : p < L) : pC tx L p = tx p := if_pos h
/-- one character wanted -/
theorem sg_step (h : At tx L p q) (hq : q ≤ 8) (h6 : q ≠ 6) (h8 : q ≠ 8) (hlo : 0 < lo) (hg : p < L → ¬ bad (tx p) lo hi → (rT (tx p) (rS tx r00 p)).1 = 1) (hb : p < L → bad (tx p) lo hi → (rT (tx p) (rS tx r00 p)).1 = 0) : Er tx L (sg tx L lo hi (p, false)) ∨ (p < L ∧ ¬ bad (tx p) lo hi ∧ sg tx L lo hi (p, false) = (p + 1, false) ∧ rK tx r00 (p + 1)) := by
  obtain ⟨a1, a2, a3⟩ := h
  have hf : ¬ (false : Bool) = true := by decide
  by_cases hp : p < L
  · by_cases hbd : bad (tx p) lo hi
    · left
      have e : sg tx L lo hi (p, false) = (p, true) := by unfold sg; rw [if_pos (Or.inr (by rw [pC_lt hp]; exact hbd))]
      rw [e]
      exact ⟨rfl, a1, a2, Or.inr ⟨hp, hb hp hbd⟩⟩
    · right
      have e : sg tx L lo hi (p, false) = (p + 1, false) := by unfold sg; rw [if_neg (fun z => z.elim hf (fun w => hbd (by rw [pC_lt hp] at w; exact w)))]
      exact ⟨hp, hbd, e, rK_s a2 (hg hp hbd)⟩
  · left
    have e0 : pC tx L p = 0 := if_neg hp
    have e : sg tx L lo hi (p, false) = (p, true) := by unfold sg; rw [if_pos (Or.inr (Or.inl (by rw [e0]; exact hlo)))]
    rw [e]
    have hpl : p = L := by omega
    refine ⟨rfl, a1, a2, Or.inl ⟨hpl, fun z => ?_⟩⟩
    rw [← hpl, a3] at z
    rcases z with z | z
    · exact h6 ((nI_eq (b := 6) (by omega) (by omega)).mp z)
    · exact h8 ((nI_eq (b := 8) (by omega) (by omega)).mp z)
theorem nq {a b : Nat} (h : a ≠ b) (ha : a < 100) (hb : b < 100) (h0 : r 0 = nI a) : ¬ r 0 = nI b := fun z => h ((nI_eq (by omega) (by omega)).mp (h0.symm.trans z))
theorem rT0 (h : r 0 = nI 0) : rT code r = (if dg code < 1 then (0, up (up r 1 (dg code)) 4 0) else (1, up (up (up r 1 (dg code)) 4 0) 0 1)) := by
  have h : r 0 = 0 := h
  unfold rT; rw [if_pos h]
theorem rT1 (h : r 0 = nI 1) : rT code r = (if code = 115 then (1, up r 0 2) else if dg code < 0 ∨ 999 < r 1 then (0, r) else (1, up r 1 (10 * r 1 + dg code))) := by
  have h : r 0 = 1 := h
  unfold rT; rw [if_neg (by rw [h]; decide : ¬ r 0 = 0), if_pos h]
theorem rT2 (h : r 0 = nI 2) : rT code r = (if bad (dg code) 0 2 then (0, up r 2 (dg code)) else (1, up (up r 2 (dg code)) 0 3)) := by
  have h : r 0 = 2 := h
  unfold rT; rw [if_neg (by rw [h]; decide : ¬ r 0 = 0), if_neg (by rw [h]; decide : ¬ r 0 = 1), if_pos h]
theorem rT3 (h : r 0 = nI 3) : rT code r = (if code = 97 then (1, up r 0 4) else (0, r)) := by
  have h : r 0 = 3 := h
  unfold rT; rw [if_neg (by rw [h]; decide : ¬ r 0 = 0), if_neg (by rw [h]; decide : ¬ r 0 = 1), if_neg (by rw [h]; decide : ¬ r 0 = 2), if_pos h]
theorem rT4 (h : r 0 = nI 4) : rT code r = (if bad (dg code) 1 7 then (0, up r 3 (dg code)) else (1, up (up r 3 (dg code)) 0 5)) := by
  have h : r 0 = 4 := h
  unfold rT; rw [if_neg (by rw [h]; decide : ¬ r 0 = 0), if_neg (by rw [h]; decide : ¬ r 0 = 1), if_neg (by rw [h]; decide : ¬ r 0 = 2), if_neg (by rw [h]; decide : ¬ r 0 = 3), if_pos h]
theorem rT5 (h : r 0 = nI 5) : rT code r = (if dg code < 0 ∨ 10 * r 3 + dg code < 16 then (0, up r 3 (10 * r 3 + dg code)) else (1, up (up r 3 (10 * r 3 + dg code)) 0 6)) := by
  have h : r 0 = 5 := h
  unfold rT; rw [if_neg (by rw [h]; decide : ¬ r 0 = 0), if_neg (by rw [h]; decide : ¬ r 0 = 1), if_neg (by rw [h]; decide : ¬ r 0 = 2), if_neg (by rw [h]; decide : ¬ r 0 = 3), if_neg (by rw [h]; decide : ¬ r 0 = 4), if_pos h]
theorem rT6 (h : r 0 = nI 6) : rT code r = (if code = 43 then (1, up r 0 7) else if code = 59 then (1, up r 0 0) else (0, r)) := by
  have h : r 0 = 6 := h
  unfold rT; rw [if_neg (by rw [h]; decide : ¬ r 0 = 0), if_neg (by rw [h]; decide : ¬ r 0 = 1), if_neg (by rw [h]; decide : ¬ r 0 = 2), if_neg (by rw [h]; decide : ¬ r 0 = 3), if_neg (by rw [h]; decide : ¬ r 0 = 4), if_neg (by rw [h]; decide : ¬ r 0 = 5), if_pos h]
theorem rT7 (h : r 0 = nI 7) : rT code r = (if dg code < 1 then (0, up r 4 (dg code)) else (1, up (up r 4 (dg code)) 0 8)) := by
  have h : r 0 = 7 := h
  unfold rT; rw [if_neg (by rw [h]; decide : ¬ r 0 = 0), if_neg (by rw [h]; decide : ¬ r 0 = 1), if_neg (by rw [h]; decide : ¬ r 0 = 2), if_neg (by rw [h]; decide : ¬ r 0 = 3), if_neg (by rw [h]; decide : ¬ r 0 = 4), if_neg (by rw [h]; decide : ¬ r 0 = 5), if_neg (by rw [h]; decide : ¬ r 0 = 6), if_pos h]
theorem rT8 (h : r 0 = nI 8) : rT code r = (if code = 59 then (1, up r 0 0) else if dg code < 0 ∨ 9999 < r 4 then (0, r) else (1, up r 4 (10 * r 4 + dg code))) := by
  have h : r 0 = 8 := h
  unfold rT; rw [if_neg (by rw [h]; decide : ¬ r 0 = 0), if_neg (by rw [h]; decide : ¬ r 0 = 1), if_neg (by rw [h]; decide : ¬ r 0 = 2), if_neg (by rw [h]; decide : ¬ r 0 = 3), if_neg (by rw [h]; decide : ¬ r 0 = 4), if_neg (by rw [h]; decide : ¬ r 0 = 5), if_neg (by rw [h]; decide : ¬ r 0 = 6), if_neg (by rw [h]; decide : ¬ r 0 = 7)]
/-- digits -/
theorem dg_in {a b : Nat} (ha : 48 ≤ a) (ha2 : a ≤ 57) (hb : b ≤ 57) (h : ¬ bad code (nI a) (nI b)) : ∃ d, code = nI (48 + d) ∧ a ≤ 48 + d ∧ 48 + d ≤ b ∧ dg code = nI d ∧ code - 48 = nI d := by
  obtain ⟨k, k1, k2, rfl⟩ := rng (by omega) (by omega) h
  have e : nI k - 48 = nI (k - 48) := by
    rw [show (48 : Int32) = nI 48 from rfl]
    have : nI k = nI (k - 48) + nI 48 := by rw [nI_add]; congr 1; omega
    rw [this, Int32.add_sub_cancel]
  refine ⟨k - 48, by congr 1; omega, by omega, by omega, ?_, e⟩
  unfold dg
  rw [if_neg, e]
  rintro (z | z)
  · rw [show (48 : Int32) = nI 48 from rfl, nI_ltI (by omega) (by omega)] at z; omega
  · rw [show (57 : Int32) = nI 57 from rfl, nI_ltI (by omega) (by omega)] at z; omega
theorem dg_out (h : bad code 48 57) : dg code = -1 := if_pos h
theorem ne59 {a b : Nat} (h : ¬ bad code (nI a) (nI b)) (ha : a < 200) (hb : b < 200) (hd : 59 < a ∨ b < 59) : code ≠ 59 := by
  obtain ⟨k, k1, k2, rfl⟩ := rng (by omega) (by omega) h
  intro z
  have := (nI_eq (b := 59) (by omega) (by omega)).mp z
  omega
end PRS
