/-! PENSIONS AS NUMBERS -/
def nPs (q c t : Nat) (e h : Nat → Nat) : Nat → Nat → Nat → Nat
  | 0, _, a => a
  | k + 1, i, a => nPs q c t e h k (i + 1) (a + q * (e i + if i = c then t else 0) / (12 * h i))
theorem div_bound {a b : Nat} (ha : a ≤ 220000000) (hb : 240 ≤ b) : a / b ≤ 1000000 := by
  rcases Nat.lt_or_ge 1000000 (a / b) with h | h
  · have h1 : 1000001 ≤ a / b := h
    have h2 : 1000001 * b ≤ a := (Nat.le_div_iff_mul_le (by omega)).mp h1
    omega
  · exact h
theorem nPs_term {q c t i : Nat} {e h : Nat → Nat} (hq : q ≤ 9999) (he : e i ≤ 20500) (ht : t ≤ 240) (hh : 20 ≤ h i) : q * (e i + if i = c then t else 0) / (12 * h i) ≤ 1000000 ∧ q * (e i + if i = c then t else 0) ≤ 220000000 := by
  have h1 : (e i + if i = c then t else 0) ≤ 20740 := by split <;> omega
  have h2 : q * (e i + if i = c then t else 0) ≤ 9999 * 20740 := Nat.mul_le_mul hq h1
  exact ⟨div_bound (by omega) (by omega), by omega⟩
theorem nPs_le {q c t : Nat} {e h : Nat → Nat} (hq : q ≤ 9999) (he : ∀ k, k < 3 → e k ≤ 20500) (ht : t ≤ 240) (hh : ∀ k, k < 3 → 20 ≤ h k ∧ h k ≤ 200) : ∀ k i a, i + k = 3 → a ≤ 1000000 * i → nPs q c t e h k i a ≤ 3000000 := by
  intro k
  induction k with
  | zero => intro i a hi ha; simp only [nPs]; omega
  | succ k ih =>
    intro i a hi ha
    have h1 := nPs_term (c := c) hq (he i (by omega)) ht (hh i (by omega)).1
    exact ih (i + 1) _ (by omega) (by omega)
theorem mPs_n {s : Nat → Int32} {p q c t : Nat} {e h : Nat → Nat} (hq : q ≤ 9999) (hqs : s (19 + 75 * p + 2) = nI q) (he : ∀ k, k < 3 → e k ≤ 20500) (hes : ∀ k, k < 3 → s (19 + 75 * p + (4 + k)) = nI (e k)) (ht : t ≤ 240) (hh : ∀ k, k < 3 → 20 ≤ h k ∧ h k ≤ 200) (hhs : ∀ k, k < 3 → s (10 + 3 * k + 1) = nI (h k)) (hc : c < 2 ^ 31) : ∀ k i a, i + k = 3 → mPs s p (nI c) (nI t) k i (nI a) = nI (nPs q c t e h k i a) := by
  intro k
  induction k with
  | zero => intro i a hi; rfl
  | succ k ih =>
    intro i a hi
    have h1 := nPs_term (c := c) hq (he i (by omega)) ht (hh i (by omega)).1
    have h2 := hh i (by omega)
    simp only [mPs, nPs]
    rw [hqs, hes i (by omega), hhs i (by omega), show (12 : Int32) = nI 12 from rfl, pk_mul]
    rw [show (if nI i = nI c then nI t else (0 : Int32)) = nI (if i = c then t else 0) by
      by_cases hx : i = c
      · rw [if_pos (by rw [hx]), if_pos hx]
      · rw [if_neg (fun z => hx ((nI_eq (by omega) hc).mp z)), if_neg hx]; rfl]
    rw [nI_add, pk_mul, pk_div (by omega) (by omega) (by omega), nI_add]
    exact ih (i + 1) _ (by omega)
theorem mPen_n {s : Nat → Int32} {p c t y T : Nat} (h : mPs s p (nI c) (nI t) 3 0 0 = nI T) (hT : T ≤ 3000000) (hy : y ≤ 120) : mPen s p (nI c) (nI t) (nI y) = nI (T - 4 * y * T / 1000) := by
  unfold mPen
  rw [h]
  have b1 : 4 * y * T ≤ 480 * 3000000 := Nat.mul_le_mul (by omega) hT
  have b2 : 4 * y * T ≤ 480 * T := Nat.mul_le_mul_right _ (by omega)
  have b3 : 4 * y * T / 1000 ≤ T := by
    have : 4 * y * T / 1000 ≤ 480 * T / 1000 := Nat.div_le_div_right b2
    omega
  by_cases h0 : y = 0
  · subst h0
    rw [if_pos (by decide)]; simp
  · rw [if_neg (by rw [show (0 : Int32) = nI 0 from rfl, nI_leI (by omega) (by omega)]; omega)]
    rw [nI_l (by omega), nI_l (by omega), show (4 : Int64) = lN 4 from rfl, show (1000 : Int64) = lN 1000 from rfl, lN_mul, lN_mul, pk_lDiv (by omega) (by omega) (by omega), lN_i, pk_sub b3]
theorem mPen_neg {s : Nat → Int32} {p : Nat} {x more y : Int32} (h : y ≤ 0) : mPen s p x more y = mPs s p x more 3 0 0 := if_pos h
/-- what a member's words and the scheme's give for pensions -/
theorem pen_of {s : Nat → Int32} {g n F S lo hi p : Nat} (hG : GI s g n F) (hM : MI (mw s p) S lo hi) (hS : S ≤ 20500) : ∃ (q : Nat) (e h : Nat → Nat), q ≤ 9999 ∧ s (19 + 75 * p + 2) = nI q ∧ (∀ k, k < 3 → e k ≤ 20500) ∧ (∀ k, k < 3 → s (19 + 75 * p + (4 + k)) = nI (e k)) ∧ (∀ k, k < 3 → 20 ≤ h k ∧ h k ≤ 200) ∧ (∀ k, k < 3 → s (10 + 3 * k + 1) = nI (h k)) := by
  obtain ⟨-, -, -, -, -, -, -, -, hk⟩ := hG
  obtain ⟨a1, ⟨q, q1, q2, q3⟩, a3, a4, a5, n', b1, b2, b3, -⟩ := hM
  have he : ∀ k, ∃ e, k < 3 → e ≤ 20500 ∧ s (19 + 75 * p + (4 + k)) = nI e := by
    intro k
    by_cases h : k < 3
    · obtain ⟨e, e1, e2⟩ := b3 k h
      exact ⟨e, fun _ => ⟨by omega, by rw [mw_at (by omega)] at e1; exact e1⟩⟩
    · exact ⟨0, fun z => absurd z h⟩
  have hh : ∀ k, ∃ r, k < 3 → (20 ≤ r ∧ r ≤ 200) ∧ s (10 + 3 * k + 1) = nI r := by
    intro k
    by_cases h : k < 3
    · obtain ⟨-, ⟨r, r1, r2, r3⟩, -⟩ := hk k h
      exact ⟨r, fun _ => ⟨⟨r1, r2⟩, r3⟩⟩
    · exact ⟨0, fun z => absurd z h⟩
  refine ⟨q, fun k => (he k).choose, fun k => (hh k).choose, q2, by rw [mw_at (by omega)] at q3; exact q3, fun k h => ((he k).choose_spec h).1, fun k h => ((he k).choose_spec h).2, fun k h => ((hh k).choose_spec h).1, fun k h => ((hh k).choose_spec h).2⟩
theorem share_ne {s : Nat → Int32} {g n F : Nat} (hG : GI s g n F) : ∀ k, k < 3 → ¬ 12 * s (10 + 3 * k + 1) = 0 := by
  intro k hk
  obtain ⟨-, -, -, -, -, -, -, -, h⟩ := hG
  obtain ⟨-, ⟨r, r1, r2, r3⟩, -⟩ := h k hk
  rw [r3, show (12 : Int32) = nI 12 from rfl, pk_mul, show (0 : Int32) = nI 0 from rfl, nI_eq (by omega) (by omega)]
  omega
