/-! A MONTH KEEPS WHAT HOLDS -/
theorem GI.of {s s' : Nat → Int32} {g n F F' : Nat} (h : GI s g n F) (h0 : ∀ j, j < 19 → j ≠ 1 → j ≠ 3 → j ≠ 4 → j ≠ 5 → s' j = s j) (h1 : ∃ f, s' 1 = nI f ∧ f ≤ F') : GI s' g n F' := by
  obtain ⟨a1, a2, a3, a4, a5, a6, a7, a8, a9⟩ := h
  refine ⟨by rw [h0 0 (by omega) (by omega) (by omega) (by omega) (by omega)]; exact a1, by rw [h0 2 (by omega) (by omega) (by omega) (by omega) (by omega)]; exact a2, a3, h1, by rw [h0 6 (by omega) (by omega) (by omega) (by omega) (by omega)]; exact a5, by rw [h0 7 (by omega) (by omega) (by omega) (by omega) (by omega)]; exact a6, by rw [h0 8 (by omega) (by omega) (by omega) (by omega) (by omega)]; exact a7, by rw [h0 9 (by omega) (by omega) (by omega) (by omega) (by omega)]; exact a8, fun k hk => ?_⟩
  rw [h0 (10 + 3 * k) (by omega) (by omega) (by omega) (by omega) (by omega), h0 (10 + 3 * k + 1) (by omega) (by omega) (by omega) (by omega) (by omega), h0 (12 + 3 * k) (by omega) (by omega) (by omega) (by omega) (by omega)]
  exact a9 k hk
/-- a function of the row that only changes member p's words, the fund, what lapsed -/
def only (p : Nat) (s s' : Nat → Int32) : Prop := ∀ j, j ≠ 1 → j ≠ 4 → (j < 19 + 75 * p ∨ 19 + 75 * p + 75 ≤ j) → s' j = s j
theorem only.rf {p : Nat} {s : Nat → Int32} : only p s s := fun _ _ _ _ => rfl
theorem only.tr {p : Nat} {s s' s'' : Nat → Int32} (h : only p s s') (h' : only p s' s'') : only p s s'' := fun j a b c => (h' j a b c).trans (h j a b c)
theorem only.up {p k : Nat} {s : Nat → Int32} {v : Int32} (h : k = 1 ∨ k = 4 ∨ (19 + 75 * p ≤ k ∧ k < 19 + 75 * p + 75)) : only p s (up s k v) := fun j a b c => up_n (by omega)
theorem only.drop {p n : Nat} {s : Nat → Int32} (h : n < 63) : only p s (mDrop s p n) := fun j a b c => (mSh_n (by omega)).trans (up_n (by omega))
theorem only.mw {p p' : Nat} {s s' : Nat → Int32} (h : only p s s') (hp : p' ≠ p) : mw s' p' = mw s p' := mw_cg fun j h1 h2 => h j (by omega) (by omega) (by omega)
theorem only.GI {p g n F F' : Nat} {s s' : Nat → Int32} (h : only p s s') (hG : GI s g n F) (h1 : ∃ f, s' 1 = nI f ∧ f ≤ F') : GI s' g n F' := hG.of (fun j a b _ d _ => h j b d (by omega)) h1
/-- what a member's words say -/
theorem MI.at {s : Nat → Int32} {p S lo hi : Nat} (h : MI (mw s p) S lo hi) (hh : hi - lo < 64) : zOwn s p < 3 ∧ s (19 + 75 * p + 1) = nI (zOwn s p) ∧ zLts s p ≤ hi - lo ∧ s (19 + 75 * p + 10) = nI (zLts s p) ∧ (s (19 + 75 * p + 7) = 0 ∨ s (19 + 75 * p + 7) = 1 ∧ zLts s p = 0) := by
  obtain ⟨⟨c, c1, c2⟩, -, -, -, -, n, b1, b2, b3, b4, -⟩ := h
  rw [mw_at (by omega)] at c2 b1 b4
  have e1 : zOwn s p = c := by unfold zOwn; rw [c2]; exact nI_clamp (by omega)
  have e2 : zLts s p = n := by unfold zLts; rw [b1]; exact nI_clamp (by omega)
  rw [e1, e2]
  exact ⟨c1, c2, b2, b1, b4⟩
theorem due_n {s : Nat → Int32} {g n F S lo hi p c : Nat} (hG : GI s g n F) (hM : MI (mw s p) S lo hi) (hc : c < 3) : ∃ d, d ≤ 2999 ∧ zDue s p c = nI d := by
  obtain ⟨-, -, -, -, -, -, -, -, h⟩ := hG
  obtain ⟨⟨r, r1, r2, r3⟩, -⟩ := h c hc
  obtain ⟨-, ⟨q, q1, q2, q3⟩, -⟩ := hM
  rw [mw_at (by omega)] at q3
  have b : q * r ≤ 9999 * 300 := Nat.mul_le_mul q2 r2
  refine ⟨q * r / 1000, by omega, ?_⟩
  unfold zDue
  rw [q3, r3, pk_mul, show (1000 : Int32) = nI 1000 from rfl, pk_div (by omega) (by omega) (by omega)]
section MON
variable {x : ST} {g n F A B S p : Nat}
theorem zCon_ok (hG : GI x.1 g n F) (hS : SI x.2 A B) (hM : MI (mw x.1 p) S (g - 60) g) (hp : p < 8) (hg : g < 100000) (hF : F < 2 ^ 31 - 5000) : GI (zCon p x).1 g n (F + 4095) ∧ SI (zCon p x).2 (A + 4095) B ∧ MI (mw (zCon p x).1 p) (S + 1) (g - 60) (g + 1) ∧ only p x.1 (zCon p x).1 := by
  obtain ⟨c1, c2, c3, c4, c5⟩ := hM.at (by omega)
  unfold zCon
  by_cases h7 : x.1 (19 + 75 * p + 7) = 0
  · rw [if_pos h7]
    generalize hn : zLts x.1 p = k at *
    generalize hc : zOwn x.1 p = c at *
    obtain ⟨d, d1, d2⟩ := due_n hG hM c1
    unfold zCon1
    by_cases h9 : x.1 (19 + 75 * p + 9) = 1
    · rw [if_pos h9, d2]
      dsimp only
      have ho : only p x.1 (up (up x.1 (19 + 75 * p + (11 + k)) (16384 * x.1 0 + 4096 * nI c + nI d)) (19 + 75 * p + 10) (nI (k + 1))) := (only.up (by omega)).tr (only.up (by omega))
      obtain ⟨f, f1, f2⟩ := hG.2.2.2.1
      obtain ⟨⟨a, a1, a2⟩, hB⟩ := hS
      refine ⟨ho.GI hG ⟨f, ?_, by omega⟩, ⟨⟨a, a1, by omega⟩, hB⟩, ?_, ho⟩
      · rw [up_n (by omega), up_n (by omega)]; exact f1
      · rw [mw_in (by omega), mw_in (by omega), hG.1, show (16384 : Int32) = nI 16384 from rfl, show (4096 : Int32) = nI 4096 from rfl, pk_mul, pk_mul, nI_add, nI_add]
        exact hM.late (by rw [mw_at (by omega)]; exact c4) (by omega) (by omega) (by omega) (by rw [mw_at (by omega)]; exact h7) c1 (by omega)
    · rw [if_neg h9, d2]
      dsimp only
      have ho : only p x.1 (up (up x.1 1 (x.1 1 + nI d)) (19 + 75 * p + (4 + c)) (x.1 (19 + 75 * p + (4 + c)) + 1)) := (only.up (by omega)).tr (only.up (by omega))
      obtain ⟨f, f1, f2⟩ := hG.2.2.2.1
      obtain ⟨⟨a, a1, a2⟩, hB⟩ := hS
      refine ⟨ho.GI hG ⟨f + d, ?_, by omega⟩, ⟨⟨a + d, ?_, by omega⟩, by rw [up_n (by omega)]; exact hB⟩, ?_, ho⟩
      · rw [up_n (by omega), up_e, f1, nI_add]
      · rw [up_e, a1, nI_l (by omega), lN_add]
      · have e : x.1 (19 + 75 * p + (4 + c)) = mw x.1 p (4 + c) := (mw_at (by omega)).symm
        rw [mw_in (by omega), mw_out (by omega), e]
        exact (hM.serve c1).mono (by omega) (by omega) (by omega)
  · rw [if_neg h7]
    obtain ⟨f, f1, f2⟩ := hG.2.2.2.1
    obtain ⟨⟨a, a1, a2⟩, hB⟩ := hS
    exact ⟨hG.of (fun _ _ _ _ _ _ => rfl) ⟨f, f1, by omega⟩, ⟨⟨a, a1, by omega⟩, hB⟩, hM.mono (by omega) (by omega) (by omega), only.rf⟩
/-- the first late month's word -/
theorem late0 {s : Nat → Int32} {lo hi n : Nat} (hM : MI (mw s p) S lo hi) (hh : hi - lo < 62) (hn : s (19 + 75 * p + 10) = nI (n + 1)) (h63 : n < 63) (hr : hi < 100000) : ∃ w, s (19 + 75 * p + 11) = nI w ∧ w < 2 ^ 31 ∧ w / 16384 < hi ∧ lo ≤ w / 16384 ∧ w / 4096 % 4 < 3 ∧ mDueM s p 0 = nI (w / 16384) ∧ mDueS s p 0 = nI (w / 4096 % 4) ∧ mDue s p 0 = nI (w % 4096) := by
  obtain ⟨-, -, -, -, -, n', b1, b2, b3, b4, W, b5⟩ := hM
  rw [mw_at (by omega), hn] at b1
  have e : n + 1 = n' := (nI_eq (by omega) (by omega)).mp b1
  obtain ⟨w1, w2, w3, w4, -⟩ := b5 0 (by omega)
  rw [mw_at (by omega)] at w1
  have hw : W 0 < 2 ^ 31 := by omega
  have hL : mLate s p 0 = nI (W 0) := w1
  refine ⟨W 0, w1, hw, w4, w3, w2, ?_, ?_, ?_⟩
  · unfold mDueM; rw [hL, show (16384 : Int32) = nI 16384 from rfl, pk_div hw (by omega) (by omega)]
  · unfold mDueS; rw [hL, show (4096 : Int32) = nI 4096 from rfl, show (4 : Int32) = nI 4 from rfl, pk_div hw (by omega) (by omega), pk_rem (by omega) (by omega) (by omega)]
  · unfold mDue; rw [hL, show (4096 : Int32) = nI 4096 from rfl, pk_rem hw (by omega) (by omega)]
theorem zLap1_ok (hp : p < 8) (hg : g < 99990) : ∀ k s, k < 62 → GI s g n F → MI (mw s p) S (g - 60) (g + 1) → s (19 + 75 * p + 10) = nI k → GI (zLap1 p k s) g n F ∧ MI (mw (zLap1 p k s) p) S (g + 1 - 60) (g + 1) ∧ only p s (zLap1 p k s) := by
  intro k
  induction k with
  | zero =>
    intro s _ hG hM hn
    exact ⟨hG, hM.from (n := 0) (by rw [mw_at (by omega)]; exact hn) (by omega) (by omega) (Or.inl rfl) (by omega), only.rf⟩
  | succ k ih =>
    intro s hk hG hM hn
    obtain ⟨w, w1, w2, w3, w4, -, w5, -⟩ := late0 hM (by omega) hn (by omega) (by omega)
    obtain ⟨l, l1, l2, l3⟩ := hG.2.2.2.2.2.1
    simp only [zLap1]
    by_cases hc : s 7 ≤ s 0 - mDueM s p 0
    · rw [if_pos hc]
      have ho : only p s (up (mDrop s p k) 4 (s 4 + 1)) := (only.drop (by omega)).tr (only.up (by omega))
      obtain ⟨f, f1, f2⟩ := hG.2.2.2.1
      have e1 : up (mDrop s p k) 4 (s 4 + 1) 1 = s 1 := by rw [up_n (by omega)]; exact (mSh_n (by omega)).trans (up_n (by omega))
      have hG' : GI (up (mDrop s p k) 4 (s 4 + 1)) g n F := ho.GI hG ⟨f, by rw [e1]; exact f1, f2⟩
      have em : mw (up (mDrop s p k) 4 (s 4 + 1)) p = vDrop (mw s p) k := by rw [mw_out (by omega), mw_drop (by omega)]
      have hM' : MI (mw (up (mDrop s p k) 4 (s 4 + 1)) p) S (g - 60) (g + 1) := by
        rw [em]
        exact (hM.mono (Nat.le_succ S) (Nat.le_refl _) (Nat.le_refl _)).drop (by rw [mw_at (by omega)]; exact hn) (by omega) (by omega)
      obtain ⟨r1, r2, r3⟩ := ih _ (by omega) hG' hM' (by rw [up_n (by omega)]; exact (mSh_n (by omega)).trans up_e)
      exact ⟨r1, r2, ho.tr r3⟩
    · rw [if_neg hc]
      refine ⟨hG, hM.from (n := k + 1) (by rw [mw_at (by omega)]; exact hn) (by omega) (by omega) (Or.inr ⟨w, by rw [mw_at (by omega)]; exact w1, w2, ?_⟩) (by omega), only.rf⟩
      rw [hG.1, w5, l3, pk_sub (by omega), nI_leI (by omega) (by omega)] at hc
      omega
end MON
