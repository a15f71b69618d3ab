/-! A WHOLE MONTH, MONTHS -/
section MON2
variable {x : ST} {g n F A B S p : Nat}
theorem zOut_ok (hG : GI x.1 g n F) (hS : SI x.2 A B) (hM : ∃ lo hi, MI (mw x.1 p) S lo hi) (hF : F < 2 ^ 31) : GI (zOut p x).1 g n F ∧ SI (zOut p x).2 A B ∧ ∀ j, j ≠ 1 → (zOut p x).1 j = x.1 j := by
  unfold zOut
  by_cases h7 : x.1 (19 + 75 * p + 7) = 1
  · rw [if_pos h7]
    unfold zOut1
    obtain ⟨lo, hi, -, -, -, ⟨e, e1, e2⟩, -⟩ := hM
    rw [mw_at (by omega)] at e2
    obtain ⟨f, f1, f2⟩ := hG.2.2.2.1
    rw [e2, f1]
    by_cases hb : nI e ≤ nI f
    · rw [if_pos hb]
      rw [nI_leI e1 (by omega)] at hb
      refine ⟨hG.of (fun j _ b _ _ _ => up_n b) ⟨f - e, ?_, by omega⟩, ⟨?_, ?_⟩, fun j h => up_n h⟩
      · dsimp only; rw [up_e, pk_sub hb]
      · dsimp only; rw [up_n (by omega)]; exact hS.1
      · dsimp only; rw [up_n (by omega)]; exact hS.2
    · rw [if_neg hb]
      refine ⟨hG, ⟨?_, ?_⟩, fun j h => rfl⟩
      · dsimp only; rw [up_n (by omega)]; exact hS.1
      · dsimp only; rw [up_n (by omega)]; exact hS.2
  · rw [if_neg h7]; exact ⟨hG, hS, fun _ _ => rfl⟩
theorem early_le {a b : Nat} (ha : a < 2 ^ 30) (hb : b < 2 ^ 30) : nI a - nI b ≤ 0 ↔ a ≤ b := by
  rw [Int32.le_iff_toInt_le, pk_sub_toInt ha hb, show (0 : Int32).toInt = 0 from rfl]
  omega
theorem zRet_ok {s : Nat → Int32} {lo hi y : Nat} (hG : GI s g n F) (hM : MI (mw s p) S lo hi) (hS : S ≤ 20500) (hy : y ≤ 120) : MI (mw (zRet s p (nI y)) p) S lo hi ∧ only p s (zRet s p (nI y)) := by
  obtain ⟨q, e, h, q1, q2, q3, q4, q5, q6⟩ := pen_of hG hM hS
  have h1 := mPs_n (p := p) (c := 0) (t := 0) q1 q2 q3 q4 (by omega) q5 q6 (by omega) 3 0 0 (by omega)
  have h2 := nPs_le (c := 0) (t := 0) q1 q3 (by omega) q5 3 0 0 (by omega) (by omega)
  have h3 := mPen_n h1 h2 hy
  unfold zRet
  rw [show (0 : Int32) = nI 0 from rfl, h3]
  constructor
  · rw [mw_in (by omega), mw_in (by omega), mw_in (by omega)]
    exact hM.ret (by omega)
  · exact ((only.up (by omega)).tr (only.up (by omega))).tr (only.up (by omega))
theorem zRet_1 {s : Nat → Int32} {e : Int32} {j : Nat} (h : j < 19 + 75 * p ∨ 19 + 75 * p + 75 ≤ j) : zRet s p e j = s j := by
  unfold zRet; rw [up_n (by omega), up_n (by omega), up_n (by omega)]
theorem zAge1_ok {s : Nat → Int32} {lo hi : Nat} (hM : MI (mw s p) S lo hi) : MI (mw (zAge1 s p) p) S lo hi ∧ (∀ j, j ≠ 19 + 75 * p + 3 → zAge1 s p j = s j) := by
  unfold zAge1
  by_cases hc : s (19 + 75 * p + 3) < 960
  · rw [if_pos hc]
    refine ⟨?_, fun j h => up_n h⟩
    have hM' := hM
    obtain ⟨-, -, ⟨a, a1, a2⟩, -⟩ := hM'
    rw [mw_at (by omega)] at a2
    rw [a2, show (960 : Int32) = nI 960 from rfl, nI_ltI (by omega) (by omega)] at hc
    rw [mw_in (by omega), a2, nI_1]
    exact hM.age (by omega)
  · rw [if_neg hc]; exact ⟨hM, fun _ _ => rfl⟩
theorem zAge_ok {y : ST × Int32} {lo hi : Nat} (hG : GI y.1.1 g n F) (hM : MI (mw y.1.1 p) S lo hi) (hS : S ≤ 20500) : GI (zAge p y).1.1 g n F ∧ (zAge p y).1.2 = y.1.2 ∧ MI (mw (zAge p y).1.1 p) S lo hi ∧ only p y.1.1 (zAge p y).1.1 ∧ (zAge p y).1.1 1 = y.1.1 1 := by
  obtain ⟨m1, m2⟩ := zAge1_ok hM
  have o1 : only p y.1.1 (zAge1 y.1.1 p) := fun j a b c => m2 j (by omega)
  have g1 : GI (zAge1 y.1.1 p) g n F := hG.of (fun j a b c d e => m2 j (by omega)) (by rw [m2 1 (by omega)]; exact hG.2.2.2.1)
  obtain ⟨r1, r2⟩ := zRet_ok (y := 0) g1 m1 hS (by omega)
  unfold zAge
  split
  · refine ⟨g1.of (fun j a b c d e => zRet_1 (by omega)) ?_, rfl, r1, o1.tr r2, ?_⟩
    · dsimp only; rw [zRet_1 (by omega)]; exact g1.2.2.2.1
    · dsimp only; rw [zRet_1 (by omega), m2 1 (by omega)]
  · exact ⟨g1, rfl, m1, o1, m2 1 (by omega)⟩
/-- all of a scheme: M of each member's words -/
def Ph (x : ST) (g n F A B : Nat) (M : Nat → (Nat → Int32) → Prop) : Prop := GI x.1 g n F ∧ SI x.2 A B ∧ ∀ p, p < n → M p (mw x.1 p)
theorem itr_con (h : Ph x g n F A B (fun _ v => MI v S (g - 60) g)) (hg : g < 99990) (hF : F < 2 ^ 31 - 40000) : ∀ i, i ≤ n → Ph (itr zCon i x) g n (F + 4095 * i) (A + 4095 * i) B (fun p v => if p < i then MI v (S + 1) (g - 60) (g + 1) else MI v S (g - 60) g) := by
  intro i
  induction i with
  | zero =>
    intro _
    exact ⟨h.1, h.2.1, fun p hp => by dsimp only; rw [if_neg (by omega)]; exact h.2.2 p hp⟩
  | succ i ih =>
    intro hi
    obtain ⟨a, b, c⟩ := ih (by omega)
    have hn8 := a.2.2.1
    have m1 := c i (by omega)
    dsimp only at m1
    rw [if_neg (by omega)] at m1
    obtain ⟨r1, r2, r3, r4⟩ := zCon_ok a b m1 (by omega) (by omega) (by omega)
    refine ⟨?_, ?_, fun p hp => ?_⟩
    · rw [show F + 4095 * (i + 1) = F + 4095 * i + 4095 by omega]; exact r1
    · rw [show A + 4095 * (i + 1) = A + 4095 * i + 4095 by omega]; exact r2
    · by_cases hpi : p = i
      · subst hpi; rw [if_pos (by omega)]; exact r3
      · have c1 := c p hp
        dsimp only at c1 ⊢
        rw [show mw (itr zCon (i + 1) x).1 p = mw (itr zCon i x).1 p from r4.mw hpi]
        by_cases h2 : p < i
        · rw [if_pos h2] at c1; rw [if_pos (by omega)]; exact c1
        · rw [if_neg h2] at c1; rw [if_neg (by omega)]; exact c1
theorem itr_lap (h : Ph x g n F A B (fun _ v => MI v S (g - 60) (g + 1))) (hg : g < 99990) : ∀ i, i ≤ n → Ph (itr zLap i x) g n F A B (fun p v => if p < i then MI v S (g + 1 - 60) (g + 1) else MI v S (g - 60) (g + 1)) := by
  intro i
  induction i with
  | zero =>
    intro _
    exact ⟨h.1, h.2.1, fun p hp => by dsimp only; rw [if_neg (by omega)]; exact h.2.2 p hp⟩
  | succ i ih =>
    intro hi
    obtain ⟨a, b, c⟩ := ih (by omega)
    have hn8 := a.2.2.1
    have m1 := c i (by omega)
    dsimp only at m1
    rw [if_neg (by omega)] at m1
    obtain ⟨-, -, l1, l2, -⟩ := m1.at (by omega)
    obtain ⟨r1, r2, r3⟩ := zLap1_ok (by omega) hg (zLts (itr zLap i x).1 i) _ (by omega) a m1 l2
    refine ⟨r1, b, fun p hp => ?_⟩
    by_cases hpi : p = i
    · subst hpi; rw [if_pos (by omega)]; exact r2
    · have c1 := c p hp
      dsimp only at c1 ⊢
      rw [show mw (itr zLap (i + 1) x).1 p = mw (itr zLap i x).1 p from r3.mw hpi]
      by_cases h2 : p < i
      · rw [if_pos h2] at c1; rw [if_pos (by omega)]; exact c1
      · rw [if_neg h2] at c1; rw [if_neg (by omega)]; exact c1
theorem itr_out {lo hi : Nat} (h : Ph x g n F A B (fun _ v => MI v S lo hi)) (hF : F < 2 ^ 31) : ∀ i, i ≤ n → Ph (itr zOut i x) g n F A B (fun _ v => MI v S lo hi) := by
  intro i
  induction i with
  | zero => intro _; exact h
  | succ i ih =>
    intro hi
    obtain ⟨a, b, c⟩ := ih (by omega)
    obtain ⟨r1, r2, r3⟩ := zOut_ok a b ⟨_, _, c i (by omega)⟩ hF
    refine ⟨r1, r2, fun p hp => ?_⟩
    rw [show mw (itr zOut (i + 1) x).1 p = mw (itr zOut i x).1 p from mw_cg fun j _ _ => r3 j (by omega)]
    exact c p hp
theorem itr_age {y : ST × Int32} {lo hi : Nat} (h : Ph y.1 g n F A B (fun _ v => MI v S lo hi)) (hS : S ≤ 20500) : ∀ i, i ≤ n → Ph (itr zAge i y).1 g n F A B (fun _ v => MI v S lo hi) := by
  intro i
  induction i with
  | zero => intro _; exact h
  | succ i ih =>
    intro hi
    obtain ⟨a, b, c⟩ := ih (by omega)
    obtain ⟨r1, r2, r3, r4, r5⟩ := zAge_ok a (c i (by omega)) hS
    refine ⟨r1, ?_, fun p hp => ?_⟩
    · show SI (zAge i (itr zAge i y)).1.2 A B
      rw [r2]; exact b
    · by_cases hpi : p = i
      · subst hpi; exact r3
      · rw [show mw (itr zAge (i + 1) y).1.1 p = mw (itr zAge i y).1.1 p from r4.mw hpi]
        exact c p hp
theorem zMon_ok {c : Nat} (h : INV c g n x) (hg : g < 10300) : INV c (g + 1) n (zMon n x).1 := by
  obtain ⟨h1, h2, h3⟩ := h
  have hn8 := h1.2.2.1
  have p1 := itr_con (S := 10060 + g) ⟨h1, h2, h3⟩ (by omega) (by omega) n (by omega)
  have p1' : Ph (itr zCon n x) g n (F := 999999999 + 32760 * g + 4095 * n) (32760 * g + 4095 * n) (10000000 * c) (fun _ v => MI v (10060 + g + 1) (g - 60) (g + 1)) := ⟨p1.1, p1.2.1, fun p hp => by have := p1.2.2 p hp; dsimp only at this; rw [if_pos hp] at this; exact this⟩
  have p2 := itr_lap p1' (by omega) n (by omega)
  have p2' : Ph (itr zLap n (itr zCon n x)) g n (999999999 + 32760 * g + 4095 * n) (32760 * g + 4095 * n) (10000000 * c) (fun _ v => MI v (10060 + g + 1) (g + 1 - 60) (g + 1)) := ⟨p2.1, p2.2.1, fun p hp => by have := p2.2.2 p hp; dsimp only at this; rw [if_pos hp] at this; exact this⟩
  have p3 := itr_out p2' (by omega) n (by omega)
  obtain ⟨a, b, d⟩ := itr_age (y := (itr zOut n (itr zLap n (itr zCon n x)), 0)) p3 (by omega) n (by omega)
  unfold zMon zMon1
  generalize itr zAge n (itr zOut n (itr zLap n (itr zCon n x)), 0) = y at *
  refine ⟨?_, ⟨?_, b.2⟩, fun p hp => ?_⟩
  · obtain ⟨a1, a2, a3, ⟨f, a4, a5⟩, a6, a7, a8, a9, a10⟩ := a
    dsimp only
    refine ⟨by rw [up_e, a1, nI_1], by rw [up_n (by omega)]; exact a2, a3, ⟨f, by rw [up_n (by omega)]; exact a4, by omega⟩, by rw [up_n (by omega)]; exact a6, by rw [up_n (by omega)]; exact a7, by rw [up_n (by omega)]; exact a8, by rw [up_n (by omega)]; exact a9, fun k hk => ?_⟩
    rw [up_n (by omega), up_n (by omega), up_n (by omega)]
    exact a10 k hk
  · obtain ⟨a1, b1, b2⟩ := b.1
    exact ⟨a1, b1, by omega⟩
  · dsimp only
    rw [mw_out (by omega)]
    exact (d p hp).mono (by omega) (by omega) (by omega)
theorem zPass_ok {c : Nat} : ∀ k g y, INV c g n y.1 → g + k < 10300 → INV c (g + k) n (zPass n k y).1 := by
  intro k
  induction k with
  | zero => intro g y h _; exact h
  | succ k ih =>
    intro g y h hg
    rw [show g + (k + 1) = (g + 1) + k by omega]
    exact ih (g + 1) _ (zMon_ok h (by omega)) (by omega)
end MON2
