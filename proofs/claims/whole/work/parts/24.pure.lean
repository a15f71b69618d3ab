/-! WHAT A MONTH DOES, AS FUNCTIONS OF THE REFERENCE'S ROW -/
abbrev ST : Type := (Nat → Int32) × (Nat → Int64)
def itr {α : Type} (f : Nat → α → α) : Nat → α → α
  | 0, x => x
  | k + 1, x => f k (itr f k x)
def zOwn (s : Nat → Int32) (p : Nat) : Nat := (s (19 + 75 * p + 1)).toNatClampNeg
def zLts (s : Nat → Int32) (p : Nat) : Nat := (s (19 + 75 * p + 10)).toNatClampNeg
def zDue (s : Nat → Int32) (p c : Nat) : Int32 := s (19 + 75 * p + 2) * s (10 + 3 * c) / 1000
/-- a member's contribution: own section c, n late months -/
def zCon1 (p c n : Nat) (x : ST) : ST :=
  if x.1 (19 + 75 * p + 9) = 1 then (up (up x.1 (19 + 75 * p + (11 + n)) (16384 * x.1 0 + 4096 * nI c + zDue x.1 p c)) (19 + 75 * p + 10) (nI (n + 1)), x.2)
  else (up (up x.1 1 (x.1 1 + zDue x.1 p c)) (19 + 75 * p + (4 + c)) (x.1 (19 + 75 * p + (4 + c)) + 1), up x.2 0 (x.2 0 + (zDue x.1 p c).toInt64))
def zCon (p : Nat) (x : ST) : ST := if x.1 (19 + 75 * p + 7) = 0 then zCon1 p (zOwn x.1 p) (zLts x.1 p) x else x
/-- late months that lapse, of n -/
def zLap1 (p : Nat) : Nat → (Nat → Int32) → Nat → Int32
  | 0, s => s
  | n + 1, s => if s 7 ≤ s 0 - mDueM s p 0 then zLap1 p n (up (mDrop s p n) 4 (s 4 + 1)) else s
def zLap (p : Nat) (x : ST) : ST := (zLap1 p (zLts x.1 p) x.1, x.2)
def zOut1 (p : Nat) (x : ST) : ST :=
  if x.1 (19 + 75 * p + 8) ≤ x.1 1 then (up x.1 1 (x.1 1 - x.1 (19 + 75 * p + 8)), up x.2 3 (x.2 3 + (x.1 (19 + 75 * p + 8)).toInt64))
  else (x.1, up x.2 4 (x.2 4 + (x.1 (19 + 75 * p + 8)).toInt64))
def zOut (p : Nat) (x : ST) : ST := if x.1 (19 + 75 * p + 7) = 1 then zOut1 p x else x
def zRet (s : Nat → Int32) (p : Nat) (early : Int32) : Nat → Int32 := up (up (up s (19 + 75 * p + 8) (mPen s p 0 0 early)) (19 + 75 * p + 7) 1) (19 + 75 * p + 10) 0
def zAge1 (s : Nat → Int32) (p : Nat) : Nat → Int32 := if s (19 + 75 * p + 3) < 960 then up s (19 + 75 * p + 3) (s (19 + 75 * p + 3) + 1) else s
def zAge (p : Nat) (y : ST × Int32) : ST × Int32 :=
  if (zAge1 y.1.1 p (19 + 75 * p + 7) = 0) ∧ zAge1 y.1.1 p 6 - zAge1 y.1.1 p (19 + 75 * p + 3) ≤ 0 then ((zRet (zAge1 y.1.1 p) p 0, y.1.2), y.2 + 1) else ((zAge1 y.1.1 p, y.1.2), y.2)
/-- a month with n members: the state, how many retire -/
def zMon1 (n : Nat) (x : ST) : ST × Int32 := itr zAge n (itr zOut n (itr zLap n (itr zCon n x)), 0)
def zMon (n : Nat) (x : ST) : ST × Int32 := ((up (zMon1 n x).1.1 0 ((zMon1 n x).1.1 0 + 1), (zMon1 n x).1.2), (zMon1 n x).2)
def zPass (n : Nat) : Nat → ST × Int32 → ST × Int32
  | 0, y => y
  | k + 1, y => zPass n k ((zMon n y.1).1, y.2 + (zMon n y.1).2)
theorem up_s {α : Type} {f : Nat → α} {k : Nat} : up f k (f k) = f := by
  funext j; unfold up; split
  · rename_i h; rw [h]
  · rfl
theorem nI_s0 (x : Int32) : x - 0 = x := by simp
theorem nI_a0 (x : Int32) : x + 0 = x := by simp
/-! WHAT ALWAYS HOLDS OF A ROW -/
/-- a member's words: at most S months of service and late months, late months from lo to below hi -/
def MI (v : Nat → Int32) (S lo hi : Nat) : Prop :=
  (∃ c, c < 3 ∧ v 1 = nI c) ∧ (∃ q, 1 ≤ q ∧ q ≤ 9999 ∧ v 2 = nI q) ∧ (∃ a, a ≤ 960 ∧ v 3 = nI a) ∧ (∃ e, e < 2 ^ 31 ∧ v 8 = nI e) ∧ (v 9 = 0 ∨ v 9 = 1) ∧
  ∃ n, v 10 = nI n ∧ n ≤ hi - lo ∧ (∀ k, k < 3 → ∃ e, v (4 + k) = nI e ∧ e + n ≤ S) ∧ (v 7 = 0 ∨ v 7 = 1 ∧ n = 0) ∧
  ∃ W : Nat → Nat, ∀ k, k < n → v (11 + k) = nI (W k) ∧ W k / 4096 % 4 < 3 ∧ lo + k ≤ W k / 16384 ∧ W k / 16384 < hi ∧ (k + 1 < n → W k / 16384 < W (k + 1) / 16384)
/-- the scheme's own words, g months gone, n members, the fund at most F -/
def GI (s : Nat → Int32) (g n F : Nat) : Prop := s 0 = nI g ∧ s 2 = nI n ∧ n ≤ 8 ∧ (∃ f, s 1 = nI f ∧ f ≤ F) ∧
  (∃ a, 600 ≤ a ∧ a ≤ 900 ∧ s 6 = nI a) ∧ (∃ l, 1 ≤ l ∧ l ≤ 60 ∧ s 7 = nI l) ∧ (∃ i, i ≤ 50 ∧ s 8 = nI i) ∧ (∃ t, 1 ≤ t ∧ t ≤ 20 ∧ s 9 = nI t) ∧
  ∀ k, k < 3 → (∃ r, 10 ≤ r ∧ r ≤ 300 ∧ s (10 + 3 * k) = nI r) ∧ (∃ h, 20 ≤ h ∧ h ≤ 200 ∧ s (10 + 3 * k + 1) = nI h) ∧ (s (12 + 3 * k) = 0 ∨ s (12 + 3 * k) = 1)
/-- a member's words -/
def mw (s : Nat → Int32) (p : Nat) : Nat → Int32 := fun w => if w < 75 then s (19 + 75 * p + w) else 0
def SI (σ : Nat → Int64) (A B : Nat) : Prop := (∃ a, σ 0 = lN a ∧ a ≤ A) ∧ ∃ b, σ 1 = lN b ∧ b ≤ B
def INV (c g n : Nat) (x : ST) : Prop := GI x.1 g n (999999999 + 32760 * g) ∧ SI x.2 (32760 * g) (10000000 * c) ∧ ∀ p, p < n → MI (mw x.1 p) (10060 + g) (g - 60) g
theorem mw_at {s : Nat → Int32} {p w : Nat} (h : w < 75) : mw s p w = s (19 + 75 * p + w) := if_pos h
theorem mw_in {s : Nat → Int32} {p w : Nat} {v : Int32} (h : w < 75) : mw (up s (19 + 75 * p + w) v) p = up (mw s p) w v := by
  funext j; unfold mw up
  by_cases h1 : j = w
  · subst h1; simp [h]
  · rw [if_neg h1, if_neg (show ¬ 19 + 75 * p + j = 19 + 75 * p + w by omega)]
theorem mw_out {s : Nat → Int32} {p k : Nat} {v : Int32} (h : k < 19 + 75 * p ∨ 19 + 75 * p + 75 ≤ k) : mw (up s k v) p = mw s p := by
  funext j; unfold mw up
  by_cases h1 : j < 75
  · rw [if_pos h1, if_pos h1, if_neg (by omega)]
  · rw [if_neg h1, if_neg h1]
theorem mw_cg {s s' : Nat → Int32} {p : Nat} (h : ∀ j, 19 + 75 * p ≤ j → j < 19 + 75 * p + 75 → s' j = s j) : mw s' p = mw s p := by
  funext w; unfold mw
  by_cases h1 : w < 75
  · rw [if_pos h1, if_pos h1, h _ (by omega) (by omega)]
  · rw [if_neg h1, if_neg h1]
def vDrop (v : Nat → Int32) (n : Nat) : Nat → Int32 := fun w => if 11 ≤ w ∧ w < 11 + n then v (w + 1) else if w = 10 then nI n else v w
theorem mw_drop {s : Nat → Int32} {p n : Nat} (h : n < 63) : mw (mDrop s p n) p = vDrop (mw s p) n := by
  funext w; unfold mw vDrop mDrop mSh up
  dsimp only
  by_cases h1 : w < 75
  · rw [if_pos h1]
    by_cases h2 : 11 ≤ w ∧ w < 11 + n
    · rw [if_pos h2, if_pos (show 19 + 75 * p + 11 ≤ 19 + 75 * p + w ∧ 19 + 75 * p + w < 19 + 75 * p + 11 + n by omega), if_neg (show ¬ 19 + 75 * p + w + 1 = 19 + 75 * p + 10 by omega), if_pos (show w + 1 < 75 by omega)]; rfl
    · rw [if_neg h2, if_neg (show ¬ (19 + 75 * p + 11 ≤ 19 + 75 * p + w ∧ 19 + 75 * p + w < 19 + 75 * p + 11 + n) by omega)]
      by_cases h3 : w = 10
      · rw [if_pos h3, if_pos (show 19 + 75 * p + w = 19 + 75 * p + 10 by omega)]
      · rw [if_neg h3, if_neg (show ¬ 19 + 75 * p + w = 19 + 75 * p + 10 by omega), if_pos h1]
  · rw [if_neg h1, if_neg (show ¬ (11 ≤ w ∧ w < 11 + n) by omega), if_neg (show ¬ w = 10 by omega), if_neg h1]
