/-! WHAT EACH CALL DOES, AS A FUNCTION OF THE STATE -/
/-- a refusal's place, or a value and the new state -/
abbrev OUT : Type := Int32 ⊕ (Int32 × ST)
abbrev bad (v lo hi : Int32) : Prop := v < lo ∨ hi < v
def pFind (s : Nat → Int32) (id : Int32) : Int32 := mfind (fun p => s (19 + 75 * p)) id (s 2).toNatClampNeg 0
def pSection (sec rate share : Int32) (x : ST) : OUT :=
  if bad sec 0 2 then .inl 1 else if bad rate 10 300 ∨ bad share 20 200 then .inl 2
  else .inr (1000 * x.1 (10 + 3 * sec.toNatClampNeg) + x.1 (10 + 3 * sec.toNatClampNeg + 1), (up (up x.1 (10 + 3 * sec.toNatClampNeg) rate) (10 + 3 * sec.toNatClampNeg + 1) share, x.2))
def pClose (sec b : Int32) (x : ST) : OUT :=
  if bad sec 0 2 then .inl 1 else .inr (x.1 (12 + 3 * sec.toNatClampNeg), (up x.1 (12 + 3 * sec.toNatClampNeg) (if b = 0 then 0 else 1), x.2))
abbrev pCan (s : Nat → Int32) (c : Nat) : Prop := ¬ s (12 + 3 * c) = 1 ∧ s 2 < 8
def zZer (s : Nat → Int32) (p k : Nat) : Nat → Int32 := fun j => if 19 + 75 * p ≤ j ∧ j < 19 + 75 * p + k then 0 else s j
def zJoin (sec pay age : Int32) (s : Nat → Int32) (n : Nat) : Nat → Int32 := up (up (up (up (up (up (zZer s n 75) (19 + 75 * n) (s 3)) (19 + 75 * n + 1) sec) (19 + 75 * n + 2) pay) (19 + 75 * n + 3) age) 2 (nI (n + 1))) 3 (s 3 + 1)
def pJoin (sec pay age : Int32) (x : ST) : OUT :=
  if bad sec 0 2 then .inl 1 else if bad pay 1 9999 ∨ bad age 192 959 then .inl 2 else if ¬ pCan x.1 sec.toNatClampNeg then .inl 3
  else .inr (x.1 3 + 1 - 1, (zJoin sec pay age x.1 (x.1 2).toNatClampNeg, x.2))
def zAll (s : Nat → Int32) (p : Nat) : Nat → Nat → Int64 → Int64
  | 0, _, a => a
  | k + 1, i, a => zAll s p k (i + 1) (a + (s (19 + 75 * p + 2)).toInt64 * (s (10 + 3 * i)).toInt64 * (s (19 + 75 * p + (4 + i))).toInt64 / 1000)
def zBack (s : Nat → Int32) (p : Nat) : Int32 :=
  if (s 1).toInt64 < (if s (19 + 75 * p + 7) = 0 then zAll s p 3 0 0 else 0) then s 1 else (if s (19 + 75 * p + 7) = 0 then zAll s p 3 0 0 else 0).toInt32
def zShift (s : Nat → Int32) (p k : Nat) : Nat → Int32 := fun j => if 19 + 75 * p ≤ j ∧ j < 19 + 75 * p + k then s (j + 75) else s j
def pLeave (id : Int32) (x : ST) : OUT :=
  if pFind x.1 id = -1 then .inl 1
  else .inr (zBack x.1 (pFind x.1 id).toNatClampNeg, (up (zShift (up x.1 1 (x.1 1 - zBack x.1 (pFind x.1 id).toNatClampNeg)) (pFind x.1 id).toNatClampNeg (75 * ((x.1 2).toNatClampNeg - 1 - (pFind x.1 id).toNatClampNeg))) 2 (nI ((x.1 2).toNatClampNeg - 1)), up x.2 5 (x.2 5 + (zBack x.1 (pFind x.1 id).toNatClampNeg).toInt64)))
def pPay (id pay : Int32) (x : ST) : OUT :=
  if pFind x.1 id = -1 then .inl 1 else if bad pay 1 9999 then .inl 2 else if x.1 (19 + 75 * (pFind x.1 id).toNatClampNeg + 7) = 1 then .inl 3
  else .inr (x.1 (19 + 75 * (pFind x.1 id).toNatClampNeg + 2), (up x.1 (19 + 75 * (pFind x.1 id).toNatClampNeg + 2) pay, x.2))
def pChange (id sec : Int32) (x : ST) : OUT :=
  if pFind x.1 id = -1 ∨ bad sec 0 2 then .inl 1
  else if x.1 (19 + 75 * (pFind x.1 id).toNatClampNeg + 7) = 1 ∨ x.1 (19 + 75 * (pFind x.1 id).toNatClampNeg + 1) = sec ∨ x.1 (12 + 3 * sec.toNatClampNeg) = 1 then .inl 2
  else .inr (x.1 (19 + 75 * (pFind x.1 id).toNatClampNeg + 1), (up x.1 (19 + 75 * (pFind x.1 id).toNatClampNeg + 1) sec, x.2))
def pFall (id b : Int32) (x : ST) : OUT :=
  if pFind x.1 id = -1 then .inl 1
  else .inr (x.1 (19 + 75 * (pFind x.1 id).toNatClampNeg + 9), (up x.1 (19 + 75 * (pFind x.1 id).toNatClampNeg + 9) (if b = 0 then 0 else 1), x.2))
/-- the first late month of n + 1 is paid -/
def zPaid (p n : Nat) (x : ST) : ST :=
  (mDrop (up (up x.1 1 (x.1 1 + mCost x.1 p 0)) (19 + 75 * p + (4 + (mDueS x.1 p 0).toNatClampNeg)) (x.1 (19 + 75 * p + (4 + (mDueS x.1 p 0).toNatClampNeg)) + 1)) p n, up x.2 1 (x.2 1 + (mCost x.1 p 0).toInt64))
def zPL (p : Nat) : Nat → Int32 × ST → Int32 × ST
  | 0, y => y
  | n + 1, y => if mCost y.2.1 p 0 ≤ y.1 then zPL p n (y.1 - mCost y.2.1 p 0, zPaid p n y.2) else y
def pLate (id amount : Int32) (x : ST) : OUT :=
  if pFind x.1 id = -1 then .inl 1 else if bad amount 1 9999999 then .inl 2
  else if x.1 (19 + 75 * (pFind x.1 id).toNatClampNeg + 7) = 1 ∨ 999999999 - amount < x.1 1 then .inl 3
  else .inr (zPL (pFind x.1 id).toNatClampNeg (zLts x.1 (pFind x.1 id).toNatClampNeg) (amount, x))
def zMths (s : Nat → Int32) (p : Nat) (amount : Int32) : Int32 := amount / (s 9 * s (19 + 75 * p + 2))
abbrev pCanT (s : Nat → Int32) (p : Nat) (amount : Int32) : Prop := ¬ s (19 + 75 * p + 7) = 1 ∧ ¬ s (12 + 3 * zOwn s p) = 1 ∧ s (19 + 75 * p + (4 + zOwn s p)) + zMths s p amount ≤ 9999 ∧ s 1 ≤ 999999999 - amount
def zTran (p : Nat) (amount : Int32) (x : ST) : ST := (up (up x.1 1 (x.1 1 + amount)) (19 + 75 * p + (4 + zOwn x.1 p)) (x.1 (19 + 75 * p + (4 + zOwn x.1 p)) + zMths x.1 p amount), up x.2 2 (x.2 2 + amount.toInt64))
def pTran (id amount : Int32) (x : ST) : OUT :=
  if pFind x.1 id = -1 then .inl 1 else if bad amount 1 9999999 then .inl 2
  else if ¬ pCanT x.1 (pFind x.1 id).toNatClampNeg amount then .inl 3
  else .inr (zMths x.1 (pFind x.1 id).toNatClampNeg amount, zTran (pFind x.1 id).toNatClampNeg amount x)
def zRst (p : Nat) (x : ST) : ST := (zRet (up x.1 5 (x.1 5 + (if x.1 6 - x.1 (19 + 75 * p + 3) ≤ 0 then 0 else 1))) p (x.1 6 - x.1 (19 + 75 * p + 3)), x.2)
def pRet (id : Int32) (x : ST) : OUT :=
  if pFind x.1 id = -1 then .inl 1
  else if x.1 (19 + 75 * (pFind x.1 id).toNatClampNeg + 7) = 1 ∨ 120 < x.1 6 - x.1 (19 + 75 * (pFind x.1 id).toNatClampNeg + 3) then .inl 2
  else .inr ((zRst (pFind x.1 id).toNatClampNeg x).1 (19 + 75 * (pFind x.1 id).toNatClampNeg + 8), zRst (pFind x.1 id).toNatClampNeg x)
def setLo (k : Int32) : Int32 := if k = 0 then 600 else if k = 2 then 0 else 1
def setHi (k : Int32) : Int32 := if k = 0 then 900 else if k = 1 then 60 else if k = 2 then 50 else 20
def pSet (k v : Int32) (x : ST) : OUT :=
  if bad k 0 3 then .inl 1 else if bad v (setLo k) (setHi k) then .inl 2
  else .inr (x.1 (6 + k.toNatClampNeg), (up x.1 (6 + k.toNatClampNeg) v, x.2))
def pPass (k : Int32) (x : ST) : OUT :=
  if bad k 1 120 then .inl 1 else if 9999 < x.1 0 + k then .inl 2
  else .inr ((zPass (x.1 2).toNatClampNeg k.toNatClampNeg (x, 0)).2, (zPass (x.1 2).toNatClampNeg k.toNatClampNeg (x, 0)).1)
/-- what the reference's call ends with: t states saved -/
def RMo (Q : xOut → xMem → Prop) (μ : xMem) (m t : Nat) (x : ST) : OUT → Prop
  | .inl e => Q (.inl (some (.int 0))) (MM (xsI μ m 0 e) m x.1 x.2)
  | .inr y => Q (.inl (some (.int y.1))) (MM (SV (xsI μ m 0 0) m t x.1 x.2) m y.2.1 y.2.2)
theorem in_0 {v lo hi : Int32} (h : bad v lo hi) : (if v < lo ∨ hi < v then (0 : Int32) else 1) = 0 := if_pos h
theorem in_1 {v lo hi : Int32} (h : ¬ bad v lo hi) : (if v < lo ∨ hi < v then (0 : Int32) else 1) = 1 := if_neg h
theorem i_pos {i : Int32} (h : ¬ i < 0) : ∃ n : Nat, n < 2 ^ 31 ∧ i = nI n := by
  have h0 : ¬ i.toInt < 0 := fun z => h (by rw [Int32.lt_iff_toInt_lt]; exact z)
  have hl := i.toInt_lt
  refine ⟨i.toInt.toNat, by omega, ?_⟩
  apply Int32.toInt_inj.mp
  rw [nI_toInt (by omega)]
  omega
theorem sec3 {c : Int32} (h : ¬ bad c 0 2) : ∃ k : Nat, k < 3 ∧ c = nI k := by
  obtain ⟨k, k1, rfl⟩ := i_pos fun z => h (Or.inl z)
  refine ⟨k, ?_, rfl⟩
  rcases Nat.lt_or_ge k 3 with h1 | h1
  · exact h1
  · exact absurd (Or.inr (by rw [show (2 : Int32) = nI 2 from rfl, nI_ltI (by omega) k1]; omega)) h
theorem rng {v : Int32} {lo hi : Nat} (hh : hi < 2 ^ 31) (hl : lo < 2 ^ 31) (h : ¬ bad v (nI lo) (nI hi)) : ∃ k : Nat, lo ≤ k ∧ k ≤ hi ∧ v = nI k := by
  have h0 : ¬ v < 0 := by
    intro z
    refine h (Or.inl ?_)
    rw [Int32.lt_iff_toInt_lt] at z ⊢
    rw [nI_toInt hl]
    have : (0 : Int32).toInt = 0 := rfl
    omega
  obtain ⟨k, k1, rfl⟩ := i_pos h0
  refine ⟨k, ?_, ?_, rfl⟩
  · rcases Nat.lt_or_ge k lo with h1 | h1
    · exact absurd (Or.inl ((nI_ltI k1 hl).mpr h1)) h
    · exact h1
  · rcases Nat.lt_or_ge hi k with h1 | h1
    · exact absurd (Or.inr ((nI_ltI hh k1).mpr h1)) h
    · exact h1
theorem mfind_of {f : Nat → Int32} {x : Int32} : ∀ k i, i + k < 2 ^ 31 → mfind f x k i = -1 ∨ ∃ p, i ≤ p ∧ p < i + k ∧ mfind f x k i = nI p ∧ f p = x := by
  intro k
  induction k with
  | zero => intro i _; exact Or.inl rfl
  | succ k ih =>
    intro i hi
    unfold mfind
    by_cases h : f i = x
    · rw [if_pos h]; exact Or.inr ⟨i, by omega, by omega, rfl, h⟩
    · rw [if_neg h]
      rcases ih (i + 1) (by omega) with h1 | ⟨p, h1, h2, h3, h4⟩
      · exact Or.inl h1
      · exact Or.inr ⟨p, by omega, by omega, h3, h4⟩
theorem pFind_of {s : Nat → Int32} {g n F : Nat} (h : GI s g n F) (id : Int32) : pFind s id = -1 ∨ ∃ p, p < n ∧ pFind s id = nI p ∧ s (19 + 75 * p) = id := by
  have h8 := h.2.2.1
  unfold pFind
  rw [h.2.1, nI_clamp (by omega)]
  rcases mfind_of (f := fun p => s (19 + 75 * p)) (x := id) n 0 (by omega) with h1 | ⟨p, -, h2, h3, h4⟩
  · exact Or.inl h1
  · exact Or.inr ⟨p, by omega, h3, h4⟩
theorem nI_ne1 {p : Nat} (h : p < 2 ^ 31) : ¬ nI p = -1 := by
  intro z
  have := congrArg Int32.toInt z
  rw [nI_toInt h] at this
  have h2 : (-1 : Int32).toInt = -1 := by decide
  omega
