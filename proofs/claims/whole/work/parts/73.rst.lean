/-! THE REFERENCE'S STATE OVER A RUN OF CALLS -/
def slc (μ : xMem) (m k : Nat) : ST := (fun j => xI μ (m + 3) (619 * k + j), fun j => xJ μ (m + 6) (6 * k + j))
def RST (μ : xMem) (m t L : Nat) (tx : Nat → Int32) (S : Nat → ST) (x : ST) : Prop := MS μ m ∧ t ≤ 6 ∧ L ≤ 60 ∧ xI μ m 7 = nI t ∧ xI μ m 9 = nI L ∧ (∀ k, k < L → xI μ (m + 7) k = tx k) ∧ xI μ (m + 1) = x.1 ∧ xJ μ (m + 4) = x.2 ∧ ∀ k, k < t → EQ (S k) (slc μ m k)
/-- the reference's cells -/
def RP (m q : Nat) : Prop := m ≤ q ∧ q < m + 8
/-- how a call that changes the state ends -/
def RRES (G : xCtx) (y : Nat) (args : List Value) (μ : xMem) (m t L : Nat) (tx : Nat → Int32) (S : Nat → ST) (x : ST) : OUT → Prop
  | .inl e => ∃ μ', (∀ Q, Cn G y (.ref m :: args) μ Q = Q (.inl (some (.int 0))) μ') ∧ RST μ' m t L tx S x ∧ xI μ' m 0 = e ∧ FS μ μ' (RP m)
  | .inr v => ∃ μ', (∀ Q, Cn G y (.ref m :: args) μ Q = Q (.inl (some (.int v.1))) μ') ∧ RST μ' m (SVt t + 1) L tx (push t S x) v.2 ∧ xI μ' m 0 = 0 ∧ FS μ μ' (RP m)
/-- a look: the exception's place, the answer -/
def RLK (G : xCtx) (y : Nat) (args : List Value) (μ : xMem) (m t L : Nat) (tx : Nat → Int32) (S : Nat → ST) (x : ST) (e : Int32) (v : Value) : Prop := ∃ μ', (∀ Q, Cn G y (.ref m :: args) μ Q = Q (.inl (some v)) μ') ∧ RST μ' m t L tx S x ∧ xI μ' m 0 = e ∧ FS μ μ' (RP m)
theorem MM_1 {μ : xMem} {m : Nat} {s : Nat → Int32} {σ : Nat → Int64} : (MM μ m s σ).1 = μ.1 := rfl
theorem MM_2 {μ : xMem} {m : Nat} {s : Nat → Int32} {σ : Nat → Int64} : (MM μ m s σ).2.1 = μ.2.1 := rfl
section RSS
variable {G : xCtx} {μ ν : xMem} {Q : xOut → xMem → Prop} {m L n g c p t F y : Nat} {x : ST} {S : Nat → ST} {tx : Nat → Int32} {args : List Value} {e : Int32} {v : Value}
theorem RST.mm (h : RST μ m t L tx S x) : MM μ m x.1 x.2 = μ := by
  rw [← h.2.2.2.2.2.2.1, ← h.2.2.2.2.2.2.2.1]; exact MM_self
theorem FS_MM (h : FS μ ν (RP m)) {s : Nat → Int32} {σ : Nat → Int64} : FS μ (MM ν m s σ) (RP m) := by
  refine ⟨h.1, h.2.1, fun q hq => ?_⟩
  rw [MM_Io (fun z => hq (by unfold RP; omega)), MM_Jo (fun z => hq (by unfold RP; omega))]
  exact h.2.2 q hq
theorem FS_0 {k : Nat} {e : Int32} : FS μ (xsI μ m k e) (RP m) := (FR.sI (P := RP m) ⟨Nat.le_refl m, by omega⟩).fs
theorem FS_AS (h : FS μ ν (RP m)) {s : Nat → Int32} {σ : Nat → Int64} : FS μ (AS ν m s σ) (RP m) := by
  refine ⟨h.1, h.2.1, fun q hq => ?_⟩
  have e1 : xI (AS ν m s σ) q = xI ν q := AS_Io (fun z => hq (by unfold RP; omega))
  have e2 : xJ (AS ν m s σ) q = xJ ν q := by
    show xJ (xrJ (xrI ν (m + 2) _) (m + 5) _) q = _
    rw [rJ_n (fun z => hq (by unfold RP; omega))]; rfl
  rw [e1, e2]
  exact h.2.2 q hq
theorem RST.fr (h : RST μ m t L tx S x) (h1 : ν.1 = μ.1) (hR : xR ν = xR μ) (i7 : xI ν m 7 = xI μ m 7) (i9 : xI ν m 9 = xI μ m 9) (e1 : xI ν (m + 1) = xI μ (m + 1)) (e3 : xI ν (m + 3) = xI μ (m + 3)) (e7 : xI ν (m + 7) = xI μ (m + 7)) (j4 : xJ ν (m + 4) = xJ μ (m + 4)) (j6 : xJ ν (m + 6) = xJ μ (m + 6)) : RST ν m t L tx S x := by
  obtain ⟨a1, a2, a3, a4, a5, a6, a7, a8, a9⟩ := h
  refine ⟨MSx h1 hR a1, a2, a3, by rw [i7]; exact a4, by rw [i9]; exact a5, by rw [e7]; exact a6, by rw [e1]; exact a7, by rw [j4]; exact a8, fun k hk => ?_⟩
  have := a9 k hk
  unfold slc at this ⊢
  rw [e3, j6]
  exact this
/-- other cells -/
theorem RST.fs {P : Nat → Prop} (h : RST μ m t L tx S x) (hF : FS μ ν P) (hp : ∀ q, m ≤ q → q < m + 8 → ¬ P q) : RST ν m t L tx S x := by
  have e := fun q h1 h2 => hF.2.2 q (hp q h1 h2)
  obtain ⟨a1, a2, a3, a4, a5, a6, a7, a8, a9⟩ := h
  have hM : MS ν m := by
    unfold MS xKd xLn at *
    rw [hF.1, (e m (by omega) (by omega)).2.2]
    exact a1
  refine ⟨hM, a2, a3, by rw [(e m (by omega) (by omega)).1]; exact a4, by rw [(e m (by omega) (by omega)).1]; exact a5, by rw [(e (m + 7) (by omega) (by omega)).1]; exact a6, by rw [(e (m + 1) (by omega) (by omega)).1]; exact a7, by rw [(e (m + 4) (by omega) (by omega)).2.1]; exact a8, fun k hk => ?_⟩
  have := a9 k hk
  unfold slc at this ⊢
  rw [(e (m + 3) (by omega) (by omega)).1, (e (m + 6) (by omega) (by omega)).2.1]
  exact this
/-- the words on thrown, the aside rows -/
theorem RST.th (h : RST μ m t L tx S x) : RST (MM (xsI μ m 0 e) m x.1 x.2) m t L tx S x := by
  refine h.fr rfl rfl ?_ ?_ ?_ ?_ ?_ ?_ ?_
  · rw [MM_Io (by omega), sI_k (by omega)]
  · rw [MM_Io (by omega), sI_k (by omega)]
  · rw [MM_I]; exact h.2.2.2.2.2.2.1.symm
  · rw [MM_Io (by omega), sI_n (by omega)]
  · rw [MM_Io (by omega), sI_n (by omega)]
  · rw [MM_J]; exact h.2.2.2.2.2.2.2.1.symm
  · rw [MM_Jo (by omega)]; rfl
theorem RST.as (h : RST μ m t L tx S x) : RST (MM (AS (xsI μ m 0 e) m x.1 x.2) m x.1 x.2) m t L tx S x := by
  have aJ : ∀ b, b ≠ m + 5 → xJ (AS (xsI μ m 0 e) m x.1 x.2) b = xJ μ b := fun b hb => by
    show xJ (xrJ (xrI (xsI μ m 0 e) (m + 2) _) (m + 5) _) b = _
    rw [rJ_n hb]; rfl
  refine h.fr rfl rfl ?_ ?_ ?_ ?_ ?_ ?_ ?_
  · rw [MM_Io (by omega), AS_Io (by omega), sI_k (by omega)]
  · rw [MM_Io (by omega), AS_Io (by omega), sI_k (by omega)]
  · rw [MM_I]; exact h.2.2.2.2.2.2.1.symm
  · rw [MM_Io (by omega), AS_Io (by omega), sI_n (by omega)]
  · rw [MM_Io (by omega), AS_Io (by omega), sI_n (by omega)]
  · rw [MM_J]; exact h.2.2.2.2.2.2.2.1.symm
  · rw [MM_Jo (by omega), aJ _ (by omega)]
theorem look_of (h : RST μ m t L tx S x) (hq : ∀ Q, Cn G y (.ref m :: args) (MM μ m x.1 x.2) Q = Q (.inl (some v)) (MM (xsI μ m 0 e) m x.1 x.2)) : RLK G y args μ m t L tx S x e v := by
  rw [h.mm] at hq
  exact ⟨_, hq, h.th, by rw [MM_Io (by omega)]; exact sI_e, FS_MM FS_0⟩
theorem look_as (h : RST μ m t L tx S x) (hq : ∀ Q, Cn G y (.ref m :: args) (MM μ m x.1 x.2) Q = Q (.inl (some v)) (MM (AS (xsI μ m 0 e) m x.1 x.2) m x.1 x.2)) : RLK G y args μ m t L tx S x e v := by
  rw [h.mm] at hq
  exact ⟨_, hq, h.as, by rw [MM_Io (by omega), AS_Io (by omega)]; exact sI_e, FS_MM (FS_AS FS_0)⟩
/-- the state that is saved -/
theorem SV_slc (h : RST μ m t L tx S x) (hn : ν = SV (xsI μ m 0 0) m t x.1 x.2) : ∀ k, k < SVt t + 1 → EQ (push t S x k) (slc ν m k) := by
  obtain ⟨a1, a2, a3, a4, a5, a6, a7, a8, a9⟩ := h
  have eI : xI ν (m + 3) = cpy x.1 (SVf (xsI μ m 0 0) m t) (619 * SVt t) 619 := by
    rw [hn]
    show xI (xsI (xrJ (xrI (xsI μ m 0 0) (m + 3) _) (m + 6) _) m 7 _) (m + 3) = _
    rw [sI_n (by omega), rJ_I, rI_e]
  have eJ : xJ ν (m + 6) = cpy x.2 (SVF (xsI μ m 0 0) m t) (6 * SVt t) 6 := by
    rw [hn]
    show xJ (xsI (xrJ (xrI (xsI μ m 0 0) (m + 3) _) (m + 6) _) m 7 _) (m + 6) = _
    rw [sI_J, rJ_e]
  have f3 : xI (xsI μ m 0 0) (m + 3) = xI μ (m + 3) := sI_n (by omega)
  have f6 : xJ (xsI μ m 0 0) (m + 6) = xJ μ (m + 6) := rfl
  intro k hk
  unfold slc EQ
  rw [eI, eJ]
  unfold push SVf SVF
  rw [f3, f6]
  by_cases h6 : t = 6
  · have hs : SVt t = 5 := if_pos h6
    rw [hs] at hk ⊢
    rw [if_pos h6, if_pos h6, if_pos h6]
    by_cases h5 : k = 5
    · rw [if_pos h5, h5]
      exact ⟨fun j hj => cpy_i hj, fun j hj => cpy_i hj⟩
    · rw [if_neg h5]
      have := a9 (k + 1) (by omega)
      refine ⟨fun j hj => ?_, fun j hj => ?_⟩
      · dsimp only
        rw [cpy_o (by omega), cpy_i' (by omega)]
        have := this.1 j hj
        unfold slc at this
        dsimp only at this
        rw [← this]; congr 1; omega
      · dsimp only
        rw [cpy_o (by omega), cpy_i' (by omega)]
        have := this.2 j hj
        unfold slc at this
        dsimp only at this
        rw [← this]; congr 1; omega
  · have hs : SVt t = t := if_neg h6
    rw [hs] at hk ⊢
    rw [if_neg h6, if_neg h6, if_neg h6]
    by_cases h5 : k = t
    · rw [if_pos h5, h5]
      exact ⟨fun j hj => cpy_i hj, fun j hj => cpy_i hj⟩
    · rw [if_neg h5]
      have := a9 k (by omega)
      refine ⟨fun j hj => ?_, fun j hj => ?_⟩
      · dsimp only; rw [cpy_o (by omega)]; exact this.1 j hj
      · dsimp only; rw [cpy_o (by omega)]; exact this.2 j hj
theorem SV_I {a : Nat} {s : Nat → Int32} {σ : Nat → Int64} (h : a ≠ m) (h3 : a ≠ m + 3) : xI (SV μ m t s σ) a = xI μ a := by
  show xI (xsI (xrJ (xrI μ (m + 3) _) (m + 6) _) m 7 _) a = _
  rw [sI_n h, rJ_I, rI_n h3]
theorem SV_k {k : Nat} {s : Nat → Int32} {σ : Nat → Int64} (h : k ≠ 7) : xI (SV μ m t s σ) m k = xI μ m k := by
  show xI (xsI (xrJ (xrI μ (m + 3) _) (m + 6) _) m 7 _) m k = _
  rw [sI_k h, rJ_I, rI_n (by omega)]
theorem SV_7 {s : Nat → Int32} {σ : Nat → Int64} : xI (SV μ m t s σ) m 7 = nI (SVt t + 1) := sI_e
theorem SV_J {a : Nat} {s : Nat → Int32} {σ : Nat → Int64} (h : a ≠ m + 6) : xJ (SV μ m t s σ) a = xJ μ a := by
  show xJ (xsI (xrJ (xrI μ (m + 3) _) (m + 6) _) m 7 _) a = _
  rw [sI_J, rJ_n h]; rfl
theorem FS_SV (h : FS μ ν (RP m)) {s : Nat → Int32} {σ : Nat → Int64} : FS μ (SV ν m t s σ) (RP m) := by
  refine ⟨h.1, h.2.1, fun q hq => ?_⟩
  rw [SV_I (fun z => hq (by unfold RP; omega)) (fun z => hq (by unfold RP; omega)), SV_J (fun z => hq (by unfold RP; omega))]
  exact h.2.2 q hq
theorem SVt_le : SVt t + 1 ≤ 6 ↔ t ≤ 6 := by
  unfold SVt
  split <;> omega
/-- saved, and a new state -/
theorem RST.sv (h : RST μ m t L tx S x) {x' : ST} (hn : ν = MM (SV (xsI μ m 0 0) m t x.1 x.2) m x'.1 x'.2) : RST ν m (SVt t + 1) L tx (push t S x) x' ∧ xI ν m 0 = 0 ∧ FS μ ν (RP m) := by
  have hs := SV_slc h (ν := SV (xsI μ m 0 0) m t x.1 x.2) rfl
  obtain ⟨a1, a2, a3, a4, a5, a6, a7, a8, a9⟩ := h
  rw [hn]
  refine ⟨⟨a1, SVt_le.mpr a2, a3, ?_, ?_, fun k hk => ?_, MM_I, MM_J, fun k hk => ?_⟩, ?_, FS_MM (FS_SV FS_0)⟩
  · rw [MM_Io (by omega)]; exact SV_7
  · rw [MM_Io (by omega), SV_k (by omega), sI_k (by omega)]; exact a5
  · rw [MM_Io (by omega), SV_I (by omega) (by omega), sI_n (by omega)]; exact a6 k hk
  · have := hs k hk
    unfold slc at this ⊢
    rw [MM_Io (by omega), MM_Jo (by omega)]
    exact this
  · rw [MM_Io (by omega), SV_k (by omega)]; exact sI_e
theorem chg_of (h : RST μ m t L tx S x) {out : OUT} (hq : ∀ Q, Cn G y (.ref m :: args) (MM μ m x.1 x.2) Q = RMo Q μ m t x out) : RRES G y args μ m t L tx S x out := by
  rw [h.mm] at hq
  cases out with
  | inl e => exact ⟨_, hq, h.th, by rw [MM_Io (by omega)]; exact sI_e, FS_MM FS_0⟩
  | inr v => exact ⟨_, hq, h.sv (x' := v.2) rfl⟩
end RSS
