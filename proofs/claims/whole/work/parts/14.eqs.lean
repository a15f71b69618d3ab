/-! RUNS WITHOUT FUEL, AND THEIR EQUATIONS -/
def xle (a b : xRes) : Prop := ∀ r, a = some r → b = some r
theorem xle.rf {a : xRes} : xle a a := fun _ h => h
theorem xle.nn {b : xRes} : xle none b := fun _ h => by cases h
def xleK (K K' : xK) : Prop := ∀ pc ls st μ, xle (K pc ls st μ) (K' pc ls st μ)
def xleC (c c' : Nat → List Value → xMem → xRes) : Prop := ∀ t as μ, xle (c t as μ) (c' t as μ)
theorem xld_f {K K' : xK} (hK : xleK K K') {t k n pc : Nat} {ls : List (Option Value)} {st : List Value} {μ : xMem} : xle (xld t k n pc ls st μ K) (xld t k n pc ls st μ K') := by
  unfold xld
  split
  · split
    · exact hK _ _ _ _
    · exact xle.nn
  · exact xle.nn
theorem xs1_f {K K' : xK} (hK : xleK K K') {t k n pc : Nat} {ls : List (Option Value)} {st : List Value} {μ : xMem} : xle (xs1 t k n pc ls st μ K) (xs1 t k n pc ls st μ K') := by
  unfold xs1
  split
  · split
    · exact hK _ _ _ _
    · exact xle.nn
  · exact xle.nn
theorem xs2_f {K K' : xK} (hK : xleK K K') {t k n pc : Nat} {ls : List (Option Value)} {st : List Value} {μ : xMem} : xle (xs2 t k n pc ls st μ K) (xs2 t k n pc ls st μ K') := by
  unfold xs2
  split
  · split
    · exact hK _ _ _ _
    · exact xle.nn
  · exact xle.nn
theorem xjmp_f {K K' : xK} (hK : xleK K K') {pc : Nat} {off : Int} {ls : List (Option Value)} {st : List Value} {μ : xMem} : xle (xjmp pc off ls st μ K) (xjmp pc off ls st μ K') := by
  unfold xjmp
  split
  · exact hK _ _ _ _
  · exact xle.nn
theorem xbr_f {K K' : xK} (hK : xleK K K') {b : Bool} {pc : Nat} {off : Int} {ls : List (Option Value)} {st : List Value} {μ : xMem} : xle (xbr b pc off ls st μ K) (xbr b pc off ls st μ K') := by
  unfold xbr
  split
  · split
    · exact hK _ _ _ _
    · exact hK _ _ _ _
  · exact xle.nn
theorem xcat_f {K K' : xK} (hK : xleK K K') {y h : Nat} {ls : List (Option Value)} {μ : xMem} : xle (xcat y h ls μ K) (xcat y h ls μ K') := by
  unfold xcat
  split
  · split
    · exact hK _ _ _ _
    · exact xle.nn
  · split
    · exact hK _ _ _ _
    · exact xle.nn
  · exact xle.nn
theorem xcopy_f {K K' : xK} (hK : xleK K K') {pc : Nat} {ls : List (Option Value)} {st : List Value} {μ : xMem} : xle (xcopy pc ls st μ K) (xcopy pc ls st μ K') := by
  unfold xcopy
  repeat' split
  all_goals first | exact hK _ _ _ _ | exact xle.nn
theorem xput_f {K K' : xK} (hK : xleK K K') {y ci k nest pc : Nat} {ls : List (Option Value)} {st : List Value} {μ : xMem} : xle (xput y ci k nest pc ls st μ K) (xput y ci k nest pc ls st μ K') := by
  unfold xput
  repeat' split
  all_goals first | exact hK _ _ _ _ | exact xle.nn
theorem xcall_f {c c' : Nat → List Value → xMem → xRes} (hC : xleC c c') {K K' : xK} (hK : xleK K K') {y t q nest pc : Nat} {ls : List (Option Value)} {st : List Value} {μ : xMem} : xle (xcall c K y t q nest pc ls st μ) (xcall c' K' y t q nest pc ls st μ) := by
  unfold xcall
  split
  · cases h : c t (st.take (xnar t q)).reverse μ with
    | none => exact xle.nn
    | some r =>
      rw [hC _ _ _ _ h]
      obtain ⟨o, μ1⟩ := r
      cases o with
      | inl v => exact hK _ _ _ _
      | inr E =>
        dsimp only
        split
        · split
          · exact xcat_f hK
          · exact xle.nn
        · exact xle.nn
  · exact xle.nn
set_option maxHeartbeats 8000000 in
theorem xstep_f {G : xCtx} {c c' : Nat → List Value → xMem → xRes} (hC : xleC c c') {K K' : xK} (hK : xleK K K') {y : Nat} {i : Instr} {pc : Nat} {ls : List (Option Value)} {st : List Value} {μ : xMem} : xle (xstep G c K y i pc ls st μ) (xstep G c' K' y i pc ls st μ) := by
  cases i
  all_goals simp only [xstep]
  all_goals first
    | exact xle.nn
    | exact xle.rf
    | exact hK _ _ _ _
    | exact xld_f hK
    | exact xs1_f hK
    | exact xs2_f hK
    | exact xjmp_f hK
    | skip
  all_goals repeat' split
  all_goals first
    | exact xle.nn
    | exact xle.rf
    | exact hK _ _ _ _
    | exact xbr_f hK
    | exact xjmp_f hK
    | exact xcopy_f hK
    | exact xput_f hK
    | exact xcall_f hC hK
theorem xrun_f {G : xCtx} : ∀ (f y : Nat), xleK (xrun G f y) (xrun G (f + 1) y)
  | 0, y => fun pc ls st μ => xle.nn
  | f + 1, y => fun pc ls st μ => by
    show xle (match xins y pc with | none => (none : xRes) | some i => xstep G (fun t as μ => xrun G f t 0 (xent as (xL t)) [] μ) (xrun G f y) y i pc ls st μ) (match xins y pc with | none => (none : xRes) | some i => xstep G (fun t as μ => xrun G (f + 1) t 0 (xent as (xL t)) [] μ) (xrun G (f + 1) y) y i pc ls st μ)
    split
    · exact xle.nn
    · exact xstep_f (fun t as μ => xrun_f f t 0 (xent as (xL t)) [] μ) (xrun_f f y)
theorem xrun_fl {G : xCtx} {f g y : Nat} (h : f ≤ g) : xleK (xrun G f y) (xrun G g y) := by
  induction g with
  | zero => intro pc ls st μ; rw [Nat.le_zero.mp h]; exact xle.rf
  | succ g ih =>
    rcases Nat.lt_or_ge f (g + 1) with h1 | h1
    · intro pc ls st μ r hr
      exact xrun_f g y pc ls st μ r (ih (by omega) pc ls st μ r hr)
    · rw [show f = g + 1 by omega]; intro pc ls st μ; exact xle.rf
/-- from here the method comes to an end with Q -/
def Rn (G : xCtx) (y pc : Nat) (ls : List (Option Value)) (st : List Value) (μ : xMem) (Q : xOut → xMem → Prop) : Prop := ∃ (f : Nat) (o : xOut) (μ' : xMem), xrun G f y pc ls st μ = some (o, μ') ∧ Q o μ'
/-- a method called with these arguments comes to an end with Q -/
def Cn (G : xCtx) (t : Nat) (as : List Value) (μ : xMem) (Q : xOut → xMem → Prop) : Prop := Rn G t 0 (xent as (xL t)) [] μ Q
theorem Rn.mono {G : xCtx} {y pc : Nat} {ls : List (Option Value)} {st : List Value} {μ : xMem} {Q Q' : xOut → xMem → Prop} (h : Rn G y pc ls st μ Q) (hQ : ∀ o μ', Q o μ' → Q' o μ') : Rn G y pc ls st μ Q' := by
  obtain ⟨f, o, μ', h1, h2⟩ := h
  exact ⟨f, o, μ', h1, hQ _ _ h2⟩
/-- one end alone -/
theorem Rn.det {G : xCtx} {y pc : Nat} {ls : List (Option Value)} {st : List Value} {μ μ1 : xMem} {o1 : xOut} {Q : xOut → xMem → Prop} (h : Rn G y pc ls st μ (fun o μ' => o = o1 ∧ μ' = μ1)) : Rn G y pc ls st μ Q = Q o1 μ1 := by
  obtain ⟨f, o, μ', h1, rfl, rfl⟩ := h
  apply propext
  constructor
  · rintro ⟨g, o2, μ2, h2, h3⟩
    have e1 := xrun_fl (Nat.le_max_left f g) _ _ _ _ _ h1
    have e2 := xrun_fl (Nat.le_max_right f g) _ _ _ _ _ h2
    cases Option.some.inj (e1.symm.trans e2)
    exact h3
  · intro h
    exact ⟨f, o, μ', h1, h⟩
/-- a step that goes on at one place -/
theorem Rn.go {G : xCtx} {y pc pc' : Nat} {i : Instr} {ls ls' : List (Option Value)} {st st' : List Value} {μ μ' : xMem} {Q : xOut → xMem → Prop} (hi : xins y pc = some i) (h : ∀ c K, xstep G c K y i pc ls st μ = K pc' ls' st' μ') : Rn G y pc ls st μ Q = Rn G y pc' ls' st' μ' Q := by
  have key : ∀ f, xrun G (f + 1) y pc ls st μ = xrun G f y pc' ls' st' μ' := by
    intro f
    show (match xins y pc with | none => (none : xRes) | some i => xstep G (fun t as μ => xrun G f t 0 (xent as (xL t)) [] μ) (xrun G f y) y i pc ls st μ) = _
    rw [hi]
    exact h _ _
  apply propext
  constructor
  · rintro ⟨f, o, μ2, h1, h2⟩
    cases f with
    | zero => cases h1
    | succ f => rw [key] at h1; exact ⟨f, o, μ2, h1, h2⟩
  · rintro ⟨f, o, μ2, h1, h2⟩
    exact ⟨f + 1, o, μ2, by rw [key]; exact h1, h2⟩
/-- a step that goes on at one place where a condition holds, and is stuck else -/
theorem Rn.goc {G : xCtx} {y pc pc' : Nat} {i : Instr} {ls ls' : List (Option Value)} {st st' : List Value} {μ μ' : xMem} {Q : xOut → xMem → Prop} {P : Prop} (hi : xins y pc = some i) (h : P → ∀ c K, xstep G c K y i pc ls st μ = K pc' ls' st' μ') (hn : ¬ P → ∀ c K, xstep G c K y i pc ls st μ = none) : Rn G y pc ls st μ Q = (P ∧ Rn G y pc' ls' st' μ' Q) := by
  by_cases hP : P
  · rw [Rn.go hi (h hP)]
    simp [hP]
  · apply propext
    constructor
    · rintro ⟨f, o, μ2, h1, h2⟩
      cases f with
      | zero => cases h1
      | succ f =>
        have h1 : (match xins y pc with | none => (none : xRes) | some i => xstep G (fun t as μ => xrun G f t 0 (xent as (xL t)) [] μ) (xrun G f y) y i pc ls st μ) = _ := h1
        rw [hi] at h1
        dsimp only at h1
        rw [hn hP] at h1
        cases h1
    · intro h
      exact absurd h.1 hP
/-- a branch -/
theorem Rn.br {G : xCtx} {y pc p1 p2 : Nat} {i : Instr} {ls l1 l2 : List (Option Value)} {st s1 s2 : List Value} {μ m1 m2 : xMem} {Q : xOut → xMem → Prop} {P : Prop} [Decidable P] (hi : xins y pc = some i) (h : P → ∀ c K, xstep G c K y i pc ls st μ = K p1 l1 s1 m1) (hn : ¬ P → ∀ c K, xstep G c K y i pc ls st μ = K p2 l2 s2 m2) : Rn G y pc ls st μ Q = if P then Rn G y p1 l1 s1 m1 Q else Rn G y p2 l2 s2 m2 Q := by
  by_cases hP : P
  · rw [if_pos hP]; exact Rn.go hi (h hP)
  · rw [if_neg hP]; exact Rn.go hi (hn hP)
/-- the end -/
theorem Rn.ret {G : xCtx} {y pc : Nat} {i : Instr} {ls : List (Option Value)} {st : List Value} {μ μ' : xMem} {o : xOut} {Q : xOut → xMem → Prop} (hi : xins y pc = some i) (h : ∀ c K, xstep G c K y i pc ls st μ = some (o, μ')) : Rn G y pc ls st μ Q = Q o μ' := by
  apply Rn.det
  refine ⟨1, o, μ', ?_, rfl, rfl⟩
  show (match xins y pc with | none => (none : xRes) | some i => xstep G (fun t as μ => xrun G 0 t 0 (xent as (xL t)) [] μ) (xrun G 0 y) y i pc ls st μ) = _
  rw [hi]
  exact h _ _
/-- a call -/
theorem Rn.call {G : xCtx} {y pc t q nest : Nat} {i : Instr} {ls : List (Option Value)} {st as rs : List Value} {μ : xMem} {Q : xOut → xMem → Prop} (hi : xins y pc = some i) (h : ∀ c K, xstep G c K y i pc ls st μ = xcall c K y t q nest pc ls st μ) (hs : (st.take (xnar t q)).reverse = as) (hr : st.drop (xnar t q) = rs)
    (hc : xQ t = q ∧ xRoomOk y t = true ∧ xnar t q ≤ st.length ∧ (rs.map (fun v => v.category)).sum ≤ 8 ∧ xrecv q t as μ = true ∧ (xent0 as).length ≤ xL t ∧ (xH t = none ∨ (q = 0 ∧ nest = 0))) :
    Rn G y pc ls st μ Q = Cn G t as μ (fun o μ1 => match o with
      | .inl v => Rn G y (pc + 3) ls (v.toList ++ rs) μ1 Q
      | .inr E => (nest = 0 ∧ q = 1 ∧ xH t = none) ∧ ∃ h0, xhand y pc E = some h0 ∧ ∃ f o2 μ2, xcat y h0 ls μ1 (xrun G f y) = some (o2, μ2) ∧ Q o2 μ2) := by
  subst hs; subst hr
  have key : ∀ f, xrun G (f + 1) y pc ls st μ = xcall (fun t as μ => xrun G f t 0 (xent as (xL t)) [] μ) (xrun G f y) y t q nest pc ls st μ := by
    intro f
    show (match xins y pc with | none => (none : xRes) | some i => xstep G (fun t as μ => xrun G f t 0 (xent as (xL t)) [] μ) (xrun G f y) y i pc ls st μ) = _
    rw [hi]
    exact h _ _
  apply propext
  constructor
  · rintro ⟨f, o, μ2, h1, h2⟩
    cases f with
    | zero => cases h1
    | succ f =>
      rw [key] at h1
      unfold xcall at h1
      rw [if_pos hc] at h1
      dsimp only at h1
      cases hcall : xrun G f t 0 (xent (st.take (xnar t q)).reverse (xL t)) [] μ with
      | none => rw [hcall] at h1; cases h1
      | some r =>
        rw [hcall] at h1
        obtain ⟨o1, μ1⟩ := r
        refine ⟨f, o1, μ1, hcall, ?_⟩
        cases o1 with
        | inl v => exact ⟨f, o, μ2, h1, h2⟩
        | inr E =>
          dsimp only at h1
          split at h1
          · rename_i hn
            refine ⟨hn, ?_⟩
            split at h1
            · rename_i h0 hh
              exact ⟨h0, hh, f, o, μ2, h1, h2⟩
            · cases h1
          · cases h1
  · rintro ⟨f, o1, μ1, h1, h2⟩
    cases o1 with
    | inl v =>
      obtain ⟨g, o, μ2, h3, h4⟩ := h2
      refine ⟨max f g + 1, o, μ2, ?_, h4⟩
      rw [key]
      unfold xcall
      rw [if_pos hc]
      dsimp only
      rw [xrun_fl (Nat.le_max_left f g) _ _ _ _ _ h1]
      exact xrun_fl (Nat.le_max_right f g) _ _ _ _ _ h3
    | inr E =>
      obtain ⟨hn, h0, hh, g, o, μ2, h3, h4⟩ := h2
      refine ⟨max f g + 1, o, μ2, ?_, h4⟩
      rw [key]
      unfold xcall
      rw [if_pos hc]
      dsimp only
      rw [xrun_fl (Nat.le_max_left f g) _ _ _ _ _ h1]
      dsimp only
      rw [if_pos hn, hh]
      exact xcat_f (xrun_fl (Nat.le_max_right f g)) _ h3
