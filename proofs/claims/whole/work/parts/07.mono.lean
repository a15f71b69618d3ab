/-! THE COUNTS GROW -/
def xLe (μ μ' : xMem) : Prop := xCc μ ≤ xCc μ' ∧ xCs μ ≤ xCs μ'
def xKm (K : xK) : Prop := ∀ {pc ls st μ o μ'}, K pc ls st μ = some (o, μ') → xLe μ μ'
def xCm (call : Nat → List Value → xMem → xRes) : Prop := ∀ {t as μ o μ'}, call t as μ = some (o, μ') → xLe μ μ'
theorem xLe.trans {a b c : xMem} (h1 : xLe a b) (h2 : xLe b c) : xLe a c := ⟨Nat.le_trans h1.1 h2.1, Nat.le_trans h1.2 h2.2⟩
theorem xLe.nw {μ : xMem} {k n w : Nat} : xLe μ (xnw μ k n w) := ⟨Nat.le_succ _, Nat.le_add_right _ _⟩
theorem xLe.ex {μ : xMem} : xLe μ (xex μ) := ⟨Nat.le_succ _, Nat.le_add_right _ _⟩
theorem xld_m {K : xK} (hK : xKm K) {t k n pc : Nat} {ls : List (Option Value)} {st : List Value} {μ μ' : xMem} {o : xOut} (h : xld t k n pc ls st μ K = some (o, μ')) : xLe μ μ' := by
  unfold xld at h
  repeat' split at h
  all_goals first | exact hK h | (have z := hK h; exact z) | cases h
theorem xs1_m {K : xK} (hK : xKm K) {t k n pc : Nat} {ls : List (Option Value)} {st : List Value} {μ μ' : xMem} {o : xOut} (h : xs1 t k n pc ls st μ K = some (o, μ')) : xLe μ μ' := by
  unfold xs1 at h
  repeat' split at h
  all_goals first | exact hK h | (have z := hK h; exact z) | cases h
theorem xs2_m {K : xK} (hK : xKm K) {t k n pc : Nat} {ls : List (Option Value)} {st : List Value} {μ μ' : xMem} {o : xOut} (h : xs2 t k n pc ls st μ K = some (o, μ')) : xLe μ μ' := by
  unfold xs2 at h
  repeat' split at h
  all_goals first | exact hK h | (have z := hK h; exact z) | cases h
theorem xjmp_m {K : xK} (hK : xKm K) {pc : Nat} {off : Int} {ls : List (Option Value)} {st : List Value} {μ μ' : xMem} {o : xOut} (h : xjmp pc off ls st μ K = some (o, μ')) : xLe μ μ' := by
  unfold xjmp at h
  split at h
  · exact hK h
  · cases h
theorem xbr_m {K : xK} (hK : xKm K) {b : Bool} {pc : Nat} {off : Int} {ls : List (Option Value)} {st : List Value} {μ μ' : xMem} {o : xOut} (h : xbr b pc off ls st μ K = some (o, μ')) : xLe μ μ' := by
  unfold xbr at h
  repeat' split at h
  all_goals first | exact hK h | (have z := hK h; exact z) | cases h
theorem xcat_m {K : xK} (hK : xKm K) {y h0 : Nat} {ls : List (Option Value)} {μ μ' : xMem} {o : xOut} (h : xcat y h0 ls μ K = some (o, μ')) : xLe μ μ' := by
  unfold xcat at h
  repeat' split at h
  all_goals first | exact hK h | (have z := hK h; exact z) | cases h
theorem xcall_m {call : Nat → List Value → xMem → xRes} (hC : xCm call) {K : xK} (hK : xKm K) {y t q nest pc : Nat} {ls : List (Option Value)} {st : List Value} {μ μ' : xMem} {o : xOut} (h : xcall call K y t q nest pc ls st μ = some (o, μ')) : xLe μ μ' := by
  unfold xcall at h
  split at h
  · split at h
    · rename_i v μ1 hc
      exact (hC hc).trans (hK h)
    · rename_i E μ1 hc
      split at h
      · split at h
        · exact (hC hc).trans (xcat_m hK h)
        · cases h
      · cases h
    · cases h
  · cases h
theorem xcopy_m {K : xK} (hK : xKm K) {pc : Nat} {ls : List (Option Value)} {st : List Value} {μ μ' : xMem} {o : xOut} (h : xcopy pc ls st μ K = some (o, μ')) : xLe μ μ' := by
  unfold xcopy at h
  repeat' split at h
  all_goals first | exact hK h | (have z := hK h; exact z) | cases h
theorem xput_m {K : xK} (hK : xKm K) {y ci k nest pc : Nat} {ls : List (Option Value)} {st : List Value} {μ μ' : xMem} {o : xOut} (h : xput y ci k nest pc ls st μ K = some (o, μ')) : xLe μ μ' := by
  unfold xput at h
  repeat' split at h
  all_goals first | exact hK h | (have z := hK h; exact z) | cases h
theorem xthrow_m {y E pc : Nat} {st : List Value} {μ μ' : xMem} {o : xOut} (h : xthrow y E pc st μ = some (o, μ')) : xLe μ μ' := by
  unfold xthrow at h
  repeat' split at h
  all_goals first | (cases h; exact xLe.ex) | cases h
theorem xret_m {y : Nat} {i : Instr} {st : List Value} {μ μ' : xMem} {o : xOut} (h : (match xretf y i st with | some v => some (.inl v, μ) | none => (none : xRes)) = some (o, μ')) : xLe μ μ' := by
  split at h
  · cases h; exact ⟨Nat.le_refl _, Nat.le_refl _⟩
  · cases h
set_option maxHeartbeats 4000000 in
theorem xstep_m {G : xCtx} {call : Nat → List Value → xMem → xRes} (hC : xCm call) {K : xK} (hK : xKm K) {y : Nat} {i : Instr} {pc : Nat} {ls : List (Option Value)} {st : List Value} {μ μ' : xMem} {o : xOut} (h : xstep G call K y i pc ls st μ = some (o, μ')) : xLe μ μ' := by
  cases i
  all_goals simp only [xstep] at h
  all_goals try (cases h; done)
  all_goals first
    | exact hK h
    | exact xld_m hK h
    | exact xs1_m hK h
    | exact xs2_m hK h
    | exact xjmp_m hK h
    | exact xret_m h
    | skip
  all_goals repeat' split at h
  all_goals first
    | exact hK h
    | (have z := hK h; exact z)
    | exact xbr_m hK h
    | exact xjmp_m hK h
    | exact xcopy_m hK h
    | exact xput_m hK h
    | exact xcall_m hC hK h
    | exact xthrow_m h
    | exact xLe.nw.trans (hK h)
    | cases h
theorem xrun_m {G : xCtx} : ∀ (f y : Nat), xKm (xrun G f y)
  | 0, y => fun h => by cases h
  | f + 1, y => by
    intro h
    rename_i pc ls st μ o μ'
    have h : (match xins y pc with | none => (none : xRes) | some i => xstep G (fun t as μ => xrun G f t 0 (xent as (xL t)) [] μ) (xrun G f y) y i pc ls st μ) = some (o, μ') := h
    split at h
    · cases h
    · refine xstep_m ?_ (xrun_m f y) h
      intro t as μ o μ' h
      exact xrun_m f t h
