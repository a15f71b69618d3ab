/-! ROWS ABOUT THE INTERPRETER'S OWN THINGS -/
theorem xkf_mem {t : List (Nat × Nat × Nat × Nat × Nat)} {o i : Nat} {r : Nat × Nat × Nat} (h : xkf t o i = some r) : (o, i, r) ∈ t := by
  unfold xkf at h
  obtain ⟨e, he, rfl⟩ := Option.map_eq_some_iff.mp h
  have h1 := List.find?_some he
  have h2 := List.mem_of_find?_eq_some he
  simp only [Bool.and_eq_true, beq_iff_eq] at h1
  obtain ⟨e1, e2, e3⟩ := e
  dsimp only at h1 ⊢
  rw [h1.1, h1.2] at h2
  exact h2
theorem xkc_mem {α : Type} {t : List (Nat × Nat × α)} {o i : Nat} {r : α} (h : xkc t o i = some r) : (o, i, r) ∈ t := by
  unfold xkc at h
  obtain ⟨e, he, rfl⟩ := Option.map_eq_some_iff.mp h
  have h1 := List.find?_some he
  have h2 := List.mem_of_find?_eq_some he
  simp only [Bool.and_eq_true, beq_iff_eq] at h1
  obtain ⟨e1, e2, e3⟩ := e
  dsimp only at h1 ⊢
  rw [h1.1, h1.2] at h2
  exact h2
/-- the words that every method has -/
def xWs : List Cond := lw_tbl.filter goodWord
theorem xWs_mem {w : Cond} (h : goodWord w = true ∧ w ∈ lw_tbl) : w ∈ xWs := List.mem_filter.mpr ⟨h.2, h.1⟩
theorem xWs_good {w : Cond} (h : w ∈ xWs) : goodWord w = true := (List.mem_filter.mp h).2
/-- the words of a nest, that are carried apart -/
def xNest : List Cond := ((xFl.filter (fun e => e.2.2.1 % 2 == 1)).map (fun e => xFw e.1 e.2.1 e.2.2.1 e.2.2.2.1 e.2.2.2.2)) ++ (((xSl.filter (fun e => e.2.2.1 % 2 == 1)).map (fun e => xSw e.1 e.2.1 e.2.2.1 e.2.2.2.1)) ++ ((xMl.filter (fun e => e.2.2.1 % 2 == 1)).map (fun e => xMw e.1 e.2.1 e.2.2.1 e.2.2.2.1)))
theorem xNest_tbl : ∀ w ∈ xNest, w ∈ lw_tbl := by
  intro w hw
  rcases List.mem_append.mp hw with h | h
  · exact xAs_ok _ _ xFl_n w h
  · rcases List.mem_append.mp h with h | h
    · exact xAs_ok _ _ xSl_n w h
    · exact xAs_ok _ _ xMl_n w h
theorem xFl_of {o j nest ci k : Nat} (h : xkf xFl o j = some (nest, ci, k)) : ci < 8 ∧ k < xNf ci ∧ ((nest = 0 ∧ Cond.fieldLink (xcn o) j (xcn ci) (xTf ci k).2.1 (xTf ci k).2.2.1 ∈ xWs) ∨ (nest = 1 ∧ Cond.fieldLinkNest (xcn o) j (xcn ci) (xTf ci k).2.1 (xTf ci k).2.2.1 xhost ∈ xNest)) := by
  have hm := xkf_mem h
  have hc := List.all_eq_true.mp xFl_c _ hm
  simp only [Bool.and_eq_true, decide_eq_true_eq] at hc
  obtain ⟨⟨h1, h2⟩, h3⟩ := hc
  refine ⟨h2, h3, ?_⟩
  rcases (show nest = 0 ∨ nest = 1 by omega) with rfl | rfl
  · exact Or.inl ⟨rfl, xWs_mem (xAt_ok _ _ xFl_g _ (List.mem_map.mpr ⟨_, List.mem_filter.mpr ⟨hm, rfl⟩, rfl⟩))⟩
  · exact Or.inr ⟨rfl, List.mem_append_left _ (List.mem_map.mpr ⟨_, List.mem_filter.mpr ⟨hm, rfl⟩, rfl⟩)⟩
theorem xSl_of {o j nest k z : Nat} (h : xkf xSl o j = some (nest, k, z)) : k < 3 ∧ ((nest = 2 ∧ Cond.fieldLink (xcn o) j "PensionSections" (xsn k) "[I" ∈ xWs) ∨ (nest = 3 ∧ Cond.fieldLinkNest (xcn o) j "PensionSections" (xsn k) "[I" xhost ∈ xNest)) := by
  have hm := xkf_mem h
  have hc := List.all_eq_true.mp xSl_c _ hm
  simp only [Bool.and_eq_true, Bool.or_eq_true, beq_iff_eq, decide_eq_true_eq] at hc
  obtain ⟨h1, h2⟩ := hc
  refine ⟨h2, ?_⟩
  rcases h1 with rfl | rfl
  · exact Or.inl ⟨rfl, xWs_mem (xAt_ok _ _ xSl_g _ (List.mem_map.mpr ⟨_, List.mem_filter.mpr ⟨hm, by simp⟩, rfl⟩))⟩
  · exact Or.inr ⟨rfl, List.mem_append_right _ (List.mem_append_left _ (List.mem_map.mpr ⟨_, List.mem_filter.mpr ⟨hm, by simp⟩, rfl⟩))⟩
theorem xMl_of {o j nest t z : Nat} (h : xkf xMl o j = some (nest, t, z)) : t < xLaw ∧ ((nest = 0 ∧ Cond.methodLink (xcn o) j (xY t) ∈ xWs) ∨ (nest = 1 ∧ Cond.methodLinkNest (xcn o) j (xY t) xhost ∈ xNest)) := by
  have hm := xkf_mem h
  have hc := List.all_eq_true.mp xMl_c _ hm
  simp only [Bool.and_eq_true, decide_eq_true_eq] at hc
  obtain ⟨h1, h2⟩ := hc
  refine ⟨h2, ?_⟩
  rcases (show nest = 0 ∨ nest = 1 by omega) with rfl | rfl
  · exact Or.inl ⟨rfl, xWs_mem (xAt_ok _ _ xMl_g _ (List.mem_map.mpr ⟨_, List.mem_filter.mpr ⟨hm, rfl⟩, rfl⟩))⟩
  · exact Or.inr ⟨rfl, List.mem_append_right _ (List.mem_append_right _ (List.mem_map.mpr ⟨_, List.mem_filter.mpr ⟨hm, rfl⟩, rfl⟩))⟩
theorem xNl_of {o j a ci z : Nat} (h : xkf xNl o j = some (a, ci, z)) : ci < 8 ∧ Cond.classLink (xcn o) j (xcn ci) ∈ xWs ∧ Cond.instantiable (xcn ci) (xNf ci) ∈ xWs ∧ Cond.initialized (xcn ci) ∈ xWs := by
  have hm := xkf_mem h
  have hc := List.all_eq_true.mp xNl_c _ hm
  simp only [decide_eq_true_eq] at hc
  have hg : ∀ w ∈ xNw o j ci, w ∈ xWs := fun w hw => xWs_mem (xAt_ok _ _ xNl_g w (List.mem_flatMap.mpr ⟨_, hm, hw⟩))
  exact ⟨hc, hg _ (by simp [xNw]), hg _ (by simp [xNw]), hg _ (by simp [xNw])⟩
theorem xOl_of {o j a b z : Nat} (h : xkf xOl o j = some (a, b, z)) : (a = 0 → Cond.methodLink (xcn o) j Lib.objectInit ∈ xWs) ∧ (a = 1 → Cond.methodLink (xcn o) j arraycopyName ∈ xWs) := by
  have hm := xkf_mem h
  have hg := xWs_mem (xAt_ok _ _ xOl_g (xOw o j a) (List.mem_map.mpr ⟨_, hm, rfl⟩))
  constructor
  · rintro rfl
    exact hg
  · rintro rfl
    exact hg
theorem xCi_of {o j : Nat} {v : Int32} (h : xkc xCi o j = some v) : Cond.constant (xcn o) j v ∈ xWs := xWs_mem (xAt_ok _ _ xCi_g _ (List.mem_map.mpr ⟨_, xkc_mem h, rfl⟩))
theorem xCl_of {o j : Nat} {v : Int64} (h : xkc xCl o j = some v) : Cond.constantLong (xcn o) j v ∈ xWs := xWs_mem (xAt_ok _ _ xCl_g _ (List.mem_map.mpr ⟨_, xkc_mem h, rfl⟩))
theorem xCd_of {o j : Nat} {v : UInt64} (h : xkc xCd o j = some v) : Cond.constantDouble (xcn o) j v ∈ xWs := xWs_mem (xAt_ok _ _ xCd_g _ (List.mem_map.mpr ⟨_, xkc_mem h, rfl⟩))
theorem xcl_at {ci : Nat} (h : ci < 8) : xcl[ci]? = some (xcn ci, xTf ci, xNf ci) := by
  rcases (show ci = 0 ∨ ci = 1 ∨ ci = 2 ∨ ci = 3 ∨ ci = 4 ∨ ci = 5 ∨ ci = 6 ∨ ci = 7 by omega) with rfl | rfl | rfl | rfl | rfl | rfl | rfl | rfl <;> rfl
theorem xTf_1 : ∀ ci, ci < 8 → ∀ k, k < xNf ci → (xTf ci k).1 = xcn ci := by decide +kernel
theorem xTf_ty : ∀ ci, ci < 8 → ∀ k, k < xNf ci → parseFieldDescriptor (xTf ci k).2.2.1 = some (xty ci k) := by decide +kernel
theorem xTf_nm : ∀ ci, ci < 8 → ∀ a, a < xNf ci → ∀ b, b < xNf ci → a ≠ b → (xTf ci a).2.1 ≠ (xTf ci b).2.1 := by decide +kernel
theorem xlay_in {ci : Nat} (h : ci < 8) : ∀ w ∈ u_ws (xcn ci) (xTf ci) (xNf ci), w ∈ xWs := fun w hw => xWs_mem (xlay_ok ci h w hw)
theorem xins_of {y pc : Nat} {i : Instr} (h : xins y pc = some i) : ∃ n, decode (xB y) pc = .ok (i, n) ∧ (xlen i = n ∨ xlen i = 0) := by
  unfold xins at h
  split at h
  · rename_i i' n hd
    split at h
    · rename_i hn
      cases h
      exact ⟨n, hd, hn⟩
    · cases h
  · cases h
/-! locals -/
def XL (A : Array Slot) (n : Nat) (ls : List (Option Value)) : Prop := A.size = n ∧ ls.length = n ∧ lv_wf A ∧ ∀ (i : Nat) (v : Value), ls[i]? = some (some v) → A[i]? = some (.val v)
def xll (ls : List (Option Value)) : List (Nat × Value) := (List.range ls.length).filterMap (fun i => match ls[i]? with
  | some (some v) => some (i, v)
  | _ => none)
theorem xll_mem {ls : List (Option Value)} {q : Nat × Value} : q ∈ xll ls ↔ ls[q.1]? = some (some q.2) := by
  unfold xll
  rw [List.mem_filterMap]
  constructor
  · rintro ⟨i, -, h⟩
    split at h
    · rename_i v hv
      cases h
      exact hv
    · cases h
  · intro h
    refine ⟨q.1, ?_, ?_⟩
    · rw [List.mem_range]
      exact (List.getElem?_eq_some_iff.mp h).1
    · rw [h]
theorem XL.lv {A : Array Slot} {n : Nat} {ls : List (Option Value)} (h : XL A n ls) : lv_has A n (xll ls) := ⟨h.1, h.2.2.1, fun q hq => h.2.2.2 q.1 q.2 (xll_mem.mp hq)⟩
theorem xset1_get : ∀ (ls : List (Option Value)) (k : Nat) (v : Value) (i : Nat) (w : Value), (xset1 ls k v)[i]? = some (some w) → (i = k ∧ w = v) ∨ (i ≠ k ∧ ls[i]? = some (some w) ∧ ¬ (i + 1 = k ∧ w.category = 2))
  | [], k, v, i, w, h => by simp [xset1] at h
  | l :: ls, 0, v, i, w, h => by
    cases i with
    | zero => simp [xset1] at h; exact Or.inl ⟨rfl, h.symm⟩
    | succ i => simp [xset1] at h; exact Or.inr ⟨by omega, by simpa using h, by omega⟩
  | l :: ls, 1, v, i, w, h => by
    cases i with
    | zero =>
      have h1 : xk1 l = some w := by simpa [xset1] using h
      cases l with
      | none => simp [xk1] at h1
      | some u =>
        simp only [xk1] at h1
        split at h1
        · cases h1
        · rename_i hc
          cases h1
          exact Or.inr ⟨by omega, rfl, fun z => hc z.2⟩
    | succ i =>
      have h1 : (xset1 ls 0 v)[i]? = some (some w) := by simpa [xset1] using h
      rcases xset1_get ls 0 v i w h1 with ⟨e1, e2⟩ | ⟨e1, e2, e3⟩
      · exact Or.inl ⟨by omega, e2⟩
      · exact Or.inr ⟨by omega, by simpa using e2, by omega⟩
  | l :: ls, k + 2, v, i, w, h => by
    cases i with
    | zero =>
      have h1 : l = some w := by simpa [xset1] using h
      exact Or.inr ⟨by omega, by simp [h1], by omega⟩
    | succ i =>
      have h1 : (xset1 ls (k + 1) v)[i]? = some (some w) := by simpa [xset1] using h
      rcases xset1_get ls (k + 1) v i w h1 with ⟨e1, e2⟩ | ⟨e1, e2, e3⟩
      · exact Or.inl ⟨by omega, e2⟩
      · exact Or.inr ⟨by omega, by simpa using e2, fun z => e3 ⟨by omega, z.2⟩⟩
theorem xset1_len : ∀ (ls : List (Option Value)) (k : Nat) (v : Value), (xset1 ls k v).length = ls.length
  | [], k, v => by simp [xset1]
  | l :: ls, 0, v => by simp [xset1]
  | l :: ls, 1, v => by simp [xset1, xset1_len ls 0 v]
  | l :: ls, k + 2, v => by simp [xset1, xset1_len ls (k + 1) v]
theorem xset2_get : ∀ (ls : List (Option Value)) (k : Nat) (v : Value) (i : Nat) (w : Value), k + 1 < ls.length → (xset2 ls k v)[i]? = some (some w) → (i = k ∧ w = v) ∨ (i ≠ k ∧ i ≠ k + 1 ∧ ls[i]? = some (some w) ∧ ¬ (i + 1 = k ∧ w.category = 2))
  | [], k, v, i, w, hk, h => by simp at hk
  | [l], k, v, i, w, hk, h => by simp at hk
  | l :: l2 :: ls, 0, v, i, w, hk, h => by
    match i, h with
    | 0, h => simp [xset2] at h; exact Or.inl ⟨rfl, h.symm⟩
    | 1, h => simp [xset2] at h
    | i + 2, h => simp [xset2] at h; exact Or.inr ⟨by omega, by omega, by simpa using h, by omega⟩
  | l :: l2 :: ls, 1, v, i, w, hk, h => by
    cases i with
    | zero =>
      have h1 : xk1 l = some w := by simpa [xset2] using h
      cases l with
      | none => simp [xk1] at h1
      | some u =>
        simp only [xk1] at h1
        split at h1
        · cases h1
        · rename_i hc
          cases h1
          exact Or.inr ⟨by omega, by omega, rfl, fun z => hc z.2⟩
    | succ i =>
      have h1 : (xset2 (l2 :: ls) 0 v)[i]? = some (some w) := by simpa [xset2] using h
      rcases xset2_get (l2 :: ls) 0 v i w (by simp only [List.length_cons] at hk ⊢; omega) h1 with ⟨e1, e2⟩ | ⟨e1, e2, e3, e4⟩
      · exact Or.inl ⟨by omega, e2⟩
      · exact Or.inr ⟨by omega, by omega, by simpa using e3, by omega⟩
  | l :: l2 :: ls, k + 2, v, i, w, hk, h => by
    cases i with
    | zero =>
      have h1 : l = some w := by simpa [xset2] using h
      exact Or.inr ⟨by omega, by omega, by simp [h1], by omega⟩
    | succ i =>
      have h1 : (xset2 (l2 :: ls) (k + 1) v)[i]? = some (some w) := by simpa [xset2] using h
      rcases xset2_get (l2 :: ls) (k + 1) v i w (by simp only [List.length_cons] at hk ⊢; omega) h1 with ⟨e1, e2⟩ | ⟨e1, e2, e3, e4⟩
      · exact Or.inl ⟨by omega, e2⟩
      · exact Or.inr ⟨by omega, by omega, by simpa using e3, fun z => e4 ⟨by omega, z.2⟩⟩
theorem xset2_len : ∀ (ls : List (Option Value)) (k : Nat) (v : Value), (xset2 ls k v).length = ls.length
  | [], k, v => by cases k with | zero => simp [xset2] | succ k => cases k <;> simp [xset2]
  | [l], 0, v => by simp [xset2]
  | l :: l2 :: ls, 0, v => by simp [xset2]
  | l :: ls, 1, v => by simp [xset2, xset2_len ls 0 v]
  | l :: ls, k + 2, v => by simp [xset2, xset2_len ls (k + 1) v]
theorem XL.s1 {A' : Array Slot} {n k : Nat} {v : Value} {ls : List (Option Value)} (hn : ls.length = n) (h : lv_has A' n ((k, v) :: (xll ls).filter (fun q => !(q.1 == k) && !(q.1 + 1 == k && q.2.category == 2)))) : XL A' n (xset1 ls k v) := by
  refine ⟨h.1, (xset1_len ls k v).trans hn, h.2.1, fun i w hi => ?_⟩
  rcases xset1_get ls k v i w hi with ⟨e1, e2⟩ | ⟨e1, e2, e3⟩
  · subst e1; subst e2
    exact h.2.2 (i, w) List.mem_cons_self
  · refine h.2.2 (i, w) (List.mem_cons_of_mem _ (List.mem_filter.mpr ⟨xll_mem.mpr e2, ?_⟩))
    simp only [Bool.and_eq_true, Bool.not_eq_true', beq_eq_false_iff_ne, Bool.and_eq_false_iff]
    refine ⟨e1, ?_⟩
    by_cases hc : i + 1 = k
    · exact Or.inr (fun z => e3 ⟨hc, z⟩)
    · exact Or.inl hc
theorem XL.s2 {A' : Array Slot} {n k : Nat} {v : Value} {ls : List (Option Value)} (hn : ls.length = n) (hk : k + 1 < n) (h : lv_has A' n ((k, v) :: (xll ls).filter (fun q => !(q.1 == k) && (!(q.1 == k + 1) && !(q.1 + 1 == k && q.2.category == 2))))) : XL A' n (xset2 ls k v) := by
  refine ⟨h.1, (xset2_len ls k v).trans hn, h.2.1, fun i w hi => ?_⟩
  rcases xset2_get ls k v i w (by omega) hi with ⟨e1, e2⟩ | ⟨e1, e2, e3, e4⟩
  · subst e1; subst e2
    exact h.2.2 (i, w) List.mem_cons_self
  · refine h.2.2 (i, w) (List.mem_cons_of_mem _ (List.mem_filter.mpr ⟨xll_mem.mpr e3, ?_⟩))
    simp only [Bool.and_eq_true, Bool.not_eq_true', beq_eq_false_iff_ne, Bool.and_eq_false_iff]
    refine ⟨e1, e2, ?_⟩
    by_cases hc : i + 1 = k
    · exact Or.inr (fun z => e4 ⟨hc, z⟩)
    · exact Or.inl hc
theorem xent0_args : ∀ (vs : List Value) (j i : Nat) (v : Value), (xent0 vs)[i]? = some (some v) → (j + i, v) ∈ lv_args j vs
  | [], j, i, v, h => by simp [xent0] at h
  | u :: vs, j, i, v, h => by
    unfold xent0 at h
    unfold lv_args
    by_cases hc : u.category = 2
    · rw [if_pos hc] at h ⊢
      match i, h with
      | 0, h =>
        simp at h
        subst h
        exact List.mem_cons_self
      | 1, h => simp at h
      | i + 2, h =>
        have h1 : (xent0 vs)[i]? = some (some v) := by simpa using h
        have h2 := xent0_args vs (j + 2) i v h1
        rw [show j + 2 + i = j + (i + 2) by omega] at h2
        exact List.mem_cons_of_mem _ h2
    · rw [if_neg hc] at h ⊢
      cases i with
      | zero =>
        simp at h
        subst h
        exact List.mem_cons_self
      | succ i =>
        have h1 : (xent0 vs)[i]? = some (some v) := by simpa using h
        have h2 := xent0_args vs (j + 1) i v h1
        rw [show j + 1 + i = j + (i + 1) by omega] at h2
        exact List.mem_cons_of_mem _ h2
theorem xent0_len : ∀ (vs : List Value), (xent0 vs).length = (lg_sl vs).length
  | [] => rfl
  | u :: vs => by
    unfold xent0
    rw [show lg_sl (u :: vs) = (if u.category = 2 then [Slot.val u, Slot.second] else [Slot.val u]) ++ lg_sl vs from rfl]
    by_cases hc : u.category = 2
    · rw [if_pos hc, if_pos hc]
      simp [xent0_len vs]
    · rw [if_neg hc, if_neg hc]
      simp [xent0_len vs]
theorem XL.entry {vs : List Value} {n : Nat} (h : (xent0 vs).length ≤ n) : XL ((lg_sl vs ++ List.replicate (n - (lg_sl vs).length) Slot.unset).toArray) n (xent vs n) := by
  have h1 := lv_entry vs (n := n) (by rw [← xent0_len]; exact h)
  refine ⟨h1.1, ?_, h1.2.1, fun i v hi => ?_⟩
  · unfold xent
    simp only [List.length_append, List.length_replicate]
    omega
  · refine h1.2.2 (i, v) ?_
    unfold xent at hi
    by_cases hl : i < (xent0 vs).length
    · rw [List.getElem?_append_left hl] at hi
      have := xent0_args vs 0 i v hi
      rwa [Nat.zero_add] at this
    · rw [List.getElem?_append_right (by omega)] at hi
      have := List.eq_of_mem_replicate (List.mem_of_getElem? hi)
      cases this
/-! the memory in the heap -/
def xtys (cA : Nat → ClassId) : List (ClassId × FieldType) := [(cA 9, .int), (cA 10, .char), (cA 11, .boolean), (cA 12, .long), (cA 13, .object "PensionSections$Member"), (cA 14, .object "PensionSections$Scheme")]
def xRep (B : Nat) (D : va_G) (cA : Nat → ClassId) (μ : xMem) (H : Heap) : Prop :=
  (B ≤ xTp μ ∧ xTp μ ≤ H.size ∧ (xFg μ = 0 → H.size = xTp μ)) ∧
  (∀ a, xKd μ a ≠ 0 → B ≤ a ∧ a < xTp μ) ∧
  (∀ a ci, xKd μ a = ci + 1 → ci < 8 → va_at D xcl (a, .inr (ci, xfs ci μ a)) H) ∧
  (∀ a, (xKd μ a = 9 ∨ xKd μ a = 10 ∨ xKd μ a = 11) → H[a]? = some (vp_cell (cA (xKd μ a)) (xLn μ a, .inl (xI μ a)))) ∧
  (∀ a, xKd μ a = 12 → H[a]? = some (vp_cell (cA 12) (xLn μ a, .inr (.inl (xJ μ a))))) ∧
  (∀ a, (xKd μ a = 13 ∨ xKd μ a = 14) → H[a]? = some (vp_cell (cA (xKd μ a)) (xLn μ a, .inr (.inr (.inr (.inr (xR μ a)))))))
/-- the constructors that an exception's own constructor goes through -/
def xDl : List MethodName := [⟨"java/lang/RuntimeException", "<init>", "(Ljava/lang/String;)V"⟩, ⟨"java/lang/Exception", "<init>", "(Ljava/lang/String;)V"⟩, ⟨"java/lang/Throwable", "<init>", "(Ljava/lang/String;)V"⟩]
theorem xDl_warm {x : MethodName} {s U : State} (hW : s.WarmedH U.vm) (hZ : va_Nw (.declares x) s) : va_Nw (.declares x) U := va_tabs rfl (rfl : (s.setVm U.vm).vm = U.vm) (by rw [Cond.declares_setVm hW.alike]; exact hZ)
def xEnv (G : xCtx) (B : Nat) (D : va_G) (cA : Nat → ClassId) (U : State) : Prop :=
  va_K D xcl (xtys cA) U ∧
  (∀ w ∈ xNest, va_Nw w U) ∧
  (∀ j, j < 3 → va_Z "PensionSections" (xsn j) "[I" (.ref (G.1 j)) (fun q => B ≤ q) U U.heap) ∧
  (∀ a n f, G.2 a = some (n, f) → va_T .int a n (fun j => .int (f j)) (fun q => B ≤ q) U U.heap) ∧
  (va_AO "PensionSections$Member" U ∧ va_AO "PensionSections$Scheme" U) ∧
  (∀ e ∈ xStr, ∃ sa : Nat, vk_R (xcn e.1) e.2.1 e.2.2 sa U) ∧
  (vx_Zq Bundle.tN "UNASSIGNED_STACK" Bundle.steD (fun q => B ≤ q) U U.heap ∧ vx_Zq Bundle.tN "SUPPRESSED_SENTINEL" Bundle.listD (fun q => B ≤ q) U U.heap) ∧
  ((∀ E, E < 3 → va_Nw (.castable (xen E) (xen E)) U) ∧ ∀ x ∈ xDl, va_Nw (.declares x) U) ∧
  (∀ E F, E < 3 → F < 3 → E ≠ F → va_Nc (xen E) (xen F) U)
theorem xNest_nw {s U : State} (hW : s.WarmedH U.vm) (h : ∀ w ∈ xNest, va_Nw w s) : ∀ w ∈ xNest, va_Nw w U := by
  intro w hw
  have h0 := h w hw
  rcases List.mem_append.mp hw with h1 | h1
  · obtain ⟨e, he, rfl⟩ := List.mem_map.mp h1
    have hn : ¬ e.2.2.1 = 0 := fun z => by have := (List.mem_filter.mp he).2; rw [z] at this; exact absurd this (by decide)
    unfold xFw at h0 ⊢
    rw [if_neg hn] at h0 ⊢
    exact va_Nw.warmF hW h0
  · rcases List.mem_append.mp h1 with h1 | h1
    · obtain ⟨e, he, rfl⟩ := List.mem_map.mp h1
      have hn : ¬ e.2.2.1 = 2 := fun z => by have := (List.mem_filter.mp he).2; rw [z] at this; exact absurd this (by decide)
      unfold xSw at h0 ⊢
      rw [if_neg hn] at h0 ⊢
      exact va_Nw.warmF hW h0
    · obtain ⟨e, he, rfl⟩ := List.mem_map.mp h1
      have hn : ¬ e.2.2.1 = 0 := fun z => by have := (List.mem_filter.mp he).2; rw [z] at this; exact absurd this (by decide)
      unfold xMw at h0 ⊢
      rw [if_neg hn] at h0 ⊢
      exact va_Nw.warmM hW h0
theorem xEnv.go {G : xCtx} {B : Nat} {D : va_G} {cA : Nat → ClassId} {s U : State} {H : Heap} {locs : List Loc} (E : xEnv G B D cA s) (hW : s.WarmedH U.vm) (hS : va_S (fun q => B ≤ q) s.heap H locs) (hU : U.heap = H) : xEnv G B D cA U := by
  obtain ⟨e1, e2, e3, e4, e5, e6, e7, e8, e9⟩ := E
  have hv := hW.alike
  have hk : ∀ a : Nat, a < s.heap.size → ¬ (fun q => B ≤ q) a → U.heap[a]? = s.heap[a]? := fun a h1 h2 => by rw [hU]; exact hS.2.1 a h1 h2
  refine ⟨va_K.moved hv e1, xNest_nw hW e2, fun j hj => (va_Z.moved hv (e3 j hj)).kept hk, fun a n f h => (va_T.moved hv (e4 a n f h)).kept hk, ⟨va_AO.moved hv e5.1, va_AO.moved hv e5.2⟩, fun x hx => ?_, ⟨(vx_Zq.moved hv e7.1).kept hk, (vx_Zq.moved hv e7.2).kept hk⟩, ⟨fun E hE => va_Nw.warmC hW (e8.1 E hE), fun x hx => xDl_warm hW (e8.2 x hx)⟩, fun E F h1 h2 h3 => va_Nc.moved hv (e9 E F h1 h2 h3)⟩
  obtain ⟨sa, h⟩ := e6 x hx
  exact ⟨sa, vk_R.warm hW h⟩
theorem xEnv.call {G : xCtx} {B : Nat} {D : va_G} {cA : Nat → ClassId} {U : State} {g : JFrame} {mk : MethodId} {a : Array Value} (E : xEnv G B D cA U) : xEnv G B D cA (U.calling g mk a) := E.go (H := U.heap) (locs := []) (State.WarmedH.refl U) va_S.rf rfl
theorem xP1 {D : va_G} {a : Nat} {e : va_E} {H : Heap} (h : va_at D xcl (a, e) H) : va_P D xcl [(a, e)] H := by
  intro k q hk
  cases k with
  | zero => cases hk; exact h
  | succ k => simp at hk
theorem xfs_at {ci : Nat} {μ : xMem} {a k : Nat} (h : k < xNf ci) : (xfs ci μ a)[k]? = some (xv (xty ci k) μ a k) := by
  unfold xfs
  rw [List.getElem?_map, List.getElem?_range h]
  rfl
theorem xfs_len {ci : Nat} {μ : xMem} {a : Nat} : (xfs ci μ a).length = xNf ci := by simp [xfs]
/-- a write to the slot k of the object a -/
theorem xfs_set {ci : Nat} {μ μ1 : xMem} {a k : Nat} {v : Value} (hk : k < xNf ci) (hv : xv (xty ci k) μ1 a k = v) (ho : ∀ j, j < xNf ci → j ≠ k → xv (xty ci j) μ1 a j = xv (xty ci j) μ a j) : (xfs ci μ a).set k v = xfs ci μ1 a := by
  apply List.ext_getElem?
  intro j
  by_cases hj : j < xNf ci
  · by_cases e : j = k
    · subst e
      rw [List.getElem?_set_self (by rw [xfs_len]; exact hk), xfs_at hk, hv]
    · rw [List.getElem?_set_ne (Ne.symm e), xfs_at hj, xfs_at hj, ho j hj e]
  · rw [List.getElem?_eq_none (by rw [List.length_set, xfs_len]; omega), List.getElem?_eq_none (by rw [xfs_len]; omega)]
theorem xfs_eq {ci : Nat} {μ μ1 : xMem} {a : Nat} (h : ∀ j, xI μ1 a j = xI μ a j ∧ xJ μ1 a j = xJ μ a j ∧ xR μ1 a j = xR μ a j) : xfs ci μ1 a = xfs ci μ a := by
  unfold xfs
  apply List.map_congr_left
  intro j _
  unfold xv
  rw [(h j).1, (h j).2.1, (h j).2.2]
/-- a change of one cell of the memory, the others kept -/
theorem xRep.upd {B : Nat} {D : va_G} {cA : Nat → ClassId} {μ μ1 : xMem} {H H1 : Heap} {a : Nat} (h : xRep B D cA μ H) (hz : H1.size = H.size) (hq : ∀ q : Nat, q ≠ a → H1[q]? = H[q]?) (hk : μ1.1 = μ.1) (hm : μ1.2.1 = μ.2.1)
    (ho : ∀ b, b ≠ a → xI μ1 b = xI μ b ∧ xJ μ1 b = xJ μ b ∧ xR μ1 b = xR μ b)
    (h1 : ∀ ci, xKd μ a = ci + 1 → ci < 8 → va_at D xcl (a, .inr (ci, xfs ci μ1 a)) H1)
    (h2 : (xKd μ a = 9 ∨ xKd μ a = 10 ∨ xKd μ a = 11) → H1[a]? = some (vp_cell (cA (xKd μ a)) (xLn μ a, .inl (xI μ1 a))))
    (h3 : xKd μ a = 12 → H1[a]? = some (vp_cell (cA 12) (xLn μ a, .inr (.inl (xJ μ1 a)))))
    (h4 : (xKd μ a = 13 ∨ xKd μ a = 14) → H1[a]? = some (vp_cell (cA (xKd μ a)) (xLn μ a, .inr (.inr (.inr (.inr (xR μ1 a))))))) : xRep B D cA μ1 H1 := by
  obtain ⟨⟨g1, g2, g3⟩, g4, g5, g6, g7, g8⟩ := h
  have ek : ∀ b, xKd μ1 b = xKd μ b := fun b => by unfold xKd; rw [hk]
  have el : ∀ b, xLn μ1 b = xLn μ b := fun b => by unfold xLn; rw [hk]
  have et : xTp μ1 = xTp μ := by unfold xTp; rw [hm]
  have ef : xFg μ1 = xFg μ := by unfold xFg; rw [hm]
  refine ⟨⟨by rw [et]; exact g1, by rw [et, hz]; exact g2, by rw [ef, et, hz]; exact g3⟩, fun b hb => by rw [et]; rw [ek] at hb; exact g4 b hb, ?_, ?_, ?_, ?_⟩
  · intro b ci hb hc
    rw [ek] at hb
    by_cases e : b = a
    · subst e; exact h1 ci hb hc
    · obtain ⟨x1, x2, x3⟩ := ho b e
      rw [xfs_eq (μ := μ) (fun j => ⟨by rw [x1], by rw [x2], by rw [x3]⟩)]
      exact (g5 b ci hb hc).kept (hq b e)
  · intro b hb
    rw [ek] at hb ⊢
    rw [el]
    by_cases e : b = a
    · subst e; exact h2 hb
    · rw [(ho b e).1, hq b e]; exact g6 b hb
  · intro b hb
    rw [ek] at hb
    rw [el]
    by_cases e : b = a
    · subst e; exact h3 hb
    · rw [(ho b e).2.1, hq b e]; exact g7 b hb
  · intro b hb
    rw [ek] at hb ⊢
    rw [el]
    by_cases e : b = a
    · subst e; exact h4 hb
    · rw [(ho b e).2.2, hq b e]; exact g8 b hb
theorem xI_sI {μ : xMem} {a k : Nat} {v : Int32} (b j : Nat) : xI (xsI μ a k v) b j = if b = a ∧ j = k then v else xI μ b j := rfl
theorem xJ_sJ {μ : xMem} {a k : Nat} {v : Int64} (b j : Nat) : xJ (xsJ μ a k v) b j = if b = a ∧ j = k then v else xJ μ b j := rfl
theorem xR_sR {μ : xMem} {a k : Nat} {v : Option Nat} (b j : Nat) : xR (xsR μ a k v) b j = if b = a ∧ j = k then v else xR μ b j := rfl
theorem xI_sI_row {μ : xMem} {a k : Nat} {v : Int32} : xI (xsI μ a k v) a = upd (xI μ a) k v := by
  funext j
  rw [xI_sI]
  unfold upd
  by_cases h : j = k <;> simp [h]
theorem xJ_sJ_row {μ : xMem} {a k : Nat} {v : Int64} : xJ (xsJ μ a k v) a = vp_updL (xJ μ a) k v := by
  funext j
  rw [xJ_sJ]
  unfold vp_updL
  by_cases h : j = k <;> simp [h]
theorem xR_sR_row {μ : xMem} {a k : Nat} {v : Option Nat} : xR (xsR μ a k v) a = va_up (xR μ a) k v := by
  funext j
  rw [xR_sR]
  unfold va_up
  by_cases h : j = k <;> simp [h]
theorem xI_sI_ne {μ : xMem} {a k b : Nat} {v : Int32} (h : b ≠ a) : xI (xsI μ a k v) b = xI μ b := by
  funext j
  rw [xI_sI]
  simp [h]
theorem xJ_sJ_ne {μ : xMem} {a k b : Nat} {v : Int64} (h : b ≠ a) : xJ (xsJ μ a k v) b = xJ μ b := by
  funext j
  rw [xJ_sJ]
  simp [h]
theorem xR_sR_ne {μ : xMem} {a k b : Nat} {v : Option Nat} (h : b ≠ a) : xR (xsR μ a k v) b = xR μ b := by
  funext j
  rw [xR_sR]
  simp [h]
