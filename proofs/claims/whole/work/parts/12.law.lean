/-! THE CLAIM OUT OF A RUN OF THE INTERPRETER OVER THE LAW -/
def xsv (j i : Nat) : Int32 := (([[780, 12, 5, 2], [600, 1, 0, 1], [900, 60, 50, 20]] : List (List Int32)).getD j []).getD i 0
def xCtxOk (G : xCtx) (B b L : Nat) : Prop := (b < B ∧ ∃ xs, G.2 b = some (L, xs)) ∧ ∀ j, j < 3 → G.1 j < B ∧ ∃ f, G.2 (G.1 j) = some (4, f) ∧ ∀ i, i < 4 → f i = xsv j i
def xm0 (B : Nat) : xMem := (fun _ => (0, 0), (B, 0, 0, 0), fun _ _ => 0, fun _ _ => 0, fun _ _ => none)
/-- what is left: over the interpreter alone -/
def xGoal : Prop := ∀ (G : xCtx) (B b L : Nat), L ≤ 2048 → xCtxOk G B b L → ∃ (f : Nat) (μ' : xMem), xrun G f xLaw 0 (xent [.ref b] 9) [] (xm0 B) = some (.inl (some (.int 1)), μ') ∧ xCc μ' ≤ 601024 ∧ xCs μ' ≤ 7293034
theorem xeqv {args : Array Value} {s : State} {tm : Term} {z : Int32} (h : (Cond.eq tm (.int z)).before args s = true) : tm.eval args s none [] s = some (.int z) := by
  cases hv : tm.eval args s none [] s with
  | none => simp [Cond.before, Cond.holds, Cond.value, hv] at h
  | some w =>
    have hz : (Term.int z).eval args s none [] s = some (.int z) := rfl
    simp only [Cond.before, Cond.holds, Cond.value, hv, hz] at h
    cases w <;> simp_all
theorem xins_in {ci : Nat} (h : ci < 8) : Cond.instantiable (xcn ci) (xNf ci) ∈ xWs := by
  rcases (show ci = 0 ∨ ci = 1 ∨ ci = 2 ∨ ci = 3 ∨ ci = 4 ∨ ci = 5 ∨ ci = 6 ∨ ci = 7 by omega) with rfl | rfl | rfl | rfl | rfl | rfl | rfl | rfl
  · exact (xNl_of (show xkf xNl 6 26 = some (0, 0, 0) by decide +kernel)).2.2.1
  · exact (xNl_of (show xkf xNl 6 19 = some (0, 1, 0) by decide +kernel)).2.2.1
  · exact (xNl_of (show xkf xNl 3 15 = some (0, 2, 0) by decide +kernel)).2.2.1
  · exact (xNl_of (show xkf xNl 5 25 = some (0, 3, 0) by decide +kernel)).2.2.1
  · exact (xNl_of (show xkf xNl 6 33 = some (0, 4, 0) by decide +kernel)).2.2.1
  · exact (xNl_of (show xkf xNl 6 9 = some (0, 5, 0) by decide +kernel)).2.2.1
  · exact (xNl_of (show xkf xNl 8 8 = some (0, 6, 0) by decide +kernel)).2.2.1
  · exact (xNl_of (show xkf xNl 8 95 = some (0, 7, 0) by decide +kernel)).2.2.1
def xaty : Nat → FieldType
  | 10 => .char
  | 11 => .boolean
  | 12 => .long
  | 13 => .object "PensionSections$Member"
  | 14 => .object "PensionSections$Scheme"
  | _ => .int
theorem xao_w : xAs lw_tbl [Cond.arrayOver (.object "PensionSections$Member"), Cond.arrayOver (.object "PensionSections$Scheme")] [93, 228] = true := by decide +kernel
theorem xlast_w : xAs lw_tbl (([0, 1, 2].map (fun j => Cond.laysStatic "PensionSections" (xsn j) "[I")) ++ ((xStr.map (fun e => Cond.stringRef (xcn e.1) e.2.1 e.2.2)) ++ (([0, 1, 2].map (fun E => Cond.castable (xen E) (xen E))) ++ (xDl.map Cond.declares)))) [95, 815, 817, 496, 541, 574, 639, 661, 675, 702, 725, 726, 734, 735, 751, 757, 788, 801, 813, 818, 826, 827, 835, 840, 857, 867, 875, 891, 903, 929, 534, 457, 668, 459, 461, 463] = true := by decide +kernel
theorem xlast_th : xAs lw_tbl [Cond.laysStatic Bundle.tN "UNASSIGNED_STACK" Bundle.steD, Cond.laysStatic Bundle.tN "SUPPRESSED_SENTINEL" Bundle.listD, Cond.initialized Bundle.tN, Cond.initialized "PensionSections"] [482, 484, 70, 62] = true := by decide +kernel
section XLW
variable {s : State} {args : Array Value} {A : Nat → Prop}
theorem xK_start (hts : ∀ w ∈ lw_tbl, w.before args s = true) : ∃ (D : va_G) (cA : Nat → ClassId), va_K D xcl (xtys cA) s := by
  have htw : ∀ w ∈ xWs, w.before args s = true := fun w hw => hts w (List.mem_filter.mp hw).1
  have h1 : ∀ ci : Nat, ∃ r : ClassId × (Nat → Nat), ci < 8 → u_Kn s (xcn ci) (xTf ci) (xNf ci) r.1 r.2 := by
    intro ci
    by_cases h8 : ci < 8
    · obtain ⟨cC, iS, h⟩ := u_known (n := xNf ci) htw (xlay_in h8) (htw _ (xins_in h8))
      exact ⟨(cC, iS), fun _ => h⟩
    · exact ⟨(0, fun _ => 0), fun h => absurd h h8⟩
  have hpr : ∀ k, (k = 9 ∨ k = 10 ∨ k = 11 ∨ k = 12) → ∃ c k9 comp, s.vm.findClass ("[" ++ (xaty k).toString) = some c ∧ s.vm.classes[c]? = some k9 ∧ k9.kind = .array comp (xaty k) := by
    intro k hk
    rcases hk with rfl | rfl | rfl | rfl
    · exact Cond.arrayClass_spec (htw _ (xarr_in (List.mem_of_getElem? (i := 0) rfl)))
    · exact Cond.arrayClass_spec (htw _ (xarr_in (List.mem_of_getElem? (i := 1) rfl)))
    · exact Cond.arrayClass_spec (htw _ (xarr_in (List.mem_of_getElem? (i := 2) rfl)))
    · exact Cond.arrayClass_spec (htw _ (xarr_in (List.mem_of_getElem? (i := 3) rfl)))
  have hob : ∀ n, Cond.arrayOver (.object n) ∈ lw_tbl → ∃ comp c k9, s.vm.findClass n = some comp ∧ s.vm.classes[c]? = some k9 ∧ k9.kind = .array comp (.object n) ∧ s.vm.findClass ("[" ++ (FieldType.object n).toString) = some c := by
    intro n hn
    obtain ⟨comp, c, k, q1, -, q2, q3, q4⟩ := Cond.arrayOver_spec (hts _ hn)
    exact ⟨comp, c, k, q1, q2, q3, q4⟩
  refine ⟨(fun ci => (Classical.choose (h1 ci)).1, fun ci => (Classical.choose (h1 ci)).2), fun k => (s.vm.findClass ("[" ++ (xaty k).toString)).getD 0, fun ci q hq => ?_, fun k q hq => ?_⟩
  · have h8 : ci < 8 := (List.getElem?_eq_some_iff.mp hq).1
    rw [xcl_at h8] at hq
    cases hq
    exact Classical.choose_spec (h1 ci) h8
  · have prim : ∀ k, (k = 9 ∨ k = 10 ∨ k = 11 ∨ k = 12) → (∀ cA, s.vm.findClass ("[" ++ (xaty k).toString) = some cA → va_RA s cA (xaty k)) → ArrOfT s ((s.vm.findClass ("[" ++ (xaty k).toString)).getD 0) (xaty k) ∧ va_RA s ((s.vm.findClass ("[" ++ (xaty k).toString)).getD 0) (xaty k) := by
      intro k hk hra
      obtain ⟨c, k9, comp, q1, q2, q3⟩ := hpr k hk
      rw [q1]
      exact ⟨fun N z => ⟨(fun k h => by cases h), k9, q2, comp, q3⟩, hra _ q1⟩
    have obj : ∀ n, Cond.arrayOver (.object n) ∈ lw_tbl → ArrOfT s ((s.vm.findClass ("[" ++ (FieldType.object n).toString)).getD 0) (.object n) ∧ va_RA s ((s.vm.findClass ("[" ++ (FieldType.object n).toString)).getD 0) (.object n) := by
      intro n hn
      obtain ⟨comp, c, k9, q1, q2, q3, q4⟩ := hob n hn
      rw [q4]
      exact ⟨fun N z => ⟨(fun k h => by cases h), k9, q2, comp, q3⟩, k9, comp, q2, q3, q1, q4⟩
    have hao := xAs_ok _ _ xao_w
    match k, hq with
    | 0, hq => cases hq; exact prim 9 (Or.inl rfl) (fun _ h => h)
    | 1, hq => cases hq; exact prim 10 (Or.inr (Or.inl rfl)) (fun _ h => h)
    | 2, hq => cases hq; exact prim 11 (Or.inr (Or.inr (Or.inl rfl))) (fun _ h => h)
    | 3, hq => cases hq; exact prim 12 (Or.inr (Or.inr (Or.inr rfl))) (fun _ h => h)
    | 4, hq => cases hq; exact obj _ (hao _ (by simp))
    | 5, hq => cases hq; exact obj _ (hao _ (by simp))
    | k + 6, hq => simp [xtys] at hq
end XLW
