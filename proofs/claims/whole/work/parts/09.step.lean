/-! ONE STEP -/
theorem xset1_indep : ∀ (ls : List (Option Value)) (k : Nat) (u w : Value) (i : Nat), i ≠ k → (xset1 ls k u)[i]? = (xset1 ls k w)[i]?
  | [], k, u, w, i, h => by simp [xset1]
  | l :: ls, 0, u, w, i, h => by
    cases i with
    | zero => exact absurd rfl h
    | succ i => simp [xset1]
  | l :: ls, 1, u, w, i, h => by
    cases i with
    | zero => simp [xset1]
    | succ i =>
      simp only [xset1, List.getElem?_cons_succ]
      exact xset1_indep ls 0 u w i (by omega)
  | l :: ls, k + 2, u, w, i, h => by
    cases i with
    | zero => simp [xset1]
    | succ i =>
      simp only [xset1, List.getElem?_cons_succ]
      exact xset1_indep ls (k + 1) u w i (by omega)
theorem XL.fgt {A : Array Slot} {n k : Nat} {w : Value} {ls : List (Option Value)} (h : XL A n (xset1 ls k w)) : XL A n ((xset1 ls k .null).set k none) := by
  refine ⟨h.1, ?_, h.2.2.1, fun i v hi => ?_⟩
  · rw [List.length_set, xset1_len, ← h.2.1, xset1_len]
  · by_cases e : i = k
    · subst e
      by_cases hl : i < (xset1 ls i .null).length
      · rw [List.getElem?_set_self hl] at hi
        cases hi
      · rw [List.getElem?_eq_none (by rw [List.length_set]; omega)] at hi
        cases hi
    · rw [List.getElem?_set_ne (Ne.symm e), xset1_indep ls k .null w i e] at hi
      exact h.2.2.2 i v hi
theorem xHl_w : xAt lw_tbl (xHl.map (fun e => Cond.classLink (xcn e.1) e.2.1 (xen e.2.2))) [630, 631, 656] = true := by decide +kernel
theorem xHl_c : xHl.all (fun e => decide (e.2.2 < 3) && decide (e.2.1 ≠ 0)) = true := by decide +kernel
theorem xHl_of {o j F : Nat} (h : xkc xHl o j = some F) : F < 3 ∧ j ≠ 0 ∧ Cond.classLink (xcn o) j (xen F) ∈ xWs := by
  have hm := xkc_mem h
  have hc := List.all_eq_true.mp xHl_c _ hm
  simp only [Bool.and_eq_true, decide_eq_true_eq] at hc
  exact ⟨hc.1, hc.2, xWs_mem (xAt_ok _ _ xHl_w _ (List.mem_map.mpr ⟨_, hm, rfl⟩))⟩
theorem xtag0 {v : Value} (h : xtag v = 0) : ∃ x, v = .int x := by cases v <;> first | exact ⟨_, rfl⟩ | cases h
theorem xtag1 {v : Value} (h : xtag v = 1) : ∃ x, v = .long x := by cases v <;> first | exact ⟨_, rfl⟩ | cases h
theorem xtag2 {v : Value} (h : xtag v = 2) : ∃ x, v = .double x := by cases v <;> first | exact ⟨_, rfl⟩ | cases h
theorem xtag3 {v : Value} (h : xtag v = 3) : v = .null ∨ ∃ x, v = .ref x := by cases v <;> first | exact Or.inl rfl | exact Or.inr ⟨_, rfl⟩ | cases h
theorem xins_len {y pc : Nat} {i : Instr} (h : xins y pc = some i) {n : Nat} (hn : xlen i = n) (h0 : n ≠ 0) : decode (xB y) pc = .ok (i, n) := by
  obtain ⟨n', h1, h2⟩ := xins_of h
  rcases h2 with h2 | h2
  · rw [← hn, h2]; exact h1
  · omega
theorem xld_i {t k n pc : Nat} {ls : List (Option Value)} {st : List Value} {μ : xMem} {K : xK} {r : xOut × xMem} (h : xld t k n pc ls st μ K = some r) : ∃ v, ls[k]? = some (some v) ∧ xtag v = t ∧ K (pc + n) ls (v :: st) μ = some r := by
  unfold xld at h
  split at h
  · rename_i v hv
    split at h
    · rename_i ht; exact ⟨v, hv, ht, h⟩
    · cases h
  · cases h
theorem xs1_i {t k n pc : Nat} {ls : List (Option Value)} {st : List Value} {μ : xMem} {K : xK} {r : xOut × xMem} (h : xs1 t k n pc ls st μ K = some r) : ∃ v st', st = v :: st' ∧ xtag v = t ∧ k < ls.length ∧ K (pc + n) (xset1 ls k v) st' μ = some r := by
  unfold xs1 at h
  split at h
  · rename_i v st'
    split at h
    · rename_i ht; exact ⟨v, st', rfl, ht.1, ht.2, h⟩
    · cases h
  · cases h
theorem xs2_i {t k n pc : Nat} {ls : List (Option Value)} {st : List Value} {μ : xMem} {K : xK} {r : xOut × xMem} (h : xs2 t k n pc ls st μ K = some r) : ∃ v st', st = v :: st' ∧ xtag v = t ∧ k + 1 < ls.length ∧ K (pc + n) (xset2 ls k v) st' μ = some r := by
  unfold xs2 at h
  split at h
  · rename_i v st'
    split at h
    · rename_i ht; exact ⟨v, st', rfl, ht.1, ht.2, h⟩
    · cases h
  · cases h
theorem xjmp_i {pc : Nat} {off : Int} {ls : List (Option Value)} {st : List Value} {μ : xMem} {K : xK} {r : xOut × xMem} (h : xjmp pc off ls st μ K = some r) : (pc : Int) + off = ((((pc : Int) + off).toNat : Nat) : Int) ∧ K ((pc : Int) + off).toNat ls st μ = some r := by
  unfold xjmp at h
  split at h
  · rename_i h0; exact ⟨(Int.toNat_of_nonneg h0).symm, h⟩
  · cases h
theorem xbr_i {b : Bool} {pc : Nat} {off : Int} {ls : List (Option Value)} {st : List Value} {μ : xMem} {K : xK} {r : xOut × xMem} (h : xbr b pc off ls st μ K = some r) : (pc : Int) + off = ((((pc : Int) + off).toNat : Nat) : Int) ∧ (b = true → K ((pc : Int) + off).toNat ls st μ = some r) ∧ (b = false → K (pc + 3) ls st μ = some r) := by
  unfold xbr at h
  split at h
  · rename_i h0
    refine ⟨(Int.toNat_of_nonneg h0).symm, fun hb => ?_, fun hb => ?_⟩
    · rw [if_pos hb] at h; exact h
    · rw [if_neg (by rw [hb]; decide)] at h; exact h
  · cases h
section XST
variable {p : Program} {l : Launch} {e : Env} {R : Room} {s : State} {m : MethodId} {args : Array Value} {below : List Frame} {meth : Method} {c : Code} {H : Heap} {locs : List Loc} {cells slots : Nat} {Q : State → Prop}
variable {G : xCtx} {B : Nat} {D : va_G} {cA : Nat → ClassId} {μ μ' : xMem} {y pc : Nat} {o : xOut} {mc ms : Nat}
def xKok (p : Program) (l : Launch) (e : Env) (R : Room) (s : State) (m : MethodId) (args : Array Value) (below : List Frame) (meth : Method) (c : Code) (Q : State → Prop) (B : Nat) (D : va_G) (cA : Nat → ClassId) (y : Nat) (o : xOut) (μ' : xMem) (mc ms : Nat) (K : xK) : Prop :=
  ∀ (pc : Nat) (ls : List (Option Value)) (st : List Value) (μ : xMem) (H : Heap) (locs : List Loc) (cells slots : Nat) (lsA : Array Slot), K pc ls st μ = some (o, μ') → xRep B D cA μ H → va_S (fun q => B ≤ q) s.heap H locs → XL lsA (xL y) ls → cells + xCc μ' = mc + xCc μ → slots + xCs μ' = ms + xCs μ → W p l e R s m args below meth c H locs cells slots Q (F0 m pc lsA st)
theorem xr_catch (C : xHere p R s m args meth c y) (E : xEnv G B D cA s) {K : xK} (hK : xKok p l e R s m args below meth c Q B D cA y o μ' mc ms K) {X h0 : Nat} (h3 : X < 3) (hh : xhand y pc X = some h0) {ls : List (Option Value)} (h : xcat y h0 ls μ K = some (o, μ')) {q : Addr} {ce : Cell} (hcell : H[q]? = some ce) (hv : ce.vm = .none) (hcl : s.vm.findClass (xen X) = some ce.cls)
    (hM : xRep B D cA μ H) (hS : va_S (fun q => B ≤ q) s.heap H locs) {lsA : Array Slot} (hL : XL lsA (xL y) ls) {rest : List Value} (hc : cells + xCc μ' = mc + xCc μ) (hs : slots + xCs μ' = ms + xCs μ) : vx_W p l e R s m args below meth c H locs cells slots Q (F0 m pc lsA rest) q := by
  obtain ⟨hx, hb, hml, hown, hts, -, -, -, -, htab⟩ := C
  unfold xhand at hh
  split at hh
  · cases hh
  · rename_i hl hH
    rw [hH] at htab
    split at hh
    · cases hh
    · rename_i hall
      have hall : (hl.all (fun h => (xkc xHl (xown y) h.2.2.2).isSome)) = true := by
        cases hz : hl.all (fun h => (xkc xHl (xown y) h.2.2.2).isSome) with
        | true => rfl
        | false => exact absurd hz hall
      obtain ⟨x, hx1, rfl⟩ := Option.map_eq_some_iff.mp hh
      obtain ⟨hpx, as, bs, hsp, hno⟩ := List.find?_eq_some_iff_append.mp hx1
      simp only [Bool.and_eq_true, decide_eq_true_eq] at hpx
      obtain ⟨px1, px2, px3⟩ := hpx
      obtain ⟨-, hx0, hxw⟩ := xHl_of px3
      have hspl : c.exceptionTable.toList = tableOf as ++ (⟨x.1, x.2.1, x.2.2.1, x.2.2.2⟩ : ExceptionTableEntry) :: tableOf bs := by
        rw [htab]
        show tableOf hl = _
        rw [hsp]
        simp [tableOf]
      refine vx_catch hown (tableOf as) ⟨x.1, x.2.1, x.2.2.1, x.2.2.2⟩ (tableOf bs) hspl ?_ ?_ hx0 (hts _ hxw) (va_Nw.use (by rfl) (E.2.2.2.2.2.2.2.1.1 X h3)) hcell hv hcl ?_
      · intro z hz
        obtain ⟨a, ha, rfl⟩ := List.mem_map.mp hz
        have hna := hno a ha
        by_cases hcov : a.1 ≤ pc ∧ pc < a.2.1
        · refine Or.inr ?_
          have hsome := List.all_eq_true.mp hall a (by rw [hsp]; exact List.mem_append_left _ ha)
          obtain ⟨F, hF⟩ := Option.isSome_iff_exists.mp hsome
          obtain ⟨f1, f2, f3⟩ := xHl_of hF
          refine ⟨f2, xen F, hts _ f3, E.2.2.2.2.2.2.2.2 X F h3 f1 (fun eq => ?_)⟩
          subst eq
          simp [hcov.1, hcov.2, hF] at hna
        · refine Or.inl ?_
          simp [covers]
          omega
      · simp [covers]
        omega
      · show W p l e R s m args below meth c H locs cells slots Q (F0 m x.2.2.1 lsA [.ref q])
        unfold xcat at h
        split at h
        · rename_i k hi
          split at h
          · rename_i hk
            refine lv_astore hx hb (xins_len hi rfl (by decide)) hL.lv (by rw [← hL.2.1]; exact hk) rfl (fun ls' hl' => ?_)
            exact hK _ _ _ _ _ _ _ _ _ h hM hS (XL.s1 hL.2.1 hl').fgt hc hs
          · cases h
        · rename_i k hi
          split at h
          · rename_i hk
            refine lv_astore_n hx hb (xins_len hi rfl (by decide)) rfl hL.lv (by rw [← hL.2.1]; exact hk) rfl (fun ls' hl' => ?_)
            exact hK _ _ _ _ _ _ _ _ _ h hM hS (XL.s1 hL.2.1 hl').fgt hc hs
          · cases h
        · cases h
end XST
