/-! EVERY STEP -/
section XSA
variable {p : Program} {l : Launch} {e : Env} {R : Room} {s : State} {m : MethodId} {args : Array Value} {below : List Frame} {meth : Method} {c : Code} {H : Heap} {locs : List Loc} {cells slots : Nat} {Q : State → Prop}
variable {G : xCtx} {B : Nat} {D : va_G} {cA : Nat → ClassId} {μ μ' : xMem} {y pc : Nat} {o : xOut} {mc ms : Nat} {K : xK} {call : Nat → List Value → xMem → xRes}
theorem xput_I (hM : xRep B D cA μ H) {H1 : Heap} {a ci k : Nat} {x : Int32} (hz : H1.size = H.size) (hq : ∀ q : Nat, q ≠ a → H1[q]? = H[q]?) (hk : xKd μ a = ci + 1) (h8 : ci < 8) (hkN : k < xNf ci) (hty : xty ci k = .int ∨ xty ci k = .boolean) (hv : va_at D xcl (a, .inr (ci, (xfs ci μ a).set k (.int x))) H1) : xRep B D cA (xsI μ a k x) H1 := by
  refine hM.upd (a := a) hz hq rfl rfl (fun b hb => ⟨xI_sI_ne hb, rfl, rfl⟩) (fun ci' h1 h2 => ?_) (fun h => by omega) (fun h => by omega) (fun h => by omega)
  obtain rfl : ci' = ci := by omega
  rw [← xfs_set (μ := μ) (μ1 := xsI μ a k x) (v := .int x) hkN]
  · exact hv
  · have hk1 : xI (xsI μ a k x) a k = x := by rw [xI_sI]; simp
    rcases hty with e | e <;> (rw [e]; show Value.int (xI (xsI μ a k x) a k) = _; rw [hk1])
  · intro j _ hj
    have h1 : xI (xsI μ a k x) a j = xI μ a j := by rw [xI_sI, if_neg (fun z => hj z.2)]
    unfold xv
    rw [h1]
    rfl
theorem xput_J (hM : xRep B D cA μ H) {H1 : Heap} {a ci k : Nat} {x : Int64} (hz : H1.size = H.size) (hq : ∀ q : Nat, q ≠ a → H1[q]? = H[q]?) (hk : xKd μ a = ci + 1) (h8 : ci < 8) (hkN : k < xNf ci) (hty : xty ci k = .long) (hv : va_at D xcl (a, .inr (ci, (xfs ci μ a).set k (.long x))) H1) : xRep B D cA (xsJ μ a k x) H1 := by
  refine hM.upd (a := a) hz hq rfl rfl (fun b hb => ⟨rfl, xJ_sJ_ne hb, rfl⟩) (fun ci' h1 h2 => ?_) (fun h => by omega) (fun h => by omega) (fun h => by omega)
  obtain rfl : ci' = ci := by omega
  rw [← xfs_set (μ := μ) (μ1 := xsJ μ a k x) (v := .long x) hkN]
  · exact hv
  · have hk1 : xJ (xsJ μ a k x) a k = x := by rw [xJ_sJ]; simp
    rw [hty]; show Value.long (xJ (xsJ μ a k x) a k) = _; rw [hk1]
  · intro j _ hj
    have h1 : xJ (xsJ μ a k x) a j = xJ μ a j := by rw [xJ_sJ, if_neg (fun z => hj z.2)]
    unfold xv
    rw [h1]
    rfl
theorem xput_R (hM : xRep B D cA μ H) {H1 : Heap} {a ci k r : Nat} (hz : H1.size = H.size) (hq : ∀ q : Nat, q ≠ a → H1[q]? = H[q]?) (hk : xKd μ a = ci + 1) (h8 : ci < 8) (hkN : k < xNf ci) (hty : (∃ C, xty ci k = .object C) ∨ ∃ C, xty ci k = .array C) (hv : va_at D xcl (a, .inr (ci, (xfs ci μ a).set k (.ref r))) H1) : xRep B D cA (xsR μ a k (some r)) H1 := by
  refine hM.upd (a := a) hz hq rfl rfl (fun b hb => ⟨rfl, rfl, xR_sR_ne hb⟩) (fun ci' h1 h2 => ?_) (fun h => by omega) (fun h => by omega) (fun h => by omega)
  obtain rfl : ci' = ci := by omega
  rw [← xfs_set (μ := μ) (μ1 := xsR μ a k (some r)) (v := .ref r) hkN]
  · exact hv
  · have hk1 : xR (xsR μ a k (some r)) a k = some r := by rw [xR_sR]; simp
    rcases hty with ⟨C, e⟩ | ⟨C, e⟩ <;> (rw [e]; show va_rf (xR (xsR μ a k (some r)) a k) = _; rw [hk1]; rfl)
  · intro j _ hj
    have h1 : xR (xsR μ a k (some r)) a j = xR μ a j := by rw [xR_sR, if_neg (fun z => hj z.2)]
    unfold xv
    rw [h1]
    rfl
theorem xput_sound (C : xHere p R s m args meth c y) (E : xEnv G B D cA s) (hK : xKok p l e R s m args below meth c Q B D cA y o μ' mc ms K) {j nest ci k : Nat} (hl : xkf xFl (xown y) j = some (nest, ci, k)) (hdg : decode (xB y) pc = .ok (.putfield j, 3)) {ls : List (Option Value)} {st : List Value} (h : xput y ci k nest pc ls st μ K = some (o, μ'))
    (hM : xRep B D cA μ H) (hS : va_S (fun q => B ≤ q) s.heap H locs) {lsA : Array Slot} (hL : XL lsA (xL y) ls) (hc : cells + xCc μ' = mc + xCc μ) (hs : slots + xCs μ' = ms + xCs μ) : W p l e R s m args below meth c H locs cells slots Q (F0 m pc lsA st) := by
  obtain ⟨h8, hkN, -⟩ := xFl_of hl
  unfold xput at h
  split at h
  · split at h
    · rename_i v a st hcond
      obtain ⟨hk, hfin⟩ := hcond
      split at h
      · rename_i x hty
        exact xr_put C E hM hS hl hk hfin (by rw [hty]; rfl) (by rw [hty]; rfl) hdg (fun H1 locs1 hv hz hq hS1 => hK _ _ _ _ _ _ _ _ _ h (xput_I hM hz hq hk h8 hkN (Or.inl hty) hv) hS1 hL hc hs)
      · rename_i x hty
        split at h
        · rename_i h01
          exact xr_put C E hM hS hl hk hfin (by rw [hty]; rcases h01 with rfl | rfl <;> decide +kernel) (by rw [hty]; rcases h01 with rfl | rfl <;> decide +kernel) hdg (fun H1 locs1 hv hz hq hS1 => hK _ _ _ _ _ _ _ _ _ h (xput_I hM hz hq hk h8 hkN (Or.inr hty) hv) hS1 hL hc hs)
        · cases h
      · rename_i x hty
        exact xr_put C E hM hS hl hk hfin (by rw [hty]; rfl) (by rw [hty]; rfl) hdg (fun H1 locs1 hv hz hq hS1 => hK _ _ _ _ _ _ _ _ _ h (xput_J hM hz hq hk h8 hkN hty hv) hS1 hL hc hs)
      · rename_i C9 r hty
        exact xr_put C E hM hS hl hk hfin (by rw [hty]; rfl) (by rw [hty]; rfl) hdg (fun H1 locs1 hv hz hq hS1 => hK _ _ _ _ _ _ _ _ _ h (xput_R hM hz hq hk h8 hkN (Or.inl ⟨_, hty⟩) hv) hS1 hL hc hs)
      · rename_i C9 r hty
        exact xr_put C E hM hS hl hk hfin (by rw [hty]; rfl) (by rw [hty]; rfl) hdg (fun H1 locs1 hv hz hq hS1 => hK _ _ _ _ _ _ _ _ _ h (xput_R hM hz hq hk h8 hkN (Or.inr ⟨_, hty⟩) hv) hS1 hL hc hs)
      · cases h
    · cases h
  · cases h
theorem xcall_sound (C : xHere p R s m args meth c y) (E : xEnv G B D cA s) (hK : xKok p l e R s m args below meth c Q B D cA y o μ' mc ms K) (hKm : xKm K) (hCm : xCm call) (hR : mc ≤ R.cells ∧ ms ≤ R.slots)
    (hcR : ∀ (t : Nat) (as : List Value) (μ : xMem) (v : Option Value) (μ1 : xMem), t < xLaw → (xent0 as).length ≤ xL t → call t as μ = some (.inl v, μ1) → xMetR l G B D cA t as μ v μ1)
    (hcX : ∀ (t : Nat) (as : List Value) (μ : xMem) (X : Nat) (μ1 : xMem), t < xLaw → (xent0 as).length ≤ xL t → xH t = none → call t as μ = some (.inr X, μ1) → xMetX l G B D cA t as μ X μ1)
    {j t nest z q : Nat} (hl : xkf xMl (xown y) j = some (nest, t, z)) (hdg : (q = 0 ∧ decode (xB y) pc = .ok (.invokestatic j, 3)) ∨ (q = 1 ∧ decode (xB y) pc = .ok (.invokevirtual j, 3)) ∨ (q = 2 ∧ decode (xB y) pc = .ok (.invokespecial j, 3))) {ls : List (Option Value)} {st : List Value} (h : xcall call K y t q nest pc ls st μ = some (o, μ'))
    (hM : xRep B D cA μ H) (hS : va_S (fun q => B ≤ q) s.heap H locs) {lsA : Array Slot} (hL : XL lsA (xL y) ls) (hc : cells + xCc μ' = mc + xCc μ) (hs : slots + xCs μ' = ms + xCs μ) : W p l e R s m args below meth c H locs cells slots Q (F0 m pc lsA st) := by
  unfold xcall at h
  split at h
  · rename_i hcond
    obtain ⟨q1, q2, q3, q4, q5, q6, q7⟩ := hcond
    split at h
    · rename_i v μ1 hcall
      have m1 : xCc μ ≤ xCc μ1 ∧ xCs μ ≤ xCs μ1 := hCm hcall
      have m2 : xCc μ1 ≤ xCc μ' ∧ xCs μ1 ≤ xCs μ' := hKm h
      exact xr_call C E hM hS hL.1 hl q1 q2 q3 q4 q5 q7 (hcR _ _ _ _ _ (xMl_of hl).1 q6 hcall) hdg ⟨by omega, by omega⟩ (fun H1 locs1 hM1 hS1 => hK _ _ _ _ _ _ _ _ _ h hM1 hS1 hL (by omega) (by omega))
    · rename_i X μ1 hcall
      split at h
      · rename_i hx3
        obtain ⟨rfl, rfl, hHt⟩ := hx3
        split at h
        · rename_i h0 hh
          have m1 : xCc μ ≤ xCc μ1 ∧ xCs μ ≤ xCs μ1 := hCm hcall
          have m2 : xCc μ1 ≤ xCc μ' ∧ xCs μ1 ≤ xCs μ' := xcat_m hKm h
          have hd1 : decode (xB y) pc = .ok (.invokevirtual j, 3) := by
            rcases hdg with ⟨h9, -⟩ | ⟨-, h9⟩ | ⟨h9, -⟩
            · cases h9
            · exact h9
            · cases h9
          exact xr_callX C E hM hS hL.1 hl q1 q2 q3 q4 q5 hHt (hcX _ _ _ _ _ (xMl_of hl).1 q6 hHt hcall) hd1 ⟨by omega, by omega⟩ (fun H1 locs1 q9 ce h3 hM1 hS1 hce hcv hcl => xr_catch C E hK h3 hh h hce hcv hcl hM1 hS1 hL (by omega) (by omega))
        · cases h
      · cases h
    · cases h
  · cases h
set_option maxHeartbeats 8000000 in
theorem xstep_sound (C : xHere p R s m args meth c y) (E : xEnv G B D cA s) (hK : xKok p l e R s m args below meth c Q B D cA y o μ' mc ms K) (hKm : xKm K) (hCm : xCm call) (hR : mc ≤ R.cells ∧ ms ≤ R.slots)
    (hcR : ∀ (t : Nat) (as : List Value) (μ : xMem) (v : Option Value) (μ1 : xMem), t < xLaw → (xent0 as).length ≤ xL t → call t as μ = some (.inl v, μ1) → xMetR l G B D cA t as μ v μ1)
    (hcX : ∀ (t : Nat) (as : List Value) (μ : xMem) (X : Nat) (μ1 : xMem), t < xLaw → (xent0 as).length ≤ xL t → xH t = none → call t as μ = some (.inr X, μ1) → xMetX l G B D cA t as μ X μ1)
    (hend : ∀ (i : Instr) (pc : Nat) (st : List Value) (v : Option Value) (H : Heap) (locs : List Loc) (lsA : Array Slot), xins y pc = some i → xretf y i st = some v → o = .inl v → xRep B D cA μ' H → va_S (fun q => B ≤ q) s.heap H locs → lsA.size = xL y → W p l e R s m args below meth c H locs mc ms Q (F0 m pc lsA st))
    (hthr : ∀ (X j pc : Nat) (st : List Value) (μ : xMem) (H : Heap) (locs : List Loc) (cells slots : Nat) (lsA : Array Slot), xins y pc = some (.new j) → xkc xTl (xown y) j = some X → xthrow y X pc st μ = some (o, μ') → xRep B D cA μ H → va_S (fun q => B ≤ q) s.heap H locs → lsA.size = xL y → cells + xCc μ' = mc + xCc μ → slots + xCs μ' = ms + xCs μ → W p l e R s m args below meth c H locs cells slots Q (F0 m pc lsA st))
    {i : Instr} (hi : xins y pc = some i) {ls : List (Option Value)} {st : List Value} (h : xstep G call K y i pc ls st μ = some (o, μ'))
    (hM : xRep B D cA μ H) (hS : va_S (fun q => B ≤ q) s.heap H locs) {lsA : Array Slot} (hL : XL lsA (xL y) ls) (hc : cells + xCc μ' = mc + xCc μ) (hs : slots + xCs μ' = ms + xCs μ) : W p l e R s m args below meth c H locs cells slots Q (F0 m pc lsA st) := by
  have hx := C.1
  have hb := C.2.1
  have hown := C.2.2.2.1
  have hts := C.2.2.2.2.1
  have hll := hL.2.1
  have ret : ∀ {i : Instr}, xins y pc = some i → (match xretf y i st with | some v => some (.inl v, μ) | none => (none : xRes)) = some (o, μ') → W p l e R s m args below meth c H locs cells slots Q (F0 m pc lsA st) := by
    intro i hi h
    split at h
    · rename_i v hv
      obtain ⟨eo, em⟩ := Prod.mk.inj (Option.some.inj h)
      subst em
      have h1 : cells = mc := by omega
      have h2 : slots = ms := by omega
      rw [h1, h2]
      exact hend i pc st v H locs lsA hi hv eo.symm hM hS hL.1
    · cases h
  cases i
  case aconst_null =>
    simp only [xstep] at h
    exact lv_null hx hb (xins_len hi rfl (by decide)) (hK _ _ _ _ _ _ _ _ _ h hM hS hL hc hs)
  case iconst n =>
    simp only [xstep] at h
    exact lv_iconst hx hb (xins_len hi rfl (by decide)) rfl (hK _ _ _ _ _ _ _ _ _ h hM hS hL hc hs)
  case bipush n =>
    simp only [xstep] at h
    exact lv_bipush hx hb (xins_len hi rfl (by decide)) rfl (hK _ _ _ _ _ _ _ _ _ h hM hS hL hc hs)
  case sipush n =>
    simp only [xstep] at h
    exact lv_sipush hx hb (xins_len hi rfl (by decide)) rfl (hK _ _ _ _ _ _ _ _ _ h hM hS hL hc hs)
  case lconst n =>
    simp only [xstep] at h
    exact lv_lconst hx hb (xins_len hi rfl (by decide)) rfl (hK _ _ _ _ _ _ _ _ _ h hM hS hL hc hs)
  case dconst n =>
    simp only [xstep] at h
    by_cases hn : n = 0
    · subst hn
      exact lv_dconst0 hx hb (xins_len hi rfl (by decide)) (hK _ _ _ _ _ _ _ _ _ h hM hS hL hc hs)
    · have hn1 : n = 1 := by omega
      subst hn1
      exact lv_dconst1 hx hb (xins_len hi rfl (by decide)) (hK _ _ _ _ _ _ _ _ _ h hM hS hL hc hs)
  case ldc j =>
    simp only [xstep] at h
    split at h
    · rename_i v hv
      exact lv_ldc hx hb hown (hts _ (xCi_of hv)) (xins_len hi rfl (by decide)) (hK _ _ _ _ _ _ _ _ _ h hM hS hL hc hs)
    · cases h
  case ldc_w j =>
    simp only [xstep] at h
    split at h
    · rename_i v hv
      exact lv_ldcw hx hb hown (hts _ (xCi_of hv)) (xins_len hi rfl (by decide)) (hK _ _ _ _ _ _ _ _ _ h hM hS hL hc hs)
    · cases h
  case ldc2_w j =>
    simp only [xstep] at h
    split at h
    · rename_i v hv
      exact lv_ldc2 hx hb hown (hts _ (xCl_of hv)) (xins_len hi rfl (by decide)) (hK _ _ _ _ _ _ _ _ _ h hM hS hL hc hs)
    · split at h
      · rename_i v hv
        exact lv_ldc2d hx hb hown (hts _ (xCd_of hv)) (xins_len hi rfl (by decide)) (hK _ _ _ _ _ _ _ _ _ h hM hS hL hc hs)
      · cases h
  case iload k =>
    simp only [xstep] at h
    obtain ⟨v, hv, ht, h⟩ := xld_i h
    obtain ⟨x, rfl⟩ := xtag0 ht
    exact lv_iload hx hb (xins_len hi rfl (by decide)) (hL.2.2.2 _ _ hv) (hK _ _ _ _ _ _ _ _ _ h hM hS hL hc hs)
  case iload_n k =>
    simp only [xstep] at h
    obtain ⟨v, hv, ht, h⟩ := xld_i h
    obtain ⟨x, rfl⟩ := xtag0 ht
    exact lv_iload_n hx hb (xins_len hi rfl (by decide)) rfl (hL.2.2.2 _ _ hv) (hK _ _ _ _ _ _ _ _ _ h hM hS hL hc hs)
  case lload k =>
    simp only [xstep] at h
    obtain ⟨v, hv, ht, h⟩ := xld_i h
    obtain ⟨x, rfl⟩ := xtag1 ht
    exact lv_lload hx hb (xins_len hi rfl (by decide)) (hL.2.2.2 _ _ hv) (hK _ _ _ _ _ _ _ _ _ h hM hS hL hc hs)
  case lload_n k =>
    simp only [xstep] at h
    obtain ⟨v, hv, ht, h⟩ := xld_i h
    obtain ⟨x, rfl⟩ := xtag1 ht
    exact lv_lload_n hx hb (xins_len hi rfl (by decide)) rfl (hL.2.2.2 _ _ hv) (hK _ _ _ _ _ _ _ _ _ h hM hS hL hc hs)
  case dload k =>
    simp only [xstep] at h
    obtain ⟨v, hv, ht, h⟩ := xld_i h
    obtain ⟨x, rfl⟩ := xtag2 ht
    exact lv_dload hx hb (xins_len hi rfl (by decide)) (hL.2.2.2 _ _ hv) (hK _ _ _ _ _ _ _ _ _ h hM hS hL hc hs)
  case dload_n k =>
    simp only [xstep] at h
    obtain ⟨v, hv, ht, h⟩ := xld_i h
    obtain ⟨x, rfl⟩ := xtag2 ht
    exact lv_dload_n hx hb (xins_len hi rfl (by decide)) rfl (hL.2.2.2 _ _ hv) (hK _ _ _ _ _ _ _ _ _ h hM hS hL hc hs)
  case aload k =>
    simp only [xstep] at h
    obtain ⟨v, hv, ht, h⟩ := xld_i h
    rcases xtag3 ht with rfl | ⟨x, rfl⟩
    · exact lv_aloadN hx hb (xins_len hi rfl (by decide)) (hL.2.2.2 _ _ hv) (hK _ _ _ _ _ _ _ _ _ h hM hS hL hc hs)
    · exact lv_aload hx hb (xins_len hi rfl (by decide)) (hL.2.2.2 _ _ hv) (hK _ _ _ _ _ _ _ _ _ h hM hS hL hc hs)
  case aload_n k =>
    simp only [xstep] at h
    obtain ⟨v, hv, ht, h⟩ := xld_i h
    rcases xtag3 ht with rfl | ⟨x, rfl⟩
    · exact lv_aload_nN hx hb (xins_len hi rfl (by decide)) rfl (hL.2.2.2 _ _ hv) (hK _ _ _ _ _ _ _ _ _ h hM hS hL hc hs)
    · exact lv_aload_n hx hb (xins_len hi rfl (by decide)) rfl (hL.2.2.2 _ _ hv) (hK _ _ _ _ _ _ _ _ _ h hM hS hL hc hs)
  case istore k =>
    simp only [xstep] at h
    obtain ⟨v, st, rfl, ht, hk, h⟩ := xs1_i h
    obtain ⟨x, rfl⟩ := xtag0 ht
    exact lv_istore hx hb (xins_len hi rfl (by decide)) hL.lv (by rw [← hll]; exact hk) rfl (fun ls1 hl1 => hK _ _ _ _ _ _ _ _ _ h hM hS (XL.s1 hll hl1) hc hs)
  case istore_n k =>
    simp only [xstep] at h
    obtain ⟨v, st, rfl, ht, hk, h⟩ := xs1_i h
    obtain ⟨x, rfl⟩ := xtag0 ht
    exact lv_istore_n hx hb (xins_len hi rfl (by decide)) rfl hL.lv (by rw [← hll]; exact hk) rfl (fun ls1 hl1 => hK _ _ _ _ _ _ _ _ _ h hM hS (XL.s1 hll hl1) hc hs)
  case lstore k =>
    simp only [xstep] at h
    obtain ⟨v, st, rfl, ht, hk, h⟩ := xs2_i h
    obtain ⟨x, rfl⟩ := xtag1 ht
    exact lv_lstore hx hb (xins_len hi rfl (by decide)) hL.lv (by rw [← hll]; exact hk) rfl (fun ls1 hl1 => hK _ _ _ _ _ _ _ _ _ h hM hS (XL.s2 hll (by rw [← hll]; exact hk) hl1) hc hs)
  case lstore_n k =>
    simp only [xstep] at h
    obtain ⟨v, st, rfl, ht, hk, h⟩ := xs2_i h
    obtain ⟨x, rfl⟩ := xtag1 ht
    exact lv_lstore_n hx hb (xins_len hi rfl (by decide)) rfl hL.lv (by rw [← hll]; exact hk) rfl (fun ls1 hl1 => hK _ _ _ _ _ _ _ _ _ h hM hS (XL.s2 hll (by rw [← hll]; exact hk) hl1) hc hs)
  case dstore k =>
    simp only [xstep] at h
    obtain ⟨v, st, rfl, ht, hk, h⟩ := xs2_i h
    obtain ⟨x, rfl⟩ := xtag2 ht
    exact lv_dstore hx hb (xins_len hi rfl (by decide)) hL.lv (by rw [← hll]; exact hk) rfl (fun ls1 hl1 => hK _ _ _ _ _ _ _ _ _ h hM hS (XL.s2 hll (by rw [← hll]; exact hk) hl1) hc hs)
  case dstore_n k =>
    simp only [xstep] at h
    obtain ⟨v, st, rfl, ht, hk, h⟩ := xs2_i h
    obtain ⟨x, rfl⟩ := xtag2 ht
    exact lv_dstore_n hx hb (xins_len hi rfl (by decide)) rfl hL.lv (by rw [← hll]; exact hk) rfl (fun ls1 hl1 => hK _ _ _ _ _ _ _ _ _ h hM hS (XL.s2 hll (by rw [← hll]; exact hk) hl1) hc hs)
  case astore k =>
    simp only [xstep] at h
    obtain ⟨v, st, rfl, ht, hk, h⟩ := xs1_i h
    rcases xtag3 ht with rfl | ⟨x, rfl⟩
    · exact lv_astoreN hx hb (xins_len hi rfl (by decide)) hL.lv (by rw [← hll]; exact hk) rfl (fun ls1 hl1 => hK _ _ _ _ _ _ _ _ _ h hM hS (XL.s1 hll hl1) hc hs)
    · exact lv_astore hx hb (xins_len hi rfl (by decide)) hL.lv (by rw [← hll]; exact hk) rfl (fun ls1 hl1 => hK _ _ _ _ _ _ _ _ _ h hM hS (XL.s1 hll hl1) hc hs)
  case astore_n k =>
    simp only [xstep] at h
    obtain ⟨v, st, rfl, ht, hk, h⟩ := xs1_i h
    rcases xtag3 ht with rfl | ⟨x, rfl⟩
    · exact lv_astore_nN hx hb (xins_len hi rfl (by decide)) rfl hL.lv (by rw [← hll]; exact hk) rfl (fun ls1 hl1 => hK _ _ _ _ _ _ _ _ _ h hM hS (XL.s1 hll hl1) hc hs)
    · exact lv_astore_n hx hb (xins_len hi rfl (by decide)) rfl hL.lv (by rw [← hll]; exact hk) rfl (fun ls1 hl1 => hK _ _ _ _ _ _ _ _ _ h hM hS (XL.s1 hll hl1) hc hs)
  case iinc k n =>
    simp only [xstep] at h
    split at h
    · rename_i x hv
      have hk : k < xL y := by rw [← hll]; exact (List.getElem?_eq_some_iff.mp hv).1
      obtain ⟨k9, hk9⟩ := List.getElem?_of_mem (xll_mem.mpr (show ls[(k, Value.int x).1]? = some (some (k, Value.int x).2) from hv))
      exact lv_iinc hx hb (xins_len hi rfl (by decide)) hL.lv hk9 rfl hk rfl (fun ls1 hl1 => hK _ _ _ _ _ _ _ _ _ h hM hS (XL.s1 hll hl1) hc hs)
    · cases h
  case iadd =>
    simp only [xstep] at h
    split at h
    · exact lv_iadd hx hb (xins_len hi rfl (by decide)) (hK _ _ _ _ _ _ _ _ _ h hM hS hL hc hs)
    · cases h
  case isub =>
    simp only [xstep] at h
    split at h
    · exact lv_isub hx hb (xins_len hi rfl (by decide)) (hK _ _ _ _ _ _ _ _ _ h hM hS hL hc hs)
    · cases h
  case imul =>
    simp only [xstep] at h
    split at h
    · exact lv_imul hx hb (xins_len hi rfl (by decide)) (hK _ _ _ _ _ _ _ _ _ h hM hS hL hc hs)
    · cases h
  case ixor =>
    simp only [xstep] at h
    split at h
    · exact lv_ixor hx hb (xins_len hi rfl (by decide)) (hK _ _ _ _ _ _ _ _ _ h hM hS hL hc hs)
    · cases h
  case iand =>
    simp only [xstep] at h
    split at h
    · exact lv_iand hx hb (xins_len hi rfl (by decide)) (hK _ _ _ _ _ _ _ _ _ h hM hS hL hc hs)
    · cases h
  case ladd =>
    simp only [xstep] at h
    split at h
    · exact lv_ladd hx hb (xins_len hi rfl (by decide)) (hK _ _ _ _ _ _ _ _ _ h hM hS hL hc hs)
    · cases h
  case lsub =>
    simp only [xstep] at h
    split at h
    · exact lv_lsub hx hb (xins_len hi rfl (by decide)) (hK _ _ _ _ _ _ _ _ _ h hM hS hL hc hs)
    · cases h
  case lmul =>
    simp only [xstep] at h
    split at h
    · exact lv_lmul hx hb (xins_len hi rfl (by decide)) (hK _ _ _ _ _ _ _ _ _ h hM hS hL hc hs)
    · cases h
  case idiv =>
    simp only [xstep] at h
    split at h
    · split at h
      · cases h
      · rename_i hne
        exact lv_idiv hx hb (xins_len hi rfl (by decide)) hne (hK _ _ _ _ _ _ _ _ _ h hM hS hL hc hs)
    · cases h
  case irem =>
    simp only [xstep] at h
    split at h
    · split at h
      · cases h
      · rename_i hne
        exact lv_irem hx hb (xins_len hi rfl (by decide)) hne (hK _ _ _ _ _ _ _ _ _ h hM hS hL hc hs)
    · cases h
  case ldiv =>
    simp only [xstep] at h
    split at h
    · split at h
      · cases h
      · rename_i hne
        exact lv_ldiv hx hb (xins_len hi rfl (by decide)) hne (hK _ _ _ _ _ _ _ _ _ h hM hS hL hc hs)
    · cases h
  case lshl =>
    simp only [xstep] at h
    split at h
    · exact lv_lshl hx hb (xins_len hi rfl (by decide)) rfl (hK _ _ _ _ _ _ _ _ _ h hM hS hL hc hs)
    · cases h
  case dmul =>
    simp only [xstep] at h
    split at h
    · split at h
      · rename_i hne
        exact lv_dmul hx hb (xins_len hi rfl (by decide)) hne (hK _ _ _ _ _ _ _ _ _ h hM hS hL hc hs)
      · cases h
    · cases h
  case dsub =>
    simp only [xstep] at h
    split at h
    · split at h
      · rename_i hne
        exact lv_dsub hx hb (xins_len hi rfl (by decide)) hne (hK _ _ _ _ _ _ _ _ _ h hM hS hL hc hs)
      · cases h
    · cases h
  case ddiv =>
    simp only [xstep] at h
    split at h
    · split at h
      · rename_i hne
        exact lv_ddiv hx hb (xins_len hi rfl (by decide)) hne (hK _ _ _ _ _ _ _ _ _ h hM hS hL hc hs)
      · cases h
    · cases h
  case i2l =>
    simp only [xstep] at h
    split at h
    · exact lv_i2l hx hb (xins_len hi rfl (by decide)) rfl (hK _ _ _ _ _ _ _ _ _ h hM hS hL hc hs)
    · cases h
  case l2i =>
    simp only [xstep] at h
    split at h
    · exact lv_l2i hx hb (xins_len hi rfl (by decide)) rfl (hK _ _ _ _ _ _ _ _ _ h hM hS hL hc hs)
    · cases h
  case i2c =>
    simp only [xstep] at h
    split at h
    · exact lv_i2c hx hb (xins_len hi rfl (by decide)) rfl (hK _ _ _ _ _ _ _ _ _ h hM hS hL hc hs)
    · cases h
  case l2d =>
    simp only [xstep] at h
    split at h
    · exact lv_l2d hx hb (xins_len hi rfl (by decide)) (hK _ _ _ _ _ _ _ _ _ h hM hS hL hc hs)
    · cases h
  case d2l =>
    simp only [xstep] at h
    split at h
    · exact lv_d2l hx hb (xins_len hi rfl (by decide)) (hK _ _ _ _ _ _ _ _ _ h hM hS hL hc hs)
    · cases h
  case lcmp =>
    simp only [xstep] at h
    split at h
    · exact W.lcmp hx hb (xins_len hi rfl (by decide)) (hK _ _ _ _ _ _ _ _ _ h hM hS hL hc hs)
    · cases h
  case dcmp op =>
    simp only [xstep] at h
    split at h
    · exact lv_dcmp hx hb (xins_len hi rfl (by decide)) (hK _ _ _ _ _ _ _ _ _ h hM hS hL hc hs)
    · cases h
  case ifCond op off =>
    simp only [xstep] at h
    split at h
    · obtain ⟨ht, h1, h2⟩ := xbr_i h
      cases op
      · exact lv_if_eq hx hb (xins_len hi rfl (by decide)) ht (fun z => hK _ _ _ _ _ _ _ _ _ (h1 (decide_eq_true z)) hM hS hL hc hs) (fun z => hK _ _ _ _ _ _ _ _ _ (h2 (decide_eq_false z)) hM hS hL hc hs)
      · exact lv_if_ne hx hb (xins_len hi rfl (by decide)) ht (fun z => hK _ _ _ _ _ _ _ _ _ (h1 (decide_eq_true z)) hM hS hL hc hs) (fun z => hK _ _ _ _ _ _ _ _ _ (h2 (decide_eq_false (fun n => n z))) hM hS hL hc hs)
      · exact lv_if_lt hx hb (xins_len hi rfl (by decide)) ht (fun z => hK _ _ _ _ _ _ _ _ _ (h1 (decide_eq_true z)) hM hS hL hc hs) (fun z => hK _ _ _ _ _ _ _ _ _ (h2 (decide_eq_false z)) hM hS hL hc hs)
      · exact lv_if_ge hx hb (xins_len hi rfl (by decide)) ht (fun z => hK _ _ _ _ _ _ _ _ _ (h1 (decide_eq_true z)) hM hS hL hc hs) (fun z => hK _ _ _ _ _ _ _ _ _ (h2 (decide_eq_false z)) hM hS hL hc hs)
      · exact lv_if_gt hx hb (xins_len hi rfl (by decide)) ht (fun z => hK _ _ _ _ _ _ _ _ _ (h1 (decide_eq_true z)) hM hS hL hc hs) (fun z => hK _ _ _ _ _ _ _ _ _ (h2 (decide_eq_false z)) hM hS hL hc hs)
      · exact lv_if_le hx hb (xins_len hi rfl (by decide)) ht (fun z => hK _ _ _ _ _ _ _ _ _ (h1 (decide_eq_true z)) hM hS hL hc hs) (fun z => hK _ _ _ _ _ _ _ _ _ (h2 (decide_eq_false z)) hM hS hL hc hs)
    · cases h
  case if_icmp op off =>
    simp only [xstep] at h
    split at h
    · obtain ⟨ht, h1, h2⟩ := xbr_i h
      cases op
      · exact lv_icmp_eq hx hb (xins_len hi rfl (by decide)) ht (fun z => hK _ _ _ _ _ _ _ _ _ (h1 (decide_eq_true z)) hM hS hL hc hs) (fun z => hK _ _ _ _ _ _ _ _ _ (h2 (decide_eq_false z)) hM hS hL hc hs)
      · exact lv_icmp_ne hx hb (xins_len hi rfl (by decide)) ht (fun z => hK _ _ _ _ _ _ _ _ _ (h1 (decide_eq_true z)) hM hS hL hc hs) (fun z => hK _ _ _ _ _ _ _ _ _ (h2 (decide_eq_false (fun n => n z))) hM hS hL hc hs)
      · exact lv_icmp_lt hx hb (xins_len hi rfl (by decide)) ht (fun z => hK _ _ _ _ _ _ _ _ _ (h1 (decide_eq_true z)) hM hS hL hc hs) (fun z => hK _ _ _ _ _ _ _ _ _ (h2 (decide_eq_false z)) hM hS hL hc hs)
      · exact lv_icmp_ge hx hb (xins_len hi rfl (by decide)) ht (fun z => hK _ _ _ _ _ _ _ _ _ (h1 (decide_eq_true z)) hM hS hL hc hs) (fun z => hK _ _ _ _ _ _ _ _ _ (h2 (decide_eq_false z)) hM hS hL hc hs)
      · exact lv_icmp_gt hx hb (xins_len hi rfl (by decide)) ht (fun z => hK _ _ _ _ _ _ _ _ _ (h1 (decide_eq_true z)) hM hS hL hc hs) (fun z => hK _ _ _ _ _ _ _ _ _ (h2 (decide_eq_false z)) hM hS hL hc hs)
      · exact lv_icmp_le hx hb (xins_len hi rfl (by decide)) ht (fun z => hK _ _ _ _ _ _ _ _ _ (h1 (decide_eq_true z)) hM hS hL hc hs) (fun z => hK _ _ _ _ _ _ _ _ _ (h2 (decide_eq_false z)) hM hS hL hc hs)
    · cases h
  case if_acmp op off =>
    simp only [xstep] at h
    split at h
    · rename_i b a st
      obtain ⟨ht, h1, h2⟩ := xbr_i h
      exact lv_acmp_eq (rx := some a) (ry := some b) hx hb (xins_len hi rfl (by decide)) ht (fun z => hK _ _ _ _ _ _ _ _ _ (h1 (decide_eq_true (Option.some.inj z))) hM hS hL hc hs) (fun z => hK _ _ _ _ _ _ _ _ _ (h2 (decide_eq_false (fun n => z (congrArg some n)))) hM hS hL hc hs)
    · rename_i b a st
      obtain ⟨ht, h1, h2⟩ := xbr_i h
      exact lv_acmp_ne (rx := some a) (ry := some b) hx hb (xins_len hi rfl (by decide)) ht (fun z => hK _ _ _ _ _ _ _ _ _ (h1 (decide_eq_true (fun n => z (congrArg some n)))) hM hS hL hc hs) (fun z => hK _ _ _ _ _ _ _ _ _ (h2 (decide_eq_false (fun n => n (Option.some.inj z)))) hM hS hL hc hs)
    · cases h
  case ifnull off =>
    simp only [xstep] at h
    split at h
    · exact lv_ifnull hx hb (xins_len hi rfl (by decide)) (hK _ _ _ _ _ _ _ _ _ h hM hS hL hc hs)
    · obtain ⟨ht, h⟩ := xjmp_i h
      exact lv_ifnullN hx hb (xins_len hi rfl (by decide)) ht (hK _ _ _ _ _ _ _ _ _ h hM hS hL hc hs)
    · cases h
  case ifnonnull off =>
    simp only [xstep] at h
    split at h
    · obtain ⟨ht, h⟩ := xjmp_i h
      exact lv_ifnonnull hx hb (xins_len hi rfl (by decide)) ht (hK _ _ _ _ _ _ _ _ _ h hM hS hL hc hs)
    · exact lv_ifnonnullN hx hb (xins_len hi rfl (by decide)) (hK _ _ _ _ _ _ _ _ _ h hM hS hL hc hs)
    · cases h
  case goto off =>
    simp only [xstep] at h
    obtain ⟨ht, h⟩ := xjmp_i h
    exact lv_goto hx hb (xins_len hi rfl (by decide)) ht (hK _ _ _ _ _ _ _ _ _ h hM hS hL hc hs)
  case dup =>
    simp only [xstep] at h
    split at h
    · split at h
      · rename_i hv
        exact lv_dup hx hb (xins_len hi rfl (by decide)) hv (hK _ _ _ _ _ _ _ _ _ h hM hS hL hc hs)
      · cases h
    · cases h
  case dup2 =>
    simp only [xstep] at h
    split at h
    · exact lv_dup2_2 hx hb (xins_len hi rfl (by decide)) rfl (hK _ _ _ _ _ _ _ _ _ h hM hS hL hc hs)
    · split at h
      · rename_i hv
        exact lv_dup2_11 hx hb (xins_len hi rfl (by decide)) rfl hv (hK _ _ _ _ _ _ _ _ _ h hM hS hL hc hs)
      · cases h
    · cases h
  case pop =>
    simp only [xstep] at h
    split at h
    · split at h
      · rename_i hv
        exact lv_pop hx hb (xins_len hi rfl (by decide)) hv (hK _ _ _ _ _ _ _ _ _ h hM hS hL hc hs)
      · cases h
    · cases h
  case getfield j =>
    simp only [xstep] at h
    split at h
    · split at h
      · rename_i hl hk
        exact xr_get C E hM hl hk (xins_len hi rfl (by decide)) (hK _ _ _ _ _ _ _ _ _ h hM hS hL hc hs)
      · cases h
    · cases h
  case putfield j =>
    simp only [xstep] at h
    split at h
    · rename_i hl
      exact xput_sound C E hK hl (xins_len hi rfl (by decide)) h hM hS hL hc hs
    · cases h
  case getstatic j =>
    simp only [xstep] at h
    split at h
    · rename_i hl
      exact xr_sta C E hS hl (xins_len hi rfl (by decide)) (hK _ _ _ _ _ _ _ _ _ h hM hS hL hc hs)
    · cases h
  case iaload =>
    simp only [xstep] at h
    split at h
    · split at h
      · rename_i hk
        split at h
        · cases h
        · rename_i hin
          exact xr_iald C E hM hk hin (xins_len hi rfl (by decide)) (hK _ _ _ _ _ _ _ _ _ h hM hS hL hc hs)
      · split at h
        · rename_i hg
          split at h
          · cases h
          · rename_i hin
            exact xr_tald C E hS hg hin (xins_len hi rfl (by decide)) (hK _ _ _ _ _ _ _ _ _ h hM hS hL hc hs)
        · cases h
    · cases h
  case laload =>
    simp only [xstep] at h
    split at h
    · split at h
      · rename_i hk
        exact xr_lald C E hM hk.1 hk.2 (xins_len hi rfl (by decide)) (hK _ _ _ _ _ _ _ _ _ h hM hS hL hc hs)
      · cases h
    · cases h
  case baload =>
    simp only [xstep] at h
    split at h
    · split at h
      · rename_i hk
        exact xr_zald C E hM hk.1 hk.2 (xins_len hi rfl (by decide)) (hK _ _ _ _ _ _ _ _ _ h hM hS hL hc hs)
      · cases h
    · cases h
  case caload =>
    simp only [xstep] at h
    split at h
    · split at h
      · rename_i hk
        exact xr_cald C E hM hk.1 hk.2 (xins_len hi rfl (by decide)) (hK _ _ _ _ _ _ _ _ _ h hM hS hL hc hs)
      · cases h
    · cases h
  case aaload =>
    simp only [xstep] at h
    split at h
    · split at h
      · rename_i hk
        exact xr_aald C E hM hk.1 hk.2 (xins_len hi rfl (by decide)) (hK _ _ _ _ _ _ _ _ _ h hM hS hL hc hs)
      · cases h
    · cases h
  case iastore =>
    simp only [xstep] at h
    split at h
    · split at h
      · rename_i hk
        exact xr_iast C E hM hS hk.1 hk.2 (xins_len hi rfl (by decide)) (fun H1 locs1 hM1 hS1 => hK _ _ _ _ _ _ _ _ _ h hM1 hS1 hL hc hs)
      · cases h
    · cases h
  case lastore =>
    simp only [xstep] at h
    split at h
    · split at h
      · rename_i hk
        exact xr_last C E hM hS hk.1 hk.2 (xins_len hi rfl (by decide)) (fun H1 locs1 hM1 hS1 => hK _ _ _ _ _ _ _ _ _ h hM1 hS1 hL hc hs)
      · cases h
    · cases h
  case bastore =>
    simp only [xstep] at h
    split at h
    · split at h
      · rename_i hk
        exact xr_zast C E hM hS hk.1 hk.2.1 hk.2.2 (xins_len hi rfl (by decide)) (fun H1 locs1 hM1 hS1 => hK _ _ _ _ _ _ _ _ _ h hM1 hS1 hL hc hs)
      · cases h
    · cases h
  case castore =>
    simp only [xstep] at h
    split at h
    · split at h
      · rename_i hk
        exact xr_cast C E hM hS hk.1 hk.2.1 hk.2.2 (xins_len hi rfl (by decide)) (fun H1 locs1 hM1 hS1 => hK _ _ _ _ _ _ _ _ _ h hM1 hS1 hL hc hs)
      · cases h
    · cases h
  case aastore =>
    simp only [xstep] at h
    split at h
    · split at h
      · rename_i hk
        rcases hk.1 with ⟨k1, k2⟩ | ⟨k1, k2⟩
        · exact xr_aast C E hM hS (t0 := 4) (ci := 3) k1 (Or.inl rfl) rfl k2 (by decide) rfl hk.2 (xins_len hi rfl (by decide)) (fun H1 locs1 hM1 hS1 => hK _ _ _ _ _ _ _ _ _ h hM1 hS1 hL hc hs)
        · exact xr_aast C E hM hS (t0 := 5) (ci := 5) k1 (Or.inr rfl) rfl k2 (by decide) rfl hk.2 (xins_len hi rfl (by decide)) (fun H1 locs1 hM1 hS1 => hK _ _ _ _ _ _ _ _ _ h hM1 hS1 hL hc hs)
      · cases h
    · cases h
  case arraylength =>
    simp only [xstep] at h
    split at h
    · split at h
      · rename_i hk
        exact xr_alen C E hM hk.1 hk.2 (xins_len hi rfl (by decide)) (hK _ _ _ _ _ _ _ _ _ h hM hS hL hc hs)
      · split at h
        · rename_i hg
          exact xr_tlen C E hS hg (xins_len hi rfl (by decide)) (hK _ _ _ _ _ _ _ _ _ h hM hS hL hc hs)
        · cases h
    · cases h
  case new j =>
    simp only [xstep] at h
    split at h
    · rename_i a ci z hl
      split at h
      · rename_i hf
        have z9 : xCc μ + 1 ≤ xCc μ' ∧ xCs μ + xNf ci ≤ xCs μ' := hKm h
        exact xr_new C E hM hS hf hl (by omega) (by omega) (xins_len hi rfl (by decide)) (fun H1 hM1 hS1 => hK _ _ _ _ _ _ _ _ _ h hM1 hS1 hL (by show cells + 1 + xCc μ' = mc + (xCc μ + 1); omega) (by show slots + xNf ci + xCs μ' = ms + (xCs μ + xNf ci); omega))
      · cases h
    · split at h
      · rename_i X hX
        exact hthr X j pc st μ H locs cells slots lsA hi hX h hM hS hL.1 hc hs
      · cases h
  case newarray ty9 =>
    simp only [xstep] at h
    split at h
    · rename_i n st
      split at h
      · rename_i hcond
        obtain ⟨hf, hn, h6⟩ := hcond
        split at h
        · have z9 : xCc μ + 1 ≤ xCc μ' ∧ xCs μ + n.toNatClampNeg ≤ xCs μ' := hKm h
          exact xr_newa C E hM hS hf (at' := .int) (k := 9) (k0 := 0) hn h6 (xarr_in (List.mem_of_getElem? (i := 0) rfl)) rfl (by decide) (fun _ h => h) (Or.inl ⟨Or.inl rfl, rfl⟩) (by omega) (by omega) (xins_len hi rfl (by decide)) (fun H1 hM1 hS1 => hK _ _ _ _ _ _ _ _ _ h hM1 hS1 hL (by show cells + 1 + xCc μ' = mc + (xCc μ + 1); omega) (by show slots + n.toNatClampNeg + xCs μ' = ms + (xCs μ + n.toNatClampNeg); omega))
        · have z9 : xCc μ + 1 ≤ xCc μ' ∧ xCs μ + n.toNatClampNeg ≤ xCs μ' := hKm h
          exact xr_newa C E hM hS hf (at' := .char) (k := 10) (k0 := 1) hn h6 (xarr_in (List.mem_of_getElem? (i := 1) rfl)) rfl (by decide) (fun _ h => h) (Or.inl ⟨Or.inr (Or.inl rfl), rfl⟩) (by omega) (by omega) (xins_len hi rfl (by decide)) (fun H1 hM1 hS1 => hK _ _ _ _ _ _ _ _ _ h hM1 hS1 hL (by show cells + 1 + xCc μ' = mc + (xCc μ + 1); omega) (by show slots + n.toNatClampNeg + xCs μ' = ms + (xCs μ + n.toNatClampNeg); omega))
        · have z9 : xCc μ + 1 ≤ xCc μ' ∧ xCs μ + n.toNatClampNeg ≤ xCs μ' := hKm h
          exact xr_newa C E hM hS hf (at' := .boolean) (k := 11) (k0 := 2) hn h6 (xarr_in (List.mem_of_getElem? (i := 2) rfl)) rfl (by decide) (fun _ h => h) (Or.inl ⟨Or.inr (Or.inr rfl), rfl⟩) (by omega) (by omega) (xins_len hi rfl (by decide)) (fun H1 hM1 hS1 => hK _ _ _ _ _ _ _ _ _ h hM1 hS1 hL (by show cells + 1 + xCc μ' = mc + (xCc μ + 1); omega) (by show slots + n.toNatClampNeg + xCs μ' = ms + (xCs μ + n.toNatClampNeg); omega))
        · have z9 : xCc μ + 1 ≤ xCc μ' ∧ xCs μ + n.toNatClampNeg ≤ xCs μ' := hKm h
          exact xr_newa C E hM hS hf (at' := .long) (k := 12) (k0 := 3) hn h6 (xarr_in (List.mem_of_getElem? (i := 3) rfl)) rfl (by decide) (fun _ h => h) (Or.inr ⟨rfl, rfl⟩) (by omega) (by omega) (xins_len hi rfl (by decide)) (fun H1 hM1 hS1 => hK _ _ _ _ _ _ _ _ _ h hM1 hS1 hL (by show cells + 1 + xCc μ' = mc + (xCc μ + 1); omega) (by show slots + n.toNatClampNeg + xCs μ' = ms + (xCs μ + n.toNatClampNeg); omega))
        · cases h
      · cases h
    · cases h
  case anewarray j =>
    simp only [xstep] at h
    split at h
    · rename_i a ci z n st hl
      split at h
      · rename_i hcond
        obtain ⟨hf, hn, h6⟩ := hcond
        split at h
        · rename_i h3
          subst h3
          have z9 : xCc μ + 1 ≤ xCc μ' ∧ xCs μ + n.toNatClampNeg ≤ xCs μ' := hKm h
          exact xr_anew C E hM hS hf hl (k := 13) (k0 := 4) hn h6 E.2.2.2.2.1.1 rfl (Or.inl rfl) (by omega) (by omega) (xins_len hi rfl (by decide)) (fun H1 hM1 hS1 => hK _ _ _ _ _ _ _ _ _ h hM1 hS1 hL (by show cells + 1 + xCc μ' = mc + (xCc μ + 1); omega) (by show slots + n.toNatClampNeg + xCs μ' = ms + (xCs μ + n.toNatClampNeg); omega))
        · split at h
          · rename_i h5
            subst h5
            have z9 : xCc μ + 1 ≤ xCc μ' ∧ xCs μ + n.toNatClampNeg ≤ xCs μ' := hKm h
            exact xr_anew C E hM hS hf hl (k := 14) (k0 := 5) hn h6 E.2.2.2.2.1.2 rfl (Or.inr rfl) (by omega) (by omega) (xins_len hi rfl (by decide)) (fun H1 hM1 hS1 => hK _ _ _ _ _ _ _ _ _ h hM1 hS1 hL (by show cells + 1 + xCc μ' = mc + (xCc μ + 1); omega) (by show slots + n.toNatClampNeg + xCs μ' = ms + (xCs μ + n.toNatClampNeg); omega))
          · cases h
      · cases h
    · cases h
  case tableswitch d lo hi9 offs =>
    simp only [xstep] at h
    obtain ⟨n9, hd9, -⟩ := xins_of hi
    split at h
    · split at h
      · rename_i hout
        obtain ⟨ht, h⟩ := xjmp_i h
        exact lv_tableOut hx hb hd9 hout ht (hK _ _ _ _ _ _ _ _ _ h hM hS hL hc hs)
      · rename_i hin
        split at h
        · rename_i off hoff
          obtain ⟨ht, h⟩ := xjmp_i h
          exact lv_tableIn hx hb hd9 (fun z => hin (Or.inl z)) (fun z => hin (Or.inr z)) hoff ht (hK _ _ _ _ _ _ _ _ _ h hM hS hL hc hs)
        · cases h
    · cases h
  case lookupswitch d ps =>
    simp only [xstep] at h
    obtain ⟨n9, hd9, -⟩ := xins_of hi
    split at h
    · split at h
      · rename_i hp
        obtain ⟨ht, h⟩ := xjmp_i h
        exact lv_lookup hx hb hd9 hp rfl ht (hK _ _ _ _ _ _ _ _ _ h hM hS hL hc hs)
      · cases h
    · cases h
  case ireturn =>
    simp only [xstep] at h
    exact ret hi h
  case lreturn =>
    simp only [xstep] at h
    exact ret hi h
  case dreturn =>
    simp only [xstep] at h
    exact ret hi h
  case areturn =>
    simp only [xstep] at h
    exact ret hi h
  case return_ =>
    simp only [xstep] at h
    exact ret hi h
  case invokestatic j =>
    simp only [xstep] at h
    split at h
    · rename_i o9 a0 z9 hl
      split at h
      · rename_i hcond
        obtain ⟨rfl, hf, ho⟩ := hcond
        unfold xcopy at h
        split at h
        · split at h
          · rename_i hin
            obtain ⟨g1, g2, g3, g4, g5, g6⟩ := hin
            split at h
            · rename_i hk
              exact xr_copy C E hM hS hL.1 hl hf ho g6 g1 g2 g3 g4 g5 (xins_len hi rfl (by decide)) (Or.inl ⟨hk.1, hk.2, rfl⟩) (fun H1 locs1 hM1 hS1 => hK _ _ _ _ _ _ _ _ _ h hM1 hS1 hL hc hs)
            · split at h
              · rename_i hk
                exact xr_copy C E hM hS hL.1 hl hf ho g6 g1 g2 g3 g4 g5 (xins_len hi rfl (by decide)) (Or.inr ⟨hk.1, hk.2, rfl⟩) (fun H1 locs1 hM1 hS1 => hK _ _ _ _ _ _ _ _ _ h hM1 hS1 hL hc hs)
              · cases h
          · cases h
        · cases h
      · cases h
    · split at h
      · rename_i hl
        exact xcall_sound C E hK hKm hCm hR hcR hcX hl (Or.inl ⟨rfl, (xins_len hi rfl (by decide))⟩) h hM hS hL hc hs
      · cases h
  case invokevirtual j =>
    simp only [xstep] at h
    split at h
    · rename_i hl
      exact xcall_sound C E hK hKm hCm hR hcR hcX hl (Or.inr (Or.inl ⟨rfl, (xins_len hi rfl (by decide))⟩)) h hM hS hL hc hs
    · cases h
  case invokespecial j =>
    simp only [xstep] at h
    split at h
    · rename_i hl
      split at h
      · split at h
        · rename_i hcond
          obtain ⟨rfl, hf, ho, h8⟩ := hcond
          exact xr_obj C (lsz := hL.1) hl hf ho h8 (xins_len hi rfl (by decide)) (hK _ _ _ _ _ _ _ _ _ h hM hS hL hc hs)
        · cases h
      · cases h
    · split at h
      · rename_i hl
        exact xcall_sound C E hK hKm hCm hR hcR hcX hl (Or.inr (Or.inr ⟨rfl, (xins_len hi rfl (by decide))⟩)) h hM hS hL hc hs
      · cases h
  all_goals (simp only [xstep] at h; cases h)
end XSA
