/-! A RUN OF THE INTERPRETER IS THE METHOD's CONTRACT -/
def xXn : List String := ["java/lang/RuntimeException", "java/lang/Exception"]
theorem xTl_c : xTl.all (fun e => decide (e.1 = 6) && decide (e.2.2 < 3)) = true := by decide +kernel
theorem xTw_ok : ∀ X, X < 3 → ((vx_atS (xcn 6) (xXi X) (xen X) xXn).all (fun w => vx_ot w && (if goodWord w = true then decide (w ∈ lw_tbl) else (decide (w = Cond.castable (xen X) (xen X)) || decide (w ∈ xDl.map Cond.declares)))) && (Bundle.fit (xen X) && xXn.all (fun n => Bundle.fit n))) = true := by decide +kernel
theorem xTl_w : xAt lw_tbl (xTl.flatMap (fun e => [Cond.classLink (xcn e.1) e.2.1 (xen e.2.2), Cond.initialized (xen e.2.2)])) [532, 73, 455, 74, 666, 77] = true := by decide +kernel
theorem xTl_of {o j X : Nat} (h : xkc xTl o j = some X) : o = 6 ∧ X < 3 ∧ Cond.classLink (xcn o) j (xen X) ∈ xWs ∧ Cond.initialized (xen X) ∈ xWs := by
  have hm := xkc_mem h
  have hc := List.all_eq_true.mp xTl_c _ hm
  simp only [Bool.and_eq_true, decide_eq_true_eq] at hc
  exact ⟨hc.1, hc.2, xWs_mem (xAt_ok _ _ xTl_w _ (List.mem_flatMap.mpr ⟨_, hm, by simp⟩)), xWs_mem (xAt_ok _ _ xTl_w _ (List.mem_flatMap.mpr ⟨_, hm, by simp⟩))⟩
theorem xRep.ex {B : Nat} {D : va_G} {cA : Nat → ClassId} {μ : xMem} {H H1 : Heap} (hM : xRep B D cA μ H) (hz : H.size ≤ H1.size) (hq : ∀ q, q < H.size → H1[q]? = H[q]?) : xRep B D cA (xex μ) H1 := by
  obtain ⟨⟨g1, g2, g3⟩, g4, g5, g6, g7, g8⟩ := hM
  have lt : ∀ b, xKd μ b ≠ 0 → b < H.size := fun b hb => Nat.lt_of_lt_of_le (g4 b hb).2 g2
  refine ⟨⟨g1, Nat.le_trans g2 hz, fun h => absurd h (Nat.succ_ne_zero _)⟩, g4, fun b ci hb hc => (g5 b ci hb hc).kept (hq b (lt b (by have h9 : xKd μ b = ci + 1 := hb; omega))), fun b hb => ?_, fun b hb => ?_, fun b hb => ?_⟩
  · rw [hq b (lt b (by have h9 : xKd μ b = 9 ∨ xKd μ b = 10 ∨ xKd μ b = 11 := hb; omega))]; exact g6 b hb
  · rw [hq b (lt b (by have h9 : xKd μ b = 12 := hb; omega))]; exact g7 b hb
  · rw [hq b (lt b (by have h9 : xKd μ b = 13 ∨ xKd μ b = 14 := hb; omega))]; exact g8 b hb
theorem xthrow_o {y X pc : Nat} {st : List Value} {μ μ' : xMem} {o : xOut} (h : xthrow y X pc st μ = some (o, μ')) : o = .inr X := by
  unfold xthrow at h
  split at h
  · split at h
    · exact (Prod.mk.inj (Option.some.inj h)).1.symm
    · cases h
  · split at h
    · exact (Prod.mk.inj (Option.some.inj h)).1.symm
    · cases h
  · cases h
section XSD
variable {p : Program} {l : Launch} {e : Env} {R : Room} {s : State} {m : MethodId} {args : Array Value} {below : List Frame} {meth : Method} {c : Code} {H : Heap} {locs : List Loc} {cells slots : Nat}
variable {G : xCtx} {B : Nat} {D : va_G} {cA : Nat → ClassId} {μ μ' : xMem} {y pc : Nat} {mc ms : Nat}
theorem xend_ret (C : xHere p R s m args meth c y) {i : Instr} {st : List Value} {v : Option Value} {lsA : Array Slot} (hi : xins y pc = some i) (hv : xretf y i st = some v) (hM : xRep B D cA μ' H) (hS : va_S (fun q => B ≤ q) s.heap H locs) :
    W p l e R s m args below meth c H locs mc ms (MQ below (xQc B D cA μ' v) args s mc ms (fun q => B ≤ q)) (F0 m pc lsA st) := by
  obtain ⟨hx, hb, hml, hown, hts, hlocks, -, -, hr, -⟩ := C
  unfold xretf at hv
  split at hv
  · split at hv
    · rename_i v hc
      cases hv
      rcases hc with hc | ⟨hc, h01⟩
      · exact W.iret hx hb (hr.trans hc) (fun t ht hW => ⟨rfl, by rw [ht]; exact hM, hS.F ht⟩) hS.2.2 (xins_len hi rfl (by decide)) hlocks
      · exact W.zret hx hb (hr.trans hc) (by rcases h01 with rfl | rfl <;> decide +kernel) (fun t ht hW => ⟨rfl, by rw [ht]; exact hM, hS.F ht⟩) hS.2.2 (xins_len hi rfl (by decide)) hlocks
    · cases hv
  · split at hv
    · rename_i hc
      cases hv
      exact W.lret hx hb (hr.trans hc) (fun t ht hW => ⟨rfl, by rw [ht]; exact hM, hS.F ht⟩) hS.2.2 (xins_len hi rfl (by decide)) hlocks
    · cases hv
  · split at hv
    · rename_i hc
      cases hv
      exact W.dret hx hb (hr.trans hc) (fun t ht hW => ⟨rfl, by rw [ht]; exact hM, hS.F ht⟩) hS.2.2 (xins_len hi rfl (by decide)) hlocks
    · cases hv
  · split at hv
    · rename_i hc
      cases hv
      exact W.aret hx hb (hr.trans hc) (Or.inl ⟨_, rfl⟩) (Or.inr ⟨_, rfl⟩) (fun t ht hW => ⟨rfl, by rw [ht]; exact hM, hS.F ht⟩) hS.2.2 (xins_len hi rfl (by decide)) hlocks
    · cases hv
  · split at hv
    · rename_i hc
      cases hv
      exact W.aret hx hb (hr.trans hc) (Or.inl ⟨_, rfl⟩) (Or.inl rfl) (fun t ht hW => ⟨rfl, by rw [ht]; exact hM, hS.F ht⟩) hS.2.2 (xins_len hi rfl (by decide)) hlocks
    · cases hv
  · split at hv
    · rename_i hc
      cases hv
      exact W.vret hx hb (hr.trans hc) (fun t ht hW => ⟨rfl, by rw [ht]; exact hM, hS.F ht⟩) hS.2.2 (xins_len hi rfl (by decide)) hlocks
    · cases hv
  · cases hv
theorem xend_thr (hst : l.stackTraces = false) (C : xHere p R s m args meth c y) (E : xEnv G B D cA s) (hR : mc ≤ R.cells ∧ ms ≤ R.slots) {X X0 j : Nat} {st : List Value} {lsA : Array Slot} (hi : xins y pc = some (.new j)) (hX : xkc xTl (xown y) j = some X) (h : xthrow y X pc st μ = some (.inr X0, μ'))
    (hM : xRep B D cA μ H) (hS : va_S (fun q => B ≤ q) s.heap H locs) (hsz : lsA.size = xL y) (hc : cells + xCc μ' = mc + xCc μ) (hs : slots + xCs μ' = ms + xCs μ) :
    W p l e R s m args below meth c H locs cells slots (vx_MQ below (fun _ _ _ _ => False) (xXc B D cA μ' X0) args s mc ms (fun q => B ≤ q)) (F0 m pc lsA st) := by
  have hXX : X = X0 := (Sum.inr.inj (xthrow_o h)).symm
  subst hXX
  obtain ⟨hx, hb, hml, hown, hts, hlocks, -, hfr, hr, htab⟩ := C
  obtain ⟨h6, h3, w1, w2⟩ := xTl_of hX
  have hok := xTw_ok X h3
  simp only [Bool.and_eq_true, List.all_eq_true] at hok
  obtain ⟨hok1, hok2, hok3⟩ := hok
  have hat : ∀ w ∈ vx_atS (xcn (xown y)) (xXi X) (xen X) xXn, w.before args s = true := by
    rw [h6]
    intro w hw
    have h9 := (hok1 w hw).2
    split at h9
    · rename_i hg
      exact hts _ (xWs_mem ⟨hg, of_decide_eq_true h9⟩)
    · rcases (Bool.or_eq_true _ _).mp h9 with h9 | h9
      · rw [of_decide_eq_true h9]
        exact va_Nw.use (by rfl) (E.2.2.2.2.2.2.2.1.1 X h3)
      · obtain ⟨x, hx9, rfl⟩ := List.mem_map.mp (of_decide_eq_true h9)
        exact va_Nw.use (by rfl) (E.2.2.2.2.2.2.2.1.2 x hx9)
  have hgood : ∀ w ∈ Cond.classLink (xcn (xown y)) j (xen X) :: Cond.initialized (xen X) :: vx_atS (xcn (xown y)) (xXi X) (xen X) xXn, vx_ot w = true := by
    intro w hw
    rcases List.mem_cons.mp hw with e | hw
    · rw [e]; unfold vx_ot; rw [xWs_good w1, Bool.or_true]
    · rcases List.mem_cons.mp hw with e | hw
      · rw [e]; unfold vx_ot; rw [xWs_good w2, Bool.or_true]
      · rw [h6] at hw
        exact (hok1 w hw).1
  unfold xthrow at h
  split at h
  · rename_i j2 i4
    split at h
    · rename_i hcond
      obtain ⟨⟨d3, hH, f7, o120, hst8, i6, i9⟩, hsome⟩ := hcond
      obtain ⟨tx, htx⟩ := Option.isSome_iff_exists.mp hsome
      obtain ⟨sa, hsa⟩ := E.2.2.2.2.2.1 _ (xkc_mem htx)
      have em := (Prod.mk.inj (Option.some.inj h)).2
      subst em
      have hcc : cells + 1 = mc := by
        have : cells + (xCc μ + 1) = mc + xCc μ := hc
        omega
      have hss : slots + 6 = ms := by
        have : slots + (xCs μ + 6) = ms + xCs μ := hs
        omega
      refine vx_throwS hx hb hst (own := xcn (xown y)) (cls := xen X) (names := xXn) (ik := j) (ic := xXi X) (sa := sa) hown hok2 (fun n hn => hok3 n hn) (hts _ w1) (hts _ w2) hsa hat hgood E.2.2.2.2.2.2.1.1 E.2.2.2.2.2.2.1.2 hS (by rw [hml]; exact hsz) (xins_len hi rfl (by decide)) d3 (xins_len i4 rfl (by decide)) (xins_len i6 rfl (by decide)) (xins_len i9 rfl (by decide)) ?_ ?_ ?_ (by omega) (by omega) hlocks (fun t hv hz hq => ⟨⟨rfl, h3⟩, hM.ex hz hq, ?_⟩) hS.2.2 (by omega) (by omega)
      · intro x hx9
        rw [hH] at htab
        rw [htab h6] at hx9
        cases hx9
      · show 2 + 3 < R.frames
        omega
      · show _ + (13 * (2 + 1) + 43) ≤ R.locals
        omega
      · exact ⟨Nat.le_trans hS.1 hz, fun q h1 h2 => by rw [hq q (Nat.lt_of_lt_of_le h1 hS.1)]; exact hS.2.1 q h1 h2⟩
    · cases h
  · rename_i j2 i4
    split at h
    · rename_i hcond
      obtain ⟨⟨d3, hH, f7, o120, hst8, i6, i9⟩, hsome⟩ := hcond
      obtain ⟨tx, htx⟩ := Option.isSome_iff_exists.mp hsome
      obtain ⟨sa, hsa⟩ := E.2.2.2.2.2.1 _ (xkc_mem htx)
      have em := (Prod.mk.inj (Option.some.inj h)).2
      subst em
      have hcc : cells + 1 = mc := by
        have : cells + (xCc μ + 1) = mc + xCc μ := hc
        omega
      have hss : slots + 6 = ms := by
        have : slots + (xCs μ + 6) = ms + xCs μ := hs
        omega
      refine vx_throwSW hx hb hst (own := xcn (xown y)) (cls := xen X) (names := xXn) (ik := j) (ic := xXi X) (sa := sa) hown hok2 (fun n hn => hok3 n hn) (hts _ w1) (hts _ w2) hsa hat hgood E.2.2.2.2.2.2.1.1 E.2.2.2.2.2.2.1.2 hS (by rw [hml]; exact hsz) (xins_len hi rfl (by decide)) d3 (xins_len i4 rfl (by decide)) (xins_len i6 rfl (by decide)) (xins_len i9 rfl (by decide)) ?_ ?_ ?_ (by omega) (by omega) hlocks (fun t hv hz hq => ⟨⟨rfl, h3⟩, hM.ex hz hq, ?_⟩) hS.2.2 (by omega) (by omega)
      · intro x hx9
        rw [hH] at htab
        rw [htab h6] at hx9
        cases hx9
      · show 2 + 3 < R.frames
        omega
      · show _ + (13 * (2 + 1) + 43) ≤ R.locals
        omega
      · exact ⟨Nat.le_trans hS.1 hz, fun q h1 h2 => by rw [hq q (Nat.lt_of_lt_of_le h1 hS.1)]; exact hS.2.1 q h1 h2⟩
    · cases h
  · cases h
end XSD
def xP (l : Launch) (G : xCtx) (B : Nat) (D : va_G) (cA : Nat → ClassId) (f : Nat) : Prop :=
  (∀ (t : Nat) (as : List Value) (μ : xMem) (v : Option Value) (μ1 : xMem), t < xLaw → (xent0 as).length ≤ xL t → xrun G f t 0 (xent as (xL t)) [] μ = some (.inl v, μ1) → xMetR l G B D cA t as μ v μ1) ∧
  (∀ (t : Nat) (as : List Value) (μ : xMem) (X : Nat) (μ1 : xMem), t < xLaw → (xent0 as).length ≤ xL t → xH t = none → xrun G f t 0 (xent as (xL t)) [] μ = some (.inr X, μ1) → xMetX l G B D cA t as μ X μ1)
section XSE
variable {l : Launch} {G : xCtx} {B : Nat} {D : va_G} {cA : Nat → ClassId}
theorem xrunW {p : Program} {e : Env} {R : Room} {s : State} {m : MethodId} {args : Array Value} {below : List Frame} {meth : Method} {c : Code} {Q : State → Prop} {μ' : xMem} {y : Nat} {o : xOut} {mc ms : Nat} (C : xHere p R s m args meth c y) (E : xEnv G B D cA s) (hR : mc ≤ R.cells ∧ ms ≤ R.slots)
    (hend : ∀ (i : Instr) (pc : Nat) (st : List Value) (v : Option Value) (H : Heap) (locs : List Loc) (lsA : Array Slot), xins y pc = some i → xretf y i st = some v → o = .inl v → xRep B D cA μ' H → va_S (fun q => B ≤ q) s.heap H locs → lsA.size = xL y → W p l e R s m args below meth c H locs mc ms Q (F0 m pc lsA st))
    (hthr : ∀ (X j pc : Nat) (st : List Value) (μ : xMem) (H : Heap) (locs : List Loc) (cells slots : Nat) (lsA : Array Slot), xins y pc = some (.new j) → xkc xTl (xown y) j = some X → xthrow y X pc st μ = some (o, μ') → xRep B D cA μ H → va_S (fun q => B ≤ q) s.heap H locs → lsA.size = xL y → cells + xCc μ' = mc + xCc μ → slots + xCs μ' = ms + xCs μ → W p l e R s m args below meth c H locs cells slots Q (F0 m pc lsA st)) :
    ∀ f, (∀ g, g < f → xP l G B D cA g) → xKok p l e R s m args below meth c Q B D cA y o μ' mc ms (xrun G f y) := by
  intro f
  induction f with
  | zero =>
    intro _ pc ls st μ H locs cells slots lsA h
    cases h
  | succ f ih =>
    intro hP pc ls st μ H locs cells slots lsA h hM hS hL hc hs
    have h : (match xins y pc with | none => (none : xRes) | some i => xstep G (fun t as μ => xrun G f t 0 (xent as (xL t)) [] μ) (xrun G f y) y i pc ls st μ) = some (o, μ') := h
    split at h
    · cases h
    · rename_i i hi
      refine xstep_sound (call := fun t as μ => xrun G f t 0 (xent as (xL t)) [] μ) C E (ih (fun g hg => hP g (by omega))) (xrun_m f y) ?_ hR (fun t as μ v μ1 ht hl hcall => (hP f (by omega)).1 t as μ v μ1 ht hl hcall) (fun t as μ X μ1 ht hl hH hcall => (hP f (by omega)).2 t as μ X μ1 ht hl hH hcall) hend hthr hi h hM hS hL hc hs
      intro t as μ o μ' h
      exact xrun_m f t h
theorem xhis {t : Nat} {rm : Room} : ∀ (args : Array Value) (s : State) (m : MethodId), (headSpec (xC t :: xWs) rm).pre.before args s = true → s.methodNamed? (xY t) = some m → ∃ meth c, s.vm.method? m = some meth ∧ meth.code = some c ∧ c.code = xB t ∧ c.maxLocals = xL t ∧ meth.sig.returnType = xT t ∧ meth.locks = false := by
  intro args s m h hn
  have hw := atoms_spec (ws := xC t :: xWs) h _ List.mem_cons_self
  cases hH : xH t with
  | none =>
    rw [xCn hH] at hw
    obtain ⟨meth, c, h1, h2, h3, h4, h5, h6, -, -⟩ := Cond.code_spec hn hw
    exact ⟨meth, c, h1, h2, h3, h4, h5, h6⟩
  | some hh =>
    rw [xCs' hH] at hw
    obtain ⟨m9, meth, c, hn9, h1, h2, h3, h4, -, h5, h6, -⟩ := Cond.codeWith_spec hw
    cases hn.symm.trans hn9
    exact ⟨meth, c, h1, h2, h3, h4, h5, h6⟩
theorem xhere_of {p : Program} {t : Nat} {rm : Room} {e : Env} {s s₁ : State} {m : MethodId} {args : Array Value} {below : List Frame} {meth : Method} {c : Code} (Bd : BodyLoose p l (xY t) (headSpec (xC t :: xWs) rm) (xB t) (xL t) (xT t) e s m args below meth c s₁) (hml : c.maxLocals = xL t) (hrf : xF t ≤ rm.frames) (hrl : xO t ≤ rm.locals) : xHere p (headSpec (xC t :: xWs) rm).room s m args meth c t := by
  have hts0 := atoms_spec (ws := xC t :: xWs) Bd.pre
  refine ⟨Bd.exec, Bd.bytes, hml, findClass_of_methodNamed Bd.named, fun w hw => hts0 w (List.mem_cons_of_mem _ hw), Bd.notSynchronized, fun h => (name_of_methodNamed Bd.named Bd.method).1.trans h, ⟨hrf, hrl⟩, Bd.returns, ?_⟩
  have hw := hts0 _ List.mem_cons_self
  cases hH : xH t with
  | none =>
    rw [xCn hH] at hw
    obtain ⟨meth9, c9, h1, h2, -, -, -, -, h7, -⟩ := Cond.code_spec Bd.named hw
    cases Option.some.inj (h1.symm.trans Bd.method)
    cases Option.some.inj (h2.symm.trans (Stand.of_body Bd).code)
    intro _
    rw [Array.isEmpty_iff.mp h7]
  | some hh =>
    rw [xCs' hH] at hw
    exact vx_table (x := xY t) Bd hw
theorem xplain_of {t : Nat} (h : t < xLaw) : plainFor (xY t) = true := by
  have h1 := List.all_eq_true.mp xplain _ (xe_mem h)
  simp only [Bool.and_eq_true] at h1
  exact h1.1
theorem xsound (hst : l.stackTraces = false) : ∀ f, xP l G B D cA f := by
  intro f
  induction f using Nat.strongRecOn with
  | ind f ih =>
    constructor
    · intro t as μ v μ1 ht hl hrun
      unfold xMetR Met
      refine MetFree.of_bodySF (code := xB t) (maxLocals := xL t) (ret := xT t) (xplain_of ht) xhis ?_
      intro p e s m args below meth c s₁ Bd hml hP _
      obtain ⟨rfl, hM, E⟩ := hP
      have C := xhere_of Bd hml (Nat.le_refl _) (Nat.le_refl _)
      have hh0 : s₁.heap = s.heap := by rw [Bd.state]; rfl
      have hm := xrun_m f t hrun
      have K := xrunW (l := l) (e := e) (below := below) (Q := MQ below (xQc B D cA μ1 v) as.toArray s (xCc μ1 - xCc μ) (xCs μ1 - xCs μ) (fun q => B ≤ q)) (o := .inl v) (μ' := μ1) (mc := xCc μ1 - xCc μ) (ms := xCs μ1 - xCs μ) C E ⟨Nat.le_refl _, Nat.le_refl _⟩ (fun i pc st v' H locs lsA hi hv ho hM hS hsz => by cases ho; exact xend_ret C hi hv hM hS) (fun X j pc st μ H locs cells slots lsA hi hX h => by have := xthrow_o h; cases this) f ih
      have h1 := K 0 (xent as (xL t)) [] μ s.heap [] 0 0 _ hrun hM va_S.rf (XL.entry hl) (by have := hm.1; omega) (by have := hm.2; omega)
      rw [← lg_entry_eq] at h1
      obtain ⟨t9, a1, o9, b1, b2, b3⟩ := h1 s₁ hh0 (Stand.of_body Bd)
      exact ⟨t9, o9, a1, b1, b2, b3⟩
    · intro t as μ X μ1 ht hl hH hrun
      unfold xMetX vx_Met
      refine MetFree.of_bodySF (code := xB t) (maxLocals := xL t) (ret := xT t) (xplain_of ht) xhis ?_
      intro p e s m args below meth c s₁ Bd hml hP _
      obtain ⟨rfl, hM, E⟩ := hP
      have C := xhere_of Bd hml (Nat.le_refl _) (Nat.le_refl _)
      have hh0 : s₁.heap = s.heap := by rw [Bd.state]; rfl
      have hm := xrun_m f t hrun
      have K := xrunW (l := l) (e := e) (below := below) (Q := vx_MQ below (fun _ _ _ _ => False) (xXc B D cA μ1 X) as.toArray s (xCc μ1 - xCc μ) (xCs μ1 - xCs μ) (fun q => B ≤ q)) (o := .inr X) (μ' := μ1) (mc := xCc μ1 - xCc μ) (ms := xCs μ1 - xCs μ) C E ⟨Nat.le_refl _, Nat.le_refl _⟩ (fun i pc st v' H locs lsA hi hv ho => by cases ho) (fun X j pc st μ H locs cells slots lsA hi hX h hM hS hsz hc hs => xend_thr hst C E ⟨Nat.le_refl _, Nat.le_refl _⟩ hi hX h hM hS hsz hc hs) f ih
      have h1 := K 0 (xent as (xL t)) [] μ s.heap [] 0 0 _ hrun hM va_S.rf (XL.entry hl) (by have := hm.1; omega) (by have := hm.2; omega)
      rw [← lg_entry_eq] at h1
      obtain ⟨t9, a1, o9, b1, b2, b3⟩ := h1 s₁ hh0 (Stand.of_body Bd)
      exact ⟨t9, o9, a1, b1, b2, b3⟩
end XSE
