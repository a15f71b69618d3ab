/-! THE CLAIM OUT OF ONE WALK OF THE LAW'S BODY. Your part is whole_start (and what it stands on); all else here is the same for every law, but numbers. -/
def R_law : String := "PensionSectionsLaw"
def lw_P (b : Addr) (xs : List Int32) (args : Array Value) (s : State) : Prop := args = #[.ref b] ∧ s.IntsAt b xs ∧ xs.length ≤ 2048 ∧ (Jvm.Cond.and given_1 narrow_1).before args s = true
/-- what a walk over the start with the record d0 says of its end, said of the start itself -/
theorem lw_closed {s t : State} {o : Outcome} {d0 : Drawn} {L : List Loc} {k n : Nat} (hd0 : s.drawn.sameBut d0 lw_cs) (hv : ∃ v, o = .returned v) (hW : (s.setDrawn d0).WarmedH t.vm) (hs : (s.setDrawn d0).sameButNew ({ t with vm := s.vm } : State) L k n) : State.butDraws s t lw_cs (fun t1 => Framed s o t1 L k n) := by
  have h2 : t.drawn = d0 := congrArg State.drawn hs.1
  refine ⟨⟨hv, hW, State.sameButNew.setDrawn hs s.drawn⟩, ?_, by decide⟩
  rw [h2]
  exact hd0
def lw_Q (_ : Array Value) (s : State) (o : Outcome) (t : State) : Prop := o = .returned (some (.int 1)) ∧ State.butDraws s t lw_cs (fun t1 => Framed s o t1 [] 601024 7293034)
def lw_Z (below : List Frame) (a : Array Value) (s : State) : State → Prop := fun t => ∃ o, t.status = .running ∧ Ended t below o ∧ lw_Q a s o t
/-- the law's own end, with 1 on the stack, nothing written that was there before, its room as the claim has it; d0: the record of draws at this point (at the entry s.drawn: begin with 'refine W.base ?_' and 'have hd0 := Drawn.sameBut.refl s.drawn lw_cs') -/
theorem lw_ret {p : Program} {l : Launch} {e : Env} {s : State} {m : MethodId} {below : List Frame} {meth : Method} {c : Code} {b : Nat} {d0 : Drawn} (hd0 : s.drawn.sameBut d0 lw_cs) (hx : p.tables.exec = Jvm.exec) (hb : c.code = code) (hr : meth.sig.returnType = ret) (hlocks : meth.locks = false) {pc : Nat} {H : Heap} {ls : Array Slot} (hdg : decode code pc = .ok (.ireturn, 1)) : W p l e room_1 (s.setDrawn d0) m #[Value.ref b] below meth c H [] 601024 7293034 (lw_Z below #[Value.ref b] s) (F0 m pc ls [.int 1]) := by
  intro T hT X
  obtain ⟨fs, hret, hrun, hended, hW, hframe⟩ := X.leave (v := some (.int 1)) (hlocks := hlocks) (fun h => by rw [hr] at h; cases h)
  have hmeth' : T.vm.method? m = some meth := X.method'
  refine ⟨T.setFrames fs, ?_, .returned (some (.int 1)), hrun, hended, rfl, lw_closed hd0 ⟨_, rfl⟩ hW hframe⟩
  jvm_step X.here [X.here.top, hx, hb, hdg, hmeth', hr, ret, narrow_b1]
  (try refine ⟨rfl, ?_⟩); (try refine ⟨rfl, ?_⟩)
  first | (intro acts; rw [hret _ acts rfl rfl rfl]) | rw [hret _ _ rfl rfl rfl]
  exact Steps.refl _
/-- what holds at the law's entry: the machine, the code, the tables' words (any of lw_tbl by 'hts w (by decide +kernel)'), the script of L ints xs at the cell b, what the Statement gives of the start (any of its parts by flat_of_before) -/
def lw_At (p : Program) (s : State) (m : MethodId) (meth : Method) (c : Code) (b L : Nat) (xs : Nat → Int32) : Prop :=
  p.tables.exec = Jvm.exec ∧ c.code = code ∧ meth.sig.returnType = ret ∧ c.maxLocals = 9 ∧ s.vm.findClass R_law = some m.cls ∧ (∀ w ∈ lw_tbl, w.before #[Value.ref b] s = true) ∧ va_X b L xs s s.heap ∧ b < s.heap.size ∧ meth.locks = false ∧ (Jvm.Cond.and given_1 narrow_1).before #[Value.ref b] s = true
/-! the start's own premises -/
def xNr : List Jvm.Cond := ((List.range 3).flatMap (fun j => [Jvm.Cond.arrayOf (.static "PensionSections" (xsn j) "[I") .int, Jvm.Cond.eq (.length (.static "PensionSections" (xsn j) "[I")) (.int 4)] ++ (List.range 4).map (fun i => Jvm.Cond.eq (.elem (.static "PensionSections" (xsn j) "[I") (.int (Int32.ofNat i))) (.int (xsv j i))))) ++
  ([Jvm.Cond.isRef (.static Bundle.tN "UNASSIGNED_STACK" Bundle.steD), Jvm.Cond.isRef (.static Bundle.tN "SUPPRESSED_SENTINEL" Bundle.listD)] ++
  ((List.range 3).flatMap (fun E => ((List.range 3).filter (fun F => F != E)).map (fun F => Jvm.Cond.not (.castable (xen E) (xen F)))) ++
  xStr.map (fun e => Jvm.Cond.exactly (.string (xcn e.1) e.2.1) "java/lang/String")))
set_option maxRecDepth 100000 in
theorem xNr_ok : xNr.all (fun w => decide (w ∈ flatC (Jvm.Cond.and given_1 narrow_1))) = true := by decide +kernel
theorem xNr_bef {args : Array Value} {s : State} (h : (Jvm.Cond.and given_1 narrow_1).before args s = true) : ∀ w ∈ xNr, w.before args s = true := fun w hw => flat_of_before _ h w (of_decide_eq_true (List.all_eq_true.mp xNr_ok w hw))
/-- a row that is only read, as the heap has it -/
def xRowAt (s : State) (a : Nat) (q : Nat × (Nat → Int32)) : Prop := va_T .int a q.1 (fun j => .int (q.2 j)) (fun z => s.heap.size ≤ z) s s.heap ∧ q.1 < 2 ^ 31
noncomputable def xG2 (s : State) (a : Nat) : Option (Nat × (Nat → Int32)) := by
  classical
  exact if h : ∃ q, xRowAt s a q then some (Classical.choose h) else none
theorem xG2_spec {s : State} {a : Nat} {q : Nat × (Nat → Int32)} (h : xG2 s a = some q) : xRowAt s a q := by
  unfold xG2 at h
  split at h
  · rename_i hq
    cases h
    exact Classical.choose_spec hq
  · cases h
theorem xG2_of {s : State} {a n : Nat} {f : Nat → Int32} (h : xRowAt s a (n, f)) : ∃ g, xG2 s a = some (n, g) ∧ ∀ i, i < n → g i = f i := by
  have hq : ∃ q, xRowAt s a q := ⟨_, h⟩
  have hs := Classical.choose_spec hq
  have e1 : xG2 s a = some (Classical.choose hq) := by
    unfold xG2
    rw [dif_pos hq]
  obtain ⟨⟨c1, h1, h2, h3, h4, h5, h6, h7⟩, hn⟩ := h
  obtain ⟨⟨c2, g1, g2, g3, g4, g5, g6, g7⟩, gn⟩ := hs
  generalize Classical.choose hq = q at *
  obtain ⟨m, g⟩ := q
  dsimp only at *
  cases Option.some.inj (h1.symm.trans g1)
  have hm : m = n := by
    have e : Int32.ofNat m = Int32.ofNat n := g5.symm.trans h5
    exact (nI_eq gn hn).mp e
  subst hm
  refine ⟨g, e1, fun i hi => ?_⟩
  exact Value.int.inj (Option.some.inj ((g6 i hi).symm.trans (h6 i hi)))
theorem xstart {s : State} {b L : Nat} {xs : Nat → Int32} {args : Array Value} (hts : ∀ w ∈ lw_tbl, w.before args s = true) (hgv : (Jvm.Cond.and given_1 narrow_1).before args s = true) (hX : va_X b L xs s s.heap) (hbl : b < s.heap.size) (hL : L ≤ 2048) : ∃ (G : xCtx) (D : va_G) (cA : Nat → ClassId), xEnv G s.heap.size D cA s ∧ xCtxOk G s.heap.size b L := by
  obtain ⟨D, cA, hK⟩ := xK_start hts
  have hn := xNr_bef hgv
  have hA : ∀ a : Nat, a < s.heap.size → ¬ (fun q => s.heap.size ≤ q) a := fun a h => Nat.not_le.mpr h
  have hlast := xAs_ok _ _ xlast_w
  have hth := xAs_ok _ _ xlast_th
  have inNr : ∀ {w : Jvm.Cond}, w ∈ xNr → w.before args s = true := fun h => hn _ h
  -- the static rows
  have hst : ∀ j, ∃ t : Nat, j < 3 → (Term.static "PensionSections" (xsn j) "[I").eval args s none [] s = some (.ref t) ∧ va_T .int t 4 (fun i => .int (xsv j i)) (fun q => s.heap.size ≤ q) s s.heap := by
    intro j
    by_cases hj : j < 3
    · have hin : ∀ w ∈ ([Jvm.Cond.arrayOf (.static "PensionSections" (xsn j) "[I") .int, Jvm.Cond.eq (.length (.static "PensionSections" (xsn j) "[I")) (.int 4)] ++ (List.range 4).map (fun i => Jvm.Cond.eq (.elem (.static "PensionSections" (xsn j) "[I") (.int (Int32.ofNat i))) (.int (xsv j i)))), w.before args s = true := fun w hw => inNr (List.mem_append_left _ (List.mem_flatMap.mpr ⟨j, List.mem_range.mpr hj, hw⟩))
      obtain ⟨t, h1, h2⟩ := va_Tof (tm := .static "PensionSections" (xsn j) "[I") (ty := .int) (N := 4) (f := fun i => .int (xsv j i)) (A := fun q => s.heap.size ≤ q) (by decide) (hin _ (by simp)) (xeqv (hin _ (by simp))) (fun i hi => xeqv (hin _ (List.mem_append_right _ (List.mem_map.mpr ⟨i, List.mem_range.mpr hi, rfl⟩)))) hA
      exact ⟨t, fun _ => ⟨h1, h2⟩⟩
    · exact ⟨0, fun h => absurd h hj⟩
  refine ⟨(fun j => Classical.choose (hst j), xG2 s), D, cA, ⟨hK, fun w hw => ?_, fun j hj => ?_, fun a n f h => (xG2_spec h).1, ⟨va_AO.of (hts _ (xAs_ok _ _ xao_w _ (by simp))), va_AO.of (hts _ (xAs_ok _ _ xao_w _ (by simp)))⟩, fun e he => ?_, ⟨?_, ?_⟩, ⟨fun E hE => ?_, fun x hx => ?_⟩, fun E F h1 h2 h3 => ?_⟩, ⟨⟨hbl, ?_⟩, fun j hj => ?_⟩⟩
  · have hb := hts _ (xNest_tbl w hw)
    rcases List.mem_append.mp hw with h1 | h1
    · obtain ⟨e, he, rfl⟩ := List.mem_map.mp h1
      have hn : ¬ e.2.2.1 = 0 := fun z => by have := (List.mem_filter.mp he).2; rw [z] at this; exact absurd this (by decide)
      unfold xFw at hb ⊢
      rw [if_neg hn] at hb ⊢
      exact va_Nw.of rfl hb
    · rcases List.mem_append.mp h1 with h1 | h1
      · obtain ⟨e, he, rfl⟩ := List.mem_map.mp h1
        have hn : ¬ e.2.2.1 = 2 := fun z => by have := (List.mem_filter.mp he).2; rw [z] at this; exact absurd this (by decide)
        unfold xSw at hb ⊢
        rw [if_neg hn] at hb ⊢
        exact va_Nw.of rfl hb
      · obtain ⟨e, he, rfl⟩ := List.mem_map.mp h1
        have hn : ¬ e.2.2.1 = 0 := fun z => by have := (List.mem_filter.mp he).2; rw [z] at this; exact absurd this (by decide)
        unfold xMw at hb ⊢
        rw [if_neg hn] at hb ⊢
        exact va_Nw.of rfl hb
  · refine va_Zof (hts _ (hlast _ (List.mem_append_left _ (List.mem_map.mpr ⟨j, by simp; omega, rfl⟩)))) (hts _ (hth _ (by simp))) (Classical.choose_spec (hst j) hj).1 hA
  · have h1 := hts _ (hlast (Jvm.Cond.stringRef (xcn e.1) e.2.1 e.2.2) (List.mem_append_right _ (List.mem_append_left _ (List.mem_map.mpr ⟨e, he, rfl⟩))))
    have h2 := inNr (w := Jvm.Cond.exactly (.string (xcn e.1) e.2.1) "java/lang/String") (List.mem_append_right _ (List.mem_append_right _ (List.mem_append_right _ (List.mem_map.mpr ⟨e, he, rfl⟩))))
    obtain ⟨a, -, -, -, h3, -⟩ := Cond.exactly_spec h2
    exact ⟨a, vk_R.of (A := args) h1 h3⟩
  · exact vx_Zqof (hts _ (hth _ (by simp))) (hts _ (hth _ (by simp))) (inNr (List.mem_append_right _ (List.mem_append_left _ (by simp)))) hA
  · exact vx_Zqof (hts _ (hth _ (by simp))) (hts _ (hth _ (by simp))) (inNr (List.mem_append_right _ (List.mem_append_left _ (by simp)))) hA
  · exact va_Nw.of rfl (hts _ (hlast (Jvm.Cond.castable (xen E) (xen E)) (List.mem_append_right _ (List.mem_append_right _ (List.mem_append_left _ (List.mem_map.mpr ⟨E, by simp; omega, rfl⟩))))))
  · exact va_Nw.of rfl (hts _ (hlast (Jvm.Cond.declares x) (List.mem_append_right _ (List.mem_append_right _ (List.mem_append_right _ (List.mem_map.mpr ⟨x, hx, rfl⟩))))))
  · exact va_Nc.of (inNr (List.mem_append_right _ (List.mem_append_right _ (List.mem_append_left _ (List.mem_flatMap.mpr ⟨E, List.mem_range.mpr h1, List.mem_map.mpr ⟨F, List.mem_filter.mpr ⟨List.mem_range.mpr h2, by simpa using Ne.symm h3⟩, rfl⟩⟩)))))
  · obtain ⟨scr, x1, x2, x3, x4, x5⟩ := hX
    obtain ⟨g, hg, -⟩ := xG2_of (s := s) (a := b) (n := L) (f := xs) ⟨⟨scr, x1, x2, x3, by show L ≤ _; omega, by rw [x4], x5, Nat.not_le.mpr hbl⟩, by show L < 2 ^ 31; omega⟩
    exact ⟨g, hg⟩
  · have hT := (Classical.choose_spec (hst j) hj).2
    obtain ⟨g, hg, hv⟩ := xG2_of (s := s) (n := 4) (f := fun i => xsv j i) ⟨hT, by show 4 < 2 ^ 31; decide⟩
    exact ⟨Nat.lt_of_not_le hT.out, g, hg, hv⟩
theorem xRep0 {B : Nat} {D : va_G} {cA : Nat → ClassId} {H : Heap} (h : H.size = B) : xRep B D cA (xm0 B) H :=
  ⟨⟨Nat.le_refl _, by show B ≤ H.size; omega, fun _ => h⟩, fun a ha => absurd rfl ha, fun a ci ha _ => (by cases ha), fun a ha => (by rcases ha with ha | ha | ha <;> cases ha), fun a ha => (by cases ha), fun a ha => (by rcases ha with ha | ha <;> cases ha)⟩
theorem whole_of (goal : xGoal) {p : Program} {e : Env} {s : State} {m : MethodId} {below : List Frame} {meth : Method} {c : Code} (l : Launch) (hflags : l.flags = flags0) {b L : Nat} {xs : Nat → Int32} (hL : L ≤ 2048) (C0 : lw_At p s m meth c b L xs) : W p l e room_1 s m #[Value.ref b] below meth c s.heap [] 0 0 (lw_Z below #[Value.ref b] s) (entryFrame m ([Value.ref b] : List Value).toArray 9) := by
  obtain ⟨hx, hb, hr, hml, hown, hts, hX, hbl, hlocks, hgv⟩ := C0
  obtain ⟨G, D, cA, E0, hctx⟩ := xstart hts hgv hX hbl hL
  obtain ⟨f, μ', hrun, hcc, hcs⟩ := goal G s.heap.size b L hL hctx
  have hst : l.stackTraces = false := by
    unfold Launch.stackTraces
    rw [hflags]
    decide +kernel
  have hd0 := Drawn.sameBut.refl s.drawn lw_cs
  refine W.base ?_
  have E : xEnv G s.heap.size D cA (s.setDrawn s.drawn) := E0.go (U := s.setDrawn s.drawn) (H := s.heap) (locs := []) (State.WarmedH.refl s) va_S.rf rfl
  have C : xHere p room_1 (s.setDrawn s.drawn) m #[Value.ref b] meth c xLaw := by
    refine ⟨hx, hb, hml, hown, fun w hw => ?_, hlocks, fun h => absurd h (by decide +kernel), by decide +kernel, hr, ?_⟩
    · exact hts w (List.mem_filter.mp hw).1
    · show xown xLaw = 6 → _
      intro h
      exact absurd h (by decide +kernel)
  have K := xrunW (l := l) (e := e) (R := room_1) (below := below) (Q := lw_Z below #[Value.ref b] s) (y := xLaw) (o := .inl (some (.int 1))) (μ' := μ') (mc := xCc μ') (ms := xCs μ') C E ⟨hcc, hcs⟩ (fun i pc st v H locs lsA hi hv ho hM hS hsz => by
    cases ho
    have hst1 : i = .ireturn ∧ st = [.int 1] := by
      unfold xretf at hv
      split at hv
      · split at hv
        · cases hv; exact ⟨rfl, rfl⟩
        · cases hv
      all_goals first | (cases hv; done) | (split at hv <;> cases hv)
    obtain ⟨rfl, rfl⟩ := hst1
    refine va_forget (fun q hq => hS.2.2 q hq) ?_
    refine W.widen (k := 601024) (n := 7293034) hcc hcs ?_
    exact lw_ret hd0 hx hb hr hlocks (xins_len hi rfl (by decide))) (fun X j pc st μ H locs cells slots lsA hi hX h => by have := xthrow_o h; cases this) f (fun g _ => xsound hst g)
  have h1 := K 0 (xent [.ref b] 9) [] (xm0 s.heap.size) s.heap [] 0 0 _ hrun (xRep0 rfl) va_S.rf (XL.entry (vs := [.ref b]) (n := 9) (by show 1 ≤ 9; decide)) (by show 0 + xCc μ' = xCc μ' + 0; omega) (by show 0 + xCs μ' = xCs μ' + 0; omega)
  rw [← lg_entry_eq] at h1
  exact h1
