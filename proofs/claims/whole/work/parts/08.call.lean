/-! CALLS: what a method's run says of it, as the kit's contract; a call's row -/
def xPc (G : xCtx) (B : Nat) (D : va_G) (cA : Nat → ClassId) (μ : xMem) (as : List Value) : Array Value → State → Prop := fun v U => v = as.toArray ∧ xRep B D cA μ U.heap ∧ xEnv G B D cA U
def xQc (B : Nat) (D : va_G) (cA : Nat → ClassId) (μ' : xMem) (v : Option Value) : Array Value → State → Outcome → State → Prop := fun _ st oc t => oc = .returned v ∧ xRep B D cA μ' t.heap ∧ va_F (fun q => B ≤ q) st t
def xXc (B : Nat) (D : va_G) (cA : Nat → ClassId) (μ' : xMem) (E : Nat) : String → State → State → Prop := fun X st t => (X = xen E ∧ E < 3) ∧ xRep B D cA μ' t.heap ∧ va_F (fun q => B ≤ q) st t
def xrm (y : Nat) (μ μ' : xMem) : Room := { frames := xF y, cells := xCc μ' - xCc μ, slots := xCs μ' - xCs μ, locals := xO y }
def xMetR (l : Launch) (G : xCtx) (B : Nat) (D : va_G) (cA : Nat → ClassId) (y : Nat) (as : List Value) (μ : xMem) (v : Option Value) (μ' : xMem) : Prop :=
  Met l (xY y) (xC y :: xWs) (xrm y μ μ') (xPc G B D cA μ as) (xQc B D cA μ' v) (xCc μ' - xCc μ) (xCs μ' - xCs μ) (fun q => B ≤ q)
def xMetX (l : Launch) (G : xCtx) (B : Nat) (D : va_G) (cA : Nat → ClassId) (y : Nat) (as : List Value) (μ : xMem) (E : Nat) (μ' : xMem) : Prop :=
  vx_Met l (xY y) (xC y :: xWs) (xrm y μ μ') (xPc G B D cA μ as) (fun _ _ _ _ => False) (xXc B D cA μ' E) (xCc μ' - xCc μ) (xCs μ' - xCs μ) (fun q => B ≤ q)
theorem xPc_blind {G : xCtx} {B : Nat} {D : va_G} {cA : Nat → ClassId} {μ : xMem} {as : List Value} : FrameBlind (xPc G B D cA μ as) := fun a U g mk h => ⟨h.1, h.2.1, h.2.2.call⟩
theorem xTab_len : xTab.length = 213 := by decide +kernel
theorem xe_mem {t : Nat} (h : t < xLaw) : xe t ∈ xTab := by
  have h1 : t < xTab.length := by rw [xTab_len]; exact Nat.lt_trans h (by decide +kernel)
  unfold xe
  rw [List.getD_eq_getElem?_getD, List.getElem?_eq_getElem h1]
  exact List.getElem_mem h1
theorem xTab_ok : xTab.all (fun e => (parseMethodDescriptor e.2.2.1).isSome && (decide (e.1 < 10) && (e.2.2.2.2.2.2.2.2.2 != 2 || (decide (e.2.2.2.2.2.1 = none) && (decide (e.2.1 = "<init>") && decide (e.2.2.2.2.2.2.1 = none)))))) = true := by decide +kernel
theorem xhd {t : Nat} (h : t < xLaw) : (xY t).cls ≠ "java/lang/invoke/MethodHandle" ∧ (xY t).cls ≠ "java/lang/invoke/VarHandle" ∧ (parseMethodDescriptor (xY t).desc).map (fun d => d.parameters.length) = some (xNp t) := by
  have h1 := List.all_eq_true.mp xplain _ (xe_mem h)
  have h2 := List.all_eq_true.mp xTab_ok _ (xe_mem h)
  simp only [Bool.and_eq_true, decide_eq_true_eq] at h1 h2
  refine ⟨h1.2.1, h1.2.2, ?_⟩
  show (parseMethodDescriptor (xe t).2.2.1).map _ = some (((parseMethodDescriptor (xe t).2.2.1).map _).getD 0)
  obtain ⟨d, hd⟩ := Option.isSome_iff_exists.mp h2.1
  rw [hd]
  rfl
theorem xinit_of {t : Nat} (h : t < xLaw) (hq : xQ t = 2) : xT t = none ∧ (xY t).name = "<init>" ∧ xH t = none := by
  have h2 := List.all_eq_true.mp xTab_ok _ (xe_mem h)
  simp only [Bool.and_eq_true, Bool.or_eq_true, decide_eq_true_eq, bne_iff_ne, ne_eq] at h2
  rcases h2.2.2 with h3 | h3
  · exact absurd hq h3
  · exact h3
theorem xCk_in {t : Nat} (h : t < xLaw) {w : Cond} (hw : w ∈ xCk t) : w ∈ xWs := xWs_mem (xCk_ok t h w hw)
theorem xCk_C {t : Nat} : xC t ∈ xCk t := List.mem_cons_self
theorem xCk_i {t : Nat} : Cond.initialized (xY t).cls ∈ xCk t := List.mem_cons_of_mem _ List.mem_cons_self
theorem xCk_s {t : Nat} (h : xQ t = 0) : Cond.static (xY t) ∈ xCk t := by unfold xCk; rw [if_pos h]; simp
theorem xCk_v {t : Nat} (h : xQ t = 1) : Cond.instanceMethod (xY t) ∈ xCk t ∧ Cond.selects (xY t).cls (xY t) (xY t) ∈ xCk t := by unfold xCk; rw [if_neg (by omega), if_pos h]; simp
theorem xCk_n {t : Nat} (h : xQ t = 2) : Cond.instanceMethod (xY t) ∈ xCk t := by unfold xCk; rw [if_neg (by omega), if_neg (by omega)]; simp
theorem xgood {t : Nat} (h : t < xLaw) : GoodIn xWs (xC t :: xWs) := by
  intro w hw
  have hm : w ∈ xWs := (List.mem_cons.mp hw).elim (fun e => by rw [e]; exact xCk_in h xCk_C) id
  exact ⟨hm, good_of_word (xWs_good hm)⟩
theorem xroom {y t : Nat} {μ μ1 : xMem} (h : xRoomOk y t = true) {R : Room} (hR : xF y ≤ R.frames ∧ xO y ≤ R.locals) : (xrm t μ μ1).frames + 1 ≤ R.frames ∧ 8 + (xL t + 11) + (xrm t μ μ1).locals ≤ R.locals := by
  unfold xRoomOk at h
  have h := of_decide_eq_true h
  exact ⟨Nat.le_trans h.1 hR.1, Nat.le_trans h.2 hR.2⟩
section XCL
variable {p : Program} {l : Launch} {e : Env} {R : Room} {s : State} {m : MethodId} {args : Array Value} {below : List Frame} {meth : Method} {c : Code} {H : Heap} {locs : List Loc} {cells slots : Nat} {Q : State → Prop}
variable {G : xCtx} {B : Nat} {D : va_G} {cA : Nat → ClassId} {μ μ1 : xMem} {y pc : Nat} {ls : Array Slot} {rest st0 : List Value} {mc ms : Nat}
theorem xr_after {a : Array Value} {v : Option Value} (hr : va_Run p l e R s m args below meth c H locs cells slots mc ms (F0 m pc ls st0) rest (xQc B D cA μ1 v a) (fun q => B ≤ q)) (hS : va_S (fun q => B ≤ q) s.heap H locs)
    (kk : ∀ (H1 : Heap) (locs1 : List Loc), xRep B D cA μ1 H1 → va_S (fun q => B ≤ q) s.heap H1 locs1 → W p l e R s m args below meth c H1 locs1 (cells + mc) (slots + ms) Q (F0 m (pc + 3) ls (v.toList ++ rest))) : W p l e R s m args below meth c H locs cells slots Q (F0 m pc ls st0) := by
  intro T hT X
  obtain ⟨v', st₀, t, T', L, h0, X', hL, e1, e2, ⟨hv, hrep, hF⟩, st⟩ := hr T hT X
  cases hv
  obtain ⟨k1, k2, k3⟩ := vx_keep h0 e1 hS (fun _ _ h => h) (fun _ h => h) hL hF
  obtain ⟨t2, a1, b1⟩ := kk T'.heap (locs ++ L) (by rw [e1]; exact hrep) k3 T' rfl X'
  exact ⟨t2, st t2 a1, b1⟩
theorem xr_afterX {a : Array Value} {E : Nat} (hr : vx_Run p l e R s m args below meth c H locs cells slots mc ms (F0 m pc ls st0) rest ((fun _ _ _ _ => False : Array Value → State → Outcome → State → Prop) a) (xXc B D cA μ1 E) (fun q => B ≤ q)) (hS : va_S (fun q => B ≤ q) s.heap H locs)
    (kk : ∀ (H1 : Heap) (locs1 : List Loc) (q : Addr) (ce : Cell), E < 3 → xRep B D cA μ1 H1 → va_S (fun q => B ≤ q) s.heap H1 locs1 → H1[q]? = some ce → ce.vm = .none → s.vm.findClass (xen E) = some ce.cls → vx_W p l e R s m args below meth c H1 locs1 (cells + mc) (slots + ms) Q (F0 m pc ls rest) q) : W p l e R s m args below meth c H locs cells slots Q (F0 m pc ls st0) := by
  intro T hT X
  rcases hr T hT X with ⟨v, st₀, t, T', L, h0, X', hL, e1, e2, hv, st⟩ | ⟨q, st₀, t, T', L, E', ce, h0, X', hL, e1, e2, ⟨⟨hE, h3⟩, hrep, hF⟩, hce, hcv, hcl, st⟩
  · exact hv.elim
  · subst hE
    obtain ⟨k1, k2, k3⟩ := vx_keep h0 e1 hS (fun _ _ h => h) (fun _ h => h) hL hF
    obtain ⟨t2, a1, b1⟩ := kk T'.heap (locs ++ L) q ce h3 (by rw [e1]; exact hrep) k3 (by rw [e1]; exact hce) hcv hcl T' rfl X'
    exact ⟨t2, st.trans a1, b1⟩
theorem xpreS (E : xEnv G B D cA s) (hM : xRep B D cA μ H) (hS : va_S (fun q => B ≤ q) s.heap H locs) (as : List Value) : PreS s H (xPc G B D cA μ as) as := ⟨xPc_blind, fun U hU hW => ⟨rfl, by rw [hU]; exact hM, E.go hW hS hU⟩⟩
theorem xCn {t : Nat} (hH : xH t = none) : xC t = .code (xY t) (xB t) (xL t) (xT t) := by unfold xC; rw [hH]
theorem xCs' {t : Nat} {hh : List (Nat × Nat × Nat × Nat)} (hH : xH t = some hh) : xC t = .codeWith (xY t) (xB t) (xL t) (xT t) hh := by unfold xC; rw [hH]
/-- a call that returns -/
theorem xr_call (C : xHere p R s m args meth c y) (E : xEnv G B D cA s) (hM : xRep B D cA μ H) (hS : va_S (fun q => B ≤ q) s.heap H locs) (lsz : ls.size = xL y) {j t nest z q : Nat} {st : List Value} {v : Option Value} (hl : xkf xMl (xown y) j = some (nest, t, z))
    (hq : xQ t = q) (hroom : xRoomOk y t = true) (hn : xnar t q ≤ st.length) (hst : ((st.drop (xnar t q)).map (fun v => v.category)).sum ≤ 8) (hrecv : xrecv q t (st.take (xnar t q)).reverse μ = true) (hH : xH t = none ∨ (q = 0 ∧ nest = 0))
    (hMet : xMetR l G B D cA t (st.take (xnar t q)).reverse μ v μ1) (hdg : (q = 0 ∧ decode (xB y) pc = .ok (.invokestatic j, 3)) ∨ (q = 1 ∧ decode (xB y) pc = .ok (.invokevirtual j, 3)) ∨ (q = 2 ∧ decode (xB y) pc = .ok (.invokespecial j, 3)))
    (hf : cells + (xCc μ1 - xCc μ) ≤ R.cells ∧ slots + (xCs μ1 - xCs μ) ≤ R.slots)
    (kk : ∀ (H1 : Heap) (locs1 : List Loc), xRep B D cA μ1 H1 → va_S (fun q => B ≤ q) s.heap H1 locs1 → W p l e R s m args below meth c H1 locs1 (cells + (xCc μ1 - xCc μ)) (slots + (xCs μ1 - xCs μ)) Q (F0 m (pc + 3) ls (v.toList ++ st.drop (xnar t q)))) : W p l e R s m args below meth c H locs cells slots Q (F0 m pc ls st) := by
  obtain ⟨hx, hb, hml, hown, hts, -, -, hR, -⟩ := C
  obtain ⟨ht, hw⟩ := xMl_of hl
  have hspl : st = (st.take (xnar t q)).reverse.reverse ++ st.drop (xnar t q) := by rw [List.reverse_reverse, List.take_append_drop]
  have hlen : (st.take (xnar t q)).reverse.length = xnar t q := by rw [List.length_reverse, List.length_take]; omega
  generalize hAs : (st.take (xnar t q)).reverse = as at *
  generalize hRs : st.drop (xnar t q) = rs at *
  have FX : CallFix p m c (xB y) (xL y) s args xWs (xcn (xown y)) := ⟨hx, hb, hml, hown, hts⟩
  have hini := hts _ (xCk_in ht xCk_i)
  have hrm := xroom (μ := μ) (μ1 := μ1) hroom hR
  have hW8 : 2 * (F0 m pc ls st).monitorRoom + (rs.map fun v => v.category).sum ≤ 8 := by show 2 * 0 + _ ≤ 8; omega
  have hp := xpreS (G := G) E hM hS as
  rcases hdg with ⟨rfl, hd⟩ | ⟨rfl, hd⟩ | ⟨rfl, hd⟩
  · have hn0 : as.length = xNp t := hlen
    rcases hw with ⟨rfl, hw⟩ | ⟨rfl, hw⟩
    · cases hHt : xH t with
      | none =>
        have cb := callB_of (R := R) (s := s) (args := args) (own := xcn (xown y)) (index := j) (xNp t) hts (xgood ht) (by rw [xCn hHt]) (rm := xrm t μ μ1) rfl rfl hini (hts _ hw) (xhd ht) hrm
        exact xr_after (va_runS FX hMet ⟨cb, hts _ (xCk_in ht (xCk_s hq))⟩ hp rfl hn0 lsz hspl hW8 hd hf) hS kk
      | some hh =>
        have cb : vx_CSW R s args (xcn (xown y)) j (xY t) (xB t) (xL t) (xT t) hh (xC t :: xWs) (xrm t μ μ1) (xCc μ1 - xCc μ) (xCs μ1 - xCs μ) (xNp t) := by
          have hc : Cond.codeWith (xY t) (xB t) (xL t) (xT t) hh ∈ (xC t :: xWs) := by rw [← xCs' hHt]; exact List.mem_cons_self
          have h9 := xhd ht
          refine ⟨⟨rfl, rfl, hrm.1, hrm.2, pay_in hts (xgood ht), hc⟩, hts _ (xgood ht _ hc).1, hini, ⟨h9.1, h9.2.1⟩, fun sig h => ?_, hts _ hw, hts _ (xCk_in ht (xCk_s hq))⟩
          have h2 := h9.2.2
          rw [h] at h2
          exact (Option.some.inj h2).symm
        exact xr_after (vx_runSW FX hMet cb hp rfl hn0 lsz hspl hW8 hd hf) hS kk
    · have hHt : xH t = none := hH.resolve_right (fun h => by cases h.2)
      have cb := va_cnB (R := R) (s := s) (args := args) (own := xcn (xown y)) (index := j) (host := xhost) (xNp t) hts (xgood ht) (by rw [xCn hHt]) (rm := xrm t μ μ1) rfl rfl (E.2.1 _ hw) hini (xhd ht) hrm
      exact xr_after (va_runSN FX hMet ⟨cb, hts _ (xCk_in ht (xCk_s hq)), trivial⟩ hp rfl hn0 lsz hspl hW8 hd hf) hS kk
  · have hHt : xH t = none := hH.resolve_right (fun h => by cases h.1)
    have hv := xCk_v hq
    unfold xrecv at hrecv
    rw [if_neg (by decide)] at hrecv
    obtain ⟨b, As, rfl⟩ : ∃ b As, as = .ref b :: As := by
      split at hrecv
      · exact ⟨_, _, rfl⟩
      · cases hrecv
    have hrc := of_decide_eq_true hrecv
    have hn0 : As.length = xNp t := by
      have : (Value.ref b :: As).length = xNp t + 1 := hlen
      simpa using this
    have hspl' : (F0 m pc ls st).stack = As.reverse ++ .ref b :: rs := by
      show st = _
      rw [hspl]; simp
    have hpV : PreV s H (xY t).cls b (xPc G B D cA μ (.ref b :: As)) As := ⟨hp.1, va_recv E.1 (xP1 (hM.2.2.1 b _ hrc.1 hrc.2)) (xcl_at hrc.2) (q0 := 0) rfl, hp.2⟩
    rcases hw with ⟨rfl, hw⟩ | ⟨rfl, hw⟩
    · have cb := callB_of (R := R) (s := s) (args := args) (own := xcn (xown y)) (index := j) (xNp t) hts (xgood ht) (by rw [xCn hHt]) (rm := xrm t μ μ1) rfl rfl hini (hts _ hw) (xhd ht) hrm
      exact xr_after (va_runV FX hMet ⟨cb, hts _ (xCk_in ht hv.1), hts _ (xCk_in ht hv.2)⟩ hpV rfl hn0 lsz hspl' hW8 hd hf) hS kk
    · have cb := va_cnB (R := R) (s := s) (args := args) (own := xcn (xown y)) (index := j) (host := xhost) (xNp t) hts (xgood ht) (by rw [xCn hHt]) (rm := xrm t μ μ1) rfl rfl (E.2.1 _ hw) hini (xhd ht) hrm
      exact xr_after (va_runVN FX hMet ⟨cb, hts _ (xCk_in ht hv.1), hts _ (xCk_in ht hv.2)⟩ hpV rfl hn0 lsz hspl' hW8 hd hf) hS kk
  · obtain ⟨hT9, hnm, hHt⟩ := xinit_of ht hq
    unfold xrecv at hrecv
    rw [if_neg (by decide)] at hrecv
    obtain ⟨b, As, rfl⟩ : ∃ b As, as = .ref b :: As := by
      split at hrecv
      · exact ⟨_, _, rfl⟩
      · cases hrecv
    have hn0 : As.length = xNp t := by
      have : (Value.ref b :: As).length = xNp t + 1 := hlen
      simpa using this
    have hspl' : (F0 m pc ls st).stack = As.reverse ++ .ref b :: rs := by
      show st = _
      rw [hspl]; simp
    have hcd : xC t = .code (xY t) (xB t) (xL t) none := by rw [xCn hHt, hT9]
    rcases hw with ⟨rfl, hw⟩ | ⟨rfl, hw⟩
    · have cb := callB_of (R := R) (s := s) (args := args) (own := xcn (xown y)) (index := j) (xNp t) hts (xgood ht) (by rw [hcd]) (rm := xrm t μ μ1) rfl rfl hini (hts _ hw) (xhd ht) hrm
      exact xr_after (va_runI FX hMet ⟨cb, hnm, hts _ (xCk_in ht (xCk_n hq))⟩ hp rfl hn0 lsz hspl' hW8 hd hf) hS kk
    · have cb := va_cnB (R := R) (s := s) (args := args) (own := xcn (xown y)) (index := j) (host := xhost) (xNp t) hts (xgood ht) (by rw [hcd]) (rm := xrm t μ μ1) rfl rfl (E.2.1 _ hw) hini (xhd ht) hrm
      exact xr_after (va_runIN FX hMet ⟨cb, hnm, hts _ (xCk_in ht (xCk_n hq))⟩ hp rfl hn0 lsz hspl' hW8 hd hf) hS kk
/-- a call that throws: as far as the frame with the exception over it -/
theorem xr_callX (C : xHere p R s m args meth c y) (E : xEnv G B D cA s) (hM : xRep B D cA μ H) (hS : va_S (fun q => B ≤ q) s.heap H locs) (lsz : ls.size = xL y) {j t z X : Nat} {st : List Value} (hl : xkf xMl (xown y) j = some (0, t, z))
    (hq : xQ t = 1) (hroom : xRoomOk y t = true) (hn : xnar t 1 ≤ st.length) (hst : ((st.drop (xnar t 1)).map (fun v => v.category)).sum ≤ 8) (hrecv : xrecv 1 t (st.take (xnar t 1)).reverse μ = true) (hHt : xH t = none)
    (hMet : xMetX l G B D cA t (st.take (xnar t 1)).reverse μ X μ1) (hd : decode (xB y) pc = .ok (.invokevirtual j, 3))
    (hf : cells + (xCc μ1 - xCc μ) ≤ R.cells ∧ slots + (xCs μ1 - xCs μ) ≤ R.slots)
    (kk : ∀ (H1 : Heap) (locs1 : List Loc) (q : Addr) (ce : Cell), X < 3 → xRep B D cA μ1 H1 → va_S (fun q => B ≤ q) s.heap H1 locs1 → H1[q]? = some ce → ce.vm = .none → s.vm.findClass (xen X) = some ce.cls → vx_W p l e R s m args below meth c H1 locs1 (cells + (xCc μ1 - xCc μ)) (slots + (xCs μ1 - xCs μ)) Q (F0 m pc ls (st.drop (xnar t 1))) q) : W p l e R s m args below meth c H locs cells slots Q (F0 m pc ls st) := by
  obtain ⟨hx, hb, hml, hown, hts, -, -, hR, -⟩ := C
  obtain ⟨ht, hw⟩ := xMl_of hl
  have hspl : st = (st.take (xnar t 1)).reverse.reverse ++ st.drop (xnar t 1) := by rw [List.reverse_reverse, List.take_append_drop]
  have hlen : (st.take (xnar t 1)).reverse.length = xnar t 1 := by rw [List.length_reverse, List.length_take]; omega
  generalize hAs : (st.take (xnar t 1)).reverse = as at *
  generalize hRs : st.drop (xnar t 1) = rs at *
  have FX : CallFix p m c (xB y) (xL y) s args xWs (xcn (xown y)) := ⟨hx, hb, hml, hown, hts⟩
  have hini := hts _ (xCk_in ht xCk_i)
  have hrm := xroom (μ := μ) (μ1 := μ1) hroom hR
  have hW8 : 2 * (F0 m pc ls st).monitorRoom + (rs.map fun v => v.category).sum ≤ 8 := by show 2 * 0 + _ ≤ 8; omega
  have hp := xpreS (G := G) E hM hS as
  have hv := xCk_v hq
  unfold xrecv at hrecv
  rw [if_neg (by decide)] at hrecv
  obtain ⟨b, As, rfl⟩ : ∃ b As, as = .ref b :: As := by
    split at hrecv
    · exact ⟨_, _, rfl⟩
    · cases hrecv
  have hrc := of_decide_eq_true hrecv
  have hn0 : As.length = xNp t := by
    have : (Value.ref b :: As).length = xNp t + 1 := hlen
    simpa using this
  have hspl' : (F0 m pc ls st).stack = As.reverse ++ .ref b :: rs := by
    show st = _
    rw [hspl]; simp
  have hpV : PreV s H (xY t).cls b (xPc G B D cA μ (.ref b :: As)) As := ⟨hp.1, va_recv E.1 (xP1 (hM.2.2.1 b _ hrc.1 hrc.2)) (xcl_at hrc.2) (q0 := 0) rfl, hp.2⟩
  have hw := (hw.resolve_right (fun h => by cases h.1)).2
  have cb := callB_of (R := R) (s := s) (args := args) (own := xcn (xown y)) (index := j) (xNp t) hts (xgood ht) (by rw [xCn hHt]) (rm := xrm t μ μ1) rfl rfl hini (hts _ hw) (xhd ht) hrm
  exact xr_afterX (a := (Value.ref b :: As).toArray) (vx_runV FX hMet ⟨cb, hts _ (xCk_in ht hv.1), hts _ (xCk_in ht hv.2)⟩ hpV rfl hn0 lsz hspl' hW8 hd hf) hS kk
end XCL
