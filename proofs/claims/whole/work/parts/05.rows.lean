/-! THE KIT'S ROWS OVER THE ABSTRACT MEMORY -/
def xHere (p : Program) (R : Room) (s : State) (m : MethodId) (args : Array Value) (meth : Method) (c : Code) (y : Nat) : Prop :=
  p.tables.exec = Jvm.exec ∧ c.code = xB y ∧ c.maxLocals = xL y ∧ s.vm.findClass (xcn (xown y)) = some m.cls ∧ (∀ w ∈ xWs, w.before args s = true) ∧ meth.locks = false ∧ ((xY y).name = "<init>" → meth.name = "<init>") ∧ (xF y ≤ R.frames ∧ xO y ≤ R.locals) ∧ meth.sig.returnType = xT y ∧ (match xH y with | some hh => c.exceptionTable.toList = tableOf hh | none => xown y = 6 → c.exceptionTable.toList = [])
section XRW
variable {p : Program} {l : Launch} {e : Env} {R : Room} {s : State} {m : MethodId} {args : Array Value} {below : List Frame} {meth : Method} {c : Code} {H : Heap} {locs : List Loc} {cells slots : Nat} {Q : State → Prop}
variable {G : xCtx} {B : Nat} {D : va_G} {cA : Nat → ClassId} {μ : xMem} {y pc : Nat} {ls : Array Slot} {rest : List Value}
theorem xr_get (C : xHere p R s m args meth c y) (E : xEnv G B D cA s) (hM : xRep B D cA μ H) {j nest ci k a : Nat} (hl : xkf xFl (xown y) j = some (nest, ci, k)) (hk : xKd μ a = ci + 1) (hdg : decode (xB y) pc = .ok (.getfield j, 3))
    (kk : W p l e R s m args below meth c H locs cells slots Q (F0 m (pc + 3) ls (xv (xty ci k) μ a k :: rest))) : W p l e R s m args below meth c H locs cells slots Q (F0 m pc ls (.ref a :: rest)) := by
  obtain ⟨hx, hb, hml, hown, hts, -⟩ := C
  obtain ⟨hc8, hkN, hw⟩ := xFl_of hl
  have hP := xP1 (hM.2.2.1 a ci hk hc8)
  have hsame : ∀ x, s.fieldFound? (xTf ci k).1 (xTf ci k).2.1 (xTf ci k).2.2.1 = some x → s.fieldFound? (xcn ci) (xTf ci k).2.1 (xTf ci k).2.2.1 = some x := fun x h => by rw [xTf_1 ci hc8 k hkN] at h; exact h
  rcases hw with ⟨-, hw⟩ | ⟨-, hw⟩
  · exact va_get (D := D) (cl := xcl) (ci := ci) (tys := xtys cA) hx hb hts (xlay_in hc8) hown E.1 hP 0 rfl (xcl_at hc8) k hkN (hts _ hw) hsame (xfs_at hkN) hdg kk
  · exact va_getN (D := D) (cl := xcl) (ci := ci) (tys := xtys cA) hx hb hts (xlay_in hc8) hown E.1 hP 0 rfl (xcl_at hc8) k hkN (va_Nw.use (by rfl) (E.2.1 _ hw)) hsame (xfs_at hkN) hdg kk
/-- what a put leaves: the object's new slots, all else kept -/
theorem xr_put (C : xHere p R s m args meth c y) (E : xEnv G B D cA s) (hM : xRep B D cA μ H) (hS0 : va_S (fun q => B ≤ q) s.heap H locs) {j nest ci k a : Nat} {v : Value} (hl : xkf xFl (xown y) j = some (nest, ci, k)) (hk : xKd μ a = ci + 1)
    (hfin : (xTf ci k).2.2.2 = false ∨ (nest = 0 ∧ xown y = ci ∧ (xY y).name = "<init>")) (hn : narrow (xty ci k) v = v) (hfit : fits (xty ci k) v = true) (hdg : decode (xB y) pc = .ok (.putfield j, 3))
    (kk : ∀ (H1 : Heap) (locs1 : List Loc), va_at D xcl (a, .inr (ci, (xfs ci μ a).set k v)) H1 → H1.size = H.size → (∀ q : Nat, q ≠ a → H1[q]? = H[q]?) → va_S (fun q => B ≤ q) s.heap H1 locs1 → W p l e R s m args below meth c H1 locs1 cells slots Q (F0 m (pc + 3) ls rest)) : W p l e R s m args below meth c H locs cells slots Q (F0 m pc ls (v :: .ref a :: rest)) := by
  obtain ⟨hx, hb, hml, hown, hts, -, hname, -, -⟩ := C
  obtain ⟨hc8, hkN, hw⟩ := xFl_of hl
  have hin := xlay_in hc8
  have hc := xcl_at hc8
  have hap := va_apart (own := xcn (xown y)) hts hin (xty ci) (xTf_ty ci hc8) (xTf_nm ci hc8) E.1 hc
  have hA : B ≤ a := (hM.2.1 a (by omega)).1
  obtain ⟨r, h1, cell, q1, q2, q3, q4⟩ := hM.2.2.1 a ci hk hc8
  have hr : r = (xcn ci, xTf ci, xNf ci) := Option.some.inj (h1.symm.trans hc)
  subst hr
  obtain ⟨hS, hfc, kC, hkC, hkind⟩ := E.1.1 ci _ hc
  obtain ⟨cf, kf, fi, f, hi, hsl⟩ := hS k hkN
  have hsame : ∀ x, s.fieldFound? (xTf ci k).1 (xTf ci k).2.1 (xTf ci k).2.2.1 = some x → s.fieldFound? (xcn ci) (xTf ci k).2.1 (xTf ci k).2.2.1 = some x := fun x h => by rw [xTf_1 ci hc8 k hkN] at h; exact h
  have hlay := hts _ (hin _ (u_in_lay hkN))
  have hst := (u_facts hfc hkC (u_lays hts hin hkN) hi).1
  have hd := xTf_ty ci hc8 k hkN
  have fin : ∀ (H' : Heap), H'[a]? = some (cell.setSlot f.slot v) → H'.size = H.size → (∀ q, q ≠ a → H'[q]? = H[q]?) → W p l e R s m args below meth c H' (locs ++ [⟨a, f.slot⟩]) cells slots Q (F0 m (pc + 3) ls rest) := by
    intro H' e1 e2 e3
    rw [hsl] at e1
    refine kk H' _ ⟨_, hc, t_OB.to (V := updV (vp_V (xfs ci μ a)) k v) ⟨_, e1, q2, q3, t_set q4 hap hkN v⟩ (fun j _ => vp_updV_set (by rw [xfs_len]; exact hkN) v j)⟩ e2 e3 (hS0.put e2 e3 hA)
  by_cases hf : (xTf ci k).2.2.2 = true
  · obtain ⟨hn0, ho, hnm⟩ := hfin.resolve_left (by rw [hf]; decide)
    subst hn0
    have hw := (hw.resolve_right (fun h => by cases h.1)).2
    unfold u_lay at hlay
    rw [if_pos hf] at hlay
    have hcf : m.cls = cf := by
      obtain ⟨_, _, c', _, _, _, -, -, hf', -, -, -, hown2, -⟩ := Cond.laysFinal_spec hlay
      have e1 : c' = cf := by have := hi.symm.trans hf'; simp at this; exact this.1.symm
      rw [xTf_1 ci hc8 k hkN, ← ho] at hown2
      rw [← e1]; exact Option.some.inj (hown.symm.trans hown2)
    have h6 := u_fits hfc hkC hkind (Or.inr hlay) hi hd hn hfit
    exact W.putFinK hx hb hown (hts _ hw) (hsame _ hi) hst hcf (hname hnm) (by rw [q2]; exact h6) q1 q3 (by rw [hsl]; exact k2_hasslot (q4 k hkN)) rfl rfl hdg fin
  · have hf : (xTf ci k).2.2.2 = false := by simpa using hf
    unfold u_lay at hlay
    rw [if_neg (by rw [hf]; decide)] at hlay
    have h6 := u_store hfc hkC hkind hlay hi hd hn hfit
    rcases hw with ⟨-, hw⟩ | ⟨-, hw⟩
    · exact W.putK hx hb (f := f) ⟨hown, hts _ hw, ⟨_, _, _, hsame _ hi⟩, hst⟩ (by rw [q2]; exact h6) q1 q3 (by rw [hsl]; exact k2_hasslot (q4 k hkN)) rfl rfl hdg fin
    · exact va_WputK hx hb (f := f) hown (va_Nw.use (by rfl) (E.2.1 _ hw)) (hsame _ hi) hst (by rw [q2]; exact h6) q1 q3 (by rw [hsl]; exact k2_hasslot (q4 k hkN)) rfl rfl hdg fin
theorem xr_sta (C : xHere p R s m args meth c y) (E : xEnv G B D cA s) (hS : va_S (fun q => B ≤ q) s.heap H locs) {j nest k z : Nat} (hl : xkf xSl (xown y) j = some (nest, k, z)) (hdg : decode (xB y) pc = .ok (.getstatic j, 3))
    (kk : W p l e R s m args below meth c H locs cells slots Q (F0 m (pc + 3) ls (.ref (G.1 k) :: rest))) : W p l e R s m args below meth c H locs cells slots Q (F0 m pc ls rest) := by
  obtain ⟨hx, hb, hml, hown, hts, -⟩ := C
  obtain ⟨hk3, hw⟩ := xSl_of hl
  have hZ := E.2.2.1 k hk3
  rcases hw with ⟨-, hw⟩ | ⟨-, hw⟩
  · exact va_gets hx hb hZ hS hown (hts _ hw) (fun _ h => h) hdg kk
  · exact va_getsN hx hb hZ hS hown (va_Nw.use (by rfl) (E.2.1 _ hw)) (fun _ h => h) hdg kk
theorem xr_iald (C : xHere p R s m args meth c y) (E : xEnv G B D cA s) (hM : xRep B D cA μ H) {a : Nat} {i : Int32} (hk : xKd μ a = 9) (hin : ¬ (i < 0 ∨ xLn μ a ≤ i.toNatClampNeg)) (hdg : decode (xB y) pc = .ok (.iaload, 1))
    (kk : W p l e R s m args below meth c H locs cells slots Q (F0 m (pc + 1) ls (.int (xI μ a i.toNatClampNeg) :: rest))) : W p l e R s m args below meth c H locs cells slots Q (F0 m pc ls (.int i :: .ref a :: rest)) := by
  have h := hM.2.2.2.1 a (Or.inl hk)
  rw [hk] at h
  exact va_iald (D := D) (cl := xcl) (tys := xtys cA) C.1 C.2.1 E.1 (xP1 (e := .inl (cA 9, xLn μ a, .inl (xI μ a))) h) 0 0 rfl rfl hin hdg kk
theorem xr_cald (C : xHere p R s m args meth c y) (E : xEnv G B D cA s) (hM : xRep B D cA μ H) {a : Nat} {i : Int32} (hk : xKd μ a = 10) (hin : ¬ (i < 0 ∨ xLn μ a ≤ i.toNatClampNeg)) (hdg : decode (xB y) pc = .ok (.caload, 1))
    (kk : W p l e R s m args below meth c H locs cells slots Q (F0 m (pc + 1) ls (.int (xI μ a i.toNatClampNeg) :: rest))) : W p l e R s m args below meth c H locs cells slots Q (F0 m pc ls (.int i :: .ref a :: rest)) := by
  have h := hM.2.2.2.1 a (Or.inr (Or.inl hk))
  rw [hk] at h
  exact va_cald (D := D) (cl := xcl) (tys := xtys cA) C.1 C.2.1 E.1 (xP1 (e := .inl (cA 10, xLn μ a, .inl (xI μ a))) h) 0 1 rfl rfl hin hdg kk
theorem xr_zald (C : xHere p R s m args meth c y) (E : xEnv G B D cA s) (hM : xRep B D cA μ H) {a : Nat} {i : Int32} (hk : xKd μ a = 11) (hin : ¬ (i < 0 ∨ xLn μ a ≤ i.toNatClampNeg)) (hdg : decode (xB y) pc = .ok (.baload, 1))
    (kk : W p l e R s m args below meth c H locs cells slots Q (F0 m (pc + 1) ls (.int (xI μ a i.toNatClampNeg) :: rest))) : W p l e R s m args below meth c H locs cells slots Q (F0 m pc ls (.int i :: .ref a :: rest)) := by
  have h := hM.2.2.2.1 a (Or.inr (Or.inr hk))
  rw [hk] at h
  exact va_zald (D := D) (cl := xcl) (tys := xtys cA) C.1 C.2.1 E.1 (xP1 (e := .inl (cA 11, xLn μ a, .inl (xI μ a))) h) 0 2 rfl rfl hin hdg kk
theorem xr_lald (C : xHere p R s m args meth c y) (E : xEnv G B D cA s) (hM : xRep B D cA μ H) {a : Nat} {i : Int32} (hk : xKd μ a = 12) (hin : ¬ (i < 0 ∨ xLn μ a ≤ i.toNatClampNeg)) (hdg : decode (xB y) pc = .ok (.laload, 1))
    (kk : W p l e R s m args below meth c H locs cells slots Q (F0 m (pc + 1) ls (.long (xJ μ a i.toNatClampNeg) :: rest))) : W p l e R s m args below meth c H locs cells slots Q (F0 m pc ls (.int i :: .ref a :: rest)) := by
  have h := hM.2.2.2.2.1 a hk
  exact va_lald (D := D) (cl := xcl) (tys := xtys cA) C.1 C.2.1 E.1 (xP1 (e := .inl (cA 12, xLn μ a, .inr (.inl (xJ μ a)))) h) 0 3 rfl rfl hin hdg kk
theorem xr_aald (C : xHere p R s m args meth c y) (E : xEnv G B D cA s) (hM : xRep B D cA μ H) {a : Nat} {i : Int32} (hk : xKd μ a = 13 ∨ xKd μ a = 14) (hin : ¬ (i < 0 ∨ xLn μ a ≤ i.toNatClampNeg)) (hdg : decode (xB y) pc = .ok (.aaload, 1))
    (kk : W p l e R s m args below meth c H locs cells slots Q (F0 m (pc + 1) ls (va_rf (xR μ a i.toNatClampNeg) :: rest))) : W p l e R s m args below meth c H locs cells slots Q (F0 m pc ls (.int i :: .ref a :: rest)) := by
  have h := hM.2.2.2.2.2 a hk
  rcases hk with hk | hk
  · rw [hk] at h
    exact va_aldq (D := D) (cl := xcl) (tys := xtys cA) C.1 C.2.1 E.1 (xP1 (e := .inl (cA 13, xLn μ a, .inr (.inr (.inr (.inr (xR μ a)))))) h) 0 4 rfl rfl hin hdg kk
  · rw [hk] at h
    exact va_aldq (D := D) (cl := xcl) (tys := xtys cA) C.1 C.2.1 E.1 (xP1 (e := .inl (cA 14, xLn μ a, .inr (.inr (.inr (.inr (xR μ a)))))) h) 0 5 rfl rfl hin hdg kk
theorem xr_tald (C : xHere p R s m args meth c y) (E : xEnv G B D cA s) (hS : va_S (fun q => B ≤ q) s.heap H locs) {a n : Nat} {f : Nat → Int32} {i : Int32} (hg : G.2 a = some (n, f)) (hin : ¬ (i < 0 ∨ n ≤ i.toNatClampNeg)) (hdg : decode (xB y) pc = .ok (.iaload, 1))
    (kk : W p l e R s m args below meth c H locs cells slots Q (F0 m (pc + 1) ls (.int (f i.toNatClampNeg) :: rest))) : W p l e R s m args below meth c H locs cells slots Q (F0 m pc ls (.int i :: .ref a :: rest)) :=
  va_ti C.1 C.2.1 (E.2.2.2.1 a n f hg) hS hin rfl hdg kk
theorem xr_alen (C : xHere p R s m args meth c y) (E : xEnv G B D cA s) (hM : xRep B D cA μ H) {a : Nat} (h9 : 9 ≤ xKd μ a) (h14 : xKd μ a ≤ 14) (hdg : decode (xB y) pc = .ok (.arraylength, 1))
    (kk : W p l e R s m args below meth c H locs cells slots Q (F0 m (pc + 1) ls (.int (Int32.ofNat (xLn μ a)) :: rest))) : W p l e R s m args below meth c H locs cells slots Q (F0 m pc ls (.ref a :: rest)) := by
  obtain ⟨-, -, -, g1, g2, g3⟩ := hM
  rcases (show xKd μ a = 9 ∨ xKd μ a = 10 ∨ xKd μ a = 11 ∨ xKd μ a = 12 ∨ xKd μ a = 13 ∨ xKd μ a = 14 by omega) with h | h | h | h | h | h
  · have z := g1 a (Or.inl h)
    rw [h] at z
    exact va_alen (D := D) (cl := xcl) (tys := xtys cA) C.1 C.2.1 E.1 (xP1 (e := .inl (cA 9, xLn μ a, .inl (xI μ a))) z) 0 0 rfl rfl rfl hdg kk
  · have z := g1 a (Or.inr (Or.inl h))
    rw [h] at z
    exact va_alen (D := D) (cl := xcl) (tys := xtys cA) C.1 C.2.1 E.1 (xP1 (e := .inl (cA 10, xLn μ a, .inl (xI μ a))) z) 0 1 rfl rfl rfl hdg kk
  · have z := g1 a (Or.inr (Or.inr h))
    rw [h] at z
    exact va_alen (D := D) (cl := xcl) (tys := xtys cA) C.1 C.2.1 E.1 (xP1 (e := .inl (cA 11, xLn μ a, .inl (xI μ a))) z) 0 2 rfl rfl rfl hdg kk
  · exact va_alen (D := D) (cl := xcl) (tys := xtys cA) C.1 C.2.1 E.1 (xP1 (e := .inl (cA 12, xLn μ a, .inr (.inl (xJ μ a)))) (g2 a h)) 0 3 rfl rfl rfl hdg kk
  · have z := g3 a (Or.inl h)
    rw [h] at z
    exact va_alen (D := D) (cl := xcl) (tys := xtys cA) C.1 C.2.1 E.1 (xP1 (e := .inl (cA 13, xLn μ a, .inr (.inr (.inr (.inr (xR μ a)))))) z) 0 4 rfl rfl rfl hdg kk
  · have z := g3 a (Or.inr h)
    rw [h] at z
    exact va_alen (D := D) (cl := xcl) (tys := xtys cA) C.1 C.2.1 E.1 (xP1 (e := .inl (cA 14, xLn μ a, .inr (.inr (.inr (.inr (xR μ a)))))) z) 0 5 rfl rfl rfl hdg kk
theorem xr_tlen (C : xHere p R s m args meth c y) (E : xEnv G B D cA s) (hS : va_S (fun q => B ≤ q) s.heap H locs) {a n : Nat} {f : Nat → Int32} (hg : G.2 a = some (n, f)) (hdg : decode (xB y) pc = .ok (.arraylength, 1))
    (kk : W p l e R s m args below meth c H locs cells slots Q (F0 m (pc + 1) ls (.int (Int32.ofNat n) :: rest))) : W p l e R s m args below meth c H locs cells slots Q (F0 m pc ls (.ref a :: rest)) := by
  obtain ⟨cell, h1, h2, h3, h4, h5, h6, h7⟩ := E.2.2.2.1 a n f hg
  exact W.alen C.1 C.2.1 (cell := cell) (by rw [hS.2.1 a (Array.getElem?_eq_some_iff.mp h1).1 h7]; exact h1) h2 h5 rfl rfl hdg kk
/-- a write of the int row a -/
theorem xRep.rowI (hM : xRep B D cA μ H) {H1 : Heap} {a : Nat} {f : Nat → Int32} {μ1 : xMem} (hk : xKd μ a = 9 ∨ xKd μ a = 10 ∨ xKd μ a = 11) (hz : H1.size = H.size) (hq : ∀ q : Nat, q ≠ a → H1[q]? = H[q]?) (h : H1[a]? = some (vp_cell (cA (xKd μ a)) (xLn μ a, .inl f)))
    (e1 : μ1.1 = μ.1) (e2 : μ1.2.1 = μ.2.1) (e3 : xI μ1 a = f) (e4 : ∀ b, b ≠ a → xI μ1 b = xI μ b) (e5 : xJ μ1 = xJ μ) (e6 : xR μ1 = xR μ) : xRep B D cA μ1 H1 := by
  refine hM.upd hz hq e1 e2 (fun b hb => ⟨e4 b hb, by rw [e5], by rw [e6]⟩) (fun ci h1 h2 => by omega) (fun _ => by rw [e3]; exact h) (fun h1 => by omega) (fun h1 => by omega)
theorem xRep.rowJ (hM : xRep B D cA μ H) {H1 : Heap} {a : Nat} {f : Nat → Int64} {μ1 : xMem} (hk : xKd μ a = 12) (hz : H1.size = H.size) (hq : ∀ q : Nat, q ≠ a → H1[q]? = H[q]?) (h : H1[a]? = some (vp_cell (cA 12) (xLn μ a, .inr (.inl f))))
    (e1 : μ1.1 = μ.1) (e2 : μ1.2.1 = μ.2.1) (e3 : xJ μ1 a = f) (e4 : ∀ b, b ≠ a → xJ μ1 b = xJ μ b) (e5 : xI μ1 = xI μ) (e6 : xR μ1 = xR μ) : xRep B D cA μ1 H1 := by
  refine hM.upd hz hq e1 e2 (fun b hb => ⟨by rw [e5], e4 b hb, by rw [e6]⟩) (fun ci h1 h2 => by omega) (fun h1 => by omega) (fun _ => by rw [e3]; exact h) (fun h1 => by omega)
theorem xRep.rowR (hM : xRep B D cA μ H) {H1 : Heap} {a : Nat} {f : Nat → Option Nat} {μ1 : xMem} (hk : xKd μ a = 13 ∨ xKd μ a = 14) (hz : H1.size = H.size) (hq : ∀ q : Nat, q ≠ a → H1[q]? = H[q]?) (h : H1[a]? = some (vp_cell (cA (xKd μ a)) (xLn μ a, .inr (.inr (.inr (.inr f))))))
    (e1 : μ1.1 = μ.1) (e2 : μ1.2.1 = μ.2.1) (e3 : xR μ1 a = f) (e4 : ∀ b, b ≠ a → xR μ1 b = xR μ b) (e5 : xI μ1 = xI μ) (e6 : xJ μ1 = xJ μ) : xRep B D cA μ1 H1 := by
  refine hM.upd hz hq e1 e2 (fun b hb => ⟨by rw [e5], by rw [e6], e4 b hb⟩) (fun ci h1 h2 => by omega) (fun h1 => by omega) (fun h1 => by omega) (fun _ => by rw [e3]; exact h)
theorem xarr_i (K : va_K D xcl (xtys cA) s) {k n : Nat} {ty : FieldType} (ht : (xtys cA)[k]? = some (cA n, ty)) (N : Nat) (f : Nat → Int32) : s.isArrayOf (vp_cell (cA n) (N, .inl f)) ty := (K.2 k _ ht).1 N (fun j => .int (f j))
theorem xr_iast (C : xHere p R s m args meth c y) (E : xEnv G B D cA s) (hM : xRep B D cA μ H) (hS : va_S (fun q => B ≤ q) s.heap H locs) {a : Nat} {i x : Int32} (hk : xKd μ a = 9) (hin : ¬ (i < 0 ∨ xLn μ a ≤ i.toNatClampNeg)) (hdg : decode (xB y) pc = .ok (.iastore, 1))
    (kk : ∀ (H1 : Heap) (locs1 : List Loc), xRep B D cA (xsI μ a i.toNatClampNeg x) H1 → va_S (fun q => B ≤ q) s.heap H1 locs1 → W p l e R s m args below meth c H1 locs1 cells slots Q (F0 m (pc + 1) ls rest)) : W p l e R s m args below meth c H locs cells slots Q (F0 m pc ls (.int x :: .int i :: .ref a :: rest)) := by
  have h := hM.2.2.2.1 a (Or.inl hk)
  rw [hk] at h
  refine W.iast C.1 C.2.1 h (xarr_i E.1 (k := 0) rfl _ _) (fun q => by cases q) (by show ¬ (i < 0 ∨ (arrV _ _ _).slots.size ≤ _); rw [arrV_size]; exact hin) rfl rfl hdg fun H1 e z oq => ?_
  refine kk H1 _ (hM.rowI (a := a) (f := upd (xI μ a) i.toNatClampNeg x) (Or.inl hk) z oq ?_ rfl rfl xI_sI_row (fun b hb => xI_sI_ne hb) rfl rfl) (hS.put z oq (hM.2.1 a (by omega)).1)
  rw [e, hk, vp_cell_i, vp_cell_i, arrV_store]
  congr 2
  funext q
  by_cases hq : q = i.toNatClampNeg
  · subst hq
    simp [updV, upd]
  · simp [updV, upd, hq]
theorem xr_cast (C : xHere p R s m args meth c y) (E : xEnv G B D cA s) (hM : xRep B D cA μ H) (hS : va_S (fun q => B ≤ q) s.heap H locs) {a : Nat} {i x : Int32} (hk : xKd μ a = 10) (hin : ¬ (i < 0 ∨ xLn μ a ≤ i.toNatClampNeg)) (hnar : vp_nar .char x = x) (hdg : decode (xB y) pc = .ok (.castore, 1))
    (kk : ∀ (H1 : Heap) (locs1 : List Loc), xRep B D cA (xsI μ a i.toNatClampNeg x) H1 → va_S (fun q => B ≤ q) s.heap H1 locs1 → W p l e R s m args below meth c H1 locs1 cells slots Q (F0 m (pc + 1) ls rest)) : W p l e R s m args below meth c H locs cells slots Q (F0 m pc ls (.int x :: .int i :: .ref a :: rest)) := by
  have h := hM.2.2.2.1 a (Or.inr (Or.inl hk))
  rw [hk] at h
  refine W.cast C.1 C.2.1 h (xarr_i E.1 (k := 1) rfl _ _) (fun q => by cases q) (by show ¬ (i < 0 ∨ (arrV _ _ _).slots.size ≤ _); rw [arrV_size]; exact hin) rfl rfl hdg fun H1 e z oq => ?_
  refine kk H1 _ (hM.rowI (a := a) (f := upd (xI μ a) i.toNatClampNeg x) (Or.inr (Or.inl hk)) z oq ?_ rfl rfl xI_sI_row (fun b hb => xI_sI_ne hb) rfl rfl) (hS.put z oq (hM.2.1 a (by omega)).1)
  have hn2 : narrow .char (.int x) = .int x := by
    have : narrow .char (.int x) = .int (vp_nar .char x) := by simp [vp_nar]; rfl
    rw [this, hnar]
  rw [e, hk, hn2, vp_cell_i, vp_cell_i, arrV_store]
  congr 2
  funext q
  by_cases hq : q = i.toNatClampNeg
  · subst hq
    simp [updV, upd]
  · simp [updV, upd, hq]
theorem xr_zast (C : xHere p R s m args meth c y) (E : xEnv G B D cA s) (hM : xRep B D cA μ H) (hS : va_S (fun q => B ≤ q) s.heap H locs) {a : Nat} {i x : Int32} (hk : xKd μ a = 11) (hin : ¬ (i < 0 ∨ xLn μ a ≤ i.toNatClampNeg)) (hnar : vp_nar .boolean x = x) (hdg : decode (xB y) pc = .ok (.bastore, 1))
    (kk : ∀ (H1 : Heap) (locs1 : List Loc), xRep B D cA (xsI μ a i.toNatClampNeg x) H1 → va_S (fun q => B ≤ q) s.heap H1 locs1 → W p l e R s m args below meth c H1 locs1 cells slots Q (F0 m (pc + 1) ls rest)) : W p l e R s m args below meth c H locs cells slots Q (F0 m pc ls (.int x :: .int i :: .ref a :: rest)) := by
  have h := hM.2.2.2.1 a (Or.inr (Or.inr hk))
  rw [hk] at h
  refine W.zast C.1 C.2.1 h (xarr_i E.1 (k := 2) rfl _ _) (fun q => by cases q) (by show ¬ (i < 0 ∨ (arrV _ _ _).slots.size ≤ _); rw [arrV_size]; exact hin) rfl rfl hdg fun H1 e z oq => ?_
  refine kk H1 _ (hM.rowI (a := a) (f := upd (xI μ a) i.toNatClampNeg x) (Or.inr (Or.inr hk)) z oq ?_ rfl rfl xI_sI_row (fun b hb => xI_sI_ne hb) rfl rfl) (hS.put z oq (hM.2.1 a (by omega)).1)
  have hn2 : narrow .boolean (.int x) = .int x := by
    have : narrow .boolean (.int x) = .int (vp_nar .boolean x) := by simp [vp_nar]; rfl
    rw [this, hnar]
  rw [e, hk, hn2, vp_cell_i, vp_cell_i, arrV_store]
  congr 2
  funext q
  by_cases hq : q = i.toNatClampNeg
  · subst hq
    simp [updV, upd]
  · simp [updV, upd, hq]
theorem xr_last (C : xHere p R s m args meth c y) (E : xEnv G B D cA s) (hM : xRep B D cA μ H) (hS : va_S (fun q => B ≤ q) s.heap H locs) {a : Nat} {i : Int32} {x : Int64} (hk : xKd μ a = 12) (hin : ¬ (i < 0 ∨ xLn μ a ≤ i.toNatClampNeg)) (hdg : decode (xB y) pc = .ok (.lastore, 1))
    (kk : ∀ (H1 : Heap) (locs1 : List Loc), xRep B D cA (xsJ μ a i.toNatClampNeg x) H1 → va_S (fun q => B ≤ q) s.heap H1 locs1 → W p l e R s m args below meth c H1 locs1 cells slots Q (F0 m (pc + 1) ls rest)) : W p l e R s m args below meth c H locs cells slots Q (F0 m pc ls (.long x :: .int i :: .ref a :: rest)) := by
  have h := hM.2.2.2.2.1 a hk
  refine W.last C.1 C.2.1 h ((E.1.2 3 _ rfl).1 _ (fun j => .long (xJ μ a j))) (fun q => by cases q) (by show ¬ (i < 0 ∨ (arrV _ _ _).slots.size ≤ _); rw [arrV_size]; exact hin) rfl rfl hdg fun H1 e z oq => ?_
  refine kk H1 _ (hM.rowJ (a := a) (f := vp_updL (xJ μ a) i.toNatClampNeg x) hk z oq ?_ rfl rfl xJ_sJ_row (fun b hb => xJ_sJ_ne hb) rfl rfl) (hS.put z oq (hM.2.1 a (by omega)).1)
  rw [e, vp_cell_l, vp_cell_l, arrV_store]
  congr 2
  funext q
  by_cases hq : q = i.toNatClampNeg
  · subst hq
    simp [updV, vp_updL]
  · simp [updV, vp_updL, hq]
theorem xr_aast (C : xHere p R s m args meth c y) (E : xEnv G B D cA s) (hM : xRep B D cA μ H) (hS : va_S (fun q => B ≤ q) s.heap H locs) {a v k ci t0 : Nat} {i : Int32} {r : vw_C} (hk : xKd μ a = k) (hk2 : k = 13 ∨ k = 14) (ht : (xtys cA)[t0]? = some (cA k, .object r.1)) (hv : xKd μ v = ci + 1) (h8 : ci < 8) (hr : r = (xcn ci, xTf ci, xNf ci)) (hin : ¬ (i < 0 ∨ xLn μ a ≤ i.toNatClampNeg)) (hdg : decode (xB y) pc = .ok (.aastore, 1))
    (kk : ∀ (H1 : Heap) (locs1 : List Loc), xRep B D cA (xsR μ a i.toNatClampNeg (some v)) H1 → va_S (fun q => B ≤ q) s.heap H1 locs1 → W p l e R s m args below meth c H1 locs1 cells slots Q (F0 m (pc + 1) ls rest)) : W p l e R s m args below meth c H locs cells slots Q (F0 m pc ls (.ref v :: .int i :: .ref a :: rest)) := by
  have hlt : i.toNatClampNeg < xLn μ a := Nat.not_le.mp fun q => hin (Or.inr q)
  have h0 : ¬ i < 0 := fun q => hin (Or.inl q)
  have hcell := hM.2.2.2.2.2 a (by rw [hk]; exact hk2)
  rw [hk] at hcell
  obtain ⟨r', hr', cellV, g1, g2, g3, -⟩ := hM.2.2.1 v ci hv h8
  have hc : xcl[ci]? = some r := by rw [hr]; exact xcl_at h8
  have hcls := (E.1.1 ci r hc).2
  obtain ⟨kA, comp, k1, k2, k3, -⟩ := (E.1.2 t0 _ ht).2
  have hcomp : comp = D.1 ci := Option.some.inj (k3.symm.trans hcls.1)
  subst hcomp
  obtain ⟨kC, hkC, -⟩ := hcls.2
  refine W.aast C.1 C.2.1 hcell (fun q h => by cases h) (fun h => by cases h) k1 k2 rfl hkC ⟨h0, by show _ < (arrV _ _ _).slots.size; rw [arrV_size]; exact hlt⟩ g1 (fun q h => by rw [g3] at h; cases h) (by rw [g2]; exact hkC) (by rw [g2]; exact va_assign hcls) rfl rfl hdg fun H1 e z oq => ?_
  refine kk H1 _ (hM.rowR (a := a) (f := va_up (xR μ a) i.toNatClampNeg (some v)) (by rw [hk]; exact hk2) z oq ?_ rfl rfl xR_sR_row (fun b hb => xR_sR_ne hb) rfl rfl) (hS.put z oq (hM.2.1 a (by omega)).1)
  rw [e, hk, vp_cell_q, vp_cell_q, arrV_store]
  congr 2
  funext q
  by_cases hq : q = i.toNatClampNeg
  · subst hq
    simp [updV, va_up, va_rf]
  · simp [updV, va_up, hq]
end XRW
