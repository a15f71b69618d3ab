/-! NEW CELLS, COPIES -/
theorem xarr_w : xAt lw_tbl [Cond.arrayClass .int, Cond.arrayClass .char, Cond.arrayClass .boolean, Cond.arrayClass .long] [125, 255, 126, 127] = true := by decide +kernel
theorem xcopy_w : xAt lw_tbl [Cond.native arraycopyName, Cond.static arraycopyName, Cond.initialized "java/lang/System", Cond.instanceMethod Lib.objectInit, Cond.code Lib.objectInit ⟨#[0xb1]⟩ 1 none] [343, 342, 76, 84, 85] = true := by decide +kernel
theorem xarr_in {w : Cond} (h : w ∈ ([Cond.arrayClass .int, Cond.arrayClass .char, Cond.arrayClass .boolean, Cond.arrayClass .long] : List Cond)) : w ∈ xWs := xWs_mem (xAt_ok _ _ xarr_w w h)
theorem xcopy_in {w : Cond} (h : w ∈ ([Cond.native arraycopyName, Cond.static arraycopyName, Cond.initialized "java/lang/System", Cond.instanceMethod Lib.objectInit, Cond.code Lib.objectInit ⟨#[0xb1]⟩ 1 none] : List Cond)) : w ∈ xWs := xWs_mem (xAt_ok _ _ xcopy_w w h)
theorem xty_dv : ∀ ci, ci < 8 → ∀ k, k < xNf ci → defaultValue (xty ci k) = (match xty ci k with | .long => .long 0 | .object _ => .null | .array _ => .null | _ => .int 0) := by decide +kernel
theorem xRep.new {B : Nat} {D : va_G} {cA : Nat → ClassId} {μ : xMem} {H H1 : Heap} {k n w : Nat} (hM : xRep B D cA μ H) (hf : xFg μ = 0) (hz : H1.size = H.size + 1) (hq : ∀ q, q < H.size → H1[q]? = H[q]?)
    (h1 : ∀ ci, k = ci + 1 → ci < 8 → va_at D xcl (xTp μ, .inr (ci, xfs ci (xnw μ k n w) (xTp μ))) H1)
    (h2 : (k = 9 ∨ k = 10 ∨ k = 11) → H1[xTp μ]? = some (vp_cell (cA k) (n, .inl (fun _ => 0))))
    (h3 : k = 12 → H1[xTp μ]? = some (vp_cell (cA 12) (n, .inr (.inl (fun _ => 0)))))
    (h4 : (k = 13 ∨ k = 14) → H1[xTp μ]? = some (vp_cell (cA k) (n, .inr (.inr (.inr (.inr (fun _ => none))))))) : xRep B D cA (xnw μ k n w) H1 := by
  obtain ⟨⟨g1, g2, g3⟩, g4, g5, g6, g7, g8⟩ := hM
  have et := g3 hf
  have ek : ∀ b, xKd (xnw μ k n w) b = if b = xTp μ then k else xKd μ b := fun b => by unfold xKd xnw; dsimp only; split <;> rfl
  have el : ∀ b, xLn (xnw μ k n w) b = if b = xTp μ then n else xLn μ b := fun b => by unfold xLn xnw; dsimp only; split <;> rfl
  have eI : ∀ b, xI (xnw μ k n w) b = if b = xTp μ then (fun _ => 0) else xI μ b := fun b => rfl
  have eJ : ∀ b, xJ (xnw μ k n w) b = if b = xTp μ then (fun _ => 0) else xJ μ b := fun b => rfl
  have eR : ∀ b, xR (xnw μ k n w) b = if b = xTp μ then (fun _ => none) else xR μ b := fun b => rfl
  refine ⟨⟨Nat.le_trans g1 (Nat.le_succ _), by show xTp μ + 1 ≤ H1.size; omega, fun _ => by show H1.size = xTp μ + 1; omega⟩, fun b hb => ?_, ?_, ?_, ?_, ?_⟩
  · rw [ek] at hb
    by_cases e : b = xTp μ
    · exact ⟨by omega, by show b < xTp μ + 1; omega⟩
    · rw [if_neg e] at hb
      have := g4 b hb
      exact ⟨this.1, by show b < xTp μ + 1; omega⟩
  · intro b ci hb hc
    rw [ek] at hb
    by_cases e : b = xTp μ
    · rw [if_pos e] at hb
      rw [e]
      exact h1 ci hb hc
    · rw [if_neg e] at hb
      rw [xfs_eq (μ := μ) (fun j => ⟨by rw [eI, if_neg e], by rw [eJ, if_neg e], by rw [eR, if_neg e]⟩)]
      exact (g5 b ci hb hc).kept (hq b (by have := (g4 b (by omega)).2; omega))
  · intro b hb
    rw [el, eI]
    rw [ek] at hb ⊢
    by_cases e : b = xTp μ
    · rw [if_pos e] at hb ⊢
      rw [if_pos e, if_pos e, e]
      exact h2 hb
    · rw [if_neg e] at hb ⊢
      rw [if_neg e, if_neg e, hq b (by have := (g4 b (by omega)).2; omega)]
      exact g6 b hb
  · intro b hb
    rw [el, eJ]
    rw [ek] at hb
    by_cases e : b = xTp μ
    · rw [if_pos e] at hb
      rw [if_pos e, if_pos e, e]
      exact h3 hb
    · rw [if_neg e] at hb
      rw [if_neg e, if_neg e, hq b (by have := (g4 b (by omega)).2; omega)]
      exact g7 b hb
  · intro b hb
    rw [el, eR]
    rw [ek] at hb ⊢
    by_cases e : b = xTp μ
    · rw [if_pos e] at hb ⊢
      rw [if_pos e, if_pos e, e]
      exact h4 hb
    · rw [if_neg e] at hb ⊢
      rw [if_neg e, if_neg e, hq b (by have := (g4 b (by omega)).2; omega)]
      exact g8 b hb
section XR2
variable {p : Program} {l : Launch} {e : Env} {R : Room} {s : State} {m : MethodId} {args : Array Value} {below : List Frame} {meth : Method} {c : Code} {H : Heap} {locs : List Loc} {cells slots : Nat} {Q : State → Prop}
variable {G : xCtx} {B : Nat} {D : va_G} {cA : Nat → ClassId} {μ : xMem} {y pc : Nat} {ls : Array Slot} {rest : List Value}
theorem xr_new (C : xHere p R s m args meth c y) (E : xEnv G B D cA s) (hM : xRep B D cA μ H) (hS : va_S (fun q => B ≤ q) s.heap H locs) (hf : xFg μ = 0) {j a ci z : Nat} (hl : xkf xNl (xown y) j = some (a, ci, z)) (hcells : cells + 1 ≤ R.cells) (hslots : slots + xNf ci ≤ R.slots) (hdg : decode (xB y) pc = .ok (.new j, 3))
    (kk : ∀ (H1 : Heap), xRep B D cA (xnw μ (ci + 1) 0 (xNf ci)) H1 → va_S (fun q => B ≤ q) s.heap H1 locs → W p l e R s m args below meth c H1 locs (cells + 1) (slots + xNf ci) Q (F0 m (pc + 3) ls (.ref (xTp μ) :: rest))) : W p l e R s m args below meth c H locs cells slots Q (F0 m pc ls rest) := by
  obtain ⟨hx, hb, hml, hown, hts, -⟩ := C
  obtain ⟨hc8, w1, w2, w3⟩ := xNl_of hl
  have hc := xcl_at hc8
  have hKn := E.1.1 ci _ hc
  have et := hM.1.2.2 hf
  refine W.newcK hx hb hown (hts _ w1) (hts _ w2) (hts _ w3) rfl hdg hcells hslots hKn.2.1 et fun H1 kC hkC e1 z1 o1 => ?_
  refine kk H1 (hM.new hf (by omega) (fun q hq => o1 q (by omega)) (fun ci' h1 h2 => ?_) (fun h => by omega) (fun h => by omega) (fun h => by omega)) ⟨Nat.le_trans hS.1 (by omega), fun x h1 h2 => (o1 x (by have := hS.1; omega)).trans (hS.2.1 x h1 h2), hS.2.2⟩
  obtain rfl : ci' = ci := by omega
  refine ⟨_, hc, (u_born (xty ci') hts (xlay_in hc8) hKn hkC e1 (xTf_ty ci' hc8)).to (fun k hk => ?_)⟩
  show defaultValue (xty ci' k) = vp_V _ k
  unfold vp_V
  rw [List.getD_eq_getElem?_getD, xfs_at hk, xty_dv ci' hc8 k hk]
  show _ = xv (xty ci' k) _ (xTp μ) k
  unfold xv
  have eI : xI (xnw μ (ci' + 1) 0 (xNf ci')) (xTp μ) k = 0 := by show (if xTp μ = xTp μ then (fun _ => (0 : Int32)) else xI μ (xTp μ)) k = 0; rw [if_pos rfl]
  have eJ : xJ (xnw μ (ci' + 1) 0 (xNf ci')) (xTp μ) k = 0 := by show (if xTp μ = xTp μ then (fun _ => (0 : Int64)) else xJ μ (xTp μ)) k = 0; rw [if_pos rfl]
  have eR : xR (xnw μ (ci' + 1) 0 (xNf ci')) (xTp μ) k = none := by show (if xTp μ = xTp μ then (fun _ => (none : Option Nat)) else xR μ (xTp μ)) k = none; rw [if_pos rfl]
  rw [eI, eJ, eR]
  cases xty ci' k <;> rfl
theorem xr_newa (C : xHere p R s m args meth c y) (E : xEnv G B D cA s) (hM : xRep B D cA μ H) (hS : va_S (fun q => B ≤ q) s.heap H locs) (hf : xFg μ = 0) {at' : ArrayType} {k k0 : Nat} {n : Int32} (hn : ¬ n < 0) (h6 : n.toNatClampNeg ≤ 60000) (hw : Cond.arrayClass (newarray.typeOf at') ∈ xWs) (hty : (xtys cA)[k0]? = some (cA k, newarray.typeOf at')) (hcb : componentBytes (newarray.typeOf at') ≤ 8)
    (hra : ∀ cA', va_RA s cA' (newarray.typeOf at') → s.vm.findClass ("[" ++ (newarray.typeOf at').toString) = some cA')
    (hd : ((k = 9 ∨ k = 10 ∨ k = 11) ∧ defaultValue (newarray.typeOf at') = .int 0) ∨ (k = 12 ∧ defaultValue (newarray.typeOf at') = .long 0))
    (hcells : cells + 1 ≤ R.cells) (hslots : slots + n.toNatClampNeg ≤ R.slots) (hdg : decode (xB y) pc = .ok (.newarray at', 2))
    (kk : ∀ (H1 : Heap), xRep B D cA (xnw μ k n.toNatClampNeg n.toNatClampNeg) H1 → va_S (fun q => B ≤ q) s.heap H1 locs → W p l e R s m args below meth c H1 locs (cells + 1) (slots + n.toNatClampNeg) Q (F0 m (pc + 2) ls (.ref (xTp μ) :: rest))) : W p l e R s m args below meth c H locs cells slots Q (F0 m pc ls (.int n :: rest)) := by
  obtain ⟨hx, hb, hml, hown, hts, -⟩ := C
  have et := hM.1.2.2 hf
  have hbytes : n.toNatClampNeg * componentBytes (newarray.typeOf at') ≤ 536870912 := Nat.le_trans (Nat.mul_le_mul h6 hcb) (by omega)
  refine va_newaK hx hb (hts _ hw) rfl hdg rfl hn rfl hbytes hcells hslots et fun H1 cA' e1 z1 o1 hAr hNm => ?_
  have hcA : cA' = cA k := Option.some.inj (hNm.symm.trans (hra _ (E.1.2 k0 _ hty).2))
  subst hcA
  refine kk H1 (hM.new hf (by omega) (fun q hq => o1 q (by omega)) (fun ci' h1 h2 => by omega) (fun h => ?_) (fun h => ?_) (fun h => by omega)) ⟨Nat.le_trans hS.1 (by omega), fun x h1 h2 => (o1 x (by have := hS.1; omega)).trans (hS.2.1 x h1 h2), hS.2.2⟩
  · rcases hd with ⟨-, hd⟩ | ⟨h9, -⟩
    · rw [e1, hd, vp_cell_i]
    · omega
  · rcases hd with ⟨h9, -⟩ | ⟨-, hd⟩
    · omega
    · rw [e1, hd, vp_cell_l, h]
theorem xr_anew (C : xHere p R s m args meth c y) (E : xEnv G B D cA s) (hM : xRep B D cA μ H) (hS : va_S (fun q => B ≤ q) s.heap H locs) (hf : xFg μ = 0) {j a ci z k k0 : Nat} {n : Int32} (hl : xkf xNl (xown y) j = some (a, ci, z)) (hn : ¬ n < 0) (h6 : n.toNatClampNeg ≤ 60000) (hao : va_AO (xcn ci) s) (hty : (xtys cA)[k0]? = some (cA k, .object (xcn ci))) (hk : k = 13 ∨ k = 14)
    (hcells : cells + 1 ≤ R.cells) (hslots : slots + n.toNatClampNeg ≤ R.slots) (hdg : decode (xB y) pc = .ok (.anewarray j, 3))
    (kk : ∀ (H1 : Heap), xRep B D cA (xnw μ k n.toNatClampNeg n.toNatClampNeg) H1 → va_S (fun q => B ≤ q) s.heap H1 locs → W p l e R s m args below meth c H1 locs (cells + 1) (slots + n.toNatClampNeg) Q (F0 m (pc + 3) ls (.ref (xTp μ) :: rest))) : W p l e R s m args below meth c H locs cells slots Q (F0 m pc ls (.int n :: rest)) := by
  obtain ⟨hx, hb, hml, hown, hts, -⟩ := C
  have et := hM.1.2.2 hf
  obtain ⟨-, w1, -⟩ := xNl_of hl
  have hbytes : n.toNatClampNeg * 4 ≤ 536870912 := by omega
  refine W.anew hx hb hown (hts _ w1) (va_AO.use hao) rfl hdg rfl hn hbytes hcells hslots fun cA' kA comp f1 f2 f3 f4 => ?_
  have hcA : cA' = cA k := by
    obtain ⟨_, _, _, _, _, h9⟩ := (E.1.2 k0 _ hty).2
    exact Option.some.inj (f1.symm.trans h9)
  subst hcA
  generalize hH1 : H.push ({ cls := cA k, slots := Array.replicate n.toNatClampNeg .null, vm := .none } : Cell) = H1
  have z1 : H1.size = H.size + 1 := by rw [← hH1, Array.size_push]
  have e1 : H1[H.size]? = some (arrV (cA k) n.toNatClampNeg (fun _ => .null)) := by rw [← hH1, Array.getElem?_push_size, ← arrV_new]
  have o1 : ∀ q : Nat, q < H.size → H1[q]? = H[q]? := fun q hq => by rw [← hH1, Array.getElem?_push, if_neg (Nat.ne_of_lt hq)]
  rw [et]
  rw [et] at e1
  refine kk H1 (hM.new hf z1 o1 (fun ci' h1 h2 => by omega) (fun h => by omega) (fun h => by omega) (fun h => ?_)) ⟨Nat.le_trans hS.1 (by omega), fun x h1 h2 => (o1 x (by have := hS.1; omega)).trans (hS.2.1 x h1 h2), hS.2.2⟩
  rw [e1, vp_cell_q]
  rfl
theorem xr_obj (C : xHere p R s m args meth c y) {lsz : ls.size = xL y} {j a z b : Nat} (hl : xkf xOl (xown y) j = some (0, a, z)) (hf : 1 ≤ xF y) (ho : 24 ≤ xO y) (hst : (rest.map fun v => v.category).sum ≤ 8) (hdg : decode (xB y) pc = .ok (.invokespecial j, 3))
    (kk : W p l e R s m args below meth c H locs cells slots Q (F0 m (pc + 3) ls rest)) : W p l e R s m args below meth c H locs cells slots Q (F0 m pc ls (.ref b :: rest)) := by
  obtain ⟨hx, hb, hml, hown, hts, -, -, ⟨hfr, hlo⟩, -⟩ := C
  refine W.objInit hx hb hown (hts _ ((xOl_of hl).1 rfl)) (hts _ (xcopy_in (by simp))) (hts _ (xcopy_in (by simp))) rfl (by show ls.size = _; rw [hml]; exact lsz) rfl hdg (by omega) ?_ (W.eq (g2 := F0 m (pc + 3) ls rest) rfl kk)
  show 2 * 0 + _ + 12 ≤ _
  omega
theorem xr_copy (C : xHere p R s m args meth c y) (E : xEnv G B D cA s) (hM : xRep B D cA μ H) (hS : va_S (fun q => B ≤ q) s.heap H locs) (lsz : ls.size = xL y) {j a0 z a b : Nat} {sp dp n : Int32} (hl : xkf xOl (xown y) j = some (1, a0, z)) (hf : 1 ≤ xF y) (ho : 40 ≤ xO y) (hst : (rest.map fun v => v.category).sum ≤ 8)
    (h1 : ¬ sp < 0) (h2 : ¬ dp < 0) (h3 : ¬ n < 0) (h4 : sp.toNatClampNeg + n.toNatClampNeg ≤ xLn μ a) (h5 : dp.toNatClampNeg + n.toNatClampNeg ≤ xLn μ b) (hdg : decode (xB y) pc = .ok (.invokestatic j, 3))
    {μ1 : xMem} (hμ : (xKd μ a = 9 ∧ xKd μ b = 9 ∧ μ1 = xrI μ b (va_cpy (xI μ a) (xI μ b) sp.toNatClampNeg dp.toNatClampNeg n.toNatClampNeg)) ∨ (xKd μ a = 12 ∧ xKd μ b = 12 ∧ μ1 = xrJ μ b (va_cpy (xJ μ a) (xJ μ b) sp.toNatClampNeg dp.toNatClampNeg n.toNatClampNeg)))
    (kk : ∀ (H1 : Heap) (locs1 : List Loc), xRep B D cA μ1 H1 → va_S (fun q => B ≤ q) s.heap H1 locs1 → W p l e R s m args below meth c H1 locs1 cells slots Q (F0 m (pc + 3) ls rest)) : W p l e R s m args below meth c H locs cells slots Q (F0 m pc ls (.int n :: .int dp :: .ref b :: .int sp :: .ref a :: rest)) := by
  obtain ⟨hx, hb, hml, hown, hts, -, -, ⟨hfr, hlo⟩, -⟩ := C
  have hlink := hts _ ((xOl_of hl).2 rfl)
  have hnat := hts _ (xcopy_in (w := Cond.native arraycopyName) (by simp))
  have hstat := hts _ (xcopy_in (w := Cond.static arraycopyName) (by simp))
  have hini := hts _ (xcopy_in (w := Cond.initialized "java/lang/System") (by simp))
  have nn : ∀ z : Int32, ¬ z < 0 → z.toInt = (z.toNatClampNeg : Int) := by
    intro z hz
    have hz0 : (0 : Int) ≤ z.toInt := by
      have := Int32.not_lt.mp hz
      simpa using Int32.le_iff_toInt_le.mp this
    show z.toInt = ((z.toInt.toNat : Nat) : Int)
    omega
  have hnw : nativeFrameWords "java/lang/System" "arraycopy" 5 = 7 := by decide +kernel
  -- the copy itself, for any two rows of one kind
  have core : ∀ {α : Type} (mk : α → Value) (kd : Nat) (ty : FieldType) (k0 : Nat) (f g : Nat → α), (xtys cA)[k0]? = some (cA kd, ty) → refKind ty = false → (∀ i, fits ty (mk (f i)) = true) → H[a]? = some (arrV (cA kd) (xLn μ a) (fun j => mk (f j))) → H[b]? = some (arrV (cA kd) (xLn μ b) (fun j => mk (g j))) →
      (∀ (H1 : Heap) (locs1 : List Loc), H1[b]? = some (arrV (cA kd) (xLn μ b) (fun j => mk (va_cpy f g sp.toNatClampNeg dp.toNatClampNeg n.toNatClampNeg j))) → H1.size = H.size → (∀ q : Nat, q ≠ b → H1[q]? = H[q]?) → (∀ q ∈ locs1, q ∈ locs ∨ q.base = b) → W p l e R s m args below meth c H1 locs1 cells slots Q (F0 m (pc + 3) ls rest)) →
      W p l e R s m args below meth c H locs cells slots Q (F0 m pc ls (.int n :: .int dp :: .ref b :: .int sp :: .ref a :: rest)) := by
    intro α mk kd ty k0 f g ht hprim hfit hc0 hc1 kk T hT X
    obtain ⟨-, k1, hk1, cm1, hkk1⟩ := (E.1.2 k0 _ ht).1 (xLn μ a) (fun j => mk (f j))
    obtain ⟨-, k2, hk2, cm2, hkk2⟩ := (E.1.2 k0 _ ht).1 (xLn μ b) (fun j => mk (g j))
    obtain ⟨vm', X', step⟩ := X.arraycopy hx hown hlink hnat hstat hini (src := a) (dst := b) (cs := arrV (cA kd) (xLn μ a) (fun j => mk (f j))) (cd := arrV (cA kd) (xLn μ b) (fun j => mk (g j))) (srcPos := sp) (destPos := dp) (n := n) (by rw [hT]; exact hc0) (by rw [hT]; exact hc1)
      (fun _ h => by cases h) (fun _ h => by cases h) (fun h => by cases h) (fun h => by cases h) hk1 hk2 hkk1 hkk2 (by simp [hprim]) h1 h2 h3
      (by rw [nn sp h1, nn n h3]; show ¬ _ > ((arrV _ _ (fun j => mk (f j))).slots.size : Int); rw [arrV_size]; omega)
      (by rw [nn dp h2, nn n h3]; show ¬ _ > ((arrV _ _ (fun j => mk (g j))).slots.size : Int); rw [arrV_size]; omega)
      (fun vm₁ _ i hi => by
        have e : (arrV (cA kd) (xLn μ a) (fun j => mk (f j))).slots.getD (sp.toNatClampNeg + i) .null = mk (f (sp.toNatClampNeg + i)) := by
          rw [Array.getD_eq_getD_getElem?, arrV_read _ _ (by omega)]
          rfl
        refine ⟨?_, ?_⟩
        · rw [e]
          exact hfit _
        · rw [e]
          have hfi := hfit (sp.toNatClampNeg + i)
          generalize mk (f (sp.toNatClampNeg + i)) = v at hfi
          cases v with
          | ref r => cases ty <;> first | (cases hprim; done) | (simp [fits] at hfi; done)
          | _ => exact trivial)
      (g := F0 m pc ls (.int n :: .int dp :: .ref b :: .int sp :: .ref a :: rest)) rfl (by show ls.size = _; rw [hml]; exact lsz) (rest := rest) rfl (by rw [hb]; exact hdg) (by omega) (by show 2 * 0 + _ + _ ≤ _; rw [hnw]; omega)
    have e1 : copied (arrV (cA kd) (xLn μ a) (fun j => mk (f j))) (arrV (cA kd) (xLn μ b) (fun j => mk (g j))) sp dp n = arrV (cA kd) (xLn μ b) (fun j => mk (va_cpy f g sp.toNatClampNeg dp.toNatClampNeg n.toNatClampNeg j)) := va_copied mk (cA kd) (cA kd) f g h4
    rw [e1] at X' step
    have hl : b < H.size := (Array.getElem?_eq_some_iff.mp hc1).1
    have hheap : ((T.setVm vm').setCell b (arrV (cA kd) (xLn μ b) (fun j => mk (va_cpy f g sp.toNatClampNeg dp.toNatClampNeg n.toNatClampNeg j)))).heap = H.setIfInBounds b (arrV (cA kd) (xLn μ b) (fun j => mk (va_cpy f g sp.toNatClampNeg dp.toNatClampNeg n.toNatClampNeg j))) := by rw [← hT]; rfl
    obtain ⟨t, a1, b1⟩ := kk _ _ (show (H.setIfInBounds b _)[b]? = some _ by simp [Array.getElem?_setIfInBounds, hl]) (by simp) (fun q hq => by simp [Array.getElem?_setIfInBounds, Ne.symm hq]) (fun q hq => by
        rcases List.mem_append.mp hq with h | h
        · exact Or.inl h
        · obtain ⟨z, -, hz⟩ := List.mem_map.mp h
          exact Or.inr (by rw [← hz])) _ hheap X'
    exact ⟨t, step t a1, b1⟩
  have keep : ∀ (H1 : Heap) (locs1 : List Loc), B ≤ b → H1.size = H.size → (∀ q : Nat, q ≠ b → H1[q]? = H[q]?) → (∀ q ∈ locs1, q ∈ locs ∨ q.base = b) → va_S (fun q => B ≤ q) s.heap H1 locs1 := fun H1 locs1 hB z o lo => ⟨by have := hS.1; omega, fun q g1 g2 => by
      rw [o q (fun e => g2 (by rw [e]; exact hB))]
      exact hS.2.1 q g1 g2, fun q hq => by
      rcases lo q hq with h | h
      · exact hS.2.2 q h
      · show B ≤ q.base
        rw [h]; exact hB⟩
  rcases hμ with ⟨ka, kb, rfl⟩ | ⟨ka, kb, rfl⟩
  · have ha := hM.2.2.2.1 a (Or.inl ka)
    have hb' := hM.2.2.2.1 b (Or.inl kb)
    rw [ka, vp_cell_i] at ha
    rw [kb, vp_cell_i] at hb'
    refine core (fun z => .int z) 9 .int 0 _ _ rfl rfl (fun _ => rfl) ha hb' fun H1 locs1 e z o lo => ?_
    refine kk H1 locs1 (hM.rowI (a := b) (f := va_cpy (xI μ a) (xI μ b) sp.toNatClampNeg dp.toNatClampNeg n.toNatClampNeg) (Or.inl kb) z o (by rw [kb, vp_cell_i]; exact e) rfl rfl ?_ (fun q hq => ?_) rfl rfl) (keep H1 locs1 (hM.2.1 b (by omega)).1 z o lo)
    · show (if b = b then _ else _) = _
      rw [if_pos rfl]
    · show (if q = b then _ else _) = _
      rw [if_neg hq]
  · have ha := hM.2.2.2.2.1 a ka
    have hb' := hM.2.2.2.2.1 b kb
    rw [vp_cell_l] at ha hb'
    refine core (fun z => .long z) 12 .long 3 _ _ rfl rfl (fun _ => rfl) ha hb' fun H1 locs1 e z o lo => ?_
    refine kk H1 locs1 (hM.rowJ (a := b) (f := va_cpy (xJ μ a) (xJ μ b) sp.toNatClampNeg dp.toNatClampNeg n.toNatClampNeg) kb z o (by rw [vp_cell_l]; exact e) rfl rfl ?_ (fun q hq => ?_) rfl rfl) (keep H1 locs1 (hM.2.1 b (by omega)).1 z o lo)
    · show (if b = b then _ else _) = _
      rw [if_pos rfl]
    · show (if q = b then _ else _) = _
      rw [if_neg hq]
end XR2
