/-! EQUATIONS BY KIND OF INSTRUCTION -/
section RUL
variable {G : xCtx} {y pc tgt : Nat} {ls : List (Option Value)} {st : List Value} {μ : xMem} {Q : xOut → xMem → Prop}
theorem xbr_t {b : Bool} {off : Int} {K : xK} (h0 : 0 ≤ (pc : Int) + off) (ht : ((pc : Int) + off).toNat = tgt) (hb : b = true) : xbr b pc off ls st μ K = K tgt ls st μ := by unfold xbr; rw [if_pos h0, if_pos hb, ht]
theorem xbr_n {b : Bool} {off : Int} {K : xK} (h0 : 0 ≤ (pc : Int) + off) (hb : b = false) : xbr b pc off ls st μ K = K (pc + 3) ls st μ := by unfold xbr; rw [if_pos h0, if_neg (by rw [hb]; decide)]
theorem xjmp_t {off : Int} {K : xK} (h0 : 0 ≤ (pc : Int) + off) (ht : ((pc : Int) + off).toNat = tgt) : xjmp pc off ls st μ K = K tgt ls st μ := by unfold xjmp; rw [if_pos h0, ht]
theorem Rn.if1 {op : Jvm.ClassFile.Cond} {off : Int} {a : Int32} (hi : xins y pc = some (.ifCond op off)) (h0 : 0 ≤ (pc : Int) + off) (ht : ((pc : Int) + off).toNat = tgt) {P : Prop} [Decidable P] (h1 : P → xcond op a 0 = true) (h2 : ¬ P → xcond op a 0 = false) : Rn G y pc ls (.int a :: st) μ Q = if P then Rn G y tgt ls st μ Q else Rn G y (pc + 3) ls st μ Q :=
  Rn.br hi (fun h c K => xbr_t h0 ht (h1 h)) (fun h c K => xbr_n h0 (h2 h))
theorem Rn.if2 {op : Jvm.ClassFile.Cond} {off : Int} {a b : Int32} (hi : xins y pc = some (.if_icmp op off)) (h0 : 0 ≤ (pc : Int) + off) (ht : ((pc : Int) + off).toNat = tgt) {P : Prop} [Decidable P] (h1 : P → xcond op a b = true) (h2 : ¬ P → xcond op a b = false) : Rn G y pc ls (.int b :: .int a :: st) μ Q = if P then Rn G y tgt ls st μ Q else Rn G y (pc + 3) ls st μ Q :=
  Rn.br hi (fun h c K => xbr_t h0 ht (h1 h)) (fun h c K => xbr_n h0 (h2 h))
theorem Rn.goto {off : Int} (hi : xins y pc = some (.goto off)) (h0 : 0 ≤ (pc : Int) + off) (ht : ((pc : Int) + off).toNat = tgt) : Rn G y pc ls st μ Q = Rn G y tgt ls st μ Q := Rn.go hi (fun c K => xjmp_t h0 ht)
theorem Rn.nullR {off : Int} {a : Nat} (hi : xins y pc = some (.ifnull off)) : Rn G y pc ls (.ref a :: st) μ Q = Rn G y (pc + 3) ls st μ Q := Rn.go hi (fun c K => rfl)
theorem Rn.nullN {off : Int} (hi : xins y pc = some (.ifnull off)) (h0 : 0 ≤ (pc : Int) + off) (ht : ((pc : Int) + off).toNat = tgt) : Rn G y pc ls (.null :: st) μ Q = Rn G y tgt ls st μ Q := Rn.go hi (fun c K => xjmp_t h0 ht)
theorem Rn.nonnullR {off : Int} {a : Nat} (hi : xins y pc = some (.ifnonnull off)) (h0 : 0 ≤ (pc : Int) + off) (ht : ((pc : Int) + off).toNat = tgt) : Rn G y pc ls (.ref a :: st) μ Q = Rn G y tgt ls st μ Q := Rn.go hi (fun c K => xjmp_t h0 ht)
theorem Rn.nonnullN {off : Int} (hi : xins y pc = some (.ifnonnull off)) : Rn G y pc ls (.null :: st) μ Q = Rn G y (pc + 3) ls st μ Q := Rn.go hi (fun c K => rfl)
theorem Rn.acmpne {off : Int} {a b : Nat} (hi : xins y pc = some (.if_acmp .ne off)) (h0 : 0 ≤ (pc : Int) + off) (ht : ((pc : Int) + off).toNat = tgt) : Rn G y pc ls (.ref b :: .ref a :: st) μ Q = if a = b then Rn G y (pc + 3) ls st μ Q else Rn G y tgt ls st μ Q :=
  Rn.br hi (fun h c K => xbr_n h0 (decide_eq_false (fun n => n h))) (fun h c K => xbr_t h0 ht (decide_eq_true h))
theorem Rn.getf {j nest ci k a : Nat} (hi : xins y pc = some (.getfield j)) (hl : xkf xFl (xown y) j = some (nest, ci, k)) (hk : xKd μ a = ci + 1) : Rn G y pc ls (.ref a :: st) μ Q = Rn G y (pc + 3) ls (xv (xty ci k) μ a k :: st) μ Q :=
  Rn.go hi (fun c K => by simp only [xstep]; rw [hl]; dsimp only; rw [if_pos hk])
theorem Rn.putI {j nest ci k a : Nat} {x : Int32} (hi : xins y pc = some (.putfield j)) (hl : xkf xFl (xown y) j = some (nest, ci, k)) (hty : xty ci k = .int) (hf : (xTf ci k).2.2.2 = false ∨ (nest = 0 ∧ xown y = ci ∧ (xY y).name = "<init>")) (hk : xKd μ a = ci + 1) : Rn G y pc ls (.int x :: .ref a :: st) μ Q = Rn G y (pc + 3) ls st (xsI μ a k x) Q :=
  Rn.go hi (fun c K => by simp only [xstep]; rw [hl]; dsimp only [xput]; rw [if_pos ⟨hk, hf⟩, hty])
theorem Rn.putZ {j nest ci k a : Nat} {x : Int32} (hi : xins y pc = some (.putfield j)) (hl : xkf xFl (xown y) j = some (nest, ci, k)) (hty : xty ci k = .boolean) (hf : (xTf ci k).2.2.2 = false ∨ (nest = 0 ∧ xown y = ci ∧ (xY y).name = "<init>")) (hk : xKd μ a = ci + 1) (hx : x = 0 ∨ x = 1) : Rn G y pc ls (.int x :: .ref a :: st) μ Q = Rn G y (pc + 3) ls st (xsI μ a k x) Q :=
  Rn.go hi (fun c K => by simp only [xstep]; rw [hl]; dsimp only [xput]; rw [if_pos ⟨hk, hf⟩, hty]; dsimp only; rw [if_pos hx])
theorem Rn.putJ {j nest ci k a : Nat} {x : Int64} (hi : xins y pc = some (.putfield j)) (hl : xkf xFl (xown y) j = some (nest, ci, k)) (hty : xty ci k = .long) (hf : (xTf ci k).2.2.2 = false ∨ (nest = 0 ∧ xown y = ci ∧ (xY y).name = "<init>")) (hk : xKd μ a = ci + 1) : Rn G y pc ls (.long x :: .ref a :: st) μ Q = Rn G y (pc + 3) ls st (xsJ μ a k x) Q :=
  Rn.go hi (fun c K => by simp only [xstep]; rw [hl]; dsimp only [xput]; rw [if_pos ⟨hk, hf⟩, hty])
theorem Rn.putR {j nest ci k a r : Nat} (hi : xins y pc = some (.putfield j)) (hl : xkf xFl (xown y) j = some (nest, ci, k)) (hty : (∃ C, xty ci k = .object C) ∨ ∃ C, xty ci k = .array C) (hf : (xTf ci k).2.2.2 = false ∨ (nest = 0 ∧ xown y = ci ∧ (xY y).name = "<init>")) (hk : xKd μ a = ci + 1) : Rn G y pc ls (.ref r :: .ref a :: st) μ Q = Rn G y (pc + 3) ls st (xsR μ a k (some r)) Q :=
  Rn.go hi (fun c K => by
    simp only [xstep]; rw [hl]; dsimp only [xput]; rw [if_pos ⟨hk, hf⟩]
    rcases hty with ⟨C, h⟩ | ⟨C, h⟩ <;> rw [h])
theorem Rn.gets {j nest k z : Nat} (hi : xins y pc = some (.getstatic j)) (hl : xkf xSl (xown y) j = some (nest, k, z)) : Rn G y pc ls st μ Q = Rn G y (pc + 3) ls (.ref (G.1 k) :: st) μ Q :=
  Rn.go hi (fun c K => by simp only [xstep]; rw [hl])
/-- an index in range -/
def xix (j : Int32) (n : Nat) : Prop := ¬ (j < 0 ∨ n ≤ j.toNatClampNeg)
theorem Rn.iald {a : Nat} {j : Int32} (hi : xins y pc = some .iaload) (hk : xKd μ a = 9) : Rn G y pc ls (.int j :: .ref a :: st) μ Q = (xix j (xLn μ a) ∧ Rn G y (pc + 1) ls (.int (xI μ a j.toNatClampNeg) :: st) μ Q) :=
  Rn.goc hi (fun h c K => by simp only [xstep]; rw [if_pos hk, if_neg h]) (fun h c K => by simp only [xstep]; rw [if_pos hk, if_pos (Decidable.not_not.mp h)])
theorem Rn.tald {a n : Nat} {f : Nat → Int32} {j : Int32} (hi : xins y pc = some .iaload) (hk : xKd μ a = 0) (hg : G.2 a = some (n, f)) : Rn G y pc ls (.int j :: .ref a :: st) μ Q = (xix j n ∧ Rn G y (pc + 1) ls (.int (f j.toNatClampNeg) :: st) μ Q) :=
  Rn.goc hi (fun h c K => by simp only [xstep]; rw [if_neg (by omega), hg]; dsimp only; rw [if_neg h]) (fun h c K => by simp only [xstep]; rw [if_neg (by omega), hg]; dsimp only; rw [if_pos (Decidable.not_not.mp h)])
theorem Rn.lald {a : Nat} {j : Int32} (hi : xins y pc = some .laload) (hk : xKd μ a = 12) : Rn G y pc ls (.int j :: .ref a :: st) μ Q = (xix j (xLn μ a) ∧ Rn G y (pc + 1) ls (.long (xJ μ a j.toNatClampNeg) :: st) μ Q) :=
  Rn.goc hi (fun h c K => by simp only [xstep]; rw [if_pos ⟨hk, h⟩]) (fun h c K => by simp only [xstep]; rw [if_neg (fun z => h z.2)])
theorem Rn.zald {a : Nat} {j : Int32} (hi : xins y pc = some .baload) (hk : xKd μ a = 11) : Rn G y pc ls (.int j :: .ref a :: st) μ Q = (xix j (xLn μ a) ∧ Rn G y (pc + 1) ls (.int (xI μ a j.toNatClampNeg) :: st) μ Q) :=
  Rn.goc hi (fun h c K => by simp only [xstep]; rw [if_pos ⟨hk, h⟩]) (fun h c K => by simp only [xstep]; rw [if_neg (fun z => h z.2)])
theorem Rn.cald {a : Nat} {j : Int32} (hi : xins y pc = some .caload) (hk : xKd μ a = 10) : Rn G y pc ls (.int j :: .ref a :: st) μ Q = (xix j (xLn μ a) ∧ Rn G y (pc + 1) ls (.int (xI μ a j.toNatClampNeg) :: st) μ Q) :=
  Rn.goc hi (fun h c K => by simp only [xstep]; rw [if_pos ⟨hk, h⟩]) (fun h c K => by simp only [xstep]; rw [if_neg (fun z => h z.2)])
theorem Rn.aald {a : Nat} {j : Int32} (hi : xins y pc = some .aaload) (hk : xKd μ a = 13 ∨ xKd μ a = 14) : Rn G y pc ls (.int j :: .ref a :: st) μ Q = (xix j (xLn μ a) ∧ Rn G y (pc + 1) ls (va_rf (xR μ a j.toNatClampNeg) :: st) μ Q) :=
  Rn.goc hi (fun h c K => by simp only [xstep]; rw [if_pos ⟨hk, h⟩]) (fun h c K => by simp only [xstep]; rw [if_neg (fun z => h z.2)])
theorem Rn.iast {a : Nat} {j x : Int32} (hi : xins y pc = some .iastore) (hk : xKd μ a = 9) : Rn G y pc ls (.int x :: .int j :: .ref a :: st) μ Q = (xix j (xLn μ a) ∧ Rn G y (pc + 1) ls st (xsI μ a j.toNatClampNeg x) Q) :=
  Rn.goc hi (fun h c K => by simp only [xstep]; rw [if_pos ⟨hk, h⟩]) (fun h c K => by simp only [xstep]; rw [if_neg (fun z => h z.2)])
theorem Rn.last {a : Nat} {j : Int32} {x : Int64} (hi : xins y pc = some .lastore) (hk : xKd μ a = 12) : Rn G y pc ls (.long x :: .int j :: .ref a :: st) μ Q = (xix j (xLn μ a) ∧ Rn G y (pc + 1) ls st (xsJ μ a j.toNatClampNeg x) Q) :=
  Rn.goc hi (fun h c K => by simp only [xstep]; rw [if_pos ⟨hk, h⟩]) (fun h c K => by simp only [xstep]; rw [if_neg (fun z => h z.2)])
theorem Rn.zast {a : Nat} {j x : Int32} (hi : xins y pc = some .bastore) (hk : xKd μ a = 11) : Rn G y pc ls (.int x :: .int j :: .ref a :: st) μ Q = ((xix j (xLn μ a) ∧ vp_nar .boolean x = x) ∧ Rn G y (pc + 1) ls st (xsI μ a j.toNatClampNeg x) Q) :=
  Rn.goc hi (fun h c K => by simp only [xstep]; rw [if_pos ⟨hk, h⟩]) (fun h c K => by simp only [xstep]; rw [if_neg (fun z => h z.2)])
theorem Rn.cast {a : Nat} {j x : Int32} (hi : xins y pc = some .castore) (hk : xKd μ a = 10) : Rn G y pc ls (.int x :: .int j :: .ref a :: st) μ Q = ((xix j (xLn μ a) ∧ vp_nar .char x = x) ∧ Rn G y (pc + 1) ls st (xsI μ a j.toNatClampNeg x) Q) :=
  Rn.goc hi (fun h c K => by simp only [xstep]; rw [if_pos ⟨hk, h⟩]) (fun h c K => by simp only [xstep]; rw [if_neg (fun z => h z.2)])
theorem Rn.aast {a v : Nat} {j : Int32} (hi : xins y pc = some .aastore) (hk : (xKd μ a = 13 ∧ xKd μ v = 4) ∨ (xKd μ a = 14 ∧ xKd μ v = 6)) : Rn G y pc ls (.ref v :: .int j :: .ref a :: st) μ Q = (xix j (xLn μ a) ∧ Rn G y (pc + 1) ls st (xsR μ a j.toNatClampNeg (some v)) Q) :=
  Rn.goc hi (fun h c K => by simp only [xstep]; rw [if_pos ⟨hk, h⟩]) (fun h c K => by simp only [xstep]; rw [if_neg (fun z => h z.2)])
theorem Rn.alen {a : Nat} (hi : xins y pc = some .arraylength) (hk : 9 ≤ xKd μ a ∧ xKd μ a ≤ 14) : Rn G y pc ls (.ref a :: st) μ Q = Rn G y (pc + 1) ls (.int (Int32.ofNat (xLn μ a)) :: st) μ Q :=
  Rn.go hi (fun c K => by simp only [xstep]; rw [if_pos hk])
theorem Rn.tlen {a n : Nat} {f : Nat → Int32} (hi : xins y pc = some .arraylength) (hk : xKd μ a = 0) (hg : G.2 a = some (n, f)) : Rn G y pc ls (.ref a :: st) μ Q = Rn G y (pc + 1) ls (.int (Int32.ofNat n) :: st) μ Q :=
  Rn.go hi (fun c K => by simp only [xstep]; rw [if_neg (by omega), hg])
theorem Rn.div {a b : Int32} (hi : xins y pc = some .idiv) : Rn G y pc ls (.int b :: .int a :: st) μ Q = (¬ b = 0 ∧ Rn G y (pc + 1) ls (.int (a / b) :: st) μ Q) :=
  Rn.goc hi (fun h c K => by simp only [xstep]; rw [if_neg h]) (fun h c K => by simp only [xstep]; rw [if_pos (Decidable.not_not.mp h)])
theorem Rn.rem {a b : Int32} (hi : xins y pc = some .irem) : Rn G y pc ls (.int b :: .int a :: st) μ Q = (¬ b = 0 ∧ Rn G y (pc + 1) ls (.int (a - a / b * b) :: st) μ Q) :=
  Rn.goc hi (fun h c K => by simp only [xstep]; rw [if_neg h]) (fun h c K => by simp only [xstep]; rw [if_pos (Decidable.not_not.mp h)])
theorem Rn.ldiv {a b : Int64} (hi : xins y pc = some .ldiv) : Rn G y pc ls (.long b :: .long a :: st) μ Q = (¬ b = 0 ∧ Rn G y (pc + 1) ls (.long (a / b) :: st) μ Q) :=
  Rn.goc hi (fun h c K => by simp only [xstep]; rw [if_neg h]) (fun h c K => by simp only [xstep]; rw [if_pos (Decidable.not_not.mp h)])
theorem Rn.dmul {a b : UInt64} (hi : xins y pc = some .dmul) : Rn G y pc ls (.double b :: .double a :: st) μ Q = (vf_n64 (FP.dmul a b) ∧ Rn G y (pc + 1) ls (.double (FP.dmul a b) :: st) μ Q) :=
  Rn.goc hi (fun h c K => by simp only [xstep]; exact if_pos h) (fun h c K => by simp only [xstep]; exact if_neg h)
theorem Rn.dsub {a b : UInt64} (hi : xins y pc = some .dsub) : Rn G y pc ls (.double b :: .double a :: st) μ Q = (vf_n64 (FP.dsub a b) ∧ Rn G y (pc + 1) ls (.double (FP.dsub a b) :: st) μ Q) :=
  Rn.goc hi (fun h c K => by simp only [xstep]; exact if_pos h) (fun h c K => by simp only [xstep]; exact if_neg h)
theorem Rn.ddiv {a b : UInt64} (hi : xins y pc = some .ddiv) : Rn G y pc ls (.double b :: .double a :: st) μ Q = (vf_n64 (FP.ddiv a b) ∧ Rn G y (pc + 1) ls (.double (FP.ddiv a b) :: st) μ Q) :=
  Rn.goc hi (fun h c K => by simp only [xstep]; exact if_pos h) (fun h c K => by simp only [xstep]; exact if_neg h)
theorem Rn.retI {v : Int32} (hi : xins y pc = some .ireturn) (hT : xT y = some .int) : Rn G y pc ls [.int v] μ Q = Q (.inl (some (.int v))) μ :=
  Rn.ret hi (fun c K => by simp only [xstep, xretf]; rw [if_pos (Or.inl hT)])
theorem Rn.retZ {v : Int32} (hi : xins y pc = some .ireturn) (hT : xT y = some .boolean) (hv : v = 0 ∨ v = 1) : Rn G y pc ls [.int v] μ Q = Q (.inl (some (.int v))) μ :=
  Rn.ret hi (fun c K => by simp only [xstep, xretf]; rw [if_pos (Or.inr ⟨hT, hv⟩)])
theorem Rn.retJ {v : Int64} (hi : xins y pc = some .lreturn) (hT : xT y = some .long) : Rn G y pc ls [.long v] μ Q = Q (.inl (some (.long v))) μ :=
  Rn.ret hi (fun c K => by simp only [xstep, xretf]; rw [if_pos hT])
theorem Rn.retD {v : UInt64} (hi : xins y pc = some .dreturn) (hT : xT y = some .double) : Rn G y pc ls [.double v] μ Q = Q (.inl (some (.double v))) μ :=
  Rn.ret hi (fun c K => by simp only [xstep, xretf]; rw [if_pos hT])
theorem Rn.retA {a : Nat} {C : String} (hi : xins y pc = some .areturn) (hT : xT y = some (.object C)) : Rn G y pc ls [.ref a] μ Q = Q (.inl (some (.ref a))) μ :=
  Rn.ret hi (fun c K => by simp only [xstep, xretf]; rw [hT])
theorem Rn.retN {C : String} (hi : xins y pc = some .areturn) (hT : xT y = some (.object C)) : Rn G y pc ls [.null] μ Q = Q (.inl (some .null)) μ :=
  Rn.ret hi (fun c K => by simp only [xstep, xretf]; rw [hT])
theorem Rn.retV (hi : xins y pc = some .return_) (hT : xT y = none) : Rn G y pc ls [] μ Q = Q (.inl none) μ :=
  Rn.ret hi (fun c K => by simp only [xstep, xretf]; rw [if_pos hT])
/-- what a caller does behind a call -/
def xaf (G : xCtx) (y pc nest q t : Nat) (ls : List (Option Value)) (rs : List Value) (Q : xOut → xMem → Prop) (o : xOut) (μ1 : xMem) : Prop := match o with
  | .inl v => Rn G y (pc + 3) ls (v.toList ++ rs) μ1 Q
  | .inr E => (nest = 0 ∧ q = 1 ∧ xH t = none) ∧ ∃ h0, xhand y pc E = some h0 ∧ ∃ f o2 μ2, xcat y h0 ls μ1 (xrun G f y) = some (o2, μ2) ∧ Q o2 μ2
theorem Rn.vcall {j t nest z b : Nat} {as rs : List Value} (hi : xins y pc = some (.invokevirtual j)) (hl : xkf xMl (xown y) j = some (nest, t, z)) (hs : (st.take (xnar t 1)).reverse = .ref b :: as) (hr : st.drop (xnar t 1) = rs) (hc : xQ t = 1 ∧ xRoomOk y t = true ∧ xnar t 1 ≤ st.length ∧ (rs.map (fun v => v.category)).sum ≤ 8 ∧ (xent0 (.ref b :: as)).length ≤ xL t ∧ xH t = none ∧ xown t < 8) (hk : xKd μ b = xown t + 1) :
    Rn G y pc ls st μ Q = Cn G t (.ref b :: as) μ (xaf G y pc nest 1 t ls rs Q) :=
  Rn.call hi (fun c K => by simp only [xstep]; rw [hl]) hs hr ⟨hc.1, hc.2.1, hc.2.2.1, hc.2.2.2.1, by show decide _ = true; exact decide_eq_true ⟨hk, hc.2.2.2.2.2.2⟩, hc.2.2.2.2.1, Or.inl hc.2.2.2.2.2.1⟩
theorem Rn.scall {j t nest z : Nat} {as rs : List Value} (hi : xins y pc = some (.invokestatic j)) (ho : xkf xOl (xown y) j = none) (hl : xkf xMl (xown y) j = some (nest, t, z)) (hs : (st.take (xnar t 0)).reverse = as) (hr : st.drop (xnar t 0) = rs) (hc : xQ t = 0 ∧ xRoomOk y t = true ∧ xnar t 0 ≤ st.length ∧ (rs.map (fun v => v.category)).sum ≤ 8 ∧ (xent0 as).length ≤ xL t ∧ (xH t = none ∨ nest = 0)) :
    Rn G y pc ls st μ Q = Cn G t as μ (xaf G y pc nest 0 t ls rs Q) :=
  Rn.call hi (fun c K => by simp only [xstep]; rw [ho]; dsimp only; rw [hl]) hs hr ⟨hc.1, hc.2.1, hc.2.2.1, hc.2.2.2.1, rfl, hc.2.2.2.2.1, hc.2.2.2.2.2.imp id (fun h => ⟨rfl, h⟩)⟩
theorem Rn.icall {j t nest z b : Nat} {as rs : List Value} (hi : xins y pc = some (.invokespecial j)) (ho : xkf xOl (xown y) j = none) (hl : xkf xMl (xown y) j = some (nest, t, z)) (hs : (st.take (xnar t 2)).reverse = .ref b :: as) (hr : st.drop (xnar t 2) = rs) (hc : xQ t = 2 ∧ xRoomOk y t = true ∧ xnar t 2 ≤ st.length ∧ (rs.map (fun v => v.category)).sum ≤ 8 ∧ (xent0 (.ref b :: as)).length ≤ xL t ∧ xH t = none ∧ xown t < 8) (hk : xKd μ b = xown t + 1) :
    Rn G y pc ls st μ Q = Cn G t (.ref b :: as) μ (xaf G y pc nest 2 t ls rs Q) :=
  Rn.call hi (fun c K => by simp only [xstep]; rw [ho]; dsimp only; rw [hl]) hs hr ⟨hc.1, hc.2.1, hc.2.2.1, hc.2.2.2.1, by show decide _ = true; exact decide_eq_true ⟨hk, hc.2.2.2.2.2.2⟩, hc.2.2.2.2.1, Or.inl hc.2.2.2.2.2.1⟩
theorem Rn.obj {j a z b : Nat} (hi : xins y pc = some (.invokespecial j)) (ho : xkf xOl (xown y) j = some (0, a, z)) (hc : 1 ≤ xF y ∧ 24 ≤ xO y ∧ (st.map (fun v => v.category)).sum ≤ 8) : Rn G y pc ls (.ref b :: st) μ Q = Rn G y (pc + 3) ls st μ Q :=
  Rn.go hi (fun c K => by simp only [xstep]; rw [ho]; dsimp only; rw [if_pos ⟨rfl, hc⟩])
theorem Rn.new {j a ci z : Nat} (hi : xins y pc = some (.new j)) (hl : xkf xNl (xown y) j = some (a, ci, z)) (hf : xFg μ = 0) : Rn G y pc ls st μ Q = Rn G y (pc + 3) ls (.ref (xTp μ) :: st) (xnw μ (ci + 1) 0 (xNf ci)) Q :=
  Rn.go hi (fun c K => by simp only [xstep]; rw [hl]; dsimp only; rw [if_pos hf])
theorem Rn.thr {j X : Nat} (hi : xins y pc = some (.new j)) (hl : xkf xNl (xown y) j = none) (hX : xkc xTl (xown y) j = some X) (h : xthrow y X pc st μ = some (.inr X, xex μ)) : Rn G y pc ls st μ Q = Q (.inr X) (xex μ) :=
  Rn.ret hi (fun c K => by simp only [xstep]; rw [hl]; dsimp only; rw [hX]; exact h)
theorem Rn.copyI {j a0 z a b : Nat} {sp dp n : Int32} (hi : xins y pc = some (.invokestatic j)) (ho : xkf xOl (xown y) j = some (1, a0, z)) (hc : 1 ≤ xF y ∧ 40 ≤ xO y) (h : ¬ sp < 0 ∧ ¬ dp < 0 ∧ ¬ n < 0 ∧ sp.toNatClampNeg + n.toNatClampNeg ≤ xLn μ a ∧ dp.toNatClampNeg + n.toNatClampNeg ≤ xLn μ b ∧ (st.map (fun v => v.category)).sum ≤ 8) (hk : xKd μ a = 9 ∧ xKd μ b = 9) :
    Rn G y pc ls (.int n :: .int dp :: .ref b :: .int sp :: .ref a :: st) μ Q = Rn G y (pc + 3) ls st (xrI μ b (va_cpy (xI μ a) (xI μ b) sp.toNatClampNeg dp.toNatClampNeg n.toNatClampNeg)) Q :=
  Rn.go hi (fun c K => by simp only [xstep]; rw [ho]; dsimp only; rw [if_pos ⟨rfl, hc⟩]; dsimp only [xcopy]; rw [if_pos h, if_pos hk])
theorem Rn.copyJ {j a0 z a b : Nat} {sp dp n : Int32} (hi : xins y pc = some (.invokestatic j)) (ho : xkf xOl (xown y) j = some (1, a0, z)) (hc : 1 ≤ xF y ∧ 40 ≤ xO y) (h : ¬ sp < 0 ∧ ¬ dp < 0 ∧ ¬ n < 0 ∧ sp.toNatClampNeg + n.toNatClampNeg ≤ xLn μ a ∧ dp.toNatClampNeg + n.toNatClampNeg ≤ xLn μ b ∧ (st.map (fun v => v.category)).sum ≤ 8) (hk : xKd μ a = 12 ∧ xKd μ b = 12) :
    Rn G y pc ls (.int n :: .int dp :: .ref b :: .int sp :: .ref a :: st) μ Q = Rn G y (pc + 3) ls st (xrJ μ b (va_cpy (xJ μ a) (xJ μ b) sp.toNatClampNeg dp.toNatClampNeg n.toNatClampNeg)) Q :=
  Rn.go hi (fun c K => by simp only [xstep]; rw [ho]; dsimp only; rw [if_pos ⟨rfl, hc⟩]; dsimp only [xcopy]; rw [if_pos h, if_neg (by omega), if_pos hk])
theorem Rn.ic {n : Int} {v : Int32} (hi : xins y pc = some (.iconst n)) (hv : Int32.ofInt n = v) : Rn G y pc ls st μ Q = Rn G y (pc + 1) ls (.int v :: st) μ Q := by subst hv; exact Rn.go hi (fun c K => rfl)
theorem Rn.bi {n : Int} {v : Int32} (hi : xins y pc = some (.bipush n)) (hv : (Int8.ofInt n).toInt32 = v) : Rn G y pc ls st μ Q = Rn G y (pc + 2) ls (.int v :: st) μ Q := by subst hv; exact Rn.go hi (fun c K => rfl)
theorem Rn.si {n : Int} {v : Int32} (hi : xins y pc = some (.sipush n)) (hv : (Int16.ofInt n).toInt32 = v) : Rn G y pc ls st μ Q = Rn G y (pc + 3) ls (.int v :: st) μ Q := by subst hv; exact Rn.go hi (fun c K => rfl)
theorem Rn.lc {n : Fin 2} {v : Int64} (hi : xins y pc = some (.lconst n)) (hv : Int64.ofNat (n : Nat) = v) : Rn G y pc ls st μ Q = Rn G y (pc + 1) ls (.long v :: st) μ Q := by subst hv; exact Rn.go hi (fun c K => rfl)
theorem Rn.ldc {j : Nat} {v : Int32} (hi : xins y pc = some (.ldc j)) (hv : xkc xCi (xown y) j = some v) : Rn G y pc ls st μ Q = Rn G y (pc + 2) ls (.int v :: st) μ Q := Rn.go hi (fun c K => by simp only [xstep]; rw [hv])
theorem Rn.ldcw {j : Nat} {v : Int32} (hi : xins y pc = some (.ldc_w j)) (hv : xkc xCi (xown y) j = some v) : Rn G y pc ls st μ Q = Rn G y (pc + 3) ls (.int v :: st) μ Q := Rn.go hi (fun c K => by simp only [xstep]; rw [hv])
theorem Rn.ldc2 {j : Nat} {v : Int64} (hi : xins y pc = some (.ldc2_w j)) (hv : xkc xCl (xown y) j = some v) : Rn G y pc ls st μ Q = Rn G y (pc + 3) ls (.long v :: st) μ Q := Rn.go hi (fun c K => by simp only [xstep]; rw [hv])
theorem Rn.ldc2d {j : Nat} {v : UInt64} (hi : xins y pc = some (.ldc2_w j)) (h0 : xkc xCl (xown y) j = none) (hv : xkc xCd (xown y) j = some v) : Rn G y pc ls st μ Q = Rn G y (pc + 3) ls (.double v :: st) μ Q := Rn.go hi (fun c K => by simp only [xstep]; rw [h0]; dsimp only; rw [hv])
theorem Rn.iinc {k : Nat} {n : Int} {x v : Int32} {ls' : List (Option Value)} (hi : xins y pc = some (.iinc k n)) (hk : ls[k]? = some (some (.int x))) (hv : Int32.ofInt n = v) (hl : xset1 ls k (.int (x + v)) = ls') : Rn G y pc ls st μ Q = Rn G y (pc + 3) ls' st μ Q := by subst hv; subst hl; exact Rn.go hi (fun c K => by simp only [xstep]; rw [hk])
theorem Rn.ld {t k n : Nat} {i : Instr} {v : Value} (hi : xins y pc = some i) (hs : ∀ c K, xstep G c K y i pc ls st μ = xld t k n pc ls st μ K) (hk : ls[k]? = some (some v)) (ht : xtag v = t) : Rn G y pc ls st μ Q = Rn G y (pc + n) ls (v :: st) μ Q := Rn.go hi (fun c K => by rw [hs]; unfold xld; rw [hk]; dsimp only; rw [if_pos ht])
theorem Rn.st1 {t k n : Nat} {i : Instr} {v : Value} {ls' : List (Option Value)} (hi : xins y pc = some i) (hs : ∀ c K, xstep G c K y i pc ls (v :: st) μ = xs1 t k n pc ls (v :: st) μ K) (ht : xtag v = t ∧ k < ls.length) (hl : xset1 ls k v = ls') : Rn G y pc ls (v :: st) μ Q = Rn G y (pc + n) ls' st μ Q := by subst hl; exact Rn.go hi (fun c K => by rw [hs]; unfold xs1; dsimp only; rw [if_pos ht])
theorem Rn.st2 {t k n : Nat} {i : Instr} {v : Value} {ls' : List (Option Value)} (hi : xins y pc = some i) (hs : ∀ c K, xstep G c K y i pc ls (v :: st) μ = xs2 t k n pc ls (v :: st) μ K) (ht : xtag v = t ∧ k + 1 < ls.length) (hl : xset2 ls k v = ls') : Rn G y pc ls (v :: st) μ Q = Rn G y (pc + n) ls' st μ Q := by subst hl; exact Rn.go hi (fun c K => by rw [hs]; unfold xs2; dsimp only; rw [if_pos ht])
end RUL
