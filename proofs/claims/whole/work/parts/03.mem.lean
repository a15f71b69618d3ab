/-! THE ABSTRACT MEMORY AND THE INTERPRETER -/
theorem xplain : xTab.all (fun e => plainFor ⟨xcn e.1, e.2.1, e.2.2.1⟩ && (decide (xcn e.1 ≠ "java/lang/invoke/MethodHandle") && decide (xcn e.1 ≠ "java/lang/invoke/VarHandle"))) = true := by decide +kernel
/-- kinds and lengths; top, exceptions made, cells, slots; ints, longs, references by address and slot. kinds: 0 nothing, 1 to 8 the objects of xcl, 9 int[], 10 char[], 11 boolean[], 12 long[], 13 Member[], 14 Scheme[] -/
abbrev xMem : Type := (Nat → Nat × Nat) × (Nat × Nat × Nat × Nat) × (Nat → Nat → Int32) × (Nat → Nat → Int64) × (Nat → Nat → Option Nat)
/-- what never changes: the cells of the class's static rows; rows that are only read: their lengths, what they hold -/
abbrev xCtx : Type := (Nat → Nat) × (Nat → Option (Nat × (Nat → Int32)))
def xKd (μ : xMem) (a : Nat) : Nat := (μ.1 a).1
def xLn (μ : xMem) (a : Nat) : Nat := (μ.1 a).2
def xTp (μ : xMem) : Nat := μ.2.1.1
def xFg (μ : xMem) : Nat := μ.2.1.2.1
def xCc (μ : xMem) : Nat := μ.2.1.2.2.1
def xCs (μ : xMem) : Nat := μ.2.1.2.2.2
def xI (μ : xMem) : Nat → Nat → Int32 := μ.2.2.1
def xJ (μ : xMem) : Nat → Nat → Int64 := μ.2.2.2.1
def xR (μ : xMem) : Nat → Nat → Option Nat := μ.2.2.2.2
def xu2 {α : Type} (f : Nat → Nat → α) (a k : Nat) (v : α) : Nat → Nat → α := fun b j => if b = a ∧ j = k then v else f b j
def xu1 {α : Type} (f : Nat → Nat → α) (a : Nat) (g : Nat → α) : Nat → Nat → α := fun b => if b = a then g else f b
def xsI (μ : xMem) (a k : Nat) (v : Int32) : xMem := (μ.1, μ.2.1, xu2 (xI μ) a k v, xJ μ, xR μ)
def xsJ (μ : xMem) (a k : Nat) (v : Int64) : xMem := (μ.1, μ.2.1, xI μ, xu2 (xJ μ) a k v, xR μ)
def xsR (μ : xMem) (a k : Nat) (v : Option Nat) : xMem := (μ.1, μ.2.1, xI μ, xJ μ, xu2 (xR μ) a k v)
/-- a whole row of ints, of longs, written -/
def xrI (μ : xMem) (a : Nat) (g : Nat → Int32) : xMem := (μ.1, μ.2.1, xu1 (xI μ) a g, xJ μ, xR μ)
def xrJ (μ : xMem) (a : Nat) (g : Nat → Int64) : xMem := (μ.1, μ.2.1, xI μ, xu1 (xJ μ) a g, xR μ)
/-- a new cell at the top: kind, length, slots -/
def xnw (μ : xMem) (k n w : Nat) : xMem := (fun b => if b = xTp μ then (k, n) else μ.1 b, (xTp μ + 1, xFg μ, xCc μ + 1, xCs μ + w), xu1 (xI μ) (xTp μ) (fun _ => 0), xu1 (xJ μ) (xTp μ) (fun _ => 0), xu1 (xR μ) (xTp μ) (fun _ => none))
/-- an exception made -/
def xex (μ : xMem) : xMem := (μ.1, (xTp μ, xFg μ + 1, xCc μ + 1, xCs μ + 6), xI μ, xJ μ, xR μ)
/-- a slot's content by its type -/
def xv (ty : FieldType) (μ : xMem) (a k : Nat) : Value := match ty with
  | .long => .long (xJ μ a k)
  | .object _ => va_rf (xR μ a k)
  | .array _ => va_rf (xR μ a k)
  | _ => .int (xI μ a k)
def xfs (ci : Nat) (μ : xMem) (a : Nat) : List Value := (List.range (xNf ci)).map (fun k => xv (xty ci k) μ a k)
def xtag : Value → Nat
  | .int _ => 0
  | .long _ => 1
  | .double _ => 2
  | .ref _ => 3
  | .null => 3
  | _ => 9
def xk1 : Option Value → Option Value
  | none => none
  | some v => if v.category = 2 then none else some v
def xset1 : List (Option Value) → Nat → Value → List (Option Value)
  | [], _, _ => []
  | _ :: ls, 0, v => some v :: ls
  | l :: ls, 1, v => xk1 l :: xset1 ls 0 v
  | l :: ls, k + 2, v => l :: xset1 ls (k + 1) v
def xset2 : List (Option Value) → Nat → Value → List (Option Value)
  | l0 :: _ :: ls, 0, v => some v :: none :: ls
  | l :: ls, 1, v => xk1 l :: xset2 ls 0 v
  | l :: ls, k + 2, v => l :: xset2 ls (k + 1) v
  | ls, _, _ => ls
def xent0 : List Value → List (Option Value)
  | [] => []
  | v :: vs => if v.category = 2 then some v :: none :: xent0 vs else some v :: xent0 vs
def xent (vs : List Value) (n : Nat) : List (Option Value) := xent0 vs ++ List.replicate (n - (xent0 vs).length) none
/-- the instructions that the interpreter knows, with their lengths; 0: any length, 99: none -/
def xlen : Instr → Nat
  | .aconst_null => 1 | .iconst _ => 1 | .lconst _ => 1 | .dconst _ => 1 | .bipush _ => 2 | .sipush _ => 3 | .ldc _ => 2 | .ldc_w _ => 3 | .ldc2_w _ => 3
  | .iload _ => 2 | .iload_n _ => 1 | .lload _ => 2 | .lload_n _ => 1 | .dload _ => 2 | .dload_n _ => 1 | .aload _ => 2 | .aload_n _ => 1
  | .istore _ => 2 | .istore_n _ => 1 | .lstore _ => 2 | .lstore_n _ => 1 | .dstore _ => 2 | .dstore_n _ => 1 | .astore _ => 2 | .astore_n _ => 1 | .iinc _ _ => 3
  | .iadd => 1 | .isub => 1 | .imul => 1 | .idiv => 1 | .irem => 1 | .ixor => 1 | .iand => 1 | .ladd => 1 | .lsub => 1 | .lmul => 1 | .ldiv => 1 | .lshl => 1 | .dmul => 1 | .dsub => 1 | .ddiv => 1
  | .i2l => 1 | .l2i => 1 | .i2c => 1 | .l2d => 1 | .d2l => 1 | .lcmp => 1 | .dcmp _ => 1
  | .ifCond _ _ => 3 | .if_icmp _ _ => 3 | .if_acmp _ _ => 3 | .ifnull _ => 3 | .ifnonnull _ => 3 | .goto _ => 3 | .dup => 1 | .dup2 => 1 | .pop => 1
  | .getfield _ => 3 | .putfield _ => 3 | .getstatic _ => 3 | .iaload => 1 | .laload => 1 | .baload => 1 | .caload => 1 | .aaload => 1 | .iastore => 1 | .lastore => 1 | .bastore => 1 | .castore => 1 | .aastore => 1 | .arraylength => 1
  | .new _ => 3 | .newarray _ => 2 | .anewarray _ => 3 | .tableswitch _ _ _ _ => 0 | .lookupswitch _ _ => 0
  | .ireturn => 1 | .lreturn => 1 | .dreturn => 1 | .areturn => 1 | .return_ => 1 | .invokevirtual _ => 3 | .invokespecial _ => 3 | .invokestatic _ => 3 | .athrow => 1
  | _ => 99
def xins (y pc : Nat) : Option Instr := match decode (xB y) pc with
  | .ok (i, n) => if xlen i = n ∨ xlen i = 0 then some i else none
  | _ => none
abbrev xOut : Type := Option Value ⊕ Nat
abbrev xRes : Type := Option (xOut × xMem)
abbrev xK : Type := Nat → List (Option Value) → List Value → xMem → xRes
def xld (t k n pc : Nat) (ls : List (Option Value)) (st : List Value) (μ : xMem) (K : xK) : xRes := match ls[k]? with
  | some (some v) => if xtag v = t then K (pc + n) ls (v :: st) μ else none
  | _ => none
def xs1 (t k n pc : Nat) (ls : List (Option Value)) (st : List Value) (μ : xMem) (K : xK) : xRes := match st with
  | v :: st => if xtag v = t ∧ k < ls.length then K (pc + n) (xset1 ls k v) st μ else none
  | _ => none
def xs2 (t k n pc : Nat) (ls : List (Option Value)) (st : List Value) (μ : xMem) (K : xK) : xRes := match st with
  | v :: st => if xtag v = t ∧ k + 1 < ls.length then K (pc + n) (xset2 ls k v) st μ else none
  | _ => none
/-- a jump: the target, if it is none below 0 -/
def xjmp (pc : Nat) (off : Int) (ls : List (Option Value)) (st : List Value) (μ : xMem) (K : xK) : xRes := if 0 ≤ (pc : Int) + off then K ((pc : Int) + off).toNat ls st μ else none
/-- a branch: the target is none below 0, taken or not -/
def xbr (c : Bool) (pc : Nat) (off : Int) (ls : List (Option Value)) (st : List Value) (μ : xMem) (K : xK) : xRes := if 0 ≤ (pc : Int) + off then (if c = true then K ((pc : Int) + off).toNat ls st μ else K (pc + 3) ls st μ) else none
def xcond (op : Jvm.ClassFile.Cond) (x y : Int32) : Bool := match op with
  | .eq => decide (x = y)
  | .ne => decide (¬ x = y)
  | .lt => decide (x < y)
  | .ge => decide (y ≤ x)
  | .gt => decide (y < x)
  | .le => decide (x ≤ y)
def xStr : List (Nat × Nat × String) := [(6, 300, "what is not 0 to 7"), (6, 46, "there is no such section"), (6, 255, "what is not 0 to 5"), (6, 57, "rate or share is out of range"), (6, 79, "pay or age is out of range"), (6, 87, "the section is closed, or there are 8 members"), (6, 104, "there is no such member"), (6, 110, "pay is out of range"), (6, 116, "the member is retired"), (6, 121, "there is no such member or section"), (6, 126, "the member is retired or there already, or the section is closed"), (6, 132, "amount is out of range"), (6, 137, "the member is retired, or the fund would be too large"), (6, 147, "the transfer is refused"), (6, 155, "the member is retired, or too young"), (6, 170, "there is no such setting"), (6, 178, "value is out of range"), (6, 183, "months is out of range"), (6, 188, "too many months would have gone"), (6, 194, "code is out of range"), (6, 200, "the buffer is full"), (6, 225, "the buffer is not complete members as a text"), (6, 233, "a member or a transfer is refused"), (6, 241, "there is no saved state"), (6, 257, "place is below 0, or what is not 0 to 11"), (6, 265, "late is below 0, or what is not 0 to 3"), (6, 306, "months or what is out of range")]
/-- exceptions by number; where a class of them stands in a pool: for 'new', for a handler -/
def xen (E : Nat) : String := (["java/lang/IndexOutOfBoundsException", "java/lang/IllegalArgumentException", "java/lang/IllegalStateException"] : List String).getD E ""
def xTl : List (Nat × Nat × Nat) := [(6, 44, 0), (6, 55, 1), (6, 85, 2)]
def xHl : List (Nat × Nat × Nat) := [(8, 13, 0), (8, 15, 1), (8, 24, 2)]
/-- the constructor's link of an exception -/
def xXi (E : Nat) : Nat := ([48, 59, 89] : List Nat).getD E 0
def xhand (y pc E : Nat) : Option Nat := match xH y with
  | none => none
  | some hh => if (hh.all (fun h => (xkc xHl (xown y) h.2.2.2).isSome)) = false then none else (hh.find? (fun h => decide (h.1 ≤ pc) && (decide (pc < h.2.1) && decide (xkc xHl (xown y) h.2.2.2 = some E)))).map (fun h => h.2.2.1)
/-- what a handler begins with: it puts the exception into a local that nobody reads -/
def xcat (y h : Nat) (ls : List (Option Value)) (μ : xMem) (K : xK) : xRes := match xins y h with
  | some (.astore k) => if k < ls.length then K (h + 2) ((xset1 ls k .null).set k none) [] μ else none
  | some (.astore_n k) => if (k : Nat) < ls.length then K (h + 1) ((xset1 ls k .null).set k none) [] μ else none
  | _ => none
def xrecv (q t : Nat) (as : List Value) (μ : xMem) : Bool := if q = 0 then true else match as with
  | .ref b :: _ => decide (xKd μ b = xown t + 1 ∧ xown t < 8)
  | _ => false
/-- how many words a call takes off the stack -/
def xnar (t q : Nat) : Nat := xNp t + (if q = 0 then 0 else 1)
def xcall (call : Nat → List Value → xMem → xRes) (K : xK) (y t q : Nat) (nest : Nat) (pc : Nat) (ls : List (Option Value)) (st : List Value) (μ : xMem) : xRes :=
  if xQ t = q ∧ xRoomOk y t = true ∧ xnar t q ≤ st.length ∧ ((st.drop (xnar t q)).map (fun v => v.category)).sum ≤ 8 ∧ xrecv q t (st.take (xnar t q)).reverse μ = true ∧ (xent0 (st.take (xnar t q)).reverse).length ≤ xL t ∧ (xH t = none ∨ (q = 0 ∧ nest = 0)) then
    match call t (st.take (xnar t q)).reverse μ with
    | some (.inl v, μ1) => K (pc + 3) ls (v.toList ++ st.drop (xnar t q)) μ1
    | some (.inr E, μ1) => if nest = 0 ∧ q = 1 ∧ xH t = none then (match xhand y pc E with
      | some h => xcat y h ls μ1 K
      | none => none) else none
    | none => none
  else none
/-- System.arraycopy, of ints and of longs -/
def xcopy (pc : Nat) (ls : List (Option Value)) (st : List Value) (μ : xMem) (K : xK) : xRes := match st with
  | .int n :: .int dp :: .ref b :: .int sp :: .ref a :: st =>
    if ¬ sp < 0 ∧ ¬ dp < 0 ∧ ¬ n < 0 ∧ sp.toNatClampNeg + n.toNatClampNeg ≤ xLn μ a ∧ dp.toNatClampNeg + n.toNatClampNeg ≤ xLn μ b ∧ (st.map (fun v => v.category)).sum ≤ 8 then
      (if xKd μ a = 9 ∧ xKd μ b = 9 then K (pc + 3) ls st (xrI μ b (va_cpy (xI μ a) (xI μ b) sp.toNatClampNeg dp.toNatClampNeg n.toNatClampNeg))
      else if xKd μ a = 12 ∧ xKd μ b = 12 then K (pc + 3) ls st (xrJ μ b (va_cpy (xJ μ a) (xJ μ b) sp.toNatClampNeg dp.toNatClampNeg n.toNatClampNeg))
      else none)
    else none
  | _ => none
def xput (y ci k nest pc : Nat) (ls : List (Option Value)) (st : List Value) (μ : xMem) (K : xK) : xRes := match st with
  | v :: .ref a :: st => if xKd μ a = ci + 1 ∧ ((xTf ci k).2.2.2 = false ∨ (nest = 0 ∧ xown y = ci ∧ (xY y).name = "<init>")) then
      (match xty ci k, v with
      | .int, .int x => K (pc + 3) ls st (xsI μ a k x)
      | .boolean, .int x => if x = 0 ∨ x = 1 then K (pc + 3) ls st (xsI μ a k x) else none
      | .long, .long x => K (pc + 3) ls st (xsJ μ a k x)
      | .object _, .ref r => K (pc + 3) ls st (xsR μ a k (some r))
      | .array _, .ref r => K (pc + 3) ls st (xsR μ a k (some r))
      | _, _ => none) else none
  | _ => none
/-- new E("text"), thrown at once; n: where the constructor's call stands -/
abbrev xthc (y E pc n : Nat) (st : List Value) : Prop := decode (xB y) (pc + 3) = .ok (.dup, 1) ∧ xH y = none ∧ 7 ≤ xF y ∧ 120 ≤ xO y ∧ (st.map (fun v => v.category)).sum ≤ 8 ∧ xins y (pc + n) = some (.invokespecial (xXi E)) ∧ xins y (pc + n + 3) = some .athrow
def xthrow (y E pc : Nat) (st : List Value) (μ : xMem) : xRes := match xins y (pc + 4) with
  | some (.ldc j) => if xthc y E pc 6 st ∧ (xkc xStr (xown y) j).isSome = true then some (.inr E, xex μ) else none
  | some (.ldc_w j) => if xthc y E pc 7 st ∧ (xkc xStr (xown y) j).isSome = true then some (.inr E, xex μ) else none
  | _ => none
/-- what a return answers -/
def xretf (y : Nat) (i : Instr) (st : List Value) : Option (Option Value) := match i, st with
  | .ireturn, [.int v] => if xT y = some .int ∨ (xT y = some .boolean ∧ (v = 0 ∨ v = 1)) then some (some (.int v)) else none
  | .lreturn, [.long v] => if xT y = some .long then some (some (.long v)) else none
  | .dreturn, [.double v] => if xT y = some .double then some (some (.double v)) else none
  | .areturn, [.ref a] => (match xT y with | some (.object _) => some (some (.ref a)) | _ => none)
  | .areturn, [.null] => (match xT y with | some (.object _) => some (some .null) | _ => none)
  | .return_, [] => if xT y = none then some none else none
  | _, _ => none
def xstep (G : xCtx) (call : Nat → List Value → xMem → xRes) (K : xK) (y : Nat) (i : Instr) (pc : Nat) (ls : List (Option Value)) (st : List Value) (μ : xMem) : xRes := match i with
  | .aconst_null => K (pc + 1) ls (.null :: st) μ
  | .iconst n => K (pc + 1) ls (.int (Int32.ofInt n) :: st) μ
  | .lconst n => K (pc + 1) ls (.long (Int64.ofNat (n : Nat)) :: st) μ
  | .dconst n => K (pc + 1) ls (.double (if n = 0 then FP.dconst0 else FP.dconst1) :: st) μ
  | .bipush n => K (pc + 2) ls (.int (Int8.ofInt n).toInt32 :: st) μ
  | .sipush n => K (pc + 3) ls (.int (Int16.ofInt n).toInt32 :: st) μ
  | .ldc j => (match xkc xCi (xown y) j with
    | some v => K (pc + 2) ls (.int v :: st) μ
    | none => none)
  | .ldc_w j => (match xkc xCi (xown y) j with
    | some v => K (pc + 3) ls (.int v :: st) μ
    | none => none)
  | .ldc2_w j => (match xkc xCl (xown y) j with
    | some v => K (pc + 3) ls (.long v :: st) μ
    | none => (match xkc xCd (xown y) j with
      | some v => K (pc + 3) ls (.double v :: st) μ
      | none => none))
  | .iload k => xld 0 k 2 pc ls st μ K
  | .iload_n k => xld 0 k 1 pc ls st μ K
  | .lload k => xld 1 k 2 pc ls st μ K
  | .lload_n k => xld 1 k 1 pc ls st μ K
  | .dload k => xld 2 k 2 pc ls st μ K
  | .dload_n k => xld 2 k 1 pc ls st μ K
  | .aload k => xld 3 k 2 pc ls st μ K
  | .aload_n k => xld 3 k 1 pc ls st μ K
  | .istore k => xs1 0 k 2 pc ls st μ K
  | .istore_n k => xs1 0 k 1 pc ls st μ K
  | .lstore k => xs2 1 k 2 pc ls st μ K
  | .lstore_n k => xs2 1 k 1 pc ls st μ K
  | .dstore k => xs2 2 k 2 pc ls st μ K
  | .dstore_n k => xs2 2 k 1 pc ls st μ K
  | .astore k => xs1 3 k 2 pc ls st μ K
  | .astore_n k => xs1 3 k 1 pc ls st μ K
  | .iinc k n => (match ls[k]? with
    | some (some (.int x)) => K (pc + 3) (xset1 ls k (.int (x + Int32.ofInt n))) st μ
    | _ => none)
  | .iadd => (match st with | .int b :: .int a :: st => K (pc + 1) ls (.int (a + b) :: st) μ | _ => none)
  | .isub => (match st with | .int b :: .int a :: st => K (pc + 1) ls (.int (a - b) :: st) μ | _ => none)
  | .imul => (match st with | .int b :: .int a :: st => K (pc + 1) ls (.int (a * b) :: st) μ | _ => none)
  | .idiv => (match st with | .int b :: .int a :: st => if b = 0 then none else K (pc + 1) ls (.int (a / b) :: st) μ | _ => none)
  | .irem => (match st with | .int b :: .int a :: st => if b = 0 then none else K (pc + 1) ls (.int (a - a / b * b) :: st) μ | _ => none)
  | .ixor => (match st with | .int b :: .int a :: st => K (pc + 1) ls (.int (a ^^^ b) :: st) μ | _ => none)
  | .iand => (match st with | .int b :: .int a :: st => K (pc + 1) ls (.int (a &&& b) :: st) μ | _ => none)
  | .ladd => (match st with | .long b :: .long a :: st => K (pc + 1) ls (.long (a + b) :: st) μ | _ => none)
  | .lsub => (match st with | .long b :: .long a :: st => K (pc + 1) ls (.long (a - b) :: st) μ | _ => none)
  | .lmul => (match st with | .long b :: .long a :: st => K (pc + 1) ls (.long (a * b) :: st) μ | _ => none)
  | .ldiv => (match st with | .long b :: .long a :: st => if b = 0 then none else K (pc + 1) ls (.long (a / b) :: st) μ | _ => none)
  | .lshl => (match st with | .int b :: .long a :: st => K (pc + 1) ls (.long (a <<< (b.toInt64 &&& 63)) :: st) μ | _ => none)
  | .dmul => (match st with | .double b :: .double a :: st => if FP.dmul a b &&& 0x7fffffffffffffff ≤ 0x7ff0000000000000 then K (pc + 1) ls (.double (FP.dmul a b) :: st) μ else none | _ => none)
  | .dsub => (match st with | .double b :: .double a :: st => if FP.dsub a b &&& 0x7fffffffffffffff ≤ 0x7ff0000000000000 then K (pc + 1) ls (.double (FP.dsub a b) :: st) μ else none | _ => none)
  | .ddiv => (match st with | .double b :: .double a :: st => if FP.ddiv a b &&& 0x7fffffffffffffff ≤ 0x7ff0000000000000 then K (pc + 1) ls (.double (FP.ddiv a b) :: st) μ else none | _ => none)
  | .i2l => (match st with | .int a :: st => K (pc + 1) ls (.long a.toInt64 :: st) μ | _ => none)
  | .l2i => (match st with | .long a :: st => K (pc + 1) ls (.int a.toInt32 :: st) μ | _ => none)
  | .i2c => (match st with | .int a :: st => K (pc + 1) ls (.int (a.toUInt32 % 65536).toInt32 :: st) μ | _ => none)
  | .l2d => (match st with | .long a :: st => K (pc + 1) ls (.double (FP.l2d a) :: st) μ | _ => none)
  | .d2l => (match st with | .double a :: st => K (pc + 1) ls (.long (FP.d2l a) :: st) μ | _ => none)
  | .lcmp => (match st with | .long b :: .long a :: st => K (pc + 1) ls (.int (lg_cmp a b) :: st) μ | _ => none)
  | .dcmp op => (match st with | .double b :: .double a :: st => K (pc + 1) ls (.int (Op.cmpValue (FP.dcmp a b) op) :: st) μ | _ => none)
  | .ifCond op off => (match st with | .int a :: st => xbr (xcond op a 0) pc off ls st μ K | _ => none)
  | .if_icmp op off => (match st with | .int b :: .int a :: st => xbr (xcond op a b) pc off ls st μ K | _ => none)
  | .if_acmp op off => (match op, st with
    | .eq, .ref b :: .ref a :: st => xbr (decide (a = b)) pc off ls st μ K
    | .ne, .ref b :: .ref a :: st => xbr (decide (¬ a = b)) pc off ls st μ K
    | _, _ => none)
  | .ifnull off => (match st with | .ref _ :: st => K (pc + 3) ls st μ | .null :: st => xjmp pc off ls st μ K | _ => none)
  | .ifnonnull off => (match st with | .ref _ :: st => xjmp pc off ls st μ K | .null :: st => K (pc + 3) ls st μ | _ => none)
  | .goto off => xjmp pc off ls st μ K
  | .dup => (match st with | v :: st => if v.category = 1 then K (pc + 1) ls (v :: v :: st) μ else none | _ => none)
  | .dup2 => (match st with
    | .long x :: st => K (pc + 1) ls (.long x :: .long x :: st) μ
    | .int b :: v :: st => if v.category = 1 then K (pc + 1) ls (.int b :: v :: .int b :: v :: st) μ else none
    | _ => none)
  | .pop => (match st with | v :: st => if v.category = 1 then K (pc + 1) ls st μ else none | _ => none)
  | .getfield j => (match xkf xFl (xown y) j, st with
    | some (_, ci, k), .ref a :: st => if xKd μ a = ci + 1 then K (pc + 3) ls (xv (xty ci k) μ a k :: st) μ else none
    | _, _ => none)
  | .putfield j => (match xkf xFl (xown y) j with
    | some (nest, ci, k) => xput y ci k nest pc ls st μ K
    | none => none)
  | .getstatic j => (match xkf xSl (xown y) j with
    | some (_, k, _) => K (pc + 3) ls (.ref (G.1 k) :: st) μ
    | none => none)
  | .iaload => (match st with
    | .int j :: .ref a :: st => if xKd μ a = 9 then (if j < 0 ∨ xLn μ a ≤ j.toNatClampNeg then none else K (pc + 1) ls (.int (xI μ a j.toNatClampNeg) :: st) μ)
      else (match G.2 a with
        | some (n, f) => if j < 0 ∨ n ≤ j.toNatClampNeg then none else K (pc + 1) ls (.int (f j.toNatClampNeg) :: st) μ
        | none => none)
    | _ => none)
  | .laload => (match st with | .int j :: .ref a :: st => if xKd μ a = 12 ∧ ¬ (j < 0 ∨ xLn μ a ≤ j.toNatClampNeg) then K (pc + 1) ls (.long (xJ μ a j.toNatClampNeg) :: st) μ else none | _ => none)
  | .baload => (match st with | .int j :: .ref a :: st => if xKd μ a = 11 ∧ ¬ (j < 0 ∨ xLn μ a ≤ j.toNatClampNeg) then K (pc + 1) ls (.int (xI μ a j.toNatClampNeg) :: st) μ else none | _ => none)
  | .caload => (match st with | .int j :: .ref a :: st => if xKd μ a = 10 ∧ ¬ (j < 0 ∨ xLn μ a ≤ j.toNatClampNeg) then K (pc + 1) ls (.int (xI μ a j.toNatClampNeg) :: st) μ else none | _ => none)
  | .aaload => (match st with | .int j :: .ref a :: st => if (xKd μ a = 13 ∨ xKd μ a = 14) ∧ ¬ (j < 0 ∨ xLn μ a ≤ j.toNatClampNeg) then K (pc + 1) ls (va_rf (xR μ a j.toNatClampNeg) :: st) μ else none | _ => none)
  | .iastore => (match st with | .int x :: .int j :: .ref a :: st => if xKd μ a = 9 ∧ ¬ (j < 0 ∨ xLn μ a ≤ j.toNatClampNeg) then K (pc + 1) ls st (xsI μ a j.toNatClampNeg x) else none | _ => none)
  | .lastore => (match st with | .long x :: .int j :: .ref a :: st => if xKd μ a = 12 ∧ ¬ (j < 0 ∨ xLn μ a ≤ j.toNatClampNeg) then K (pc + 1) ls st (xsJ μ a j.toNatClampNeg x) else none | _ => none)
  | .bastore => (match st with | .int x :: .int j :: .ref a :: st => if xKd μ a = 11 ∧ ¬ (j < 0 ∨ xLn μ a ≤ j.toNatClampNeg) ∧ vp_nar .boolean x = x then K (pc + 1) ls st (xsI μ a j.toNatClampNeg x) else none | _ => none)
  | .castore => (match st with | .int x :: .int j :: .ref a :: st => if xKd μ a = 10 ∧ ¬ (j < 0 ∨ xLn μ a ≤ j.toNatClampNeg) ∧ vp_nar .char x = x then K (pc + 1) ls st (xsI μ a j.toNatClampNeg x) else none | _ => none)
  | .aastore => (match st with | .ref v :: .int j :: .ref a :: st => if ((xKd μ a = 13 ∧ xKd μ v = 4) ∨ (xKd μ a = 14 ∧ xKd μ v = 6)) ∧ ¬ (j < 0 ∨ xLn μ a ≤ j.toNatClampNeg) then K (pc + 1) ls st (xsR μ a j.toNatClampNeg (some v)) else none | _ => none)
  | .arraylength => (match st with
    | .ref a :: st => if 9 ≤ xKd μ a ∧ xKd μ a ≤ 14 then K (pc + 1) ls (.int (Int32.ofNat (xLn μ a)) :: st) μ
      else (match G.2 a with
        | some (n, _) => K (pc + 1) ls (.int (Int32.ofNat n) :: st) μ
        | none => none)
    | _ => none)
  | .new j => (match xkf xNl (xown y) j with
    | some (_, ci, _) => if xFg μ = 0 then K (pc + 3) ls (.ref (xTp μ) :: st) (xnw μ (ci + 1) 0 (xNf ci)) else none
    | none => (match xkc xTl (xown y) j with
      | some E => xthrow y E pc st μ
      | none => none))
  | .newarray at' => (match st with
    | .int n :: st => if xFg μ = 0 ∧ ¬ n < 0 ∧ n.toNatClampNeg ≤ 60000 then
        (match at' with
        | .int => K (pc + 2) ls (.ref (xTp μ) :: st) (xnw μ 9 n.toNatClampNeg n.toNatClampNeg)
        | .char => K (pc + 2) ls (.ref (xTp μ) :: st) (xnw μ 10 n.toNatClampNeg n.toNatClampNeg)
        | .boolean => K (pc + 2) ls (.ref (xTp μ) :: st) (xnw μ 11 n.toNatClampNeg n.toNatClampNeg)
        | .long => K (pc + 2) ls (.ref (xTp μ) :: st) (xnw μ 12 n.toNatClampNeg n.toNatClampNeg)
        | _ => none) else none
    | _ => none)
  | .anewarray j => (match xkf xNl (xown y) j, st with
    | some (_, ci, _), .int n :: st => if xFg μ = 0 ∧ ¬ n < 0 ∧ n.toNatClampNeg ≤ 60000 then
        (if ci = 3 then K (pc + 3) ls (.ref (xTp μ) :: st) (xnw μ 13 n.toNatClampNeg n.toNatClampNeg)
        else if ci = 5 then K (pc + 3) ls (.ref (xTp μ) :: st) (xnw μ 14 n.toNatClampNeg n.toNatClampNeg)
        else none) else none
    | _, _ => none)
  | .tableswitch d lo hi offs => (match st with
    | .int x :: st => if x.toInt < lo ∨ hi < x.toInt then xjmp pc d ls st μ K else (match offs[(x.toInt - lo).toNat]? with
      | some off => xjmp pc off ls st μ K
      | none => none)
    | _ => none)
  | .lookupswitch d ps => (match st with
    | .int x :: st => if (ps.toList.zip (ps.toList.drop 1)).all (fun (a, next) => a.1 < next.1) = true then xjmp pc (Op.lookupswitch.offset ps.toList d x.toInt) ls st μ K else none
    | _ => none)
  | .ireturn => (match xretf y .ireturn st with | some v => some (.inl v, μ) | none => none)
  | .lreturn => (match xretf y .lreturn st with | some v => some (.inl v, μ) | none => none)
  | .dreturn => (match xretf y .dreturn st with | some v => some (.inl v, μ) | none => none)
  | .areturn => (match xretf y .areturn st with | some v => some (.inl v, μ) | none => none)
  | .return_ => (match xretf y .return_ st with | some v => some (.inl v, μ) | none => none)
  | .invokestatic j => (match xkf xOl (xown y) j with
    | some (o, _, _) => if o = 1 ∧ 1 ≤ xF y ∧ 40 ≤ xO y then xcopy pc ls st μ K else none
    | none => (match xkf xMl (xown y) j with
      | some (nest, t, _) => xcall call K y t 0 nest pc ls st μ
      | none => none))
  | .invokevirtual j => (match xkf xMl (xown y) j with
    | some (nest, t, _) => xcall call K y t 1 nest pc ls st μ
    | none => none)
  | .invokespecial j => (match xkf xOl (xown y) j with
    | some (o, _, _) => (match st with
      | .ref _ :: st => if o = 0 ∧ 1 ≤ xF y ∧ 24 ≤ xO y ∧ (st.map (fun v => v.category)).sum ≤ 8 then K (pc + 3) ls st μ else none
      | _ => none)
    | none => (match xkf xMl (xown y) j with
      | some (nest, t, _) => xcall call K y t 2 nest pc ls st μ
      | none => none))
  | _ => none
def xrun (G : xCtx) : Nat → Nat → xK
  | 0 => fun _ _ _ _ _ => none
  | f + 1 => fun y pc ls st μ => match xins y pc with
    | none => none
    | some i => xstep G (fun t as μ => xrun G f t 0 (xent as (xL t)) [] μ) (xrun G f y) y i pc ls st μ
