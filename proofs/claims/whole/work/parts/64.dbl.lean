/-! DOUBLES: WHAT CAME IN TIME, ITS BITS -/
theorem val_two : FP.Core.val64 4611686018427387904 = .fin false (2 ^ 52) (-51) := by decide +kernel
theorem val_big : FP.Core.val64 4841369599423283200 = .fin false (2 ^ 52) 0 := by decide +kernel
theorem vf_of {a : UInt64} (h : FP.Core.dIsNaN a = false) : vf_n64 a := by
  have h1 := (FP.Core.ne_nan a).mp ((FP.Core.notNaN_iff a).mp h)
  unfold vf_n64
  rw [UInt64.le_iff_toNat_le, UInt64.toNat_and]
  show a.toNat &&& 9223372036854775807 ≤ 9218868437227405312
  rw [show (9223372036854775807 : Nat) = 2 ^ 63 - 1 from rfl, Nat.and_two_pow_sub_one_eq_mod]
  exact h1
/-- a number above 0, as it is held: not among the least -/
def DN (v : UInt64) (c : Nat) (q : Int) : Prop := FP.Core.val64 v = .fin false c q ∧ 2 ^ 52 ≤ c ∧ c < 2 ^ 53
theorem DN.fin {v : UInt64} {c : Nat} {q : Int} (h : DN v c q) : FP.Core.DFin v := ⟨_, _, _, h.1⟩
theorem DN.nn {v : UInt64} {c : Nat} {q : Int} (h : DN v c q) : FP.Core.dIsNaN v = false := h.fin.notNaN
theorem DN.one : DN FP.dconst1 (2 ^ 52) (-52) := ⟨FP.Core.val64_dconst1, by omega, by omega⟩
theorem DN.zero_gt {v : UInt64} {c : Nat} {q : Int} (h : DN v c q) : FP.dcmp v FP.dconst0 = some .gt := by
  show FP.Core.order (FP.Core.val64 v) (FP.Core.val64 FP.Core.dconst0) = _
  rw [h.1, FP.Core.val64_dconst0]
  simp only [FP.Core.order]
  congr 1
  rw [FP.Core.compare_gt_iff]
  have h1 : 0 < FP.Core.inUnits c q (min q FP.Core.b64.qmin) := Nat.mul_pos (by have := h.2.1; omega) (Nat.two_pow_pos _)
  have h2 : FP.Core.inUnits 0 FP.Core.b64.qmin (min q FP.Core.b64.qmin) = 0 := by unfold FP.Core.inUnits; exact Nat.zero_mul _
  rw [h2]
  show ((0 : Nat) : Int) < ((FP.Core.inUnits c q (min q FP.Core.b64.qmin) : Nat) : Int)
  omega
theorem DN.one_lt {v : UInt64} {c : Nat} {q : Int} (h : DN v c q) (hq : q < -52) : FP.dcmp v FP.dconst1 = some .lt := by
  show FP.Core.order (FP.Core.val64 v) (FP.Core.val64 FP.Core.dconst1) = _
  rw [h.1, FP.Core.val64_dconst1]
  simp only [FP.Core.order]
  congr 1
  rw [FP.Core.compare_lt_iff, show min q (-52) = q by omega]
  have h1 : FP.Core.inUnits c q q = c := by unfold FP.Core.inUnits; rw [show (q - q).toNat = 0 by omega]; omega
  have h2 : 2 ^ 53 ≤ FP.Core.inUnits (2 ^ 52) (-52) q := by
    unfold FP.Core.inUnits
    have h3 : 2 ^ 1 ≤ 2 ^ (-52 - q).toNat := Nat.pow_le_pow_right (by omega) (by omega)
    have h4 := Nat.mul_le_mul_left (2 ^ 52) h3
    omega
  have h5 := h.2.2
  rw [h1]
  show ((c : Nat) : Int) < ((FP.Core.inUnits (2 ^ 52) (-52) q : Nat) : Int)
  omega
theorem DN.one_ge {v : UInt64} {c : Nat} {q : Int} (h : DN v c q) (hq : -52 ≤ q) : FP.dcmp v FP.dconst1 = some .eq ∨ FP.dcmp v FP.dconst1 = some .gt := by
  have e : FP.dcmp v FP.dconst1 = some (compare (FP.Core.signed false (FP.Core.inUnits c q (-52))) (FP.Core.signed false (FP.Core.inUnits (2 ^ 52) (-52) (-52)))) := by
    show FP.Core.order (FP.Core.val64 v) (FP.Core.val64 FP.Core.dconst1) = _
    rw [h.1, FP.Core.val64_dconst1]
    simp only [FP.Core.order]
    rw [show min q (-52) = -52 by omega]
  have h2 : FP.Core.inUnits (2 ^ 52) (-52) (-52) = 2 ^ 52 := by unfold FP.Core.inUnits; rw [show ((-52 : Int) - -52).toNat = 0 by omega]
  have h1 : 2 ^ 52 ≤ FP.Core.inUnits c q (-52) := by
    unfold FP.Core.inUnits
    exact Nat.le_trans h.2.1 (Nat.le_mul_of_pos_right _ (Nat.two_pow_pos _))
  rw [e, h2]
  generalize FP.Core.inUnits c q (-52) = m at *
  have hs : ∀ n : Nat, FP.Core.signed false n = (n : Int) := fun n => rfl
  rw [hs, hs]
  by_cases h3 : m = 2 ^ 52
  · left; exact congrArg some ((FP.Core.compare_eq_iff _ _).mpr (by omega))
  · right; exact congrArg some ((FP.Core.compare_gt_iff _ _).mpr (by omega))
/-- twice as much -/
theorem DN.dbl {v : UInt64} {c : Nat} {q : Int} (h : DN v c q) (h1 : -1000 ≤ q) (h2 : q ≤ 900) : DN (FP.dmul v 4611686018427387904) c (q + 1) := by
  refine ⟨?_, h.2⟩
  show FP.Core.val64 (FP.Core.dmul v 4611686018427387904) = _
  rw [FP.Core.val64_dmul, h.1, val_two]
  show FP.Core.roundRatio FP.Core.b64 (false != false) (c * 2 ^ 52) 1 (q + -51) = _
  have hm : FP.Core.b64.qmin = -1074 := FP.Core.qmin_b64
  have hx : FP.Core.b64.qmax = 971 := by decide
  have ht : FP.Core.b64.tails = 2 ^ 52 := FP.Core.tails_b64
  refine FP.Core.roundRatio_exact FP.Core.good_b64 (by omega) ⟨h.2.2, by omega, by omega, Or.inr (by rw [ht]; exact h.2.1)⟩ ?_
  rw [show (q + -51 - (q + 1)).toNat = 0 by omega, show (q + 1 - (q + -51)).toNat = 52 by omega]
  omega
/-- a ratio of whole numbers -/
theorem DN.div {a b : UInt64} {A B : Nat} (ha : FP.Core.DInt (A : Int) a) (hb : FP.Core.DInt (B : Int) b) (hA : 1 ≤ A) (hB : 1 ≤ B) (hA2 : A < 2 ^ 53) (hB2 : B < 2 ^ 53) : ∃ c q, DN (FP.ddiv a b) c q ∧ -200 ≤ q ∧ q ≤ 200 := by
  unfold FP.Core.DInt at ha hb
  have hq : FP.Core.val64 (FP.ddiv a b) = FP.Core.roundRatio FP.Core.b64 false A B 0 := by
    show FP.Core.val64 (FP.Core.ddiv a b) = _
    rw [FP.Core.val64_ddiv]
    cases hx : FP.Core.val64 a with
    | nan => rw [hx] at ha; exact ha.elim
    | inf s => rw [hx] at ha; exact ha.elim
    | fin s c q =>
      cases hy : FP.Core.val64 b with
      | nan => rw [hy] at hb; exact hb.elim
      | inf s => rw [hy] at hb; exact hb.elim
      | fin t d r =>
        rw [hx] at ha; rw [hy] at hb
        have s1 := FP.Core.whole_sign ha (by omega)
        have s2 := FP.Core.whole_sign hb (by omega)
        have z2 : ¬ d = 0 := fun z => by have := (FP.Core.whole_zero hb).mp z; omega
        have e1 := FP.Core.whole_natAbs ha
        have e2 := FP.Core.whole_natAbs hb
        have n1 : ((A : Int)).natAbs = A := Int.natAbs_natCast A
        have n2 : ((B : Int)).natAbs = B := Int.natAbs_natCast B
        rw [n1] at e1; rw [n2] at e2
        have f1 : s = false := by rw [s1]; exact decide_eq_false (by omega)
        have f2 : t = false := by rw [s2]; exact decide_eq_false (by omega)
        subst f1; subst f2
        show (if d = 0 then (if c = 0 then .nan else .inf (false != false)) else FP.Core.roundRatio FP.Core.b64 (false != false) c d (q - r)) = _
        rw [if_neg z2]
        refine FP.Core.roundRatio_congr (by omega) (by omega) ?_
        have k1 : (q - r - 0).toNat + r.toNat + (-q).toNat = (0 - (q - r)).toNat + q.toNat + (-r).toNat := by omega
        refine Nat.eq_of_mul_eq_mul_right (Nat.two_pow_pos (r.toNat + (-q).toNat)) ?_
        calc c * B * 2 ^ (q - r - 0).toNat * 2 ^ (r.toNat + (-q).toNat) = c * B * 2 ^ ((q - r - 0).toNat + r.toNat + (-q).toNat) := by rw [Nat.mul_assoc, ← Nat.pow_add, Nat.add_assoc]
          _ = (c * 2 ^ q.toNat) * (B * 2 ^ (-r).toNat) * 2 ^ (0 - (q - r)).toNat := by rw [k1]; simp only [Nat.pow_add]; ac_rfl
          _ = (A * 2 ^ (-q).toNat) * (d * 2 ^ r.toNat) * 2 ^ (0 - (q - r)).toNat := by rw [e1, ← e2]
          _ = A * d * 2 ^ (0 - (q - r)).toNat * 2 ^ (r.toNat + (-q).toNat) := by simp only [Nat.pow_add]; ac_rfl
  have l1 : ¬ FP.Core.Below A B (-53) := by
    unfold FP.Core.Below
    rw [show (-(-53 : Int)).toNat = 53 by omega, show ((-53 : Int)).toNat = 0 by omega]
    have := Nat.mul_le_mul_right (2 ^ 53) hA
    omega
  have l2 : FP.Core.Below A B 53 := by
    unfold FP.Core.Below
    rw [show (-(53 : Int)).toNat = 0 by omega, show ((53 : Int)).toNat = 53 by omega]
    have := Nat.mul_le_mul_right (2 ^ 53) hB
    omega
  have hl := FP.Core.leading_spec (A := A) (B := B) (by omega) (by omega)
  have m1 := FP.Core.lt_of_below l1 hl.2
  have m2 := FP.Core.lt_of_below hl.1 l2
  have hm : FP.Core.b64.qmin = -1074 := FP.Core.qmin_b64
  have hp : (FP.Core.b64.p : Int) = 53 := rfl
  have hqu : FP.Core.quantum FP.Core.b64 A B 0 = FP.Core.leading A B - 52 := by unfold FP.Core.quantum; omega
  have hx : FP.Core.b64.qmax = 971 := by decide
  have ht : FP.Core.b64.tails = 2 ^ 52 := FP.Core.tails_b64
  have hn := FP.Core.nearest_units_le (f := FP.Core.b64) (A := A) (B := B) (by omega) (by omega) 0
  have hf := FP.Core.roundRatio_fits FP.Core.good_b64 false A (B := B) (by omega) 0
  have key : ∃ c q, FP.Core.roundRatio FP.Core.b64 false A B 0 = .fin false c q ∧ FP.Core.leading A B - 52 ≤ q ∧ q ≤ FP.Core.leading A B - 51 := by
    unfold FP.Core.roundRatio FP.Core.roundAt FP.Core.settle FP.Core.bound
    rw [if_neg (by omega), hqu]
    split
    · rw [if_pos (by omega)]; exact ⟨_, _, rfl, by omega, by omega⟩
    · rw [if_pos (by omega)]; exact ⟨_, _, rfl, by omega, by omega⟩
  obtain ⟨c, q, k1, k2, k3⟩ := key
  rw [k1] at hf
  obtain ⟨f1, f2, f3, f4⟩ := hf
  rw [ht] at f4
  exact ⟨c, q, ⟨hq.trans k1, by rcases f4 with z | z <;> omega, f1⟩, by omega, by omega⟩
theorem DZ.div {a b : UInt64} {B : Nat} (ha : FP.Core.DInt (0 : Int) a) (hb : FP.Core.DInt (B : Int) b) (hB : 1 ≤ B) : ∃ s, FP.Core.val64 (FP.ddiv a b) = .fin s 0 (-1074) := by
  unfold FP.Core.DInt at ha hb
  show ∃ s, FP.Core.val64 (FP.Core.ddiv a b) = _
  rw [FP.Core.val64_ddiv]
  cases hx : FP.Core.val64 a with
  | nan => rw [hx] at ha; exact ha.elim
  | inf s => rw [hx] at ha; exact ha.elim
  | fin s c q =>
    cases hy : FP.Core.val64 b with
    | nan => rw [hy] at hb; exact hb.elim
    | inf s => rw [hy] at hb; exact hb.elim
    | fin t d r =>
      rw [hx] at ha; rw [hy] at hb
      have z1 : c = 0 := (FP.Core.whole_zero ha).mpr rfl
      have z2 : ¬ d = 0 := fun z => by have := (FP.Core.whole_zero hb).mp z; omega
      refine ⟨(s != t), ?_⟩
      show (if d = 0 then (if c = 0 then .nan else .inf (s != t)) else FP.Core.roundRatio FP.Core.b64 (s != t) c d (q - r)) = _
      rw [if_neg z2]
      unfold FP.Core.roundRatio
      rw [if_pos z1, FP.Core.qmin_b64]
theorem DZ.cmp {v : UInt64} {s : Bool} (h : FP.Core.val64 v = .fin s 0 (-1074)) : FP.dcmp v FP.dconst0 = some .eq := by
  show FP.Core.order (FP.Core.val64 v) (FP.Core.val64 FP.Core.dconst0) = _
  rw [h, FP.Core.val64_dconst0, FP.Core.qmin_b64]
  cases s <;> decide
