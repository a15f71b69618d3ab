/-! THE TWO READERS, DIGITS -/
section PR2
variable {tx : Nat → Int32} {L p q : Nat} {y : Nat × Bool} {lo hi : Int32} {r : Nat → Int32} {code : Int32}
theorem Er.nm {k : Nat} {z : Int32 × (Nat × Bool)} (h : Er tx L z.2) : nmL tx L k z = z := by
  cases k with
  | zero => rfl
  | succ k => unfold nmL; rw [if_neg h.nxE]
theorem sg_ok (hp : p < L) (hb : ¬ bad (tx p) lo hi) : sg tx L lo hi (p, false) = (p + 1, false) := by
  unfold sg
  rw [if_neg]
  rintro (z | z)
  · exact Bool.false_ne_true z
  · exact hb (by rw [pC_lt hp] at z; exact z)
theorem nI_dig (V d : Nat) : 10 * nI V + nI (48 + d) - 48 = nI (10 * V + d) := by
  rw [show (10 : Int32) = nI 10 from rfl, pk_mul, nI_add, show (48 : Int32) = nI 48 from rfl, show 10 * V + (48 + d) = (10 * V + d) + 48 by omega, ← nI_add (10 * V + d) 48, Int32.add_sub_cancel]
theorem nI_lt0 {d : Nat} (h : d < 2 ^ 31) : ¬ nI d < 0 := by
  rw [show (0 : Int32) = nI 0 from rfl, nI_ltI h (by omega)]; omega
theorem dg_nb {d a b : Nat} (hc : code = nI (48 + d)) (hd : d ≤ 9) (ha : a ≤ 48 + d) (hb : 48 + d ≤ b) (hb2 : b < 200) : ¬ bad code (nI a) (nI b) := by
  rw [hc]
  rintro (z | z)
  · rw [nI_ltI (by omega) (by omega)] at z; omega
  · rw [nI_ltI (by omega) (by omega)] at z; omega
theorem nm_pay : ∀ k p V, k ≤ 3 → (k = 3 → 1 ≤ V ∧ V ≤ 9) ∧ (k = 2 → 10 ≤ V ∧ V ≤ 99) ∧ (k = 1 → 100 ≤ V ∧ V ≤ 999) ∧ (k = 0 → 1000 ≤ V ∧ V ≤ 9999) → At tx L p 1 → rS tx r00 p 1 = nI V → ∃ e V', p ≤ e ∧ nmL tx L k (nI V, (p, false)) = (nI V', (e, false)) ∧ At tx L e 1 ∧ rS tx r00 e 1 = nI V' ∧ rS tx r00 e 4 = rS tx r00 p 4 ∧ (∀ i, p ≤ i → i < e → tx i ≠ 59) ∧ (e < L → bad (tx e) 48 57 ∨ 999 < nI V') := by
  intro k
  induction k with
  | zero =>
    intro p V hk hV h hr
    exact ⟨p, V, Nat.le_refl p, rfl, h, hr, rfl, fun i h1 h2 => by omega, fun _ => Or.inr ((nI_ltI (a := 999) (by omega) (by omega)).mpr (by omega))⟩
  | succ k ih =>
    intro p V hk hV h hr
    by_cases hn : nx tx L 48 57 (p, false)
    · have hp : p < L := hn.2.1
      have hb : ¬ bad (tx p) 48 57 := hn.2.2
      obtain ⟨d, e1, e2, e3, e4, e5⟩ := dg_in (a := 48) (b := 57) (by omega) (by omega) (by omega) hb
      have hne : ¬ tx p = 115 := fun z => by
        rw [e1] at z
        have := (nI_eq (b := 115) (by omega) (by omega)).mp z
        omega
      have hT : rT (tx p) (rS tx r00 p) = (1, up (rS tx r00 p) 1 (nI (10 * V + d))) := by
        rw [rT1 h.2.2, if_neg hne, if_neg, hr, e4, show (10 : Int32) = nI 10 from rfl, pk_mul, nI_add]
        rintro (z | z)
        · rw [e4] at z; exact nI_lt0 (by omega) z
        · rw [hr] at z
          have := (nI_ltI (a := 999) (by omega) (by omega)).mp z
          omega
      have hS : rS tx r00 (p + 1) = up (rS tx r00 p) 1 (nI (10 * V + d)) := by show (rT (tx p) (rS tx r00 p)).2 = _; rw [hT]
      have hA : At tx L (p + 1) 1 := ⟨by omega, rK_s h.2.1 (by rw [hT]), by rw [hS, up_n (by omega)]; exact h.2.2⟩
      obtain ⟨e, V', w1, w2, w3, w4, w5, w6, w7⟩ := ih (p + 1) (10 * V + d) (by omega) ⟨fun _ => by omega, fun _ => by omega, fun _ => by omega, fun _ => by omega⟩ hA (by rw [hS, up_e])
      refine ⟨e, V', by omega, ?_, w3, w4, by rw [w5, hS, up_n (by omega)], fun i h1 h2 => ?_, w7⟩
      · unfold nmL
        rw [if_pos hn]
        dsimp only
        rw [pC_lt hp, sg_ok hp hb, e1, nI_dig]
        exact w2
      · by_cases hi : i = p
        · subst hi; exact ne59 (a := 48) (b := 57) hb (by omega) (by omega) (by omega)
        · exact w6 i (by omega) h2
    · refine ⟨p, V, Nat.le_refl p, by unfold nmL; rw [if_neg hn], h, hr, rfl, fun i h1 h2 => by omega, fun hp => Or.inl (Decidable.byContradiction fun w => hn ⟨rfl, hp, w⟩)⟩
theorem nm_am : ∀ k p V, k ≤ 4 → (k = 4 → 1 ≤ V ∧ V ≤ 9) ∧ (k = 3 → 10 ≤ V ∧ V ≤ 99) ∧ (k = 2 → 100 ≤ V ∧ V ≤ 999) ∧ (k = 1 → 1000 ≤ V ∧ V ≤ 9999) ∧ (k = 0 → 10000 ≤ V ∧ V ≤ 99999) → At tx L p 8 → rS tx r00 p 4 = nI V → ∃ e V', p ≤ e ∧ nmL tx L k (nI V, (p, false)) = (nI V', (e, false)) ∧ At tx L e 8 ∧ rS tx r00 e 4 = nI V' ∧ (∀ j, j ≠ 4 → rS tx r00 e j = rS tx r00 p j) ∧ (∀ i, p ≤ i → i < e → tx i ≠ 59) ∧ (e < L → bad (tx e) 48 57 ∨ 9999 < nI V') := by
  intro k
  induction k with
  | zero =>
    intro p V hk hV h hr
    exact ⟨p, V, Nat.le_refl p, rfl, h, hr, fun j _ => rfl, fun i h1 h2 => by omega, fun _ => Or.inr ((nI_ltI (a := 9999) (by omega) (by omega)).mpr (by omega))⟩
  | succ k ih =>
    intro p V hk hV h hr
    by_cases hn : nx tx L 48 57 (p, false)
    · have hp : p < L := hn.2.1
      have hb : ¬ bad (tx p) 48 57 := hn.2.2
      obtain ⟨d, e1, e2, e3, e4, e5⟩ := dg_in (a := 48) (b := 57) (by omega) (by omega) (by omega) hb
      have hne : ¬ tx p = 59 := ne59 (a := 48) (b := 57) hb (by omega) (by omega) (by omega)
      have hT : rT (tx p) (rS tx r00 p) = (1, up (rS tx r00 p) 4 (nI (10 * V + d))) := by
        rw [rT8 h.2.2, if_neg hne, if_neg, hr, e4, show (10 : Int32) = nI 10 from rfl, pk_mul, nI_add]
        rintro (z | z)
        · rw [e4] at z; exact nI_lt0 (by omega) z
        · rw [hr] at z
          have := (nI_ltI (a := 9999) (by omega) (by omega)).mp z
          omega
      have hS : rS tx r00 (p + 1) = up (rS tx r00 p) 4 (nI (10 * V + d)) := by show (rT (tx p) (rS tx r00 p)).2 = _; rw [hT]
      have hA : At tx L (p + 1) 8 := ⟨by omega, rK_s h.2.1 (by rw [hT]), by rw [hS, up_n (by omega)]; exact h.2.2⟩
      obtain ⟨e, V', w1, w2, w3, w4, w5, w6, w7⟩ := ih (p + 1) (10 * V + d) (by omega) ⟨fun _ => by omega, fun _ => by omega, fun _ => by omega, fun _ => by omega, fun _ => by omega⟩ hA (by rw [hS, up_e])
      refine ⟨e, V', by omega, ?_, w3, w4, fun j hj => by rw [w5 j hj, hS, up_n hj], fun i h1 h2 => ?_, w7⟩
      · unfold nmL
        rw [if_pos hn]
        dsimp only
        rw [pC_lt hp, sg_ok hp hb, e1, nI_dig]
        exact w2
      · by_cases hi : i = p
        · subst hi; exact hne
        · exact w6 i (by omega) h2
    · refine ⟨p, V, Nat.le_refl p, by unfold nmL; rw [if_neg hn], h, hr, fun j _ => rfl, fun i h1 h2 => by omega, fun hp => Or.inl (Decidable.byContradiction fun w => hn ⟨rfl, hp, w⟩)⟩
/-- a first digit -/
theorem dig1 (h : bad code 49 57) : dg code < 1 := by
  rcases dg_of code with z | ⟨d, d9, z, zc⟩
  · rw [z]; exact neg1'
  · rw [z, show (1 : Int32) = nI 1 from rfl, nI_ltI (by omega) (by omega)]
    rcases Nat.lt_or_ge d 1 with w | w
    · exact w
    · exact absurd h (dg_nb (a := 49) (b := 57) zc d9 (by omega) (by omega) (by omega))
theorem num_pay (h : At tx L p 0) : Er tx L (num tx L 4 (p, false)).2 ∨ ∃ e V, p < e ∧ num tx L 4 (p, false) = (nI V, (e, false)) ∧ At tx L e 1 ∧ rS tx r00 e 1 = nI V ∧ rS tx r00 e 4 = 0 ∧ (∀ i, p ≤ i → i < e → tx i ≠ 59) ∧ (e < L → bad (tx e) 48 57 ∨ 999 < nI V) := by
  have hgood : p < L → ¬ bad (tx p) 49 57 → ∃ d, 1 ≤ d ∧ d ≤ 9 ∧ tx p = nI (48 + d) ∧ rT (tx p) (rS tx r00 p) = (1, up (up (up (rS tx r00 p) 1 (nI d)) 4 0) 0 1) := by
    intro hp hb
    obtain ⟨d, e1, e2, e3, e4, e5⟩ := dg_in (a := 49) (b := 57) (by omega) (by omega) (by omega) hb
    refine ⟨d, by omega, by omega, e1, ?_⟩
    rw [rT0 h.2.2, if_neg, e4]
    rw [e4, show (1 : Int32) = nI 1 from rfl, nI_ltI (by omega) (by omega)]; omega
  rcases sg_step (lo := 49) (hi := 57) h (by omega) (by omega) (by omega) (by decide) (fun hp hb => by obtain ⟨d, -, -, -, z⟩ := hgood hp hb; rw [z]) (fun hp hb => by rw [rT0 h.2.2, if_pos (dig1 hb)]) with he | ⟨hp, hb, hs, hK⟩
  · left
    have : num tx L 4 (p, false) = (pC tx L p - 48, sg tx L 49 57 (p, false)) := Er.nm (z := (pC tx L p - 48, sg tx L 49 57 (p, false))) he
    rw [this]; exact he
  · right
    obtain ⟨d, d1, d9, e1, hT⟩ := hgood hp hb
    have hS : rS tx r00 (p + 1) = up (up (up (rS tx r00 p) 1 (nI d)) 4 0) 0 1 := by show (rT (tx p) (rS tx r00 p)).2 = _; rw [hT]
    have hA : At tx L (p + 1) 1 := ⟨by omega, hK, by rw [hS, up_e]; rfl⟩
    obtain ⟨e, V', w1, w2, w3, w4, w5, w6, w7⟩ := nm_pay 3 (p + 1) d (by omega) ⟨fun _ => by omega, fun _ => by omega, fun _ => by omega, fun _ => by omega⟩ hA (by rw [hS, up_n (by omega), up_n (by omega), up_e])
    refine ⟨e, V', by omega, ?_, w3, w4, by rw [w5, hS, up_n (by omega), up_e], fun i h1 h2 => ?_, w7⟩
    · show nmL tx L 3 (pC tx L p - 48, sg tx L 49 57 (p, false)) = _
      rw [hs, pC_lt hp, e1]
      have := nI_dig 0 d
      rw [show 10 * nI 0 + nI (48 + d) = nI (48 + d) by rw [show (10 : Int32) = nI 10 from rfl, pk_mul, nI_add]; congr 1; omega, show 10 * 0 + d = d by omega] at this
      rw [this]
      exact w2
    · by_cases hi : i = p
      · subst hi; exact ne59 (a := 49) (b := 57) hb (by omega) (by omega) (by omega)
      · exact w6 i (by omega) h2
theorem num_am (h : At tx L p 7) : Er tx L (num tx L 5 (p, false)).2 ∨ ∃ e V, p < e ∧ num tx L 5 (p, false) = (nI V, (e, false)) ∧ At tx L e 8 ∧ rS tx r00 e 4 = nI V ∧ (∀ j, j ≠ 4 → j ≠ 0 → rS tx r00 e j = rS tx r00 p j) ∧ (∀ i, p ≤ i → i < e → tx i ≠ 59) ∧ (e < L → bad (tx e) 48 57 ∨ 9999 < nI V) := by
  have hgood : p < L → ¬ bad (tx p) 49 57 → ∃ d, 1 ≤ d ∧ d ≤ 9 ∧ tx p = nI (48 + d) ∧ rT (tx p) (rS tx r00 p) = (1, up (up (rS tx r00 p) 4 (nI d)) 0 8) := by
    intro hp hb
    obtain ⟨d, e1, e2, e3, e4, e5⟩ := dg_in (a := 49) (b := 57) (by omega) (by omega) (by omega) hb
    refine ⟨d, by omega, by omega, e1, ?_⟩
    rw [rT7 h.2.2, if_neg, e4]
    rw [e4, show (1 : Int32) = nI 1 from rfl, nI_ltI (by omega) (by omega)]; omega
  rcases sg_step (lo := 49) (hi := 57) h (by omega) (by omega) (by omega) (by decide) (fun hp hb => by obtain ⟨d, -, -, -, z⟩ := hgood hp hb; rw [z]) (fun hp hb => by rw [rT7 h.2.2, if_pos (dig1 hb)]) with he | ⟨hp, hb, hs, hK⟩
  · left
    have : num tx L 5 (p, false) = (pC tx L p - 48, sg tx L 49 57 (p, false)) := Er.nm (z := (pC tx L p - 48, sg tx L 49 57 (p, false))) he
    rw [this]; exact he
  · right
    obtain ⟨d, d1, d9, e1, hT⟩ := hgood hp hb
    have hS : rS tx r00 (p + 1) = up (up (rS tx r00 p) 4 (nI d)) 0 8 := by show (rT (tx p) (rS tx r00 p)).2 = _; rw [hT]
    have hA : At tx L (p + 1) 8 := ⟨by omega, hK, by rw [hS, up_e]; rfl⟩
    obtain ⟨e, V', w1, w2, w3, w4, w5, w6, w7⟩ := nm_am 4 (p + 1) d (by omega) ⟨fun _ => by omega, fun _ => by omega, fun _ => by omega, fun _ => by omega, fun _ => by omega⟩ hA (by rw [hS, up_n (by omega), up_e])
    refine ⟨e, V', by omega, ?_, w3, w4, fun j hj hj0 => by rw [w5 j hj, hS, up_n hj0, up_n hj], fun i h1 h2 => ?_, w7⟩
    · show nmL tx L 4 (pC tx L p - 48, sg tx L 49 57 (p, false)) = _
      rw [hs, pC_lt hp, e1]
      have := nI_dig 0 d
      rw [show 10 * nI 0 + nI (48 + d) = nI (48 + d) by rw [show (10 : Int32) = nI 10 from rfl, pk_mul, nI_add]; congr 1; omega, show 10 * 0 + d = d by omega] at this
      rw [this]
      exact w2
    · by_cases hi : i = p
      · subst hi; exact ne59 (a := 49) (b := 57) hb (by omega) (by omega) (by omega)
      · exact w6 i (by omega) h2
end PR2
