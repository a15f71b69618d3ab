/-! THE CLASS: TEXTS DO NOT REMEMBER -/
/-- the same in what counts in state q -/
def AG (r r' : Nat → Int32) (q : Nat) : Prop := r 0 = nI q ∧ r' 0 = nI q ∧ (1 ≤ q → r' 1 = r 1 ∧ r' 4 = r 4) ∧ (3 ≤ q → r' 2 = r 2) ∧ (5 ≤ q → r' 3 = r 3)
theorem AG.set {r r' : Nat → Int32} {q k : Nat} {v : Int32} (h : AG r r' q) (hk : k ≠ 0) : AG (up r k v) (up r' k v) q := by
  obtain ⟨a1, a2, a3, a4, a5⟩ := h
  have u : ∀ j, r' j = r j → up r' k v j = up r k v j := fun j hj => by unfold up; split; rfl; exact hj
  refine ⟨by rw [up_n (fun z => hk z.symm)]; exact a1, by rw [up_n (fun z => hk z.symm)]; exact a2, fun h => ⟨u 1 (a3 h).1, u 4 (a3 h).2⟩, fun h => u 2 (a4 h), fun h => u 3 (a5 h)⟩
theorem AG.to {r r' : Nat → Int32} {q q' : Nat} (h : AG r r' q) (h1 : 1 ≤ q' → r' 1 = r 1 ∧ r' 4 = r 4) (h2 : 3 ≤ q' → r' 2 = r 2) (h3 : 5 ≤ q' → r' 3 = r 3) : AG (up r 0 (nI q')) (up r' 0 (nI q')) q' := by
  refine ⟨up_e, up_e, fun h => ?_, fun h => ?_, fun h => ?_⟩
  · rw [up_n (by omega), up_n (by omega), up_n (by omega), up_n (by omega)]; exact h1 h
  · rw [up_n (by omega), up_n (by omega)]; exact h2 h
  · rw [up_n (by omega), up_n (by omega)]; exact h3 h
theorem rT_ag {code : Int32} {r r' : Nat → Int32} {q : Nat} (hq : q ≤ 8) (h : AG r r' q) : (rT code r').1 = (rT code r).1 ∧ ∃ q', q' ≤ 8 ∧ AG (rT code r).2 (rT code r').2 q' := by
  have h0 := h
  obtain ⟨a1, a2, a3, a4, a5⟩ := h
  have : q = 0 ∨ q = 1 ∨ q = 2 ∨ q = 3 ∨ q = 4 ∨ q = 5 ∨ q = 6 ∨ q = 7 ∨ q = 8 := by omega
  unfold rT
  rcases this with rfl | rfl | rfl | rfl | rfl | rfl | rfl | rfl | rfl
  · have e0 : r 0 = 0 := a1
    have e0' : r' 0 = 0 := a2
    rw [if_pos e0, if_pos e0']
    by_cases hd : dg code < 1
    · rw [if_pos hd, if_pos hd]; exact ⟨rfl, 0, by omega, (h0.set (by omega)).set (by omega)⟩
    · rw [if_neg hd, if_neg hd]
      have b := (h0.set (k := 1) (v := dg code) (by omega)).set (k := 4) (v := 0) (by omega)
      exact ⟨rfl, 1, by omega, AG.to (q' := 1) b (fun _ => ⟨by rw [up_n (by omega), up_e, up_n (by omega), up_e], by rw [up_e, up_e]⟩) (fun z => by omega) (fun z => by omega)⟩
  · have e0 : r 0 = 1 := a1
    have e0' : r' 0 = 1 := a2
    rw [if_neg (by rw [e0]; decide : ¬ r 0 = 0), if_pos e0, if_neg (by rw [e0']; decide : ¬ r' 0 = 0), if_pos e0']
    rw [(a3 (by omega)).1]
    by_cases hs : code = 115
    · rw [if_pos hs, if_pos hs]; exact ⟨rfl, 2, by omega, AG.to (q' := 2) h0 (fun _ => a3 (by omega)) (fun z => by omega) (fun z => by omega)⟩
    · rw [if_neg hs, if_neg hs]
      by_cases hd : dg code < 0 ∨ 999 < r 1
      · rw [if_pos hd, if_pos hd]; exact ⟨rfl, 1, by omega, h0⟩
      · rw [if_neg hd, if_neg hd]; exact ⟨rfl, 1, by omega, h0.set (by omega)⟩
  · have e0 : r 0 = 2 := a1
    have e0' : r' 0 = 2 := a2
    rw [if_neg (by rw [e0]; decide : ¬ r 0 = 0), if_neg (by rw [e0]; decide : ¬ r 0 = 1), if_pos e0, if_neg (by rw [e0']; decide : ¬ r' 0 = 0), if_neg (by rw [e0']; decide : ¬ r' 0 = 1), if_pos e0']
    by_cases hd : bad (dg code) 0 2
    · rw [if_pos hd, if_pos hd]; exact ⟨rfl, 2, by omega, h0.set (by omega)⟩
    · rw [if_neg hd, if_neg hd]
      have b := h0.set (k := 2) (v := dg code) (by omega)
      exact ⟨rfl, 3, by omega, AG.to (q' := 3) b (fun _ => b.2.2.1 (by omega)) (fun _ => by rw [up_e, up_e]) (fun z => by omega)⟩
  · have e0 : r 0 = 3 := a1
    have e0' : r' 0 = 3 := a2
    rw [if_neg (by rw [e0]; decide : ¬ r 0 = 0), if_neg (by rw [e0]; decide : ¬ r 0 = 1), if_neg (by rw [e0]; decide : ¬ r 0 = 2), if_pos e0, if_neg (by rw [e0']; decide : ¬ r' 0 = 0), if_neg (by rw [e0']; decide : ¬ r' 0 = 1), if_neg (by rw [e0']; decide : ¬ r' 0 = 2), if_pos e0']
    by_cases hs : code = 97
    · rw [if_pos hs, if_pos hs]; exact ⟨rfl, 4, by omega, AG.to (q' := 4) h0 (fun _ => a3 (by omega)) (fun _ => a4 (by omega)) (fun z => by omega)⟩
    · rw [if_neg hs, if_neg hs]; exact ⟨rfl, 3, by omega, h0⟩
  · have e0 : r 0 = 4 := a1
    have e0' : r' 0 = 4 := a2
    rw [if_neg (by rw [e0]; decide : ¬ r 0 = 0), if_neg (by rw [e0]; decide : ¬ r 0 = 1), if_neg (by rw [e0]; decide : ¬ r 0 = 2), if_neg (by rw [e0]; decide : ¬ r 0 = 3), if_pos e0, if_neg (by rw [e0']; decide : ¬ r' 0 = 0), if_neg (by rw [e0']; decide : ¬ r' 0 = 1), if_neg (by rw [e0']; decide : ¬ r' 0 = 2), if_neg (by rw [e0']; decide : ¬ r' 0 = 3), if_pos e0']
    by_cases hd : bad (dg code) 1 7
    · rw [if_pos hd, if_pos hd]; exact ⟨rfl, 4, by omega, h0.set (by omega)⟩
    · rw [if_neg hd, if_neg hd]
      have b := h0.set (k := 3) (v := dg code) (by omega)
      exact ⟨rfl, 5, by omega, AG.to (q' := 5) b (fun _ => b.2.2.1 (by omega)) (fun _ => b.2.2.2.1 (by omega)) (fun _ => by rw [up_e, up_e])⟩
  · have e0 : r 0 = 5 := a1
    have e0' : r' 0 = 5 := a2
    rw [if_neg (by rw [e0]; decide : ¬ r 0 = 0), if_neg (by rw [e0]; decide : ¬ r 0 = 1), if_neg (by rw [e0]; decide : ¬ r 0 = 2), if_neg (by rw [e0]; decide : ¬ r 0 = 3), if_neg (by rw [e0]; decide : ¬ r 0 = 4), if_pos e0, if_neg (by rw [e0']; decide : ¬ r' 0 = 0), if_neg (by rw [e0']; decide : ¬ r' 0 = 1), if_neg (by rw [e0']; decide : ¬ r' 0 = 2), if_neg (by rw [e0']; decide : ¬ r' 0 = 3), if_neg (by rw [e0']; decide : ¬ r' 0 = 4), if_pos e0']
    rw [a5 (by omega)]
    by_cases hd : dg code < 0 ∨ 10 * r 3 + dg code < 16
    · rw [if_pos hd, if_pos hd]; exact ⟨rfl, 5, by omega, h0.set (by omega)⟩
    · rw [if_neg hd, if_neg hd]
      have b := h0.set (k := 3) (v := 10 * r 3 + dg code) (by omega)
      exact ⟨rfl, 6, by omega, AG.to (q' := 6) b (fun _ => b.2.2.1 (by omega)) (fun _ => b.2.2.2.1 (by omega)) (fun _ => b.2.2.2.2 (by omega))⟩
  · have e0 : r 0 = 6 := a1
    have e0' : r' 0 = 6 := a2
    rw [if_neg (by rw [e0]; decide : ¬ r 0 = 0), if_neg (by rw [e0]; decide : ¬ r 0 = 1), if_neg (by rw [e0]; decide : ¬ r 0 = 2), if_neg (by rw [e0]; decide : ¬ r 0 = 3), if_neg (by rw [e0]; decide : ¬ r 0 = 4), if_neg (by rw [e0]; decide : ¬ r 0 = 5), if_pos e0, if_neg (by rw [e0']; decide : ¬ r' 0 = 0), if_neg (by rw [e0']; decide : ¬ r' 0 = 1), if_neg (by rw [e0']; decide : ¬ r' 0 = 2), if_neg (by rw [e0']; decide : ¬ r' 0 = 3), if_neg (by rw [e0']; decide : ¬ r' 0 = 4), if_neg (by rw [e0']; decide : ¬ r' 0 = 5), if_pos e0']
    by_cases hs : code = 43
    · rw [if_pos hs, if_pos hs]; exact ⟨rfl, 7, by omega, AG.to (q' := 7) h0 (fun _ => a3 (by omega)) (fun _ => a4 (by omega)) (fun _ => a5 (by omega))⟩
    · rw [if_neg hs, if_neg hs]
      by_cases hs2 : code = 59
      · rw [if_pos hs2, if_pos hs2]; exact ⟨rfl, 0, by omega, AG.to (q' := 0) h0 (fun z => by omega) (fun z => by omega) (fun z => by omega)⟩
      · rw [if_neg hs2, if_neg hs2]; exact ⟨rfl, 6, by omega, h0⟩
  · have e0 : r 0 = 7 := a1
    have e0' : r' 0 = 7 := a2
    rw [if_neg (by rw [e0]; decide : ¬ r 0 = 0), if_neg (by rw [e0]; decide : ¬ r 0 = 1), if_neg (by rw [e0]; decide : ¬ r 0 = 2), if_neg (by rw [e0]; decide : ¬ r 0 = 3), if_neg (by rw [e0]; decide : ¬ r 0 = 4), if_neg (by rw [e0]; decide : ¬ r 0 = 5), if_neg (by rw [e0]; decide : ¬ r 0 = 6), if_pos e0, if_neg (by rw [e0']; decide : ¬ r' 0 = 0), if_neg (by rw [e0']; decide : ¬ r' 0 = 1), if_neg (by rw [e0']; decide : ¬ r' 0 = 2), if_neg (by rw [e0']; decide : ¬ r' 0 = 3), if_neg (by rw [e0']; decide : ¬ r' 0 = 4), if_neg (by rw [e0']; decide : ¬ r' 0 = 5), if_neg (by rw [e0']; decide : ¬ r' 0 = 6), if_pos e0']
    by_cases hd : dg code < 1
    · rw [if_pos hd, if_pos hd]; exact ⟨rfl, 7, by omega, h0.set (by omega)⟩
    · rw [if_neg hd, if_neg hd]
      have b := h0.set (k := 4) (v := dg code) (by omega)
      exact ⟨rfl, 8, by omega, AG.to (q' := 8) b (fun _ => b.2.2.1 (by omega)) (fun _ => b.2.2.2.1 (by omega)) (fun _ => b.2.2.2.2 (by omega))⟩
  · have e0 : r 0 = nI 8 := a1
    have e0' : r' 0 = nI 8 := a2
    rw [if_neg (by rw [e0]; decide : ¬ r 0 = 0), if_neg (by rw [e0]; decide : ¬ r 0 = 1), if_neg (by rw [e0]; decide : ¬ r 0 = 2), if_neg (by rw [e0]; decide : ¬ r 0 = 3), if_neg (by rw [e0]; decide : ¬ r 0 = 4), if_neg (by rw [e0]; decide : ¬ r 0 = 5), if_neg (by rw [e0]; decide : ¬ r 0 = 6), if_neg (by rw [e0]; decide : ¬ r 0 = 7), if_neg (by rw [e0']; decide : ¬ r' 0 = 0), if_neg (by rw [e0']; decide : ¬ r' 0 = 1), if_neg (by rw [e0']; decide : ¬ r' 0 = 2), if_neg (by rw [e0']; decide : ¬ r' 0 = 3), if_neg (by rw [e0']; decide : ¬ r' 0 = 4), if_neg (by rw [e0']; decide : ¬ r' 0 = 5), if_neg (by rw [e0']; decide : ¬ r' 0 = 6), if_neg (by rw [e0']; decide : ¬ r' 0 = 7)]
    rw [(a3 (by omega)).2]
    by_cases hs : code = 59
    · rw [if_pos hs, if_pos hs]; exact ⟨rfl, 0, by omega, AG.to (q' := 0) h0 (fun z => by omega) (fun z => by omega) (fun z => by omega)⟩
    · rw [if_neg hs, if_neg hs]
      by_cases hd : dg code < 0 ∨ 9999 < r 4
      · rw [if_pos hd, if_pos hd]; exact ⟨rfl, 8, by omega, h0⟩
      · rw [if_neg hd, if_neg hd]; exact ⟨rfl, 8, by omega, h0.set (by omega)⟩
theorem rS_ag {tx r0 r0' : Nat → Int32} : ∀ p, ∃ q, q ≤ 8 ∧ AG (rS tx r0 p) (rS tx r0' p) q := by
  intro p
  induction p with
  | zero => exact ⟨0, by omega, up_e, up_e, fun z => by omega, fun z => by omega, fun z => by omega⟩
  | succ p ih =>
    obtain ⟨q, hq, h⟩ := ih
    exact (rT_ag hq h).2
theorem rK_ag {tx r0 r0' : Nat → Int32} {p : Nat} (h : rK tx r0 p) : rK tx r0' p := fun i hi => by
  obtain ⟨q, hq, hh⟩ := rS_ag (tx := tx) (r0 := r0) (r0' := r0') i
  rw [(rT_ag (code := tx i) hq hh).1]; exact h i hi
theorem rS0_ag {tx r0 r0' : Nat → Int32} (p : Nat) : rS tx r0' p 0 = rS tx r0 p 0 := by
  obtain ⟨q, hq, h1, h2, -⟩ := rS_ag (tx := tx) (r0 := r0) (r0' := r0') p
  rw [h1, h2]
theorem rTk_ag {tx r0 r0' : Nat → Int32} {p n : Nat} {x : ST} (h : rS tx r0 p 0 = 6 ∨ rS tx r0 p 0 = 8) : rTk tx r0' 0 p n x = rTk tx r0 0 p n x := by
  obtain ⟨q, hq, h1, h2, h3, h4, h5⟩ := rS_ag (tx := tx) (r0 := r0) (r0' := r0') p
  have q6 : 6 ≤ q := by
    rcases h with z | z
    · have : q = 6 := (nI_eq (by omega) (by omega)).mp (h1.symm.trans z : nI q = nI 6)
      omega
    · have : q = 8 := (nI_eq (by omega) (by omega)).mp (h1.symm.trans z : nI q = nI 8)
      omega
  unfold rTk
  rw [(h3 (by omega)).1, (h3 (by omega)).2, h4 (by omega), h5 (by omega)]
theorem rOk_ag {tx r0 r0' : Nat → Int32} {L : Nat} (hK : rK tx r0 L) (hf : rS tx r0 L 0 = 6 ∨ rS tx r0 L 0 = 8) {n' : Nat} {x' : ST} : ∀ k p n x, p + k = L → (rOk tx r0 k p n x n' x' ↔ rOk tx r0' k p n x n' x') := by
  intro k
  induction k with
  | zero =>
    intro p n x hp
    have e : p = L := by omega
    subst e
    unfold rOk
    rw [rTk_ag (r0 := r0) (r0' := r0') hf]
  | succ k ih =>
    intro p n x hp
    unfold rOk
    by_cases h59 : tx p = 59
    · rw [if_pos h59, if_pos h59]
      have hKp : rK tx r0 p := fun i hi => hK i (by omega)
      obtain ⟨q, hq, hq0, hrg⟩ := rS_g p hKp
      have h68 : rS tx r0 p 0 = 6 ∨ rS tx r0 p 0 = 8 := by
        rcases (rT_ok hq hq0 hrg (hK p (by omega))).2 h59 with z | z
        · exact Or.inl (by rw [hq0, z]; rfl)
        · exact Or.inr (by rw [hq0, z]; rfl)
      rw [rTk_ag (r0 := r0) (r0' := r0') h68, ih (p + 1) _ _ (by omega)]
    · rw [if_neg h59, if_neg h59]; exact ih (p + 1) _ _ (by omega)
