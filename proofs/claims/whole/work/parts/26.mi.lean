/-! WHAT HOLDS OF A MEMBER, KEPT -/
section MIS
variable {v : Nat → Int32} {S lo hi : Nat}
theorem up_n' {f : Nat → Int32} {k j : Nat} {x : Int32} (h : j ≠ k) : up f k x j = f j := up_n h
theorem MI.mono {S' lo' hi' : Nat} (h : MI v S lo hi) (hS : S ≤ S') (hl : lo' ≤ lo) (hh : hi ≤ hi') : MI v S' lo' hi' := by
  obtain ⟨a1, a2, a3, a4, a5, n, b1, b2, b3, b4, W, b5⟩ := h
  refine ⟨a1, a2, a3, a4, a5, n, b1, by omega, fun k hk => ?_, b4, W, fun k hk => ?_⟩
  · obtain ⟨e, e1, e2⟩ := b3 k hk; exact ⟨e, e1, by omega⟩
  · obtain ⟨c1, c2, c3, c4, c5⟩ := b5 k hk; exact ⟨c1, c2, by omega, by omega, c5⟩
/-- a word that is none of the late months' -/
theorem MI.pay (h : MI v S lo hi) {q : Nat} (h1 : 1 ≤ q) (h2 : q ≤ 9999) : MI (up v 2 (nI q)) S lo hi := by
  obtain ⟨a1, a2, a3, a4, a5, n, b1, b2, b3, b4, W, b5⟩ := h
  refine ⟨a1, ⟨q, h1, h2, up_e⟩, a3, a4, a5, n, b1, b2, fun k hk => ?_, b4, W, fun k hk => ?_⟩
  · rw [up_n (by omega)]; exact b3 k hk
  · rw [up_n (by omega)]; exact b5 k hk
theorem MI.own (h : MI v S lo hi) {c : Nat} (h1 : c < 3) : MI (up v 1 (nI c)) S lo hi := by
  obtain ⟨a1, a2, a3, a4, a5, n, b1, b2, b3, b4, W, b5⟩ := h
  refine ⟨⟨c, h1, up_e⟩, a2, a3, a4, a5, n, b1, b2, fun k hk => ?_, b4, W, fun k hk => ?_⟩
  · rw [up_n (by omega)]; exact b3 k hk
  · rw [up_n (by omega)]; exact b5 k hk
theorem MI.age (h : MI v S lo hi) {a : Nat} (h1 : a ≤ 960) : MI (up v 3 (nI a)) S lo hi := by
  obtain ⟨a1, a2, a3, a4, a5, n, b1, b2, b3, b4, W, b5⟩ := h
  refine ⟨a1, a2, ⟨a, h1, up_e⟩, a4, a5, n, b1, b2, fun k hk => ?_, b4, W, fun k hk => ?_⟩
  · rw [up_n (by omega)]; exact b3 k hk
  · rw [up_n (by omega)]; exact b5 k hk
theorem MI.behind (h : MI v S lo hi) {x : Int32} (h1 : x = 0 ∨ x = 1) : MI (up v 9 x) S lo hi := by
  obtain ⟨a1, a2, a3, a4, a5, n, b1, b2, b3, b4, W, b5⟩ := h
  refine ⟨a1, a2, a3, a4, by rw [up_e]; exact h1, n, b1, b2, fun k hk => ?_, b4, W, fun k hk => ?_⟩
  · rw [up_n (by omega)]; exact b3 k hk
  · rw [up_n (by omega)]; exact b5 k hk
theorem MI.ret (h : MI v S lo hi) {e : Nat} (h1 : e < 2 ^ 31) : MI (up (up (up v 8 (nI e)) 7 1) 10 0) S lo hi := by
  obtain ⟨a1, a2, a3, a4, a5, n, b1, b2, b3, b4, W, b5⟩ := h
  refine ⟨a1, a2, a3, ⟨e, h1, ?_⟩, a5, 0, up_e, by omega, fun k hk => ?_, Or.inr ⟨?_, rfl⟩, W, fun k hk => absurd hk (by omega)⟩
  · rw [up_n (by omega), up_n (by omega), up_e]
  · rw [up_n (by omega), up_n (by omega), up_n (by omega)]; obtain ⟨e, e1, e2⟩ := b3 k hk; exact ⟨e, e1, by omega⟩
  · rw [up_n (by omega), up_e]
/-- one month of service more, in section c -/
theorem MI.serve (h : MI v S lo hi) {c : Nat} (hc : c < 3) : MI (up v (4 + c) (v (4 + c) + 1)) (S + 1) lo hi := by
  obtain ⟨a1, a2, a3, a4, a5, n, b1, b2, b3, b4, W, b5⟩ := h
  refine ⟨by rw [up_n (by omega)]; exact a1, by rw [up_n (by omega)]; exact a2, by rw [up_n (by omega)]; exact a3, by rw [up_n (by omega)]; exact a4, by rw [up_n (by omega)]; exact a5, n, by rw [up_n (by omega)]; exact b1, b2, fun k hk => ?_, by rw [up_n (by omega)]; exact b4, W, fun k hk => ?_⟩
  · obtain ⟨e, e1, e2⟩ := b3 k hk
    by_cases h1 : k = c
    · subst h1; rw [up_e]; exact ⟨e + 1, by rw [e1, nI_1], by omega⟩
    · rw [up_n (by omega)]; exact ⟨e, e1, by omega⟩
  · rw [up_n (by omega)]; exact b5 k hk
/-- months of service brought along -/
theorem MI.bring (h : MI v S lo hi) {c e t n : Nat} (hc : c < 3) (he : v (4 + c) = nI e) (ht : e + t ≤ 9999) (hS : 10060 ≤ S) (hw : hi ≤ lo + 60) : MI (up v (4 + c) (v (4 + c) + nI t)) S lo hi := by
  obtain ⟨a1, a2, a3, a4, a5, n, b1, b2, b3, b4, W, b5⟩ := h
  refine ⟨by rw [up_n (by omega)]; exact a1, by rw [up_n (by omega)]; exact a2, by rw [up_n (by omega)]; exact a3, by rw [up_n (by omega)]; exact a4, by rw [up_n (by omega)]; exact a5, n, by rw [up_n (by omega)]; exact b1, b2, fun k hk => ?_, by rw [up_n (by omega)]; exact b4, W, fun k hk => ?_⟩
  · by_cases h1 : k = c
    · subst h1; rw [up_e]; exact ⟨e + t, by rw [he, nI_add], by omega⟩
    · rw [up_n (by omega)]; exact b3 k hk
  · rw [up_n (by omega)]; exact b5 k hk
/-- the first late month goes -/
theorem MI.drop (h : MI v (S + 1) lo hi) {n : Nat} (hn : v 10 = nI (n + 1)) (h63 : n < 1000) (hh : hi - lo < 1000) : MI (vDrop v n) S lo hi := by
  obtain ⟨a1, a2, a3, a4, a5, n', b1, b2, b3, b4, W, b5⟩ := h
  have e : n' = n + 1 := by rw [b1] at hn; exact (nI_eq (by omega) (by omega)).mp hn
  subst e
  have hv : ∀ w, ¬ (11 ≤ w ∧ w < 11 + n) → w ≠ 10 → vDrop v n w = v w := fun w h1 h2 => by unfold vDrop; rw [if_neg h1, if_neg h2]
  refine ⟨by rw [hv 1 (by omega) (by omega)]; exact a1, by rw [hv 2 (by omega) (by omega)]; exact a2, by rw [hv 3 (by omega) (by omega)]; exact a3, by rw [hv 8 (by omega) (by omega)]; exact a4, by rw [hv 9 (by omega) (by omega)]; exact a5, n, ?_, by omega, fun k hk => ?_, ?_, fun k => W (k + 1), fun k hk => ?_⟩
  · unfold vDrop; rw [if_neg (by omega), if_pos rfl]
  · rw [hv _ (by omega) (by omega)]; obtain ⟨e, e1, e2⟩ := b3 k hk; exact ⟨e, e1, by omega⟩
  · rw [hv 7 (by omega) (by omega)]; rcases b4 with h1 | ⟨h1, h2⟩
    · exact Or.inl h1
    · omega
  · obtain ⟨c1, c2, c3, c4, c5⟩ := b5 (k + 1) (by omega)
    dsimp only
    refine ⟨?_, c2, by omega, c4, fun h1 => c5 (by omega)⟩
    unfold vDrop; rw [if_pos (by omega), show 11 + k + 1 = 11 + (k + 1) by omega]; exact c1
/-- a late month comes -/
theorem MI.late (h : MI v S lo hi) {n c du : Nat} (hn : v 10 = nI n) (h63 : n < 1000) (hh : hi - lo < 1000) (hle : lo ≤ hi) (h7 : v 7 = 0) (hc : c < 3) (hd : du < 4096) : MI (up (up v (11 + n) (nI (16384 * hi + 4096 * c + du))) 10 (nI (n + 1))) (S + 1) lo (hi + 1) := by
  obtain ⟨a1, a2, a3, a4, a5, n', b1, b2, b3, b4, W, b5⟩ := h
  have e : n' = n := by rw [b1] at hn; exact (nI_eq (by omega) (by omega)).mp hn
  subst e
  have hv : ∀ w, w ≠ 11 + n' → w ≠ 10 → up (up v (11 + n') (nI (16384 * hi + 4096 * c + du))) 10 (nI (n' + 1)) w = v w := fun w h1 h2 => by rw [up_n h2, up_n h1]
  refine ⟨by rw [hv 1 (by omega) (by omega)]; exact a1, by rw [hv 2 (by omega) (by omega)]; exact a2, by rw [hv 3 (by omega) (by omega)]; exact a3, by rw [hv 8 (by omega) (by omega)]; exact a4, by rw [hv 9 (by omega) (by omega)]; exact a5, n' + 1, up_e, by omega, fun k hk => ?_, ?_, fun k => if k = n' then 16384 * hi + 4096 * c + du else W k, fun k hk => ?_⟩
  · rw [hv _ (by omega) (by omega)]; obtain ⟨e, e1, e2⟩ := b3 k hk; exact ⟨e, e1, by omega⟩
  · rw [hv 7 (by omega) (by omega)]; exact Or.inl h7
  · by_cases h1 : k = n'
    · subst h1
      dsimp only
      refine ⟨?_, ?_, ?_, ?_, fun h2 => absurd h2 (by omega)⟩
      · rw [up_n (by omega), up_e, if_pos rfl]
      · rw [if_pos rfl]; omega
      · rw [if_pos rfl]; omega
      · rw [if_pos rfl]; omega
    · obtain ⟨c1, c2, c3, c4, c5⟩ := b5 k (by omega)
      dsimp only
      rw [hv _ (by omega) (by omega), if_neg h1]
      refine ⟨c1, c2, c3, by omega, fun h2 => ?_⟩
      by_cases h3 : k + 1 = n'
      · rw [if_pos h3]; omega
      · rw [if_neg h3]; exact c5 (by omega)
/-- all late months are as late as the first -/
theorem MI.from (h : MI v S lo hi) {n lo' : Nat} (hn : v 10 = nI n) (h63 : n < 1000) (hh : hi - lo < 1000) (h0 : n = 0 ∨ ∃ w, v 11 = nI w ∧ w < 2 ^ 31 ∧ lo' ≤ w / 16384) (hr : hi < 100000) : MI v S lo' hi := by
  obtain ⟨a1, a2, a3, a4, a5, n', b1, b2, b3, b4, W, b5⟩ := h
  have e : n' = n := by rw [b1] at hn; exact (nI_eq (by omega) (by omega)).mp hn
  subst e
  have key : ∀ k, k < n' → lo' + k ≤ W k / 16384 := by
    intro k
    induction k with
    | zero =>
      intro hk
      rcases h0 with h0 | ⟨w, h1, h2, h3⟩
      · omega
      · have c := b5 0 hk
        have e : W 0 = w := (nI_eq (by omega) h2).mp (c.1.symm.trans h1)
        omega
    | succ k ih =>
      intro hk
      have c1 := ih (by omega)
      have c2 := (b5 k (by omega)).2.2.2.2 hk
      omega
  have hw : n' ≤ hi - lo' := by
    rcases Nat.eq_zero_or_pos n' with h | h
    · omega
    · have c1 := key (n' - 1) (by omega)
      have c2 := (b5 (n' - 1) (by omega)).2.2.2.1
      omega
  exact ⟨a1, a2, a3, a4, a5, n', b1, hw, b3, b4, W, fun k hk => ⟨(b5 k hk).1, (b5 k hk).2.1, key k hk, (b5 k hk).2.2.2.1, (b5 k hk).2.2.2.2⟩⟩
end MIS
