/-! THE TWO READERS, A PART, A TEXT -/
section PR3
variable {tx : Nat → Int32} {L p q : Nat} {y : Nat × Bool} {lo hi : Int32} {r : Nat → Int32} {code : Int32}
/-- what both have read when a part is complete -/
def Rd (tx : Nat → Int32) (L p e : Nat) (y : Nat × Bool) : Prop := prY tx L y = (e, false) ∧ p < e ∧ e ≤ L ∧ rK tx r00 e ∧ (rS tx r00 e 0 = 6 ∨ rS tx r00 e 0 = 8) ∧ prP tx L y = rS tx r00 e 1 ∧ prS tx L y = rS tx r00 e 2 ∧ prA tx L y = 12 * rS tx r00 e 3 ∧ prM tx L y = rS tx r00 e 4 ∧ (∀ i, p ≤ i → i < e → tx i ≠ 59) ∧ (e < L → tx e ≠ 59 → (rT (tx e) (rS tx r00 e)).1 = 0)
theorem part_ok (h : At tx L p 0) : Er tx L (prY tx L (p, false)) ∨ ∃ e, Rd tx L p e (p, false) := by
  rcases num_pay h with he | ⟨a, V, a1, a2, a3, a4, a5, a6, a7⟩
  · exact Or.inl he.part
  -- the s
  have hT1 : a < L → ¬ bad (tx a) 115 115 → rT (tx a) (rS tx r00 a) = (1, up (rS tx r00 a) 0 2) := fun hp hb => by
    obtain ⟨k, k1, k2, k3⟩ := rng (v := tx a) (lo := 115) (hi := 115) (by omega) (by omega) hb
    have : k = 115 := by omega
    rw [rT1 a3.2.2, if_pos (by rw [k3, this]; rfl)]
  have e2 : pr2 tx L (p, false) = sg tx L 115 115 (a, false) := by unfold pr2; rw [a2]
  rcases sg_step (lo := 115) (hi := 115) a3 (by omega) (by omega) (by omega) (by decide) (fun hp hb => by rw [hT1 hp hb]) (fun hp hb => by
      have hne : ¬ tx a = 115 := fun z => hb.elim (fun w => by rw [z] at w; exact absurd w (by decide)) (fun w => by rw [z] at w; exact absurd w (by decide))
      rw [rT1 a3.2.2, if_neg hne, if_pos]
      rcases a7 hp with z | z
      · exact Or.inl (by rw [dg_out z]; exact neg1)
      · exact Or.inr (by rw [a4]; exact z)) with he | ⟨hp2, hb2, hs2, hK2⟩
  · exact Or.inl (Er.part2 (by rw [e2]; exact he))
  have hT1 := hT1 hp2 hb2
  have hS2 : rS tx r00 (a + 1) = up (rS tx r00 a) 0 2 := by show (rT (tx a) (rS tx r00 a)).2 = _; rw [hT1]
  have hA2 : At tx L (a + 1) 2 := ⟨by omega, hK2, by rw [hS2, up_e]; rfl⟩
  rw [hs2] at e2
  -- the section
  have hT2 : a + 1 < L → ¬ bad (tx (a + 1)) 48 50 → ∃ C, C ≤ 2 ∧ tx (a + 1) = nI (48 + C) ∧ rT (tx (a + 1)) (rS tx r00 (a + 1)) = (1, up (up (rS tx r00 (a + 1)) 2 (nI C)) 0 3) := fun hp hb => by
    obtain ⟨C, c1, c2, c3, c4, c5⟩ := dg_in (a := 48) (b := 50) (by omega) (by omega) (by omega) hb
    refine ⟨C, by omega, c1, ?_⟩
    rw [rT2 hA2.2.2, if_neg (by rw [c4]; exact nbad (k := 2) (by omega) (by omega)), c4]
  have e4 : pr4 tx L (p, false) = sg tx L 97 97 (sg tx L 48 50 (a + 1, false)) := by unfold pr4; rw [e2]
  rcases sg_step (lo := 48) (hi := 50) hA2 (by omega) (by omega) (by omega) (by decide) (fun hp hb => by obtain ⟨C, -, -, z⟩ := hT2 hp hb; rw [z]) (fun hp hb => by
      rw [rT2 hA2.2.2, if_pos]
      rcases dg_of (tx (a + 1)) with z | ⟨d, d9, z, zc⟩
      · rw [z]; exact Or.inl neg1
      · rw [z]
        refine Decidable.byContradiction fun w => ?_
        obtain ⟨k, k1, k2⟩ := sec3 w
        have : d = k := (nI_eq (by omega) (by omega)).mp k2
        exact dg_nb (a := 48) (b := 50) zc d9 (by omega) (by omega) (by omega) hb) with he | ⟨hp3, hb3, hs3, hK3⟩
  · exact Or.inl (Er.part4 (by rw [e4, he.sgE]; exact he))
  obtain ⟨C, hC, htC, hT2⟩ := hT2 hp3 hb3
  have hS3 : rS tx r00 (a + 2) = up (up (rS tx r00 (a + 1)) 2 (nI C)) 0 3 := by show (rT (tx (a + 1)) (rS tx r00 (a + 1))).2 = _; rw [hT2]
  have hA3 : At tx L (a + 2) 3 := ⟨by omega, hK3, by rw [hS3, up_e]; rfl⟩
  have hsec : prS tx L (p, false) = nI C := by
    unfold prS
    rw [e2]
    dsimp only
    rw [pC_lt hp3, htC]
    exact (dg_in (a := 48) (b := 50) (by omega) (by omega) (by omega) (by rw [htC] at hb3; exact hb3)).choose_spec.2.2.2.2.trans (by
      have := (dg_in (a := 48) (b := 50) (by omega) (by omega) (by omega) (by rw [htC] at hb3; exact hb3)).choose_spec
      congr 1
      have h1 := (nI_eq (by omega) (by omega)).mp this.1
      omega)
  rw [hs3] at e4
  -- the a
  have hT3 : a + 2 < L → ¬ bad (tx (a + 2)) 97 97 → rT (tx (a + 2)) (rS tx r00 (a + 2)) = (1, up (rS tx r00 (a + 2)) 0 4) := fun hp hb => by
    obtain ⟨k, k1, k2, k3⟩ := rng (v := tx (a + 2)) (lo := 97) (hi := 97) (by omega) (by omega) hb
    have : k = 97 := by omega
    rw [rT3 hA3.2.2, if_pos (by rw [k3, this]; rfl)]
  rcases sg_step (lo := 97) (hi := 97) hA3 (by omega) (by omega) (by omega) (by decide) (fun hp hb => by rw [hT3 hp hb]) (fun hp hb => by
      have hne : ¬ tx (a + 2) = 97 := fun z => hb.elim (fun w => by rw [z] at w; exact absurd w (by decide)) (fun w => by rw [z] at w; exact absurd w (by decide))
      rw [rT3 hA3.2.2, if_neg hne]) with he | ⟨hp4, hb4, hs4, hK4⟩
  · exact Or.inl (Er.part4 (by rw [e4]; exact he))
  have hT3 := hT3 hp4 hb4
  have hS4 : rS tx r00 (a + 3) = up (rS tx r00 (a + 2)) 0 4 := by show (rT (tx (a + 2)) (rS tx r00 (a + 2))).2 = _; rw [hT3]
  have hA4 : At tx L (a + 3) 4 := ⟨by omega, hK4, by rw [hS4, up_e]; rfl⟩
  have e4 : pr4 tx L (p, false) = (a + 3, false) := e4.trans hs4
  -- tens
  have hT4 : a + 3 < L → ¬ bad (tx (a + 3)) 49 55 → ∃ T, 1 ≤ T ∧ T ≤ 7 ∧ tx (a + 3) = nI (48 + T) ∧ tx (a + 3) - 48 = nI T ∧ rT (tx (a + 3)) (rS tx r00 (a + 3)) = (1, up (up (rS tx r00 (a + 3)) 3 (nI T)) 0 5) := fun hp hb => by
    obtain ⟨T, c1, c2, c3, c4, c5⟩ := dg_in (a := 49) (b := 55) (by omega) (by omega) (by omega) hb
    refine ⟨T, by omega, by omega, c1, c5, ?_⟩
    rw [rT4 hA4.2.2, if_neg, c4]
    rw [c4]
    rintro (z | z)
    · rw [show (1 : Int32) = nI 1 from rfl, nI_ltI (by omega) (by omega)] at z; omega
    · rw [show (7 : Int32) = nI 7 from rfl, nI_ltI (by omega) (by omega)] at z; omega
  have e5 : pr5 tx L (p, false) = sg tx L 49 55 (a + 3, false) := by unfold pr5; rw [e4]
  rcases sg_step (lo := 49) (hi := 55) hA4 (by omega) (by omega) (by omega) (by decide) (fun hp hb => by obtain ⟨T, -, -, -, -, z⟩ := hT4 hp hb; rw [z]) (fun hp hb => by
      rw [rT4 hA4.2.2, if_pos]
      rcases dg_of (tx (a + 3)) with z | ⟨d, d9, z, zc⟩
      · rw [z]; exact Or.inl neg1'
      · rw [z]
        refine Decidable.byContradiction fun w => ?_
        obtain ⟨k, k1, k2, k3⟩ := rng (v := nI d) (lo := 1) (hi := 7) (by omega) (by omega) w
        have : d = k := (nI_eq (by omega) (by omega)).mp k3
        exact dg_nb (a := 49) (b := 55) zc d9 (by omega) (by omega) (by omega) hb) with he | ⟨hp5, hb5, hs5, hK5⟩
  · exact Or.inl (Er.part5 (by rw [e5]; exact he))
  obtain ⟨T, hT1', hT7, htT, hdT, hT4⟩ := hT4 hp5 hb5
  have hS5 : rS tx r00 (a + 4) = up (up (rS tx r00 (a + 3)) 3 (nI T)) 0 5 := by show (rT (tx (a + 3)) (rS tx r00 (a + 3))).2 = _; rw [hT4]
  have hA5 : At tx L (a + 4) 5 := ⟨by omega, hK5, by rw [hS5, up_e]; rfl⟩
  have hten : prT tx L (p, false) = nI T := by
    unfold prT
    rw [e4]
    dsimp only
    rw [pC_lt hp5, hdT]
  have e5 : pr5 tx L (p, false) = (a + 4, false) := e5.trans hs5
  have r53 : rS tx r00 (a + 4) 3 = nI T := by rw [hS5, up_n (by omega), up_e]
  -- ones
  have ht1 : (nI T = (1 : Int32)) ↔ T = 1 := nI_eq (b := 1) (by omega) (by omega)
  obtain ⟨lw, hlw1, hlw2, hlw3, hlw⟩ : ∃ lw : Nat, 48 ≤ lw ∧ lw ≤ 54 ∧ (∀ O, O ≤ 9 → (lw ≤ 48 + O ↔ 16 ≤ 10 * T + O)) ∧ (if prT tx L (p, false) = 1 then (54 : Int32) else 48) = nI lw := by
    rw [hten]
    by_cases h1 : T = 1
    · exact ⟨54, by omega, by omega, fun O hO => by omega, by rw [if_pos (ht1.mpr h1)]; rfl⟩
    · exact ⟨48, by omega, by omega, fun O hO => by omega, by rw [if_neg (fun z => h1 (ht1.mp z))]; rfl⟩
  have hT5 : a + 4 < L → ¬ bad (tx (a + 4)) (nI lw) 57 → ∃ O, O ≤ 9 ∧ tx (a + 4) - 48 = nI O ∧ tx (a + 4) ≠ 59 ∧ rT (tx (a + 4)) (rS tx r00 (a + 4)) = (1, up (up (rS tx r00 (a + 4)) 3 (nI (10 * T + O))) 0 6) := fun hp hb => by
    obtain ⟨O, c1, c2, c3, c4, c5⟩ := dg_in (a := lw) (b := 57) (by omega) (by omega) (by omega) hb
    refine ⟨O, by omega, c5, ne59 (a := lw) (b := 57) hb (by omega) (by omega) (by omega), ?_⟩
    have ey : 10 * rS tx r00 (a + 4) 3 + dg (tx (a + 4)) = nI (10 * T + O) := by rw [r53, c4, show (10 : Int32) = nI 10 from rfl, pk_mul, nI_add]
    rw [rT5 hA5.2.2, ey, if_neg]
    rintro (z | z)
    · rw [c4] at z; exact nI_lt0 (by omega) z
    · rw [show (16 : Int32) = nI 16 from rfl, nI_ltI (by omega) (by omega)] at z
      have := (hlw3 O (by omega)).mp c2
      omega
  have e6 : pr6 tx L (p, false) = sg tx L (nI lw) 57 (a + 4, false) := by unfold pr6; rw [e5, hlw]
  rcases sg_step (lo := nI lw) (hi := 57) hA5 (by omega) (by omega) (by omega) (by rw [show (0 : Int32) = nI 0 from rfl, nI_ltI (by omega) (by omega)]; omega) (fun hp hb => by obtain ⟨O, -, -, -, z⟩ := hT5 hp hb; rw [z]) (fun hp hb => by
      rw [rT5 hA5.2.2, if_pos]
      rcases dg_of (tx (a + 4)) with z | ⟨d, d9, z, zc⟩
      · rw [z]; exact Or.inl neg1
      · right
        rw [r53, z, show (10 : Int32) = nI 10 from rfl, pk_mul, nI_add, show (16 : Int32) = nI 16 from rfl, nI_ltI (by omega) (by omega)]
        rcases Nat.lt_or_ge (10 * T + d) 16 with w | w
        · exact w
        · exact absurd hb (dg_nb (a := lw) (b := 57) zc d9 ((hlw3 d d9).mpr w) (by omega) (by omega))) with he | ⟨hp6, hb6, hs6, hK6⟩
  · exact Or.inl (Er.part6 (by rw [e6]; exact he))
  obtain ⟨O, hO9, hdO, hO59, hT5⟩ := hT5 hp6 hb6
  have hS6 : rS tx r00 (a + 5) = up (up (rS tx r00 (a + 4)) 3 (nI (10 * T + O))) 0 6 := by show (rT (tx (a + 4)) (rS tx r00 (a + 4))).2 = _; rw [hT5]
  have hA6 : At tx L (a + 5) 6 := ⟨by omega, hK6, by rw [hS6, up_e]; rfl⟩
  have hone : prO tx L (p, false) = nI O := by
    unfold prO
    rw [e5]
    dsimp only
    rw [pC_lt hp6, hdO]
  have e6 : pr6 tx L (p, false) = (a + 5, false) := e6.trans hs6
  have g1 : rS tx r00 (a + 5) 1 = nI V := by rw [hS6, up_n (by omega), up_n (by omega), hS5, up_n (by omega), up_n (by omega), hS4, up_n (by omega), hS3, up_n (by omega), up_n (by omega), hS2, up_n (by omega)]; exact a4
  have g2 : rS tx r00 (a + 5) 2 = nI C := by rw [hS6, up_n (by omega), up_n (by omega), hS5, up_n (by omega), up_n (by omega), hS4, up_n (by omega), hS3, up_n (by omega), up_e]
  have g3 : rS tx r00 (a + 5) 3 = nI (10 * T + O) := by rw [hS6, up_n (by omega), up_e]
  have g4 : rS tx r00 (a + 5) 4 = 0 := by rw [hS6, up_n (by omega), up_n (by omega), hS5, up_n (by omega), up_n (by omega), hS4, up_n (by omega), hS3, up_n (by omega), up_n (by omega), hS2, up_n (by omega)]; exact a5
  have hP : prP tx L (p, false) = nI V := by unfold prP; rw [a2]
  have hAg : prA tx L (p, false) = 12 * nI (10 * T + O) := by
    unfold prA
    rw [hten, hone, show (10 : Int32) = nI 10 from rfl, pk_mul, nI_add]
  have n59 : ∀ i, p ≤ i → i < a + 5 → tx i ≠ 59 := fun i h1 h2 => by
    by_cases hi : i < a
    · exact a6 i h1 hi
    · have : i = a ∨ i = a + 1 ∨ i = a + 2 ∨ i = a + 3 ∨ i = a + 4 := by omega
      rcases this with rfl | rfl | rfl | rfl | rfl
      · exact ne59 (a := 115) (b := 115) hb2 (by omega) (by omega) (by omega)
      · exact ne59 (a := 48) (b := 50) hb3 (by omega) (by omega) (by omega)
      · exact ne59 (a := 97) (b := 97) hb4 (by omega) (by omega) (by omega)
      · exact ne59 (a := 49) (b := 55) hb5 (by omega) (by omega) (by omega)
      · exact hO59
  -- perhaps an amount
  by_cases hn : nx tx L 43 43 (a + 5, false)
  · have hp7 : a + 5 < L := hn.2.1
    have hb7 : ¬ bad (tx (a + 5)) 43 43 := hn.2.2
    obtain ⟨k, k1, k2, k3⟩ := rng (v := tx (a + 5)) (lo := 43) (hi := 43) (by omega) (by omega) hb7
    have k43 : k = 43 := by omega
    have hT6 : rT (tx (a + 5)) (rS tx r00 (a + 5)) = (1, up (rS tx r00 (a + 5)) 0 7) := by rw [rT6 hA6.2.2, if_pos (by rw [k3, k43]; rfl)]
    have hS7 : rS tx r00 (a + 6) = up (rS tx r00 (a + 5)) 0 7 := by show (rT (tx (a + 5)) (rS tx r00 (a + 5))).2 = _; rw [hT6]
    have hA7 : At tx L (a + 6) 7 := ⟨by omega, rK_s hA6.2.1 (by rw [hT6]), by rw [hS7, up_e]; rfl⟩
    have e7 : sg tx L 43 43 (a + 5, false) = (a + 6, false) := sg_ok hp7 hb7
    have hY : prY tx L (p, false) = (num tx L 5 (a + 6, false)).2 := by unfold prY; rw [e6, if_pos hn, e7]
    have hM : prM tx L (p, false) = (num tx L 5 (a + 6, false)).1 := by unfold prM; rw [e6, if_pos hn, e7]
    rcases num_am hA7 with he | ⟨e, V2, w1, w2, w3, w4, w5, w6, w7⟩
    · left; rw [hY]; exact he
    · right
      refine ⟨e, by rw [hY, w2], by omega, w3.1, w3.2.1, Or.inr w3.2.2, ?_, ?_, ?_, ?_, fun i h1 h2 => ?_, fun hl h59 => ?_⟩
      · rw [hP, w5 1 (by omega) (by omega), hS7, up_n (by omega), g1]
      · rw [hsec, w5 2 (by omega) (by omega), hS7, up_n (by omega), g2]
      · rw [hAg, w5 3 (by omega) (by omega), hS7, up_n (by omega), g3]
      · rw [hM, w2, w4]
      · by_cases hi : i < a + 5
        · exact n59 i h1 hi
        · by_cases hi5 : i = a + 5
          · rw [hi5, k3, k43]; decide
          · exact w6 i (by omega) h2
      · rw [rT8 w3.2.2, if_neg h59, if_pos]
        rcases w7 hl with z | z
        · exact Or.inl (by rw [dg_out z]; exact neg1)
        · exact Or.inr (by rw [w4]; exact z)
  · right
    refine ⟨a + 5, by unfold prY; rw [e6, if_neg hn], by omega, hA6.1, hA6.2.1, Or.inl hA6.2.2, ?_, ?_, ?_, ?_, n59, fun hl h59 => ?_⟩
    · rw [hP, g1]
    · rw [hsec, g2]
    · rw [hAg, g3]
    · rw [g4]; unfold prM; rw [e6, if_neg hn]
    · rw [rT6 hA6.2.2, if_neg, if_neg h59]
      intro z
      exact hn ⟨rfl, hl, by rw [z]; exact fun w => w.elim (fun w => absurd w (by decide)) (fun w => absurd w (by decide))⟩
end PR3
