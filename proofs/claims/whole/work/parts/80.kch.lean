/-! EACH CALL: BOTH SIDES -/
section KCH
variable {G : xCtx} {μ : xMem} {Q : xOut → xMem → Prop} {o b Ln c g n t L : Nat} {f : Nat → Int32} {π : Nat → Nat} {S : Nat → ST} {x : ST} {tx : Nat → Int32} {a1 a2 a3 e : Int32}
theorem pSection_e (h : pSection a1 a2 a3 x = .inl e) : e = 1 ∨ e = 2 := by
  unfold pSection at h
  split at h
  · cases h; exact Or.inl rfl
  · skip
    split at h
    · cases h; exact Or.inr rfl
    · cases h
theorem K0 (h : LST G μ o b Ln f c g n π t L tx S x) : STEP G μ o b Ln f c 185 132 [.int a1, .int a2, .int a3] := by
  have hX := h.1
  have hC := h.2.2.1
  have hg := hC.2.2.2.1
  have hI := hC.2.2.2.2.1
  have ho := hC.1.1
  refine step_chg h (c68 hC a1 a2 a3) (fun μ1 hR => chg_of hR fun Q => s132 hR.1 hR.2.1 hR.2.2.2.1 a1 a2 a3) (fun e he => ?_) (fun v μ1 hq k12 n1 Q => wr185_v ho hq k12 n1)
  rcases pSection_e he with rfl | rfl
  · exact ⟨by decide, fun μ1 hq Q => by simp only [kd_1] at hq; exact wr185_0 ho hq⟩
  · exact ⟨by decide, fun μ1 hq Q => by simp only [kd_2] at hq; exact wr185_1 ho hq⟩
theorem pClose_e (h : pClose a1 a2 x = .inl e) : e = 1 := by
  unfold pClose at h
  split at h
  · cases h; exact rfl
  · cases h
theorem K1 (h : LST G μ o b Ln f c g n π t L tx S x) (hz : a2 = 0 ∨ a2 = 1) : STEP G μ o b Ln f c 186 133 [.int a1, .int a2] := by
  have hX := h.1
  have hC := h.2.2.1
  have hg := hC.2.2.2.1
  have hI := hC.2.2.2.2.1
  have ho := hC.1.1
  refine step_chg h (c69 hC a1 a2 hz) (fun μ1 hR => chg_of hR fun Q => s133 hR.1 hR.2.1 hR.2.2.2.1 a1 a2) (fun e he => ?_) (fun v μ1 hq k12 n1 Q => wr186_v ho hq k12 n1)
  rcases pClose_e he with rfl
  · exact ⟨by decide, fun μ1 hq Q => by simp only [kd_1] at hq; exact wr186_0 ho hq⟩
theorem pJoin_e (h : pJoin a1 a2 a3 x = .inl e) : e = 1 ∨ e = 2 ∨ e = 3 := by
  unfold pJoin at h
  split at h
  · cases h; exact Or.inl rfl
  · skip
    split at h
    · cases h; exact Or.inr (Or.inl rfl)
    · skip
      split at h
      · cases h; exact Or.inr (Or.inr rfl)
      · cases h
theorem K2 (h : LST G μ o b Ln f c g n π t L tx S x) : STEP G μ o b Ln f c 187 136 [.int a1, .int a2, .int a3] := by
  have hX := h.1
  have hC := h.2.2.1
  have hg := hC.2.2.2.1
  have hI := hC.2.2.2.2.1
  have ho := hC.1.1
  refine step_chg h (c70 hC a1 a2 a3) (fun μ1 hR => chg_of hR fun Q => s136 hR.1 hR.2.1 hR.2.2.2.1 hI.1 a1 a2 a3) (fun e he => ?_) (fun v μ1 hq k12 n1 Q => wr187_v ho hq k12 n1)
  rcases pJoin_e he with rfl | rfl | rfl
  · exact ⟨by decide, fun μ1 hq Q => by simp only [kd_1] at hq; exact wr187_0 ho hq⟩
  · exact ⟨by decide, fun μ1 hq Q => by simp only [kd_2] at hq; exact wr187_1 ho hq⟩
  · exact ⟨by decide, fun μ1 hq Q => by simp only [kd_3] at hq; exact wr187_2 ho hq⟩
theorem pLeave_e (h : pLeave a1 x = .inl e) : e = 1 := by
  unfold pLeave at h
  split at h
  · cases h; exact rfl
  · cases h
theorem K3 (h : LST G μ o b Ln f c g n π t L tx S x) : STEP G μ o b Ln f c 188 137 [.int a1] := by
  have hX := h.1
  have hC := h.2.2.1
  have hg := hC.2.2.2.1
  have hI := hC.2.2.2.2.1
  have ho := hC.1.1
  refine step_chg h (c71 hC a1) (fun μ1 hR => chg_of hR fun Q => s137 hR.1 hR.2.1 hR.2.2.2.1 hI.1 a1) (fun e he => ?_) (fun v μ1 hq k12 n1 Q => wr188_v ho hq k12 n1)
  rcases pLeave_e he with rfl
  · exact ⟨by decide, fun μ1 hq Q => by simp only [kd_1] at hq; exact wr188_0 ho hq⟩
theorem pPay_e (h : pPay a1 a2 x = .inl e) : e = 1 ∨ e = 2 ∨ e = 3 := by
  unfold pPay at h
  split at h
  · cases h; exact Or.inl rfl
  · skip
    split at h
    · cases h; exact Or.inr (Or.inl rfl)
    · skip
      split at h
      · cases h; exact Or.inr (Or.inr rfl)
      · cases h
theorem K4 (h : LST G μ o b Ln f c g n π t L tx S x) : STEP G μ o b Ln f c 189 139 [.int a1, .int a2] := by
  have hX := h.1
  have hC := h.2.2.1
  have hg := hC.2.2.2.1
  have hI := hC.2.2.2.2.1
  have ho := hC.1.1
  refine step_chg h (c72 hC a1 a2) (fun μ1 hR => chg_of hR fun Q => s139 hR.1 hR.2.1 hR.2.2.2.1 hI.1 a1 a2) (fun e he => ?_) (fun v μ1 hq k12 n1 Q => wr189_v ho hq k12 n1)
  rcases pPay_e he with rfl | rfl | rfl
  · exact ⟨by decide, fun μ1 hq Q => by simp only [kd_1] at hq; exact wr189_0 ho hq⟩
  · exact ⟨by decide, fun μ1 hq Q => by simp only [kd_2] at hq; exact wr189_1 ho hq⟩
  · exact ⟨by decide, fun μ1 hq Q => by simp only [kd_3] at hq; exact wr189_2 ho hq⟩
theorem pChange_e (h : pChange a1 a2 x = .inl e) : e = 1 ∨ e = 2 := by
  unfold pChange at h
  split at h
  · cases h; exact Or.inl rfl
  · skip
    split at h
    · cases h; exact Or.inr rfl
    · cases h
theorem K5 (h : LST G μ o b Ln f c g n π t L tx S x) : STEP G μ o b Ln f c 190 140 [.int a1, .int a2] := by
  have hX := h.1
  have hC := h.2.2.1
  have hg := hC.2.2.2.1
  have hI := hC.2.2.2.2.1
  have ho := hC.1.1
  refine step_chg h (c73 hC a1 a2) (fun μ1 hR => chg_of hR fun Q => s140 hR.1 hR.2.1 hR.2.2.2.1 hI.1 a1 a2) (fun e he => ?_) (fun v μ1 hq k12 n1 Q => wr190_v ho hq k12 n1)
  rcases pChange_e he with rfl | rfl
  · exact ⟨by decide, fun μ1 hq Q => by simp only [kd_1] at hq; exact wr190_0 ho hq⟩
  · exact ⟨by decide, fun μ1 hq Q => by simp only [kd_2] at hq; exact wr190_2 ho hq⟩
theorem pFall_e (h : pFall a1 a2 x = .inl e) : e = 1 := by
  unfold pFall at h
  split at h
  · cases h; exact rfl
  · cases h
theorem K6 (h : LST G μ o b Ln f c g n π t L tx S x) (hz : a2 = 0 ∨ a2 = 1) : STEP G μ o b Ln f c 191 141 [.int a1, .int a2] := by
  have hX := h.1
  have hC := h.2.2.1
  have hg := hC.2.2.2.1
  have hI := hC.2.2.2.2.1
  have ho := hC.1.1
  refine step_chg h (c74 hC a1 a2 hz) (fun μ1 hR => chg_of hR fun Q => s141 hR.1 hR.2.1 hR.2.2.2.1 hI.1 a1 a2) (fun e he => ?_) (fun v μ1 hq k12 n1 Q => wr191_v ho hq k12 n1)
  rcases pFall_e he with rfl
  · exact ⟨by decide, fun μ1 hq Q => by simp only [kd_1] at hq; exact wr191_0 ho hq⟩
theorem pLate_e (h : pLate a1 a2 x = .inl e) : e = 1 ∨ e = 2 ∨ e = 3 := by
  unfold pLate at h
  split at h
  · cases h; exact Or.inl rfl
  · skip
    split at h
    · cases h; exact Or.inr (Or.inl rfl)
    · skip
      split at h
      · cases h; exact Or.inr (Or.inr rfl)
      · cases h
theorem K7 (h : LST G μ o b Ln f c g n π t L tx S x) : STEP G μ o b Ln f c 192 142 [.int a1, .int a2] := by
  have hX := h.1
  have hC := h.2.2.1
  have hg := hC.2.2.2.1
  have hI := hC.2.2.2.2.1
  have ho := hC.1.1
  refine step_chg h (c75 hC a1 a2) (fun μ1 hR => chg_of hR fun Q => s142 hR.1 hR.2.1 hR.2.2.2.1 hI (by omega) a1 a2) (fun e he => ?_) (fun v μ1 hq k12 n1 Q => wr192_v ho hq k12 n1)
  rcases pLate_e he with rfl | rfl | rfl
  · exact ⟨by decide, fun μ1 hq Q => by simp only [kd_1] at hq; exact wr192_0 ho hq⟩
  · exact ⟨by decide, fun μ1 hq Q => by simp only [kd_2] at hq; exact wr192_1 ho hq⟩
  · exact ⟨by decide, fun μ1 hq Q => by simp only [kd_3] at hq; exact wr192_2 ho hq⟩
theorem pTran_e (h : pTran a1 a2 x = .inl e) : e = 1 ∨ e = 2 ∨ e = 3 := by
  unfold pTran at h
  split at h
  · cases h; exact Or.inl rfl
  · skip
    split at h
    · cases h; exact Or.inr (Or.inl rfl)
    · skip
      split at h
      · cases h; exact Or.inr (Or.inr rfl)
      · cases h
theorem K8 (h : LST G μ o b Ln f c g n π t L tx S x) : STEP G μ o b Ln f c 193 145 [.int a1, .int a2] := by
  have hX := h.1
  have hC := h.2.2.1
  have hg := hC.2.2.2.1
  have hI := hC.2.2.2.2.1
  have ho := hC.1.1
  refine step_chg h (c76 hC a1 a2) (fun μ1 hR => chg_of hR fun Q => s145 hR.1 hR.2.1 hR.2.2.2.1 hI (by omega) a1 a2) (fun e he => ?_) (fun v μ1 hq k12 n1 Q => wr193_v ho hq k12 n1)
  rcases pTran_e he with rfl | rfl | rfl
  · exact ⟨by decide, fun μ1 hq Q => by simp only [kd_1] at hq; exact wr193_0 ho hq⟩
  · exact ⟨by decide, fun μ1 hq Q => by simp only [kd_2] at hq; exact wr193_1 ho hq⟩
  · exact ⟨by decide, fun μ1 hq Q => by simp only [kd_3] at hq; exact wr193_2 ho hq⟩
theorem pRet_e (h : pRet a1 x = .inl e) : e = 1 ∨ e = 2 := by
  unfold pRet at h
  split at h
  · cases h; exact Or.inl rfl
  · skip
    split at h
    · cases h; exact Or.inr rfl
    · cases h
theorem K9 (h : LST G μ o b Ln f c g n π t L tx S x) : STEP G μ o b Ln f c 194 146 [.int a1] := by
  have hX := h.1
  have hC := h.2.2.1
  have hg := hC.2.2.2.1
  have hI := hC.2.2.2.2.1
  have ho := hC.1.1
  refine step_chg h (c77 hC a1) (fun μ1 hR => chg_of hR fun Q => s146 hR.1 hR.2.1 hR.2.2.2.1 hI.1 a1) (fun e he => ?_) (fun v μ1 hq k12 n1 Q => wr194_v ho hq k12 n1)
  rcases pRet_e he with rfl | rfl
  · exact ⟨by decide, fun μ1 hq Q => by simp only [kd_1] at hq; exact wr194_0 ho hq⟩
  · exact ⟨by decide, fun μ1 hq Q => by simp only [kd_2] at hq; exact wr194_2 ho hq⟩
theorem pSet_e (h : pSet a1 a2 x = .inl e) : e = 1 ∨ e = 2 := by
  unfold pSet at h
  split at h
  · cases h; exact Or.inl rfl
  · skip
    split at h
    · cases h; exact Or.inr rfl
    · cases h
theorem K10 (h : LST G μ o b Ln f c g n π t L tx S x) : STEP G μ o b Ln f c 195 147 [.int a1, .int a2] := by
  have hX := h.1
  have hC := h.2.2.1
  have hg := hC.2.2.2.1
  have hI := hC.2.2.2.2.1
  have ho := hC.1.1
  refine step_chg h (c78 hX hC a1 a2) (fun μ1 hR => chg_of hR fun Q => s147 hR.1 hR.2.1 hR.2.2.2.1 a1 a2) (fun e he => ?_) (fun v μ1 hq k12 n1 Q => wr195_v ho hq k12 n1)
  rcases pSet_e he with rfl | rfl
  · exact ⟨by decide, fun μ1 hq Q => by simp only [kd_1] at hq; exact wr195_0 ho hq⟩
  · exact ⟨by decide, fun μ1 hq Q => by simp only [kd_2] at hq; exact wr195_1 ho hq⟩
theorem pPass_e (h : pPass a1 x = .inl e) : e = 1 ∨ e = 2 := by
  unfold pPass at h
  split at h
  · cases h; exact Or.inl rfl
  · skip
    split at h
    · cases h; exact Or.inr rfl
    · cases h
theorem K11 (h : LST G μ o b Ln f c g n π t L tx S x) : STEP G μ o b Ln f c 196 149 [.int a1] := by
  have hX := h.1
  have hC := h.2.2.1
  have hg := hC.2.2.2.1
  have hI := hC.2.2.2.2.1
  have ho := hC.1.1
  refine step_chg h (c79 hC a1) (fun μ1 hR => chg_of hR fun Q => s149 hR.1 hR.2.1 hR.2.2.2.1 hI hg a1) (fun e he => ?_) (fun v μ1 hq k12 n1 Q => wr196_v ho hq k12 n1)
  rcases pPass_e he with rfl | rfl
  · exact ⟨by decide, fun μ1 hq Q => by simp only [kd_1] at hq; exact wr196_1 ho hq⟩
  · exact ⟨by decide, fun μ1 hq Q => by simp only [kd_2] at hq; exact wr196_2 ho hq⟩
theorem K17 (h : LST G μ o b Ln f c g n π t L tx S x) : STEP G μ o b Ln f c 200 162 [.int a1, .int a2] := by
  have hC := h.2.2.1
  have hg := hC.2.2.2.1
  have hI := hC.2.2.2.2.1
  have ho := hC.1.1
  have hh : g - (g - 60) < 62 := by omega
  by_cases h1 : bad a1 0 2
  · exact (look_e h (fun Q => (c85 (G := G) (Q := Q) hC a1 a2).trans (if_pos h1)) (fun μ1 hR => look_of hR fun Q => (s162 (G := G) (Q := Q) hR.1 hh hI.1 hI.2.2 a1 a2).trans (if_pos h1)) (fun hq Q => wr200_0 ho hq) (by decide)).1 0 rfl
  · skip
    by_cases h2 : bad a2 0 5
    · exact (look_e h (fun Q => (c85 (G := G) (Q := Q) hC a1 a2).trans ((if_neg h1).trans (if_pos h2))) (fun μ1 hR => look_of hR fun Q => (s162 (G := G) (Q := Q) hR.1 hh hI.1 hI.2.2 a1 a2).trans ((if_neg h1).trans (if_pos h2))) (fun hq Q => wr200_1 ho hq) (by decide)).1 0 rfl
    · skip
      exact look_v h (fun Q => (c85 (G := G) (Q := Q) hC a1 a2).trans ((if_neg h1).trans (if_neg h2))) FS.rf hC (fun μ1 hR => look_of hR fun Q => (s162 (G := G) (Q := Q) hR.1 hh hI.1 hI.2.2 a1 a2).trans ((if_neg h1).trans (if_neg h2))) (fun v μ1 hq k12 n1 Q => wr200_v ho hq k12 n1)
theorem K18 (h : LST G μ o b Ln f c g n π t L tx S x) : STEP G μ o b Ln f c 201 165 [.int a1, .int a2] := by
  have hC := h.2.2.1
  have hg := hC.2.2.2.1
  have hI := hC.2.2.2.2.1
  have ho := hC.1.1
  have hh : g - (g - 60) < 62 := by omega
  by_cases h1 : a1 < 0 ∨ bad a2 0 11
  · exact (look_e h (fun Q => (c86 (G := G) (Q := Q) hC a1 a2).trans (if_pos h1)) (fun μ1 hR => look_of hR fun Q => (s165 (G := G) (Q := Q) hR.1 hh hI.1 hI.2.2 a1 a2).trans (if_pos h1)) (fun hq Q => wr201_1 ho hq) (by decide)).1 0 rfl
  · skip
    by_cases h2 : x.1 2 ≤ a1
    · exact look_v h (fun Q => (c86 (G := G) (Q := Q) hC a1 a2).trans ((if_neg h1).trans (if_pos h2))) FS.rf hC (fun μ1 hR => look_of hR fun Q => (s165 (G := G) (Q := Q) hR.1 hh hI.1 hI.2.2 a1 a2).trans ((if_neg h1).trans (if_pos h2))) (fun v μ1 hq k12 n1 Q => wr201_v ho hq k12 n1)
    · skip
      exact look_v h (fun Q => (c86 (G := G) (Q := Q) hC a1 a2).trans ((if_neg h1).trans (if_neg h2))) FS.rf hC (fun μ1 hR => look_of hR fun Q => (s165 (G := G) (Q := Q) hR.1 hh hI.1 hI.2.2 a1 a2).trans ((if_neg h1).trans (if_neg h2))) (fun v μ1 hq k12 n1 Q => wr201_v ho hq k12 n1)
theorem K19 (h : LST G μ o b Ln f c g n π t L tx S x) : STEP G μ o b Ln f c 202 167 [.int a1, .int a2, .int a3] := by
  have hC := h.2.2.1
  have hg := hC.2.2.2.1
  have hI := hC.2.2.2.2.1
  have ho := hC.1.1
  have hh : g - (g - 60) < 62 := by omega
  by_cases h1 : pFind x.1 a1 = -1
  · exact (look_e h (fun Q => (c87 (G := G) (Q := Q) hC a1 a2 a3).trans (if_pos h1)) (fun μ1 hR => look_of hR fun Q => (s167 (G := G) (Q := Q) hR.1 hh hI.1 hI.2.2 a1 a2 a3).trans (if_pos h1)) (fun hq Q => wr202_0 ho hq) (by decide)).1 0 rfl
  · skip
    by_cases h2 : a2 < 0 ∨ bad a3 0 3
    · exact (look_e h (fun Q => (c87 (G := G) (Q := Q) hC a1 a2 a3).trans ((if_neg h1).trans (if_pos h2))) (fun μ1 hR => look_of hR fun Q => (s167 (G := G) (Q := Q) hR.1 hh hI.1 hI.2.2 a1 a2 a3).trans ((if_neg h1).trans (if_pos h2))) (fun hq Q => wr202_1 ho hq) (by decide)).1 0 rfl
    · skip
      by_cases h3 : x.1 (19 + 75 * (pFind x.1 a1).toNatClampNeg + 10) ≤ a2
      · exact look_v h (fun Q => (c87 (G := G) (Q := Q) hC a1 a2 a3).trans ((if_neg h1).trans ((if_neg h2).trans (if_pos h3)))) FS.rf hC (fun μ1 hR => look_of hR fun Q => (s167 (G := G) (Q := Q) hR.1 hh hI.1 hI.2.2 a1 a2 a3).trans ((if_neg h1).trans ((if_neg h2).trans (if_pos h3)))) (fun v μ1 hq k12 n1 Q => wr202_v ho hq k12 n1)
      · skip
        exact look_v h (fun Q => (c87 (G := G) (Q := Q) hC a1 a2 a3).trans ((if_neg h1).trans ((if_neg h2).trans (if_neg h3)))) FS.rf hC (fun μ1 hR => look_of hR fun Q => (s167 (G := G) (Q := Q) hR.1 hh hI.1 hI.2.2 a1 a2 a3).trans ((if_neg h1).trans ((if_neg h2).trans (if_neg h3)))) (fun v μ1 hq k12 n1 Q => wr202_v ho hq k12 n1)
theorem K20 (h : LST G μ o b Ln f c g n π t L tx S x) : STEP G μ o b Ln f c 203 169 [.int a1] := by
  have hC := h.2.2.1
  have hg := hC.2.2.2.1
  have hI := hC.2.2.2.2.1
  have ho := hC.1.1
  have hh : g - (g - 60) < 62 := by omega
  by_cases h1 : bad a1 0 7
  · exact (look_e h (fun Q => (c88 (G := G) (Q := Q) hC a1).trans (if_pos h1)) (fun μ1 hR => look_of hR fun Q => (s169 (G := G) (Q := Q) hR.1 hI.1.2.1 hI.1.2.2.1 hR.2.2.2.1 a1).trans (if_pos h1)) (fun hq Q => wr203_1 ho hq) (by decide)).1 0 rfl
  · skip
    exact look_v h (fun Q => (c88 (G := G) (Q := Q) hC a1).trans (if_neg h1)) FS.rf hC (fun μ1 hR => look_of hR fun Q => (s169 (G := G) (Q := Q) hR.1 hI.1.2.1 hI.1.2.2.1 hR.2.2.2.1 a1).trans (if_neg h1)) (fun v μ1 hq k12 n1 Q => wr203_v ho hq k12 n1)
theorem K21 (h : LST G μ o b Ln f c g n π t L tx S x) : STEPL G μ o b Ln f c 204 170 [.int a1] := by
  have hC := h.2.2.1
  have hg := hC.2.2.2.1
  have hI := hC.2.2.2.2.1
  have ho := hC.1.1
  have hh : g - (g - 60) < 62 := by omega
  by_cases h1 : bad a1 0 5
  · exact (look_e h (fun Q => (c89 (G := G) (Q := Q) hC a1).trans (if_pos h1)) (fun μ1 hR => look_of hR fun Q => (s170 (G := G) (Q := Q) hR.1 a1).trans (if_pos h1)) (fun hq Q => wr204_1 ho hq) (by decide)).2 0 rfl
  · skip
    exact look_l h (fun Q => (c89 (G := G) (Q := Q) hC a1).trans (if_neg h1)) FS.rf hC (fun μ1 hR => look_of hR fun Q => (s170 (G := G) (Q := Q) hR.1 a1).trans (if_neg h1)) (fun v μ1 hq k12 n1 Q => wr204_v ho hq k12 n1)
theorem K22 (h : LST G μ o b Ln f c g n π t L tx S x) : STEP G μ o b Ln f c 205 171 [.int a1] := by
  have hC := h.2.2.1
  have hg := hC.2.2.2.1
  have hI := hC.2.2.2.2.1
  have ho := hC.1.1
  have hh : g - (g - 60) < 62 := by omega
  by_cases h1 : bad a1 0 3
  · exact (look_e h (fun Q => (c90 (G := G) (Q := Q) hC a1).trans (if_pos h1)) (fun μ1 hR => look_of hR fun Q => (s171 (G := G) (Q := Q) hR.1 a1).trans (if_pos h1)) (fun hq Q => wr205_0 ho hq) (by decide)).1 0 rfl
  · skip
    exact look_v h (fun Q => (c90 (G := G) (Q := Q) hC a1).trans (if_neg h1)) FS.rf hC (fun μ1 hR => look_of hR fun Q => (s171 (G := G) (Q := Q) hR.1 a1).trans (if_neg h1)) (fun v μ1 hq k12 n1 Q => wr205_v ho hq k12 n1)
theorem K24 (h : LST G μ o b Ln f c g n π t L tx S x) : STEP G μ o b Ln f c 207 175 [.int a1, .int a2] := by
  have hC := h.2.2.1
  have hg := hC.2.2.2.1
  have hI := hC.2.2.2.2.1
  have ho := hC.1.1
  have hh : g - (g - 60) < 62 := by omega
  by_cases h1 : pFind x.1 a1 = -1
  · exact (look_e h (fun Q => (c92 (G := G) (Q := Q) hC a1 a2).trans (if_pos h1)) (fun μ1 hR => look_of hR fun Q => (s175 (G := G) (Q := Q) hR.1 hI.1 a1 a2).trans (if_pos h1)) (fun hq Q => wr207_0 ho hq) (by decide)).1 0 rfl
  · skip
    by_cases h2 : bad a2 0 240
    · exact (look_e h (fun Q => (c92 (G := G) (Q := Q) hC a1 a2).trans ((if_neg h1).trans (if_pos h2))) (fun μ1 hR => look_of hR fun Q => (s175 (G := G) (Q := Q) hR.1 hI.1 a1 a2).trans ((if_neg h1).trans (if_pos h2))) (fun hq Q => wr207_1 ho hq) (by decide)).1 0 rfl
    · skip
      exact look_v h (fun Q => (c92 (G := G) (Q := Q) hC a1 a2).trans ((if_neg h1).trans (if_neg h2))) FS.rf hC (fun μ1 hR => look_of hR fun Q => (s175 (G := G) (Q := Q) hR.1 hI.1 a1 a2).trans ((if_neg h1).trans (if_neg h2))) (fun v μ1 hq k12 n1 Q => wr207_v ho hq k12 n1)
theorem K25 (h : LST G μ o b Ln f c g n π t L tx S x) : STEP G μ o b Ln f c 208 177 [.int a1] := by
  have hC := h.2.2.1
  have hg := hC.2.2.2.1
  have hI := hC.2.2.2.2.1
  have ho := hC.1.1
  have hh : g - (g - 60) < 62 := by omega
  by_cases h1 : pFind x.1 a1 = -1
  · exact (look_e h (fun Q => (c93 (G := G) (Q := Q) hC a1).trans (if_pos h1)) (fun μ1 hR => look_of hR fun Q => (s177 (G := G) (Q := Q) hR.1 hI.1 a1).trans (if_pos h1)) (fun hq Q => wr208_0 ho hq) (by decide)).1 0 rfl
  · skip
    exact look_v h (fun Q => (c93 (G := G) (Q := Q) hC a1).trans (if_neg h1)) FS.rf hC (fun μ1 hR => look_of hR fun Q => (s177 (G := G) (Q := Q) hR.1 hI.1 a1).trans (if_neg h1)) (fun v μ1 hq k12 n1 Q => wr208_v ho hq k12 n1)
theorem K23 (h : LST G μ o b Ln f c g n π t L tx S x) : STEPL G μ o b Ln f c 206 173 [.int a1, .int a2] := by
  have hC := h.2.2.1
  have hg := hC.2.2.2.1
  have hI := hC.2.2.2.2.1
  have ho := hC.1.1
  by_cases h1 : bad a1 1 240 ∨ bad a2 0 3
  · exact (look_e h (fun Q => (c91 (G := G) (Q := Q) hC a1 a2).1 h1) (fun μ1 hR => look_of hR fun Q => (s173 (G := G) (Q := Q) hR.1 hI hg a1 a2).trans (if_pos h1)) (fun hq Q => wr206_1 ho hq) (by decide)).2 0 rfl
  · obtain ⟨μ1, e1, e2, e3⟩ := (c91 (G := G) (Q := fun _ _ => True) hC a1 a2).2 h1
    exact look_l h e1 e3 e2 (fun μ1 hR => look_as hR fun Q => (s173 (G := G) (Q := Q) hR.1 hI hg a1 a2).trans (if_neg h1)) (fun v μ1 hq k12 n1 Q => wr206_v ho hq k12 n1)
end KCH
