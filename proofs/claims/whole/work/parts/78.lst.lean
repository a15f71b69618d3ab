/-! BOTH STATES, CALL BY CALL -/
def LST (G : xCtx) (μ : xMem) (o b Ln : Nat) (f : Nat → Int32) (c g n : Nat) (π : Nat → Nat) (t L : Nat) (tx : Nat → Int32) (S : Nat → ST) (x : ST) : Prop := CTX G μ ∧ (xKd μ b = 0 ∧ G.2 b = some (Ln, f)) ∧ CST μ o c g n π t S x ∧ CBF μ o L tx ∧ RST μ (o + 446) t L tx S x ∧ (xKd μ (o + 454) = 12 ∧ xLn μ (o + 454) = 1) ∧ xCc μ ≤ 1000 + c ∧ xCs μ ≤ 100000 + 6 * c
def LSt (G : xCtx) (μ : xMem) (o b Ln : Nat) (f : Nat → Int32) (c : Nat) : Prop := ∃ g n π t L tx S x, LST G μ o b Ln f c g n π t L tx S x
/-- a call through its wrapper, and the reference's -/
def STEP (G : xCtx) (μ : xMem) (o b Ln : Nat) (f : Nat → Int32) (c W R : Nat) (args : List Value) : Prop := ∃ μ1 μ2 k v, (∀ Q, Cn G W (.ref o :: (args ++ [.ref (o + 454)])) μ Q = Q (.inl (some (.int k))) μ1) ∧ (∀ Q, Cn G R (.ref (o + 446) :: args) μ1 Q = Q (.inl (some (.int v))) μ2) ∧ xI μ2 (o + 446) 0 = k ∧ (k = 0 → xJ μ2 (o + 454) 0 = v.toInt64) ∧ μ1.1 = μ.1 ∧ μ2.1 = μ.1 ∧ LSt G μ2 o b Ln f (c + 1)
def STEPL (G : xCtx) (μ : xMem) (o b Ln : Nat) (f : Nat → Int32) (c W R : Nat) (args : List Value) : Prop := ∃ μ1 μ2 k v, (∀ Q, Cn G W (.ref o :: (args ++ [.ref (o + 454)])) μ Q = Q (.inl (some (.int k))) μ1) ∧ (∀ Q, Cn G R (.ref (o + 446) :: args) μ1 Q = Q (.inl (some (.long v))) μ2) ∧ xI μ2 (o + 446) 0 = k ∧ (k = 0 → xJ μ2 (o + 454) 0 = v) ∧ μ1.1 = μ.1 ∧ μ2.1 = μ.1 ∧ LSt G μ2 o b Ln f (c + 1)
section LSS
variable {G : xCtx} {μ ν : xMem} {Q : xOut → xMem → Prop} {o b Ln c c' g n t L : Nat} {f : Nat → Int32} {π : Nat → Nat} {S : Nat → ST} {x : ST} {tx : Nat → Int32}
theorem CST.ex (h : CST μ o c g n π t S x) : CST (xex μ) o c g n π t S x := h
theorem CBF.ex (h : CBF μ o L tx) : CBF (xex μ) o L tx := h
theorem RST.ex {m : Nat} (h : RST μ m t L tx S x) : RST (xex μ) m t L tx S x := h
theorem CST.up (h : CST μ o c g n π t S x) (hc : c ≤ c') : CST μ o c' g n π t S x := by
  obtain ⟨a1, a2, a3, a4, a5, a6⟩ := h
  exact ⟨a1, a2, a3.up hc, a4, a5.up hc, a6⟩
theorem CTX.of (h : CTX G μ) (h1 : ν.1 = μ.1) : CTX G ν := by
  intro j hj
  obtain ⟨a, r⟩ := h j hj
  exact ⟨by unfold xKd at *; rw [h1]; exact a, r⟩
/-- all but the two states stay -/
theorem LST.mk (hX : CTX G μ) (hb : xKd μ b = 0 ∧ G.2 b = some (Ln, f)) (ho : xKd μ (o + 454) = 12 ∧ xLn μ (o + 454) = 1) (h1 : ν.1 = μ.1) (hcc : xCc ν ≤ 1000 + c) (hcs : xCs ν ≤ 100000 + 6 * c) (hC : CST ν o c g n π t S x) (hB : CBF ν o L tx) (hR : RST ν (o + 446) t L tx S x) : LSt G ν o b Ln f c := by
  refine ⟨g, n, π, t, L, tx, S, x, hX.of h1, ⟨?_, hb.2⟩, hC, hB, hR, ⟨?_, ?_⟩, hcc, hcs⟩
  · unfold xKd at *; rw [h1]; exact hb.1
  · unfold xKd at *; rw [h1]; exact ho.1
  · unfold xLn at *; rw [h1]; exact ho.2
/-- the class's state over changes of other cells -/
theorem CST.oth {P : Nat → Prop} (h : CST μ o c g n π t S x) (hF : FS μ ν P) (hp : ∀ q, o ≤ q → q < o + 446 → ¬ P q) : CST ν o c g n π t S x := h.fs hF (fun q q1 q2 => hp q q1 (by omega)) (hF.2.2 (o + 443) (hp _ (by omega) (by omega))).2.2
theorem CBF.oth {P : Nat → Prop} (h : CBF μ o L tx) (hF : FS μ ν P) (hp : ∀ q, o ≤ q → q < o + 446 → ¬ P q) : CBF ν o L tx := h.of (hF.2.2 (o + 443) (hp _ (by omega) (by omega))).1 (hF.2.2 (o + 444) (hp _ (by omega) (by omega))).1
theorem cnt_fs {P : Nat → Prop} (hF : FS μ ν P) : xCc ν = xCc μ ∧ xCs ν = xCs μ := by unfold xCc xCs; rw [hF.2.1]; exact ⟨rfl, rfl⟩
theorem FS_out {w : Int64} : FS μ (xsJ μ (o + 454) 0 w) (fun q => q = o + 454) := (FR.sJ (P := fun q => q = o + 454) rfl).fs
/-- a call that throws on the class's side -/
theorem fin_e (h : LST G μ o b Ln f c g n π t L tx S x) {μ1 μ2 : xMem} {t' L' : Nat} {tx' : Nat → Int32} {S' : Nat → ST} {x' : ST} {g' n' : Nat} {π' : Nat → Nat} (hF : FS μ μ1 (fun q => o ≤ q ∧ q < o + 446)) (hC : CST μ1 o (c + 1) g' n' π' t' S' x') (hB : CBF μ1 o L' tx') (hF2 : FS (xex μ1) μ2 (RP (o + 446))) (hR : RST μ2 (o + 446) t' L' tx' S' x') : (xex μ1).1 = μ.1 ∧ μ2.1 = μ.1 ∧ LSt G μ2 o b Ln f (c + 1) := by
  obtain ⟨hX, hb, -, -, -, ho, hcc, hcs⟩ := h
  have e1 : (xex μ1).1 = μ.1 := hF.1
  have e2 : μ2.1 = μ.1 := hF2.1.trans e1
  have cn := cnt_fs hF
  have cn2 := cnt_fs hF2
  have x1 : xCc (xex μ1) = xCc μ1 + 1 := rfl
  have x2 : xCs (xex μ1) = xCs μ1 + 6 := rfl
  exact ⟨e1, e2, LST.mk hX hb ho e2 (by omega) (by omega) (hC.ex.oth hF2 fun q q1 q2 => by unfold RP; omega) (hB.ex.oth hF2 fun q q1 q2 => by unfold RP; omega) hR⟩
/-- a call that answers -/
theorem fin_v (h : LST G μ o b Ln f c g n π t L tx S x) {μ1 μ2 : xMem} {t' L' : Nat} {tx' : Nat → Int32} {S' : Nat → ST} {x' : ST} {g' n' : Nat} {π' : Nat → Nat} {w : Int64} (hF : FS μ μ1 (fun q => o ≤ q ∧ q < o + 446)) (hC : CST μ1 o (c + 1) g' n' π' t' S' x') (hB : CBF μ1 o L' tx') (hF2 : FS (xsJ μ1 (o + 454) 0 w) μ2 (RP (o + 446))) (hR : RST μ2 (o + 446) t' L' tx' S' x') : (xsJ μ1 (o + 454) 0 w).1 = μ.1 ∧ μ2.1 = μ.1 ∧ xJ μ2 (o + 454) 0 = w ∧ LSt G μ2 o b Ln f (c + 1) := by
  obtain ⟨hX, hb, -, -, -, ho, hcc, hcs⟩ := h
  have e1 : (xsJ μ1 (o + 454) 0 w).1 = μ.1 := hF.1
  have e2 : μ2.1 = μ.1 := hF2.1.trans e1
  have cn := cnt_fs hF
  have cn2 := cnt_fs hF2
  have x1 : xCc (xsJ μ1 (o + 454) 0 w) = xCc μ1 := rfl
  have x2 : xCs (xsJ μ1 (o + 454) 0 w) = xCs μ1 := rfl
  have hJ : xJ μ2 (o + 454) 0 = w := by rw [(hF2.2.2 (o + 454) (by unfold RP; omega)).2.1]; exact sJ_e
  exact ⟨e1, e2, hJ, LST.mk hX hb ho e2 (by omega) (by omega) ((hC.oth FS_out fun q q1 q2 => by omega).oth hF2 fun q q1 q2 => by unfold RP; omega) ((hB.oth FS_out fun q q1 q2 => by omega).oth hF2 fun q q1 q2 => by unfold RP; omega) hR⟩
theorem k_out (h : LST G μ o b Ln f c g n π t L tx S x) {μ1 : xMem} (h1 : μ1.1 = μ.1) : xKd μ1 (o + 454) = 12 ∧ xLn μ1 (o + 454) = 1 := by
  obtain ⟨-, -, -, -, -, ho, -, -⟩ := h
  unfold xKd xLn at *; rw [h1]; exact ho
/-- a call that changes the state -/
theorem step_chg (h : LST G μ o b Ln f c g n π t L tx S x) {W C R : Nat} {args : List Value} {kd : Int32 → Nat} {out : OUT} (hc : CRES G C args kd μ o c t S x out) (hr : ∀ μ', RST μ' (o + 446) t L tx S x → RRES G R args μ' (o + 446) t L tx S x out) (he : ∀ e, out = .inl e → ¬ e = 0 ∧ ∀ μ1, (∀ Q, Cn G C (.ref o :: args) μ Q = Q (.inr (kd e)) μ1) → ∀ Q, Cn G W (.ref o :: (args ++ [.ref (o + 454)])) μ Q = Q (.inl (some (.int e))) μ1) (hv : ∀ v μ1, (∀ Q, Cn G C (.ref o :: args) μ Q = Q (.inl (some (.int v))) μ1) → xKd μ1 (o + 454) = 12 → xLn μ1 (o + 454) = 1 → ∀ Q, Cn G W (.ref o :: (args ++ [.ref (o + 454)])) μ Q = Q (.inl (some (.int 0))) (xsJ μ1 (o + 454) 0 v.toInt64)) : STEP G μ o b Ln f c W R args := by
  have h0 := h
  obtain ⟨hX, hb, hC, hB, hR, ho, hcc, hcs⟩ := h
  cases out with
  | inl e =>
    obtain ⟨e0, he⟩ := he e rfl
    obtain ⟨μ2, r1, r2, r3, r4⟩ := hr (xex μ) hR.ex
    obtain ⟨f1, f2, f3⟩ := fin_e h0 FS.rf (hC.up (Nat.le_succ c)) hB r4 r2
    exact ⟨xex μ, μ2, e, 0, he _ hc, r1, r3, fun z => absurd z e0, f1, f2, f3⟩
  | inr v =>
    obtain ⟨μ1, g', n', π', c1, c2, c3⟩ := hc
    have c3' : FS μ μ1 (fun q => o ≤ q ∧ q < o + 446) := c3.mono fun q hq => ⟨hq.1, by omega⟩
    obtain ⟨k1, k2⟩ := k_out h0 (μ1 := μ1) c3.1
    have hB1 : CBF μ1 o L tx := hB.of (c3.2.2 (o + 443) (by omega)).1 (c3.2.2 (o + 444) (by omega)).1
    have hR1 : RST (xsJ μ1 (o + 454) 0 v.1.toInt64) (o + 446) t L tx S x := (hR.fs c3 fun q q1 q2 => by omega).fs FS_out fun q q1 q2 => by omega
    obtain ⟨μ2, r1, r2, r3, r4⟩ := hr _ hR1
    obtain ⟨f1, f2, f3, f4⟩ := fin_v h0 c3' c2 hB1 r4 r2
    exact ⟨_, μ2, 0, v.1, hv v.1 μ1 c1 k1 k2, r1, r3, fun _ => f3, f1, f2, f4⟩
/-- a look that throws -/
theorem look_e (h : LST G μ o b Ln f c g n π t L tx S x) {W C R : Nat} {args : List Value} {E : Nat} {e : Int32} {r : Value} (hc : ∀ Q, Cn G C (.ref o :: args) μ Q = Q (.inr E) (xex μ)) (hr : ∀ μ', RST μ' (o + 446) t L tx S x → RLK G R args μ' (o + 446) t L tx S x e r) (he : (∀ Q, Cn G C (.ref o :: args) μ Q = Q (.inr E) (xex μ)) → ∀ Q, Cn G W (.ref o :: (args ++ [.ref (o + 454)])) μ Q = Q (.inl (some (.int e))) (xex μ)) (e0 : ¬ e = 0) : (∀ v : Int32, r = .int v → STEP G μ o b Ln f c W R args) ∧ ∀ v : Int64, r = .long v → STEPL G μ o b Ln f c W R args := by
  have h0 := h
  obtain ⟨hX, hb, hC, hB, hR, ho, hcc, hcs⟩ := h
  obtain ⟨μ2, r1, r2, r3, r4⟩ := hr (xex μ) hR.ex
  obtain ⟨f1, f2, f3⟩ := fin_e h0 FS.rf (hC.up (Nat.le_succ c)) hB r4 r2
  exact ⟨fun v hv => ⟨xex μ, μ2, e, v, he hc, by rw [← hv]; exact r1, r3, fun z => absurd z e0, f1, f2, f3⟩, fun v hv => ⟨xex μ, μ2, e, v, he hc, by rw [← hv]; exact r1, r3, fun z => absurd z e0, f1, f2, f3⟩⟩
/-- a look that answers -/
theorem look_v (h : LST G μ o b Ln f c g n π t L tx S x) {W C R : Nat} {args : List Value} {v : Int32} {μ1 : xMem} (hc : ∀ Q, Cn G C (.ref o :: args) μ Q = Q (.inl (some (.int v))) μ1) (hF : FS μ μ1 (fun q => o ≤ q ∧ q < o + 443)) (hC1 : CST μ1 o c g n π t S x) (hr : ∀ μ', RST μ' (o + 446) t L tx S x → RLK G R args μ' (o + 446) t L tx S x 0 (.int v)) (hv : ∀ v μ1, (∀ Q, Cn G C (.ref o :: args) μ Q = Q (.inl (some (.int v))) μ1) → xKd μ1 (o + 454) = 12 → xLn μ1 (o + 454) = 1 → ∀ Q, Cn G W (.ref o :: (args ++ [.ref (o + 454)])) μ Q = Q (.inl (some (.int 0))) (xsJ μ1 (o + 454) 0 v.toInt64)) : STEP G μ o b Ln f c W R args := by
  have h0 := h
  obtain ⟨hX, hb, hC, hB, hR, ho, hcc, hcs⟩ := h
  obtain ⟨k1, k2⟩ := k_out h0 (μ1 := μ1) hF.1
  have hB1 : CBF μ1 o L tx := hB.of (hF.2.2 (o + 443) (by omega)).1 (hF.2.2 (o + 444) (by omega)).1
  have hR1 : RST (xsJ μ1 (o + 454) 0 v.toInt64) (o + 446) t L tx S x := (hR.fs hF fun q q1 q2 => by omega).fs FS_out fun q q1 q2 => by omega
  obtain ⟨μ2, r1, r2, r3, r4⟩ := hr _ hR1
  obtain ⟨f1, f2, f3, f4⟩ := fin_v h0 (hF.mono fun q hq => ⟨hq.1, by omega⟩) (hC1.up (Nat.le_succ c)) hB1 r4 r2
  exact ⟨_, μ2, 0, v, hv v μ1 hc k1 k2, r1, r3, fun _ => f3, f1, f2, f4⟩
theorem look_l (h : LST G μ o b Ln f c g n π t L tx S x) {W C R : Nat} {args : List Value} {v : Int64} {μ1 : xMem} (hc : ∀ Q, Cn G C (.ref o :: args) μ Q = Q (.inl (some (.long v))) μ1) (hF : FS μ μ1 (fun q => o ≤ q ∧ q < o + 443)) (hC1 : CST μ1 o c g n π t S x) (hr : ∀ μ', RST μ' (o + 446) t L tx S x → RLK G R args μ' (o + 446) t L tx S x 0 (.long v)) (hv : ∀ v μ1, (∀ Q, Cn G C (.ref o :: args) μ Q = Q (.inl (some (.long v))) μ1) → xKd μ1 (o + 454) = 12 → xLn μ1 (o + 454) = 1 → ∀ Q, Cn G W (.ref o :: (args ++ [.ref (o + 454)])) μ Q = Q (.inl (some (.int 0))) (xsJ μ1 (o + 454) 0 v)) : STEPL G μ o b Ln f c W R args := by
  have h0 := h
  obtain ⟨hX, hb, hC, hB, hR, ho, hcc, hcs⟩ := h
  obtain ⟨k1, k2⟩ := k_out h0 (μ1 := μ1) hF.1
  have hB1 : CBF μ1 o L tx := hB.of (hF.2.2 (o + 443) (by omega)).1 (hF.2.2 (o + 444) (by omega)).1
  have hR1 : RST (xsJ μ1 (o + 454) 0 v) (o + 446) t L tx S x := (hR.fs hF fun q q1 q2 => by omega).fs FS_out fun q q1 q2 => by omega
  obtain ⟨μ2, r1, r2, r3, r4⟩ := hr _ hR1
  obtain ⟨f1, f2, f3, f4⟩ := fin_v h0 (hF.mono fun q hq => ⟨hq.1, by omega⟩) (hC1.up (Nat.le_succ c)) hB1 r4 r2
  exact ⟨_, μ2, 0, v, hv v μ1 hc k1 k2, r1, r3, fun _ => f3, f1, f2, f4⟩
end LSS
