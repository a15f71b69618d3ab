/-! THE CASES OF THE LAW -/
theorem nI_p2 (a : Nat) : nI a + 2 = nI (a + 2) := nI_add a 2
theorem nI_p3 (a : Nat) : nI a + 3 = nI (a + 3) := nI_add a 3
/-- one call of the script: both go on alike -/
def LAW (G : xCtx) (μ : xMem) (o b Ln : Nat) (f : Nat → Int32) (c i pc : Nat) : Prop := ∃ μ2, LSt G μ2 o b Ln f (c + 1) ∧ ∀ Q l5 l6 l7 l8, ∃ l5' l6' l7' l8', Rn G 212 pc [some (.ref b), some (.ref o), some (.ref (o + 446)), some (.ref (o + 454)), some (.int (nI i)), l5, l6, l7, l8] [] μ Q = Rn G 212 1816 [some (.ref b), some (.ref o), some (.ref (o + 446)), some (.ref (o + 454)), some (.int (nI i)), l5', l6', l7', l8'] [] μ2 Q
section CAS
variable {G : xCtx} {μ : xMem} {Q : xOut → xMem → Prop} {o b Ln c i m : Nat} {f : Nat → Int32}
theorem s109 (hm : xKd μ m = 8) : Cn G 109 [.ref m] μ Q = Q (.inl (some (.int (xI μ m 0)))) μ := by
  show Rn G 109 0 [some (.ref m)] [] μ Q = _
  simp (disch := assumption) only [q109_0, q109_0N, q109_1, q109_4, xaf_s, xaf_v, va_rf_s, xix_n, nI_clamp, xk1_i, xk1_a, xk1_u, xk1_n, xk1_l, xk1_d, true_and, and_true, ↓reduceIte, Nat.reduceAdd, xtup]
theorem kd_eq {μ1 : xMem} {a k : Nat} (h : xKd μ a = k) (h1 : μ1.1 = μ.1) : xKd μ1 a = k := by unfold xKd at *; rw [h1]; exact h
theorem ln_eq {μ1 : xMem} {a k : Nat} (h : xLn μ a = k) (h1 : μ1.1 = μ.1) : xLn μ1 a = k := by unfold xLn at *; rw [h1]; exact h
theorem L0 (h : STEP G μ o b Ln f c 185 132 [.int (f (i + 1)), .int (f (i + 2)), .int (f (i + 3))]) (hb : xKd μ b = 0 ∧ G.2 b = some (Ln, f)) (hm : xKd μ (o + 446) = 8) (ho : xKd μ (o + 454) = 12 ∧ xLn μ (o + 454) = 1) (hi : i + 4 ≤ Ln) (hL : Ln ≤ 2048) : LAW G μ o b Ln f c i 168 := by
  obtain ⟨μ1, μ2, k, v, hw, hr, ht, hv, e1, e2, hLS⟩ := h
  obtain ⟨hb, hg⟩ := hb
  obtain ⟨k12, n12⟩ := ho
  have kb1 := kd_eq hb e1
  have km1 := kd_eq hm e1
  have km2 := kd_eq hm e2
  have ko2 := kd_eq k12 e2
  have no2 := ln_eq n12 e2
  have hw : ∀ Q, Cn G 185 [.ref o, .int (f (i + 1)), .int (f (i + 2)), .int (f (i + 3)), .ref (o + 454)] μ Q = Q (.inl (some (.int k))) μ1 := hw
  have hr : ∀ Q, Cn G 132 [.ref (o + 446), .int (f (i + 1)), .int (f (i + 2)), .int (f (i + 3))] μ1 Q = Q (.inl (some (.int v))) μ2 := hr
  refine ⟨μ2, hLS, fun Q l5 l6 l7 l8 => ?_⟩
  by_cases hk : k = 0
  · have hv := hv hk
    refine ⟨some (.int k), some (.int v), l7, l8, ?_⟩
    simp (disch := first | assumption | omega | decide) only [q212_168, q212_168N, q212_169, q212_169N, q212_170, q212_172, q212_173, q212_174, q212_174T, q212_175, q212_175N, q212_176, q212_178, q212_179, q212_180, q212_180T, q212_181, q212_181N, q212_182, q212_184, q212_185, q212_186, q212_186T, q212_187, q212_187N, q212_188, q212_191, q212_193, q212_193N, q212_194, q212_194N, q212_195, q212_197, q212_198, q212_199, q212_199T, q212_200, q212_200N, q212_201, q212_203, q212_204, q212_205, q212_205T, q212_206, q212_206N, q212_207, q212_209, q212_210, q212_211, q212_211T, q212_212, q212_215, q212_217, q212_217N, q212_218, q212_221, q212_223, q212_226, q212_227, q212_228, q212_230, q212_233, q212_233N, q212_234, q212_235, q212_236, q212_238, q212_239, q212_240, q212_243, q212_244, q212_245, hw, hr, s109, ht, hk, hv, no2, xl0, nc0, nI_1, nI_p2, nI_p3, cmp_0, eq_self, not_true_eq_false, not_false_eq_true, xaf_s, xaf_v, va_rf_s, xix_n, nI_clamp, xk1_i, xk1_a, xk1_u, xk1_n, xk1_l, xk1_d, true_and, and_true, ↓reduceIte, Nat.reduceAdd, xtup]
  · refine ⟨some (.int k), some (.int v), l7, l8, ?_⟩
    simp (disch := first | assumption | omega | decide) only [q212_168, q212_168N, q212_169, q212_169N, q212_170, q212_172, q212_173, q212_174, q212_174T, q212_175, q212_175N, q212_176, q212_178, q212_179, q212_180, q212_180T, q212_181, q212_181N, q212_182, q212_184, q212_185, q212_186, q212_186T, q212_187, q212_187N, q212_188, q212_191, q212_193, q212_193N, q212_194, q212_194N, q212_195, q212_197, q212_198, q212_199, q212_199T, q212_200, q212_200N, q212_201, q212_203, q212_204, q212_205, q212_205T, q212_206, q212_206N, q212_207, q212_209, q212_210, q212_211, q212_211T, q212_212, q212_215, q212_217, q212_217N, q212_218, q212_221, q212_223, q212_226, q212_227, q212_228, q212_230, q212_233, q212_233N, q212_234, q212_235, q212_236, q212_238, q212_239, q212_240, q212_243, q212_244, q212_245, hw, hr, s109, ht, hk, no2, xl0, nc0, nI_1, nI_p2, nI_p3, cmp_0, eq_self, not_true_eq_false, not_false_eq_true, xaf_s, xaf_v, va_rf_s, xix_n, nI_clamp, xk1_i, xk1_a, xk1_u, xk1_n, xk1_l, xk1_d, true_and, and_true, ↓reduceIte, Nat.reduceAdd, xtup]
theorem L1 (h : STEP G μ o b Ln f c 186 133 [.int (f (i + 1)), .int (if f (i + 2) = 0 then 0 else 1)]) (hb : xKd μ b = 0 ∧ G.2 b = some (Ln, f)) (hm : xKd μ (o + 446) = 8) (ho : xKd μ (o + 454) = 12 ∧ xLn μ (o + 454) = 1) (hi : i + 4 ≤ Ln) (hL : Ln ≤ 2048) : LAW G μ o b Ln f c i 248 := by
  obtain ⟨μ1, μ2, k, v, hw, hr, ht, hv, e1, e2, hLS⟩ := h
  obtain ⟨hb, hg⟩ := hb
  obtain ⟨k12, n12⟩ := ho
  have kb1 := kd_eq hb e1
  have km1 := kd_eq hm e1
  have km2 := kd_eq hm e2
  have ko2 := kd_eq k12 e2
  have no2 := ln_eq n12 e2
  have hw : ∀ Q, Cn G 186 [.ref o, .int (f (i + 1)), .int (if f (i + 2) = 0 then 0 else 1), .ref (o + 454)] μ Q = Q (.inl (some (.int k))) μ1 := hw
  have hr : ∀ Q, Cn G 133 [.ref (o + 446), .int (f (i + 1)), .int (if f (i + 2) = 0 then 0 else 1)] μ1 Q = Q (.inl (some (.int v))) μ2 := hr
  refine ⟨μ2, hLS, fun Q l5 l6 l7 l8 => ?_⟩
  by_cases hz : f (i + 2) = 0
  · simp only [if_pos hz] at hw hr
    by_cases hk : k = 0
    · have hv := hv hk
      refine ⟨some (.int k), some (.int v), l7, l8, ?_⟩
      simp (disch := first | assumption | omega | decide) only [q212_248, q212_248N, q212_249, q212_249N, q212_250, q212_252, q212_253, q212_254, q212_254T, q212_255, q212_255N, q212_256, q212_258, q212_259, q212_260, q212_260T, q212_261, q212_264, q212_265, q212_268, q212_269, q212_269N, q212_270, q212_273, q212_275, q212_275N, q212_276, q212_276N, q212_277, q212_279, q212_280, q212_281, q212_281T, q212_282, q212_282N, q212_283, q212_285, q212_286, q212_287, q212_287T, q212_288, q212_291, q212_292, q212_295, q212_296, q212_299, q212_301, q212_301N, q212_302, q212_305, q212_307, q212_310, q212_311, q212_312, q212_314, q212_317, q212_317N, q212_318, q212_319, q212_320, q212_322, q212_323, q212_324, q212_327, q212_328, q212_329, hw, hr, s109, ht, hk, hv, hz, no2, xl0, nc0, nI_1, nI_p2, nI_p3, cmp_0, eq_self, not_true_eq_false, not_false_eq_true, xaf_s, xaf_v, va_rf_s, xix_n, nI_clamp, xk1_i, xk1_a, xk1_u, xk1_n, xk1_l, xk1_d, true_and, and_true, ↓reduceIte, Nat.reduceAdd, xtup]
    · refine ⟨some (.int k), some (.int v), l7, l8, ?_⟩
      simp (disch := first | assumption | omega | decide) only [q212_248, q212_248N, q212_249, q212_249N, q212_250, q212_252, q212_253, q212_254, q212_254T, q212_255, q212_255N, q212_256, q212_258, q212_259, q212_260, q212_260T, q212_261, q212_264, q212_265, q212_268, q212_269, q212_269N, q212_270, q212_273, q212_275, q212_275N, q212_276, q212_276N, q212_277, q212_279, q212_280, q212_281, q212_281T, q212_282, q212_282N, q212_283, q212_285, q212_286, q212_287, q212_287T, q212_288, q212_291, q212_292, q212_295, q212_296, q212_299, q212_301, q212_301N, q212_302, q212_305, q212_307, q212_310, q212_311, q212_312, q212_314, q212_317, q212_317N, q212_318, q212_319, q212_320, q212_322, q212_323, q212_324, q212_327, q212_328, q212_329, hw, hr, s109, ht, hk, hz, no2, xl0, nc0, nI_1, nI_p2, nI_p3, cmp_0, eq_self, not_true_eq_false, not_false_eq_true, xaf_s, xaf_v, va_rf_s, xix_n, nI_clamp, xk1_i, xk1_a, xk1_u, xk1_n, xk1_l, xk1_d, true_and, and_true, ↓reduceIte, Nat.reduceAdd, xtup]
  · simp only [if_neg hz] at hw hr
    by_cases hk : k = 0
    · have hv := hv hk
      refine ⟨some (.int k), some (.int v), l7, l8, ?_⟩
      simp (disch := first | assumption | omega | decide) only [q212_248, q212_248N, q212_249, q212_249N, q212_250, q212_252, q212_253, q212_254, q212_254T, q212_255, q212_255N, q212_256, q212_258, q212_259, q212_260, q212_260T, q212_261, q212_264, q212_265, q212_268, q212_269, q212_269N, q212_270, q212_273, q212_275, q212_275N, q212_276, q212_276N, q212_277, q212_279, q212_280, q212_281, q212_281T, q212_282, q212_282N, q212_283, q212_285, q212_286, q212_287, q212_287T, q212_288, q212_291, q212_292, q212_295, q212_296, q212_299, q212_301, q212_301N, q212_302, q212_305, q212_307, q212_310, q212_311, q212_312, q212_314, q212_317, q212_317N, q212_318, q212_319, q212_320, q212_322, q212_323, q212_324, q212_327, q212_328, q212_329, hw, hr, s109, ht, hk, hv, hz, no2, xl0, nc0, nI_1, nI_p2, nI_p3, cmp_0, eq_self, not_true_eq_false, not_false_eq_true, xaf_s, xaf_v, va_rf_s, xix_n, nI_clamp, xk1_i, xk1_a, xk1_u, xk1_n, xk1_l, xk1_d, true_and, and_true, ↓reduceIte, Nat.reduceAdd, xtup]
    · refine ⟨some (.int k), some (.int v), l7, l8, ?_⟩
      simp (disch := first | assumption | omega | decide) only [q212_248, q212_248N, q212_249, q212_249N, q212_250, q212_252, q212_253, q212_254, q212_254T, q212_255, q212_255N, q212_256, q212_258, q212_259, q212_260, q212_260T, q212_261, q212_264, q212_265, q212_268, q212_269, q212_269N, q212_270, q212_273, q212_275, q212_275N, q212_276, q212_276N, q212_277, q212_279, q212_280, q212_281, q212_281T, q212_282, q212_282N, q212_283, q212_285, q212_286, q212_287, q212_287T, q212_288, q212_291, q212_292, q212_295, q212_296, q212_299, q212_301, q212_301N, q212_302, q212_305, q212_307, q212_310, q212_311, q212_312, q212_314, q212_317, q212_317N, q212_318, q212_319, q212_320, q212_322, q212_323, q212_324, q212_327, q212_328, q212_329, hw, hr, s109, ht, hk, hz, no2, xl0, nc0, nI_1, nI_p2, nI_p3, cmp_0, eq_self, not_true_eq_false, not_false_eq_true, xaf_s, xaf_v, va_rf_s, xix_n, nI_clamp, xk1_i, xk1_a, xk1_u, xk1_n, xk1_l, xk1_d, true_and, and_true, ↓reduceIte, Nat.reduceAdd, xtup]
theorem L2 (h : STEP G μ o b Ln f c 187 136 [.int (f (i + 1)), .int (f (i + 2)), .int (f (i + 3))]) (hb : xKd μ b = 0 ∧ G.2 b = some (Ln, f)) (hm : xKd μ (o + 446) = 8) (ho : xKd μ (o + 454) = 12 ∧ xLn μ (o + 454) = 1) (hi : i + 4 ≤ Ln) (hL : Ln ≤ 2048) : LAW G μ o b Ln f c i 332 := by
  obtain ⟨μ1, μ2, k, v, hw, hr, ht, hv, e1, e2, hLS⟩ := h
  obtain ⟨hb, hg⟩ := hb
  obtain ⟨k12, n12⟩ := ho
  have kb1 := kd_eq hb e1
  have km1 := kd_eq hm e1
  have km2 := kd_eq hm e2
  have ko2 := kd_eq k12 e2
  have no2 := ln_eq n12 e2
  have hw : ∀ Q, Cn G 187 [.ref o, .int (f (i + 1)), .int (f (i + 2)), .int (f (i + 3)), .ref (o + 454)] μ Q = Q (.inl (some (.int k))) μ1 := hw
  have hr : ∀ Q, Cn G 136 [.ref (o + 446), .int (f (i + 1)), .int (f (i + 2)), .int (f (i + 3))] μ1 Q = Q (.inl (some (.int v))) μ2 := hr
  refine ⟨μ2, hLS, fun Q l5 l6 l7 l8 => ?_⟩
  by_cases hk : k = 0
  · have hv := hv hk
    refine ⟨some (.int k), some (.int v), l7, l8, ?_⟩
    simp (disch := first | assumption | omega | decide) only [q212_332, q212_332N, q212_333, q212_333N, q212_334, q212_336, q212_337, q212_338, q212_338T, q212_339, q212_339N, q212_340, q212_342, q212_343, q212_344, q212_344T, q212_345, q212_345N, q212_346, q212_348, q212_349, q212_350, q212_350T, q212_351, q212_351N, q212_352, q212_355, q212_357, q212_357N, q212_358, q212_358N, q212_359, q212_361, q212_362, q212_363, q212_363T, q212_364, q212_364N, q212_365, q212_367, q212_368, q212_369, q212_369T, q212_370, q212_370N, q212_371, q212_373, q212_374, q212_375, q212_375T, q212_376, q212_379, q212_381, q212_381N, q212_382, q212_385, q212_387, q212_390, q212_391, q212_392, q212_394, q212_397, q212_397N, q212_398, q212_399, q212_400, q212_402, q212_403, q212_404, q212_407, q212_408, q212_409, hw, hr, s109, ht, hk, hv, no2, xl0, nc0, nI_1, nI_p2, nI_p3, cmp_0, eq_self, not_true_eq_false, not_false_eq_true, xaf_s, xaf_v, va_rf_s, xix_n, nI_clamp, xk1_i, xk1_a, xk1_u, xk1_n, xk1_l, xk1_d, true_and, and_true, ↓reduceIte, Nat.reduceAdd, xtup]
  · refine ⟨some (.int k), some (.int v), l7, l8, ?_⟩
    simp (disch := first | assumption | omega | decide) only [q212_332, q212_332N, q212_333, q212_333N, q212_334, q212_336, q212_337, q212_338, q212_338T, q212_339, q212_339N, q212_340, q212_342, q212_343, q212_344, q212_344T, q212_345, q212_345N, q212_346, q212_348, q212_349, q212_350, q212_350T, q212_351, q212_351N, q212_352, q212_355, q212_357, q212_357N, q212_358, q212_358N, q212_359, q212_361, q212_362, q212_363, q212_363T, q212_364, q212_364N, q212_365, q212_367, q212_368, q212_369, q212_369T, q212_370, q212_370N, q212_371, q212_373, q212_374, q212_375, q212_375T, q212_376, q212_379, q212_381, q212_381N, q212_382, q212_385, q212_387, q212_390, q212_391, q212_392, q212_394, q212_397, q212_397N, q212_398, q212_399, q212_400, q212_402, q212_403, q212_404, q212_407, q212_408, q212_409, hw, hr, s109, ht, hk, no2, xl0, nc0, nI_1, nI_p2, nI_p3, cmp_0, eq_self, not_true_eq_false, not_false_eq_true, xaf_s, xaf_v, va_rf_s, xix_n, nI_clamp, xk1_i, xk1_a, xk1_u, xk1_n, xk1_l, xk1_d, true_and, and_true, ↓reduceIte, Nat.reduceAdd, xtup]
theorem L3 (h : STEP G μ o b Ln f c 188 137 [.int (f (i + 1))]) (hb : xKd μ b = 0 ∧ G.2 b = some (Ln, f)) (hm : xKd μ (o + 446) = 8) (ho : xKd μ (o + 454) = 12 ∧ xLn μ (o + 454) = 1) (hi : i + 4 ≤ Ln) (hL : Ln ≤ 2048) : LAW G μ o b Ln f c i 412 := by
  obtain ⟨μ1, μ2, k, v, hw, hr, ht, hv, e1, e2, hLS⟩ := h
  obtain ⟨hb, hg⟩ := hb
  obtain ⟨k12, n12⟩ := ho
  have kb1 := kd_eq hb e1
  have km1 := kd_eq hm e1
  have km2 := kd_eq hm e2
  have ko2 := kd_eq k12 e2
  have no2 := ln_eq n12 e2
  have hw : ∀ Q, Cn G 188 [.ref o, .int (f (i + 1)), .ref (o + 454)] μ Q = Q (.inl (some (.int k))) μ1 := hw
  have hr : ∀ Q, Cn G 137 [.ref (o + 446), .int (f (i + 1))] μ1 Q = Q (.inl (some (.int v))) μ2 := hr
  refine ⟨μ2, hLS, fun Q l5 l6 l7 l8 => ?_⟩
  by_cases hk : k = 0
  · have hv := hv hk
    refine ⟨some (.int k), some (.int v), l7, l8, ?_⟩
    simp (disch := first | assumption | omega | decide) only [q212_412, q212_412N, q212_413, q212_413N, q212_414, q212_416, q212_417, q212_418, q212_418T, q212_419, q212_419N, q212_420, q212_423, q212_425, q212_425N, q212_426, q212_426N, q212_427, q212_429, q212_430, q212_431, q212_431T, q212_432, q212_435, q212_437, q212_437N, q212_438, q212_441, q212_443, q212_446, q212_447, q212_448, q212_450, q212_453, q212_453N, q212_454, q212_455, q212_456, q212_458, q212_459, q212_460, q212_463, q212_464, q212_465, hw, hr, s109, ht, hk, hv, no2, xl0, nc0, nI_1, nI_p2, nI_p3, cmp_0, eq_self, not_true_eq_false, not_false_eq_true, xaf_s, xaf_v, va_rf_s, xix_n, nI_clamp, xk1_i, xk1_a, xk1_u, xk1_n, xk1_l, xk1_d, true_and, and_true, ↓reduceIte, Nat.reduceAdd, xtup]
  · refine ⟨some (.int k), some (.int v), l7, l8, ?_⟩
    simp (disch := first | assumption | omega | decide) only [q212_412, q212_412N, q212_413, q212_413N, q212_414, q212_416, q212_417, q212_418, q212_418T, q212_419, q212_419N, q212_420, q212_423, q212_425, q212_425N, q212_426, q212_426N, q212_427, q212_429, q212_430, q212_431, q212_431T, q212_432, q212_435, q212_437, q212_437N, q212_438, q212_441, q212_443, q212_446, q212_447, q212_448, q212_450, q212_453, q212_453N, q212_454, q212_455, q212_456, q212_458, q212_459, q212_460, q212_463, q212_464, q212_465, hw, hr, s109, ht, hk, no2, xl0, nc0, nI_1, nI_p2, nI_p3, cmp_0, eq_self, not_true_eq_false, not_false_eq_true, xaf_s, xaf_v, va_rf_s, xix_n, nI_clamp, xk1_i, xk1_a, xk1_u, xk1_n, xk1_l, xk1_d, true_and, and_true, ↓reduceIte, Nat.reduceAdd, xtup]
theorem L4 (h : STEP G μ o b Ln f c 189 139 [.int (f (i + 1)), .int (f (i + 2))]) (hb : xKd μ b = 0 ∧ G.2 b = some (Ln, f)) (hm : xKd μ (o + 446) = 8) (ho : xKd μ (o + 454) = 12 ∧ xLn μ (o + 454) = 1) (hi : i + 4 ≤ Ln) (hL : Ln ≤ 2048) : LAW G μ o b Ln f c i 468 := by
  obtain ⟨μ1, μ2, k, v, hw, hr, ht, hv, e1, e2, hLS⟩ := h
  obtain ⟨hb, hg⟩ := hb
  obtain ⟨k12, n12⟩ := ho
  have kb1 := kd_eq hb e1
  have km1 := kd_eq hm e1
  have km2 := kd_eq hm e2
  have ko2 := kd_eq k12 e2
  have no2 := ln_eq n12 e2
  have hw : ∀ Q, Cn G 189 [.ref o, .int (f (i + 1)), .int (f (i + 2)), .ref (o + 454)] μ Q = Q (.inl (some (.int k))) μ1 := hw
  have hr : ∀ Q, Cn G 139 [.ref (o + 446), .int (f (i + 1)), .int (f (i + 2))] μ1 Q = Q (.inl (some (.int v))) μ2 := hr
  refine ⟨μ2, hLS, fun Q l5 l6 l7 l8 => ?_⟩
  by_cases hk : k = 0
  · have hv := hv hk
    refine ⟨some (.int k), some (.int v), l7, l8, ?_⟩
    simp (disch := first | assumption | omega | decide) only [q212_468, q212_468N, q212_469, q212_469N, q212_470, q212_472, q212_473, q212_474, q212_474T, q212_475, q212_475N, q212_476, q212_478, q212_479, q212_480, q212_480T, q212_481, q212_481N, q212_482, q212_485, q212_487, q212_487N, q212_488, q212_488N, q212_489, q212_491, q212_492, q212_493, q212_493T, q212_494, q212_494N, q212_495, q212_497, q212_498, q212_499, q212_499T, q212_500, q212_503, q212_505, q212_505N, q212_506, q212_509, q212_511, q212_514, q212_515, q212_516, q212_518, q212_521, q212_521N, q212_522, q212_523, q212_524, q212_526, q212_527, q212_528, q212_531, q212_532, q212_533, hw, hr, s109, ht, hk, hv, no2, xl0, nc0, nI_1, nI_p2, nI_p3, cmp_0, eq_self, not_true_eq_false, not_false_eq_true, xaf_s, xaf_v, va_rf_s, xix_n, nI_clamp, xk1_i, xk1_a, xk1_u, xk1_n, xk1_l, xk1_d, true_and, and_true, ↓reduceIte, Nat.reduceAdd, xtup]
  · refine ⟨some (.int k), some (.int v), l7, l8, ?_⟩
    simp (disch := first | assumption | omega | decide) only [q212_468, q212_468N, q212_469, q212_469N, q212_470, q212_472, q212_473, q212_474, q212_474T, q212_475, q212_475N, q212_476, q212_478, q212_479, q212_480, q212_480T, q212_481, q212_481N, q212_482, q212_485, q212_487, q212_487N, q212_488, q212_488N, q212_489, q212_491, q212_492, q212_493, q212_493T, q212_494, q212_494N, q212_495, q212_497, q212_498, q212_499, q212_499T, q212_500, q212_503, q212_505, q212_505N, q212_506, q212_509, q212_511, q212_514, q212_515, q212_516, q212_518, q212_521, q212_521N, q212_522, q212_523, q212_524, q212_526, q212_527, q212_528, q212_531, q212_532, q212_533, hw, hr, s109, ht, hk, no2, xl0, nc0, nI_1, nI_p2, nI_p3, cmp_0, eq_self, not_true_eq_false, not_false_eq_true, xaf_s, xaf_v, va_rf_s, xix_n, nI_clamp, xk1_i, xk1_a, xk1_u, xk1_n, xk1_l, xk1_d, true_and, and_true, ↓reduceIte, Nat.reduceAdd, xtup]
theorem L5 (h : STEP G μ o b Ln f c 190 140 [.int (f (i + 1)), .int (f (i + 2))]) (hb : xKd μ b = 0 ∧ G.2 b = some (Ln, f)) (hm : xKd μ (o + 446) = 8) (ho : xKd μ (o + 454) = 12 ∧ xLn μ (o + 454) = 1) (hi : i + 4 ≤ Ln) (hL : Ln ≤ 2048) : LAW G μ o b Ln f c i 536 := by
  obtain ⟨μ1, μ2, k, v, hw, hr, ht, hv, e1, e2, hLS⟩ := h
  obtain ⟨hb, hg⟩ := hb
  obtain ⟨k12, n12⟩ := ho
  have kb1 := kd_eq hb e1
  have km1 := kd_eq hm e1
  have km2 := kd_eq hm e2
  have ko2 := kd_eq k12 e2
  have no2 := ln_eq n12 e2
  have hw : ∀ Q, Cn G 190 [.ref o, .int (f (i + 1)), .int (f (i + 2)), .ref (o + 454)] μ Q = Q (.inl (some (.int k))) μ1 := hw
  have hr : ∀ Q, Cn G 140 [.ref (o + 446), .int (f (i + 1)), .int (f (i + 2))] μ1 Q = Q (.inl (some (.int v))) μ2 := hr
  refine ⟨μ2, hLS, fun Q l5 l6 l7 l8 => ?_⟩
  by_cases hk : k = 0
  · have hv := hv hk
    refine ⟨some (.int k), some (.int v), l7, l8, ?_⟩
    simp (disch := first | assumption | omega | decide) only [q212_536, q212_536N, q212_537, q212_537N, q212_538, q212_540, q212_541, q212_542, q212_542T, q212_543, q212_543N, q212_544, q212_546, q212_547, q212_548, q212_548T, q212_549, q212_549N, q212_550, q212_553, q212_555, q212_555N, q212_556, q212_556N, q212_557, q212_559, q212_560, q212_561, q212_561T, q212_562, q212_562N, q212_563, q212_565, q212_566, q212_567, q212_567T, q212_568, q212_571, q212_573, q212_573N, q212_574, q212_577, q212_579, q212_582, q212_583, q212_584, q212_586, q212_589, q212_589N, q212_590, q212_591, q212_592, q212_594, q212_595, q212_596, q212_599, q212_600, q212_601, hw, hr, s109, ht, hk, hv, no2, xl0, nc0, nI_1, nI_p2, nI_p3, cmp_0, eq_self, not_true_eq_false, not_false_eq_true, xaf_s, xaf_v, va_rf_s, xix_n, nI_clamp, xk1_i, xk1_a, xk1_u, xk1_n, xk1_l, xk1_d, true_and, and_true, ↓reduceIte, Nat.reduceAdd, xtup]
  · refine ⟨some (.int k), some (.int v), l7, l8, ?_⟩
    simp (disch := first | assumption | omega | decide) only [q212_536, q212_536N, q212_537, q212_537N, q212_538, q212_540, q212_541, q212_542, q212_542T, q212_543, q212_543N, q212_544, q212_546, q212_547, q212_548, q212_548T, q212_549, q212_549N, q212_550, q212_553, q212_555, q212_555N, q212_556, q212_556N, q212_557, q212_559, q212_560, q212_561, q212_561T, q212_562, q212_562N, q212_563, q212_565, q212_566, q212_567, q212_567T, q212_568, q212_571, q212_573, q212_573N, q212_574, q212_577, q212_579, q212_582, q212_583, q212_584, q212_586, q212_589, q212_589N, q212_590, q212_591, q212_592, q212_594, q212_595, q212_596, q212_599, q212_600, q212_601, hw, hr, s109, ht, hk, no2, xl0, nc0, nI_1, nI_p2, nI_p3, cmp_0, eq_self, not_true_eq_false, not_false_eq_true, xaf_s, xaf_v, va_rf_s, xix_n, nI_clamp, xk1_i, xk1_a, xk1_u, xk1_n, xk1_l, xk1_d, true_and, and_true, ↓reduceIte, Nat.reduceAdd, xtup]
theorem L6 (h : STEP G μ o b Ln f c 191 141 [.int (f (i + 1)), .int (if f (i + 2) = 0 then 0 else 1)]) (hb : xKd μ b = 0 ∧ G.2 b = some (Ln, f)) (hm : xKd μ (o + 446) = 8) (ho : xKd μ (o + 454) = 12 ∧ xLn μ (o + 454) = 1) (hi : i + 4 ≤ Ln) (hL : Ln ≤ 2048) : LAW G μ o b Ln f c i 604 := by
  obtain ⟨μ1, μ2, k, v, hw, hr, ht, hv, e1, e2, hLS⟩ := h
  obtain ⟨hb, hg⟩ := hb
  obtain ⟨k12, n12⟩ := ho
  have kb1 := kd_eq hb e1
  have km1 := kd_eq hm e1
  have km2 := kd_eq hm e2
  have ko2 := kd_eq k12 e2
  have no2 := ln_eq n12 e2
  have hw : ∀ Q, Cn G 191 [.ref o, .int (f (i + 1)), .int (if f (i + 2) = 0 then 0 else 1), .ref (o + 454)] μ Q = Q (.inl (some (.int k))) μ1 := hw
  have hr : ∀ Q, Cn G 141 [.ref (o + 446), .int (f (i + 1)), .int (if f (i + 2) = 0 then 0 else 1)] μ1 Q = Q (.inl (some (.int v))) μ2 := hr
  refine ⟨μ2, hLS, fun Q l5 l6 l7 l8 => ?_⟩
  by_cases hz : f (i + 2) = 0
  · simp only [if_pos hz] at hw hr
    by_cases hk : k = 0
    · have hv := hv hk
      refine ⟨some (.int k), some (.int v), l7, l8, ?_⟩
      simp (disch := first | assumption | omega | decide) only [q212_604, q212_604N, q212_605, q212_605N, q212_606, q212_608, q212_609, q212_610, q212_610T, q212_611, q212_611N, q212_612, q212_614, q212_615, q212_616, q212_616T, q212_617, q212_620, q212_621, q212_624, q212_625, q212_625N, q212_626, q212_629, q212_631, q212_631N, q212_632, q212_632N, q212_633, q212_635, q212_636, q212_637, q212_637T, q212_638, q212_638N, q212_639, q212_641, q212_642, q212_643, q212_643T, q212_644, q212_647, q212_648, q212_651, q212_652, q212_655, q212_657, q212_657N, q212_658, q212_661, q212_663, q212_666, q212_667, q212_668, q212_670, q212_673, q212_673N, q212_674, q212_675, q212_676, q212_678, q212_679, q212_680, q212_683, q212_684, q212_685, hw, hr, s109, ht, hk, hv, hz, no2, xl0, nc0, nI_1, nI_p2, nI_p3, cmp_0, eq_self, not_true_eq_false, not_false_eq_true, xaf_s, xaf_v, va_rf_s, xix_n, nI_clamp, xk1_i, xk1_a, xk1_u, xk1_n, xk1_l, xk1_d, true_and, and_true, ↓reduceIte, Nat.reduceAdd, xtup]
    · refine ⟨some (.int k), some (.int v), l7, l8, ?_⟩
      simp (disch := first | assumption | omega | decide) only [q212_604, q212_604N, q212_605, q212_605N, q212_606, q212_608, q212_609, q212_610, q212_610T, q212_611, q212_611N, q212_612, q212_614, q212_615, q212_616, q212_616T, q212_617, q212_620, q212_621, q212_624, q212_625, q212_625N, q212_626, q212_629, q212_631, q212_631N, q212_632, q212_632N, q212_633, q212_635, q212_636, q212_637, q212_637T, q212_638, q212_638N, q212_639, q212_641, q212_642, q212_643, q212_643T, q212_644, q212_647, q212_648, q212_651, q212_652, q212_655, q212_657, q212_657N, q212_658, q212_661, q212_663, q212_666, q212_667, q212_668, q212_670, q212_673, q212_673N, q212_674, q212_675, q212_676, q212_678, q212_679, q212_680, q212_683, q212_684, q212_685, hw, hr, s109, ht, hk, hz, no2, xl0, nc0, nI_1, nI_p2, nI_p3, cmp_0, eq_self, not_true_eq_false, not_false_eq_true, xaf_s, xaf_v, va_rf_s, xix_n, nI_clamp, xk1_i, xk1_a, xk1_u, xk1_n, xk1_l, xk1_d, true_and, and_true, ↓reduceIte, Nat.reduceAdd, xtup]
  · simp only [if_neg hz] at hw hr
    by_cases hk : k = 0
    · have hv := hv hk
      refine ⟨some (.int k), some (.int v), l7, l8, ?_⟩
      simp (disch := first | assumption | omega | decide) only [q212_604, q212_604N, q212_605, q212_605N, q212_606, q212_608, q212_609, q212_610, q212_610T, q212_611, q212_611N, q212_612, q212_614, q212_615, q212_616, q212_616T, q212_617, q212_620, q212_621, q212_624, q212_625, q212_625N, q212_626, q212_629, q212_631, q212_631N, q212_632, q212_632N, q212_633, q212_635, q212_636, q212_637, q212_637T, q212_638, q212_638N, q212_639, q212_641, q212_642, q212_643, q212_643T, q212_644, q212_647, q212_648, q212_651, q212_652, q212_655, q212_657, q212_657N, q212_658, q212_661, q212_663, q212_666, q212_667, q212_668, q212_670, q212_673, q212_673N, q212_674, q212_675, q212_676, q212_678, q212_679, q212_680, q212_683, q212_684, q212_685, hw, hr, s109, ht, hk, hv, hz, no2, xl0, nc0, nI_1, nI_p2, nI_p3, cmp_0, eq_self, not_true_eq_false, not_false_eq_true, xaf_s, xaf_v, va_rf_s, xix_n, nI_clamp, xk1_i, xk1_a, xk1_u, xk1_n, xk1_l, xk1_d, true_and, and_true, ↓reduceIte, Nat.reduceAdd, xtup]
    · refine ⟨some (.int k), some (.int v), l7, l8, ?_⟩
      simp (disch := first | assumption | omega | decide) only [q212_604, q212_604N, q212_605, q212_605N, q212_606, q212_608, q212_609, q212_610, q212_610T, q212_611, q212_611N, q212_612, q212_614, q212_615, q212_616, q212_616T, q212_617, q212_620, q212_621, q212_624, q212_625, q212_625N, q212_626, q212_629, q212_631, q212_631N, q212_632, q212_632N, q212_633, q212_635, q212_636, q212_637, q212_637T, q212_638, q212_638N, q212_639, q212_641, q212_642, q212_643, q212_643T, q212_644, q212_647, q212_648, q212_651, q212_652, q212_655, q212_657, q212_657N, q212_658, q212_661, q212_663, q212_666, q212_667, q212_668, q212_670, q212_673, q212_673N, q212_674, q212_675, q212_676, q212_678, q212_679, q212_680, q212_683, q212_684, q212_685, hw, hr, s109, ht, hk, hz, no2, xl0, nc0, nI_1, nI_p2, nI_p3, cmp_0, eq_self, not_true_eq_false, not_false_eq_true, xaf_s, xaf_v, va_rf_s, xix_n, nI_clamp, xk1_i, xk1_a, xk1_u, xk1_n, xk1_l, xk1_d, true_and, and_true, ↓reduceIte, Nat.reduceAdd, xtup]
theorem L7 (h : STEP G μ o b Ln f c 192 142 [.int (f (i + 1)), .int (f (i + 2))]) (hb : xKd μ b = 0 ∧ G.2 b = some (Ln, f)) (hm : xKd μ (o + 446) = 8) (ho : xKd μ (o + 454) = 12 ∧ xLn μ (o + 454) = 1) (hi : i + 4 ≤ Ln) (hL : Ln ≤ 2048) : LAW G μ o b Ln f c i 688 := by
  obtain ⟨μ1, μ2, k, v, hw, hr, ht, hv, e1, e2, hLS⟩ := h
  obtain ⟨hb, hg⟩ := hb
  obtain ⟨k12, n12⟩ := ho
  have kb1 := kd_eq hb e1
  have km1 := kd_eq hm e1
  have km2 := kd_eq hm e2
  have ko2 := kd_eq k12 e2
  have no2 := ln_eq n12 e2
  have hw : ∀ Q, Cn G 192 [.ref o, .int (f (i + 1)), .int (f (i + 2)), .ref (o + 454)] μ Q = Q (.inl (some (.int k))) μ1 := hw
  have hr : ∀ Q, Cn G 142 [.ref (o + 446), .int (f (i + 1)), .int (f (i + 2))] μ1 Q = Q (.inl (some (.int v))) μ2 := hr
  refine ⟨μ2, hLS, fun Q l5 l6 l7 l8 => ?_⟩
  by_cases hk : k = 0
  · have hv := hv hk
    refine ⟨some (.int k), some (.int v), l7, l8, ?_⟩
    simp (disch := first | assumption | omega | decide) only [q212_688, q212_688N, q212_689, q212_689N, q212_690, q212_692, q212_693, q212_694, q212_694T, q212_695, q212_695N, q212_696, q212_698, q212_699, q212_700, q212_700T, q212_701, q212_701N, q212_702, q212_705, q212_707, q212_707N, q212_708, q212_708N, q212_709, q212_711, q212_712, q212_713, q212_713T, q212_714, q212_714N, q212_715, q212_717, q212_718, q212_719, q212_719T, q212_720, q212_723, q212_725, q212_725N, q212_726, q212_729, q212_731, q212_734, q212_735, q212_736, q212_738, q212_741, q212_741N, q212_742, q212_743, q212_744, q212_746, q212_747, q212_748, q212_751, q212_752, q212_753, hw, hr, s109, ht, hk, hv, no2, xl0, nc0, nI_1, nI_p2, nI_p3, cmp_0, eq_self, not_true_eq_false, not_false_eq_true, xaf_s, xaf_v, va_rf_s, xix_n, nI_clamp, xk1_i, xk1_a, xk1_u, xk1_n, xk1_l, xk1_d, true_and, and_true, ↓reduceIte, Nat.reduceAdd, xtup]
  · refine ⟨some (.int k), some (.int v), l7, l8, ?_⟩
    simp (disch := first | assumption | omega | decide) only [q212_688, q212_688N, q212_689, q212_689N, q212_690, q212_692, q212_693, q212_694, q212_694T, q212_695, q212_695N, q212_696, q212_698, q212_699, q212_700, q212_700T, q212_701, q212_701N, q212_702, q212_705, q212_707, q212_707N, q212_708, q212_708N, q212_709, q212_711, q212_712, q212_713, q212_713T, q212_714, q212_714N, q212_715, q212_717, q212_718, q212_719, q212_719T, q212_720, q212_723, q212_725, q212_725N, q212_726, q212_729, q212_731, q212_734, q212_735, q212_736, q212_738, q212_741, q212_741N, q212_742, q212_743, q212_744, q212_746, q212_747, q212_748, q212_751, q212_752, q212_753, hw, hr, s109, ht, hk, no2, xl0, nc0, nI_1, nI_p2, nI_p3, cmp_0, eq_self, not_true_eq_false, not_false_eq_true, xaf_s, xaf_v, va_rf_s, xix_n, nI_clamp, xk1_i, xk1_a, xk1_u, xk1_n, xk1_l, xk1_d, true_and, and_true, ↓reduceIte, Nat.reduceAdd, xtup]
theorem L8 (h : STEP G μ o b Ln f c 193 145 [.int (f (i + 1)), .int (f (i + 2))]) (hb : xKd μ b = 0 ∧ G.2 b = some (Ln, f)) (hm : xKd μ (o + 446) = 8) (ho : xKd μ (o + 454) = 12 ∧ xLn μ (o + 454) = 1) (hi : i + 4 ≤ Ln) (hL : Ln ≤ 2048) : LAW G μ o b Ln f c i 756 := by
  obtain ⟨μ1, μ2, k, v, hw, hr, ht, hv, e1, e2, hLS⟩ := h
  obtain ⟨hb, hg⟩ := hb
  obtain ⟨k12, n12⟩ := ho
  have kb1 := kd_eq hb e1
  have km1 := kd_eq hm e1
  have km2 := kd_eq hm e2
  have ko2 := kd_eq k12 e2
  have no2 := ln_eq n12 e2
  have hw : ∀ Q, Cn G 193 [.ref o, .int (f (i + 1)), .int (f (i + 2)), .ref (o + 454)] μ Q = Q (.inl (some (.int k))) μ1 := hw
  have hr : ∀ Q, Cn G 145 [.ref (o + 446), .int (f (i + 1)), .int (f (i + 2))] μ1 Q = Q (.inl (some (.int v))) μ2 := hr
  refine ⟨μ2, hLS, fun Q l5 l6 l7 l8 => ?_⟩
  by_cases hk : k = 0
  · have hv := hv hk
    refine ⟨some (.int k), some (.int v), l7, l8, ?_⟩
    simp (disch := first | assumption | omega | decide) only [q212_756, q212_756N, q212_757, q212_757N, q212_758, q212_760, q212_761, q212_762, q212_762T, q212_763, q212_763N, q212_764, q212_766, q212_767, q212_768, q212_768T, q212_769, q212_769N, q212_770, q212_773, q212_775, q212_775N, q212_776, q212_776N, q212_777, q212_779, q212_780, q212_781, q212_781T, q212_782, q212_782N, q212_783, q212_785, q212_786, q212_787, q212_787T, q212_788, q212_791, q212_793, q212_793N, q212_794, q212_797, q212_799, q212_802, q212_803, q212_804, q212_806, q212_809, q212_809N, q212_810, q212_811, q212_812, q212_814, q212_815, q212_816, q212_819, q212_820, q212_821, hw, hr, s109, ht, hk, hv, no2, xl0, nc0, nI_1, nI_p2, nI_p3, cmp_0, eq_self, not_true_eq_false, not_false_eq_true, xaf_s, xaf_v, va_rf_s, xix_n, nI_clamp, xk1_i, xk1_a, xk1_u, xk1_n, xk1_l, xk1_d, true_and, and_true, ↓reduceIte, Nat.reduceAdd, xtup]
  · refine ⟨some (.int k), some (.int v), l7, l8, ?_⟩
    simp (disch := first | assumption | omega | decide) only [q212_756, q212_756N, q212_757, q212_757N, q212_758, q212_760, q212_761, q212_762, q212_762T, q212_763, q212_763N, q212_764, q212_766, q212_767, q212_768, q212_768T, q212_769, q212_769N, q212_770, q212_773, q212_775, q212_775N, q212_776, q212_776N, q212_777, q212_779, q212_780, q212_781, q212_781T, q212_782, q212_782N, q212_783, q212_785, q212_786, q212_787, q212_787T, q212_788, q212_791, q212_793, q212_793N, q212_794, q212_797, q212_799, q212_802, q212_803, q212_804, q212_806, q212_809, q212_809N, q212_810, q212_811, q212_812, q212_814, q212_815, q212_816, q212_819, q212_820, q212_821, hw, hr, s109, ht, hk, no2, xl0, nc0, nI_1, nI_p2, nI_p3, cmp_0, eq_self, not_true_eq_false, not_false_eq_true, xaf_s, xaf_v, va_rf_s, xix_n, nI_clamp, xk1_i, xk1_a, xk1_u, xk1_n, xk1_l, xk1_d, true_and, and_true, ↓reduceIte, Nat.reduceAdd, xtup]
theorem L9 (h : STEP G μ o b Ln f c 194 146 [.int (f (i + 1))]) (hb : xKd μ b = 0 ∧ G.2 b = some (Ln, f)) (hm : xKd μ (o + 446) = 8) (ho : xKd μ (o + 454) = 12 ∧ xLn μ (o + 454) = 1) (hi : i + 4 ≤ Ln) (hL : Ln ≤ 2048) : LAW G μ o b Ln f c i 824 := by
  obtain ⟨μ1, μ2, k, v, hw, hr, ht, hv, e1, e2, hLS⟩ := h
  obtain ⟨hb, hg⟩ := hb
  obtain ⟨k12, n12⟩ := ho
  have kb1 := kd_eq hb e1
  have km1 := kd_eq hm e1
  have km2 := kd_eq hm e2
  have ko2 := kd_eq k12 e2
  have no2 := ln_eq n12 e2
  have hw : ∀ Q, Cn G 194 [.ref o, .int (f (i + 1)), .ref (o + 454)] μ Q = Q (.inl (some (.int k))) μ1 := hw
  have hr : ∀ Q, Cn G 146 [.ref (o + 446), .int (f (i + 1))] μ1 Q = Q (.inl (some (.int v))) μ2 := hr
  refine ⟨μ2, hLS, fun Q l5 l6 l7 l8 => ?_⟩
  by_cases hk : k = 0
  · have hv := hv hk
    refine ⟨some (.int k), some (.int v), l7, l8, ?_⟩
    simp (disch := first | assumption | omega | decide) only [q212_824, q212_824N, q212_825, q212_825N, q212_826, q212_828, q212_829, q212_830, q212_830T, q212_831, q212_831N, q212_832, q212_835, q212_837, q212_837N, q212_838, q212_838N, q212_839, q212_841, q212_842, q212_843, q212_843T, q212_844, q212_847, q212_849, q212_849N, q212_850, q212_853, q212_855, q212_858, q212_859, q212_860, q212_862, q212_865, q212_865N, q212_866, q212_867, q212_868, q212_870, q212_871, q212_872, q212_875, q212_876, q212_877, hw, hr, s109, ht, hk, hv, no2, xl0, nc0, nI_1, nI_p2, nI_p3, cmp_0, eq_self, not_true_eq_false, not_false_eq_true, xaf_s, xaf_v, va_rf_s, xix_n, nI_clamp, xk1_i, xk1_a, xk1_u, xk1_n, xk1_l, xk1_d, true_and, and_true, ↓reduceIte, Nat.reduceAdd, xtup]
  · refine ⟨some (.int k), some (.int v), l7, l8, ?_⟩
    simp (disch := first | assumption | omega | decide) only [q212_824, q212_824N, q212_825, q212_825N, q212_826, q212_828, q212_829, q212_830, q212_830T, q212_831, q212_831N, q212_832, q212_835, q212_837, q212_837N, q212_838, q212_838N, q212_839, q212_841, q212_842, q212_843, q212_843T, q212_844, q212_847, q212_849, q212_849N, q212_850, q212_853, q212_855, q212_858, q212_859, q212_860, q212_862, q212_865, q212_865N, q212_866, q212_867, q212_868, q212_870, q212_871, q212_872, q212_875, q212_876, q212_877, hw, hr, s109, ht, hk, no2, xl0, nc0, nI_1, nI_p2, nI_p3, cmp_0, eq_self, not_true_eq_false, not_false_eq_true, xaf_s, xaf_v, va_rf_s, xix_n, nI_clamp, xk1_i, xk1_a, xk1_u, xk1_n, xk1_l, xk1_d, true_and, and_true, ↓reduceIte, Nat.reduceAdd, xtup]
theorem L10 (h : STEP G μ o b Ln f c 195 147 [.int (f (i + 1)), .int (f (i + 2))]) (hb : xKd μ b = 0 ∧ G.2 b = some (Ln, f)) (hm : xKd μ (o + 446) = 8) (ho : xKd μ (o + 454) = 12 ∧ xLn μ (o + 454) = 1) (hi : i + 4 ≤ Ln) (hL : Ln ≤ 2048) : LAW G μ o b Ln f c i 880 := by
  obtain ⟨μ1, μ2, k, v, hw, hr, ht, hv, e1, e2, hLS⟩ := h
  obtain ⟨hb, hg⟩ := hb
  obtain ⟨k12, n12⟩ := ho
  have kb1 := kd_eq hb e1
  have km1 := kd_eq hm e1
  have km2 := kd_eq hm e2
  have ko2 := kd_eq k12 e2
  have no2 := ln_eq n12 e2
  have hw : ∀ Q, Cn G 195 [.ref o, .int (f (i + 1)), .int (f (i + 2)), .ref (o + 454)] μ Q = Q (.inl (some (.int k))) μ1 := hw
  have hr : ∀ Q, Cn G 147 [.ref (o + 446), .int (f (i + 1)), .int (f (i + 2))] μ1 Q = Q (.inl (some (.int v))) μ2 := hr
  refine ⟨μ2, hLS, fun Q l5 l6 l7 l8 => ?_⟩
  by_cases hk : k = 0
  · have hv := hv hk
    refine ⟨some (.int k), some (.int v), l7, l8, ?_⟩
    simp (disch := first | assumption | omega | decide) only [q212_880, q212_880N, q212_881, q212_881N, q212_882, q212_884, q212_885, q212_886, q212_886T, q212_887, q212_887N, q212_888, q212_890, q212_891, q212_892, q212_892T, q212_893, q212_893N, q212_894, q212_897, q212_899, q212_899N, q212_900, q212_900N, q212_901, q212_903, q212_904, q212_905, q212_905T, q212_906, q212_906N, q212_907, q212_909, q212_910, q212_911, q212_911T, q212_912, q212_915, q212_917, q212_917N, q212_918, q212_921, q212_923, q212_926, q212_927, q212_928, q212_930, q212_933, q212_933N, q212_934, q212_935, q212_936, q212_938, q212_939, q212_940, q212_943, q212_944, q212_945, hw, hr, s109, ht, hk, hv, no2, xl0, nc0, nI_1, nI_p2, nI_p3, cmp_0, eq_self, not_true_eq_false, not_false_eq_true, xaf_s, xaf_v, va_rf_s, xix_n, nI_clamp, xk1_i, xk1_a, xk1_u, xk1_n, xk1_l, xk1_d, true_and, and_true, ↓reduceIte, Nat.reduceAdd, xtup]
  · refine ⟨some (.int k), some (.int v), l7, l8, ?_⟩
    simp (disch := first | assumption | omega | decide) only [q212_880, q212_880N, q212_881, q212_881N, q212_882, q212_884, q212_885, q212_886, q212_886T, q212_887, q212_887N, q212_888, q212_890, q212_891, q212_892, q212_892T, q212_893, q212_893N, q212_894, q212_897, q212_899, q212_899N, q212_900, q212_900N, q212_901, q212_903, q212_904, q212_905, q212_905T, q212_906, q212_906N, q212_907, q212_909, q212_910, q212_911, q212_911T, q212_912, q212_915, q212_917, q212_917N, q212_918, q212_921, q212_923, q212_926, q212_927, q212_928, q212_930, q212_933, q212_933N, q212_934, q212_935, q212_936, q212_938, q212_939, q212_940, q212_943, q212_944, q212_945, hw, hr, s109, ht, hk, no2, xl0, nc0, nI_1, nI_p2, nI_p3, cmp_0, eq_self, not_true_eq_false, not_false_eq_true, xaf_s, xaf_v, va_rf_s, xix_n, nI_clamp, xk1_i, xk1_a, xk1_u, xk1_n, xk1_l, xk1_d, true_and, and_true, ↓reduceIte, Nat.reduceAdd, xtup]
theorem L11 (h : STEP G μ o b Ln f c 196 149 [.int (f (i + 1))]) (hb : xKd μ b = 0 ∧ G.2 b = some (Ln, f)) (hm : xKd μ (o + 446) = 8) (ho : xKd μ (o + 454) = 12 ∧ xLn μ (o + 454) = 1) (hi : i + 4 ≤ Ln) (hL : Ln ≤ 2048) : LAW G μ o b Ln f c i 948 := by
  obtain ⟨μ1, μ2, k, v, hw, hr, ht, hv, e1, e2, hLS⟩ := h
  obtain ⟨hb, hg⟩ := hb
  obtain ⟨k12, n12⟩ := ho
  have kb1 := kd_eq hb e1
  have km1 := kd_eq hm e1
  have km2 := kd_eq hm e2
  have ko2 := kd_eq k12 e2
  have no2 := ln_eq n12 e2
  have hw : ∀ Q, Cn G 196 [.ref o, .int (f (i + 1)), .ref (o + 454)] μ Q = Q (.inl (some (.int k))) μ1 := hw
  have hr : ∀ Q, Cn G 149 [.ref (o + 446), .int (f (i + 1))] μ1 Q = Q (.inl (some (.int v))) μ2 := hr
  refine ⟨μ2, hLS, fun Q l5 l6 l7 l8 => ?_⟩
  by_cases hk : k = 0
  · have hv := hv hk
    refine ⟨some (.int k), some (.int v), l7, l8, ?_⟩
    simp (disch := first | assumption | omega | decide) only [q212_948, q212_948N, q212_949, q212_949N, q212_950, q212_952, q212_953, q212_954, q212_954T, q212_955, q212_955N, q212_956, q212_959, q212_961, q212_961N, q212_962, q212_962N, q212_963, q212_965, q212_966, q212_967, q212_967T, q212_968, q212_971, q212_973, q212_973N, q212_974, q212_977, q212_979, q212_982, q212_983, q212_984, q212_986, q212_989, q212_989N, q212_990, q212_991, q212_992, q212_994, q212_995, q212_996, q212_999, q212_1000, q212_1001, hw, hr, s109, ht, hk, hv, no2, xl0, nc0, nI_1, nI_p2, nI_p3, cmp_0, eq_self, not_true_eq_false, not_false_eq_true, xaf_s, xaf_v, va_rf_s, xix_n, nI_clamp, xk1_i, xk1_a, xk1_u, xk1_n, xk1_l, xk1_d, true_and, and_true, ↓reduceIte, Nat.reduceAdd, xtup]
  · refine ⟨some (.int k), some (.int v), l7, l8, ?_⟩
    simp (disch := first | assumption | omega | decide) only [q212_948, q212_948N, q212_949, q212_949N, q212_950, q212_952, q212_953, q212_954, q212_954T, q212_955, q212_955N, q212_956, q212_959, q212_961, q212_961N, q212_962, q212_962N, q212_963, q212_965, q212_966, q212_967, q212_967T, q212_968, q212_971, q212_973, q212_973N, q212_974, q212_977, q212_979, q212_982, q212_983, q212_984, q212_986, q212_989, q212_989N, q212_990, q212_991, q212_992, q212_994, q212_995, q212_996, q212_999, q212_1000, q212_1001, hw, hr, s109, ht, hk, no2, xl0, nc0, nI_1, nI_p2, nI_p3, cmp_0, eq_self, not_true_eq_false, not_false_eq_true, xaf_s, xaf_v, va_rf_s, xix_n, nI_clamp, xk1_i, xk1_a, xk1_u, xk1_n, xk1_l, xk1_d, true_and, and_true, ↓reduceIte, Nat.reduceAdd, xtup]
theorem L12 (h : STEP G μ o b Ln f c 197 150 [.int (f (i + 1))]) (hb : xKd μ b = 0 ∧ G.2 b = some (Ln, f)) (hm : xKd μ (o + 446) = 8) (ho : xKd μ (o + 454) = 12 ∧ xLn μ (o + 454) = 1) (hi : i + 4 ≤ Ln) (hL : Ln ≤ 2048) : LAW G μ o b Ln f c i 1004 := by
  obtain ⟨μ1, μ2, k, v, hw, hr, ht, hv, e1, e2, hLS⟩ := h
  obtain ⟨hb, hg⟩ := hb
  obtain ⟨k12, n12⟩ := ho
  have kb1 := kd_eq hb e1
  have km1 := kd_eq hm e1
  have km2 := kd_eq hm e2
  have ko2 := kd_eq k12 e2
  have no2 := ln_eq n12 e2
  have hw : ∀ Q, Cn G 197 [.ref o, .int (f (i + 1)), .ref (o + 454)] μ Q = Q (.inl (some (.int k))) μ1 := hw
  have hr : ∀ Q, Cn G 150 [.ref (o + 446), .int (f (i + 1))] μ1 Q = Q (.inl (some (.int v))) μ2 := hr
  refine ⟨μ2, hLS, fun Q l5 l6 l7 l8 => ?_⟩
  by_cases hk : k = 0
  · have hv := hv hk
    refine ⟨some (.int k), some (.int v), l7, l8, ?_⟩
    simp (disch := first | assumption | omega | decide) only [q212_1004, q212_1004N, q212_1005, q212_1005N, q212_1006, q212_1008, q212_1009, q212_1010, q212_1010T, q212_1011, q212_1011N, q212_1012, q212_1015, q212_1017, q212_1017N, q212_1018, q212_1018N, q212_1019, q212_1021, q212_1022, q212_1023, q212_1023T, q212_1024, q212_1027, q212_1029, q212_1029N, q212_1030, q212_1033, q212_1035, q212_1038, q212_1039, q212_1040, q212_1042, q212_1045, q212_1045N, q212_1046, q212_1047, q212_1048, q212_1050, q212_1051, q212_1052, q212_1055, q212_1056, q212_1057, hw, hr, s109, ht, hk, hv, no2, xl0, nc0, nI_1, nI_p2, nI_p3, cmp_0, eq_self, not_true_eq_false, not_false_eq_true, xaf_s, xaf_v, va_rf_s, xix_n, nI_clamp, xk1_i, xk1_a, xk1_u, xk1_n, xk1_l, xk1_d, true_and, and_true, ↓reduceIte, Nat.reduceAdd, xtup]
  · refine ⟨some (.int k), some (.int v), l7, l8, ?_⟩
    simp (disch := first | assumption | omega | decide) only [q212_1004, q212_1004N, q212_1005, q212_1005N, q212_1006, q212_1008, q212_1009, q212_1010, q212_1010T, q212_1011, q212_1011N, q212_1012, q212_1015, q212_1017, q212_1017N, q212_1018, q212_1018N, q212_1019, q212_1021, q212_1022, q212_1023, q212_1023T, q212_1024, q212_1027, q212_1029, q212_1029N, q212_1030, q212_1033, q212_1035, q212_1038, q212_1039, q212_1040, q212_1042, q212_1045, q212_1045N, q212_1046, q212_1047, q212_1048, q212_1050, q212_1051, q212_1052, q212_1055, q212_1056, q212_1057, hw, hr, s109, ht, hk, no2, xl0, nc0, nI_1, nI_p2, nI_p3, cmp_0, eq_self, not_true_eq_false, not_false_eq_true, xaf_s, xaf_v, va_rf_s, xix_n, nI_clamp, xk1_i, xk1_a, xk1_u, xk1_n, xk1_l, xk1_d, true_and, and_true, ↓reduceIte, Nat.reduceAdd, xtup]
theorem L15 (h : STEP G μ o b Ln f c 198 159 []) (hb : xKd μ b = 0 ∧ G.2 b = some (Ln, f)) (hm : xKd μ (o + 446) = 8) (ho : xKd μ (o + 454) = 12 ∧ xLn μ (o + 454) = 1) (hi : i + 4 ≤ Ln) (hL : Ln ≤ 2048) : LAW G μ o b Ln f c i 1086 := by
  obtain ⟨μ1, μ2, k, v, hw, hr, ht, hv, e1, e2, hLS⟩ := h
  obtain ⟨hb, hg⟩ := hb
  obtain ⟨k12, n12⟩ := ho
  have kb1 := kd_eq hb e1
  have km1 := kd_eq hm e1
  have km2 := kd_eq hm e2
  have ko2 := kd_eq k12 e2
  have no2 := ln_eq n12 e2
  have hw : ∀ Q, Cn G 198 [.ref o, .ref (o + 454)] μ Q = Q (.inl (some (.int k))) μ1 := hw
  have hr : ∀ Q, Cn G 159 [.ref (o + 446)] μ1 Q = Q (.inl (some (.int v))) μ2 := hr
  refine ⟨μ2, hLS, fun Q l5 l6 l7 l8 => ?_⟩
  by_cases hk : k = 0
  · have hv := hv hk
    refine ⟨some (.int k), some (.int v), l7, l8, ?_⟩
    simp (disch := first | assumption | omega | decide) only [q212_1086, q212_1086N, q212_1087, q212_1087N, q212_1088, q212_1091, q212_1093, q212_1093N, q212_1094, q212_1097, q212_1099, q212_1099N, q212_1100, q212_1103, q212_1105, q212_1108, q212_1109, q212_1110, q212_1112, q212_1115, q212_1115N, q212_1116, q212_1117, q212_1118, q212_1120, q212_1121, q212_1122, q212_1125, q212_1126, q212_1127, hw, hr, s109, ht, hk, hv, no2, xl0, nc0, nI_1, nI_p2, nI_p3, cmp_0, eq_self, not_true_eq_false, not_false_eq_true, xaf_s, xaf_v, va_rf_s, xix_n, nI_clamp, xk1_i, xk1_a, xk1_u, xk1_n, xk1_l, xk1_d, true_and, and_true, ↓reduceIte, Nat.reduceAdd, xtup]
  · refine ⟨some (.int k), some (.int v), l7, l8, ?_⟩
    simp (disch := first | assumption | omega | decide) only [q212_1086, q212_1086N, q212_1087, q212_1087N, q212_1088, q212_1091, q212_1093, q212_1093N, q212_1094, q212_1097, q212_1099, q212_1099N, q212_1100, q212_1103, q212_1105, q212_1108, q212_1109, q212_1110, q212_1112, q212_1115, q212_1115N, q212_1116, q212_1117, q212_1118, q212_1120, q212_1121, q212_1122, q212_1125, q212_1126, q212_1127, hw, hr, s109, ht, hk, no2, xl0, nc0, nI_1, nI_p2, nI_p3, cmp_0, eq_self, not_true_eq_false, not_false_eq_true, xaf_s, xaf_v, va_rf_s, xix_n, nI_clamp, xk1_i, xk1_a, xk1_u, xk1_n, xk1_l, xk1_d, true_and, and_true, ↓reduceIte, Nat.reduceAdd, xtup]
theorem L16 (h : STEP G μ o b Ln f c 199 160 []) (hb : xKd μ b = 0 ∧ G.2 b = some (Ln, f)) (hm : xKd μ (o + 446) = 8) (ho : xKd μ (o + 454) = 12 ∧ xLn μ (o + 454) = 1) (hi : i + 4 ≤ Ln) (hL : Ln ≤ 2048) : LAW G μ o b Ln f c i 1130 := by
  obtain ⟨μ1, μ2, k, v, hw, hr, ht, hv, e1, e2, hLS⟩ := h
  obtain ⟨hb, hg⟩ := hb
  obtain ⟨k12, n12⟩ := ho
  have kb1 := kd_eq hb e1
  have km1 := kd_eq hm e1
  have km2 := kd_eq hm e2
  have ko2 := kd_eq k12 e2
  have no2 := ln_eq n12 e2
  have hw : ∀ Q, Cn G 199 [.ref o, .ref (o + 454)] μ Q = Q (.inl (some (.int k))) μ1 := hw
  have hr : ∀ Q, Cn G 160 [.ref (o + 446)] μ1 Q = Q (.inl (some (.int v))) μ2 := hr
  refine ⟨μ2, hLS, fun Q l5 l6 l7 l8 => ?_⟩
  by_cases hk : k = 0
  · have hv := hv hk
    refine ⟨some (.int k), some (.int v), l7, l8, ?_⟩
    simp (disch := first | assumption | omega | decide) only [q212_1130, q212_1130N, q212_1131, q212_1131N, q212_1132, q212_1135, q212_1137, q212_1137N, q212_1138, q212_1141, q212_1143, q212_1143N, q212_1144, q212_1147, q212_1149, q212_1152, q212_1153, q212_1154, q212_1156, q212_1159, q212_1159N, q212_1160, q212_1161, q212_1162, q212_1164, q212_1165, q212_1166, q212_1169, q212_1170, q212_1171, hw, hr, s109, ht, hk, hv, no2, xl0, nc0, nI_1, nI_p2, nI_p3, cmp_0, eq_self, not_true_eq_false, not_false_eq_true, xaf_s, xaf_v, va_rf_s, xix_n, nI_clamp, xk1_i, xk1_a, xk1_u, xk1_n, xk1_l, xk1_d, true_and, and_true, ↓reduceIte, Nat.reduceAdd, xtup]
  · refine ⟨some (.int k), some (.int v), l7, l8, ?_⟩
    simp (disch := first | assumption | omega | decide) only [q212_1130, q212_1130N, q212_1131, q212_1131N, q212_1132, q212_1135, q212_1137, q212_1137N, q212_1138, q212_1141, q212_1143, q212_1143N, q212_1144, q212_1147, q212_1149, q212_1152, q212_1153, q212_1154, q212_1156, q212_1159, q212_1159N, q212_1160, q212_1161, q212_1162, q212_1164, q212_1165, q212_1166, q212_1169, q212_1170, q212_1171, hw, hr, s109, ht, hk, no2, xl0, nc0, nI_1, nI_p2, nI_p3, cmp_0, eq_self, not_true_eq_false, not_false_eq_true, xaf_s, xaf_v, va_rf_s, xix_n, nI_clamp, xk1_i, xk1_a, xk1_u, xk1_n, xk1_l, xk1_d, true_and, and_true, ↓reduceIte, Nat.reduceAdd, xtup]
theorem L17 (h : STEP G μ o b Ln f c 200 162 [.int (f (i + 1)), .int (f (i + 2))]) (hb : xKd μ b = 0 ∧ G.2 b = some (Ln, f)) (hm : xKd μ (o + 446) = 8) (ho : xKd μ (o + 454) = 12 ∧ xLn μ (o + 454) = 1) (hi : i + 4 ≤ Ln) (hL : Ln ≤ 2048) : LAW G μ o b Ln f c i 1174 := by
  obtain ⟨μ1, μ2, k, v, hw, hr, ht, hv, e1, e2, hLS⟩ := h
  obtain ⟨hb, hg⟩ := hb
  obtain ⟨k12, n12⟩ := ho
  have kb1 := kd_eq hb e1
  have km1 := kd_eq hm e1
  have km2 := kd_eq hm e2
  have ko2 := kd_eq k12 e2
  have no2 := ln_eq n12 e2
  have hw : ∀ Q, Cn G 200 [.ref o, .int (f (i + 1)), .int (f (i + 2)), .ref (o + 454)] μ Q = Q (.inl (some (.int k))) μ1 := hw
  have hr : ∀ Q, Cn G 162 [.ref (o + 446), .int (f (i + 1)), .int (f (i + 2))] μ1 Q = Q (.inl (some (.int v))) μ2 := hr
  refine ⟨μ2, hLS, fun Q l5 l6 l7 l8 => ?_⟩
  by_cases hk : k = 0
  · have hv := hv hk
    refine ⟨some (.int k), some (.int v), l7, l8, ?_⟩
    simp (disch := first | assumption | omega | decide) only [q212_1174, q212_1174N, q212_1175, q212_1175N, q212_1176, q212_1178, q212_1179, q212_1180, q212_1180T, q212_1181, q212_1181N, q212_1182, q212_1184, q212_1185, q212_1186, q212_1186T, q212_1187, q212_1187N, q212_1188, q212_1191, q212_1193, q212_1193N, q212_1194, q212_1194N, q212_1195, q212_1197, q212_1198, q212_1199, q212_1199T, q212_1200, q212_1200N, q212_1201, q212_1203, q212_1204, q212_1205, q212_1205T, q212_1206, q212_1209, q212_1211, q212_1211N, q212_1212, q212_1215, q212_1217, q212_1220, q212_1221, q212_1222, q212_1224, q212_1227, q212_1227N, q212_1228, q212_1229, q212_1230, q212_1232, q212_1233, q212_1234, q212_1237, q212_1238, q212_1239, hw, hr, s109, ht, hk, hv, no2, xl0, nc0, nI_1, nI_p2, nI_p3, cmp_0, eq_self, not_true_eq_false, not_false_eq_true, xaf_s, xaf_v, va_rf_s, xix_n, nI_clamp, xk1_i, xk1_a, xk1_u, xk1_n, xk1_l, xk1_d, true_and, and_true, ↓reduceIte, Nat.reduceAdd, xtup]
  · refine ⟨some (.int k), some (.int v), l7, l8, ?_⟩
    simp (disch := first | assumption | omega | decide) only [q212_1174, q212_1174N, q212_1175, q212_1175N, q212_1176, q212_1178, q212_1179, q212_1180, q212_1180T, q212_1181, q212_1181N, q212_1182, q212_1184, q212_1185, q212_1186, q212_1186T, q212_1187, q212_1187N, q212_1188, q212_1191, q212_1193, q212_1193N, q212_1194, q212_1194N, q212_1195, q212_1197, q212_1198, q212_1199, q212_1199T, q212_1200, q212_1200N, q212_1201, q212_1203, q212_1204, q212_1205, q212_1205T, q212_1206, q212_1209, q212_1211, q212_1211N, q212_1212, q212_1215, q212_1217, q212_1220, q212_1221, q212_1222, q212_1224, q212_1227, q212_1227N, q212_1228, q212_1229, q212_1230, q212_1232, q212_1233, q212_1234, q212_1237, q212_1238, q212_1239, hw, hr, s109, ht, hk, no2, xl0, nc0, nI_1, nI_p2, nI_p3, cmp_0, eq_self, not_true_eq_false, not_false_eq_true, xaf_s, xaf_v, va_rf_s, xix_n, nI_clamp, xk1_i, xk1_a, xk1_u, xk1_n, xk1_l, xk1_d, true_and, and_true, ↓reduceIte, Nat.reduceAdd, xtup]
theorem L18 (h : STEP G μ o b Ln f c 201 165 [.int (f (i + 1)), .int (f (i + 2))]) (hb : xKd μ b = 0 ∧ G.2 b = some (Ln, f)) (hm : xKd μ (o + 446) = 8) (ho : xKd μ (o + 454) = 12 ∧ xLn μ (o + 454) = 1) (hi : i + 4 ≤ Ln) (hL : Ln ≤ 2048) : LAW G μ o b Ln f c i 1242 := by
  obtain ⟨μ1, μ2, k, v, hw, hr, ht, hv, e1, e2, hLS⟩ := h
  obtain ⟨hb, hg⟩ := hb
  obtain ⟨k12, n12⟩ := ho
  have kb1 := kd_eq hb e1
  have km1 := kd_eq hm e1
  have km2 := kd_eq hm e2
  have ko2 := kd_eq k12 e2
  have no2 := ln_eq n12 e2
  have hw : ∀ Q, Cn G 201 [.ref o, .int (f (i + 1)), .int (f (i + 2)), .ref (o + 454)] μ Q = Q (.inl (some (.int k))) μ1 := hw
  have hr : ∀ Q, Cn G 165 [.ref (o + 446), .int (f (i + 1)), .int (f (i + 2))] μ1 Q = Q (.inl (some (.int v))) μ2 := hr
  refine ⟨μ2, hLS, fun Q l5 l6 l7 l8 => ?_⟩
  by_cases hk : k = 0
  · have hv := hv hk
    refine ⟨some (.int k), some (.int v), l7, l8, ?_⟩
    simp (disch := first | assumption | omega | decide) only [q212_1242, q212_1242N, q212_1243, q212_1243N, q212_1244, q212_1246, q212_1247, q212_1248, q212_1248T, q212_1249, q212_1249N, q212_1250, q212_1252, q212_1253, q212_1254, q212_1254T, q212_1255, q212_1255N, q212_1256, q212_1259, q212_1261, q212_1261N, q212_1262, q212_1262N, q212_1263, q212_1265, q212_1266, q212_1267, q212_1267T, q212_1268, q212_1268N, q212_1269, q212_1271, q212_1272, q212_1273, q212_1273T, q212_1274, q212_1277, q212_1279, q212_1279N, q212_1280, q212_1283, q212_1285, q212_1288, q212_1289, q212_1290, q212_1292, q212_1295, q212_1295N, q212_1296, q212_1297, q212_1298, q212_1300, q212_1301, q212_1302, q212_1305, q212_1306, q212_1307, hw, hr, s109, ht, hk, hv, no2, xl0, nc0, nI_1, nI_p2, nI_p3, cmp_0, eq_self, not_true_eq_false, not_false_eq_true, xaf_s, xaf_v, va_rf_s, xix_n, nI_clamp, xk1_i, xk1_a, xk1_u, xk1_n, xk1_l, xk1_d, true_and, and_true, ↓reduceIte, Nat.reduceAdd, xtup]
  · refine ⟨some (.int k), some (.int v), l7, l8, ?_⟩
    simp (disch := first | assumption | omega | decide) only [q212_1242, q212_1242N, q212_1243, q212_1243N, q212_1244, q212_1246, q212_1247, q212_1248, q212_1248T, q212_1249, q212_1249N, q212_1250, q212_1252, q212_1253, q212_1254, q212_1254T, q212_1255, q212_1255N, q212_1256, q212_1259, q212_1261, q212_1261N, q212_1262, q212_1262N, q212_1263, q212_1265, q212_1266, q212_1267, q212_1267T, q212_1268, q212_1268N, q212_1269, q212_1271, q212_1272, q212_1273, q212_1273T, q212_1274, q212_1277, q212_1279, q212_1279N, q212_1280, q212_1283, q212_1285, q212_1288, q212_1289, q212_1290, q212_1292, q212_1295, q212_1295N, q212_1296, q212_1297, q212_1298, q212_1300, q212_1301, q212_1302, q212_1305, q212_1306, q212_1307, hw, hr, s109, ht, hk, no2, xl0, nc0, nI_1, nI_p2, nI_p3, cmp_0, eq_self, not_true_eq_false, not_false_eq_true, xaf_s, xaf_v, va_rf_s, xix_n, nI_clamp, xk1_i, xk1_a, xk1_u, xk1_n, xk1_l, xk1_d, true_and, and_true, ↓reduceIte, Nat.reduceAdd, xtup]
theorem L19 (h : STEP G μ o b Ln f c 202 167 [.int (f (i + 1)), .int (f (i + 2)), .int (f (i + 3))]) (hb : xKd μ b = 0 ∧ G.2 b = some (Ln, f)) (hm : xKd μ (o + 446) = 8) (ho : xKd μ (o + 454) = 12 ∧ xLn μ (o + 454) = 1) (hi : i + 4 ≤ Ln) (hL : Ln ≤ 2048) : LAW G μ o b Ln f c i 1310 := by
  obtain ⟨μ1, μ2, k, v, hw, hr, ht, hv, e1, e2, hLS⟩ := h
  obtain ⟨hb, hg⟩ := hb
  obtain ⟨k12, n12⟩ := ho
  have kb1 := kd_eq hb e1
  have km1 := kd_eq hm e1
  have km2 := kd_eq hm e2
  have ko2 := kd_eq k12 e2
  have no2 := ln_eq n12 e2
  have hw : ∀ Q, Cn G 202 [.ref o, .int (f (i + 1)), .int (f (i + 2)), .int (f (i + 3)), .ref (o + 454)] μ Q = Q (.inl (some (.int k))) μ1 := hw
  have hr : ∀ Q, Cn G 167 [.ref (o + 446), .int (f (i + 1)), .int (f (i + 2)), .int (f (i + 3))] μ1 Q = Q (.inl (some (.int v))) μ2 := hr
  refine ⟨μ2, hLS, fun Q l5 l6 l7 l8 => ?_⟩
  by_cases hk : k = 0
  · have hv := hv hk
    refine ⟨some (.int k), some (.int v), l7, l8, ?_⟩
    simp (disch := first | assumption | omega | decide) only [q212_1310, q212_1310N, q212_1311, q212_1311N, q212_1312, q212_1314, q212_1315, q212_1316, q212_1316T, q212_1317, q212_1317N, q212_1318, q212_1320, q212_1321, q212_1322, q212_1322T, q212_1323, q212_1323N, q212_1324, q212_1326, q212_1327, q212_1328, q212_1328T, q212_1329, q212_1329N, q212_1330, q212_1333, q212_1335, q212_1335N, q212_1336, q212_1336N, q212_1337, q212_1339, q212_1340, q212_1341, q212_1341T, q212_1342, q212_1342N, q212_1343, q212_1345, q212_1346, q212_1347, q212_1347T, q212_1348, q212_1348N, q212_1349, q212_1351, q212_1352, q212_1353, q212_1353T, q212_1354, q212_1357, q212_1359, q212_1359N, q212_1360, q212_1363, q212_1365, q212_1368, q212_1369, q212_1370, q212_1372, q212_1375, q212_1375N, q212_1376, q212_1377, q212_1378, q212_1380, q212_1381, q212_1382, q212_1385, q212_1386, q212_1387, hw, hr, s109, ht, hk, hv, no2, xl0, nc0, nI_1, nI_p2, nI_p3, cmp_0, eq_self, not_true_eq_false, not_false_eq_true, xaf_s, xaf_v, va_rf_s, xix_n, nI_clamp, xk1_i, xk1_a, xk1_u, xk1_n, xk1_l, xk1_d, true_and, and_true, ↓reduceIte, Nat.reduceAdd, xtup]
  · refine ⟨some (.int k), some (.int v), l7, l8, ?_⟩
    simp (disch := first | assumption | omega | decide) only [q212_1310, q212_1310N, q212_1311, q212_1311N, q212_1312, q212_1314, q212_1315, q212_1316, q212_1316T, q212_1317, q212_1317N, q212_1318, q212_1320, q212_1321, q212_1322, q212_1322T, q212_1323, q212_1323N, q212_1324, q212_1326, q212_1327, q212_1328, q212_1328T, q212_1329, q212_1329N, q212_1330, q212_1333, q212_1335, q212_1335N, q212_1336, q212_1336N, q212_1337, q212_1339, q212_1340, q212_1341, q212_1341T, q212_1342, q212_1342N, q212_1343, q212_1345, q212_1346, q212_1347, q212_1347T, q212_1348, q212_1348N, q212_1349, q212_1351, q212_1352, q212_1353, q212_1353T, q212_1354, q212_1357, q212_1359, q212_1359N, q212_1360, q212_1363, q212_1365, q212_1368, q212_1369, q212_1370, q212_1372, q212_1375, q212_1375N, q212_1376, q212_1377, q212_1378, q212_1380, q212_1381, q212_1382, q212_1385, q212_1386, q212_1387, hw, hr, s109, ht, hk, no2, xl0, nc0, nI_1, nI_p2, nI_p3, cmp_0, eq_self, not_true_eq_false, not_false_eq_true, xaf_s, xaf_v, va_rf_s, xix_n, nI_clamp, xk1_i, xk1_a, xk1_u, xk1_n, xk1_l, xk1_d, true_and, and_true, ↓reduceIte, Nat.reduceAdd, xtup]
theorem L20 (h : STEP G μ o b Ln f c 203 169 [.int (f (i + 1))]) (hb : xKd μ b = 0 ∧ G.2 b = some (Ln, f)) (hm : xKd μ (o + 446) = 8) (ho : xKd μ (o + 454) = 12 ∧ xLn μ (o + 454) = 1) (hi : i + 4 ≤ Ln) (hL : Ln ≤ 2048) : LAW G μ o b Ln f c i 1390 := by
  obtain ⟨μ1, μ2, k, v, hw, hr, ht, hv, e1, e2, hLS⟩ := h
  obtain ⟨hb, hg⟩ := hb
  obtain ⟨k12, n12⟩ := ho
  have kb1 := kd_eq hb e1
  have km1 := kd_eq hm e1
  have km2 := kd_eq hm e2
  have ko2 := kd_eq k12 e2
  have no2 := ln_eq n12 e2
  have hw : ∀ Q, Cn G 203 [.ref o, .int (f (i + 1)), .ref (o + 454)] μ Q = Q (.inl (some (.int k))) μ1 := hw
  have hr : ∀ Q, Cn G 169 [.ref (o + 446), .int (f (i + 1))] μ1 Q = Q (.inl (some (.int v))) μ2 := hr
  refine ⟨μ2, hLS, fun Q l5 l6 l7 l8 => ?_⟩
  by_cases hk : k = 0
  · have hv := hv hk
    refine ⟨some (.int k), some (.int v), l7, l8, ?_⟩
    simp (disch := first | assumption | omega | decide) only [q212_1390, q212_1390N, q212_1391, q212_1391N, q212_1392, q212_1394, q212_1395, q212_1396, q212_1396T, q212_1397, q212_1397N, q212_1398, q212_1401, q212_1403, q212_1403N, q212_1404, q212_1404N, q212_1405, q212_1407, q212_1408, q212_1409, q212_1409T, q212_1410, q212_1413, q212_1415, q212_1415N, q212_1416, q212_1419, q212_1421, q212_1424, q212_1425, q212_1426, q212_1428, q212_1431, q212_1431N, q212_1432, q212_1433, q212_1434, q212_1436, q212_1437, q212_1438, q212_1441, q212_1442, q212_1443, hw, hr, s109, ht, hk, hv, no2, xl0, nc0, nI_1, nI_p2, nI_p3, cmp_0, eq_self, not_true_eq_false, not_false_eq_true, xaf_s, xaf_v, va_rf_s, xix_n, nI_clamp, xk1_i, xk1_a, xk1_u, xk1_n, xk1_l, xk1_d, true_and, and_true, ↓reduceIte, Nat.reduceAdd, xtup]
  · refine ⟨some (.int k), some (.int v), l7, l8, ?_⟩
    simp (disch := first | assumption | omega | decide) only [q212_1390, q212_1390N, q212_1391, q212_1391N, q212_1392, q212_1394, q212_1395, q212_1396, q212_1396T, q212_1397, q212_1397N, q212_1398, q212_1401, q212_1403, q212_1403N, q212_1404, q212_1404N, q212_1405, q212_1407, q212_1408, q212_1409, q212_1409T, q212_1410, q212_1413, q212_1415, q212_1415N, q212_1416, q212_1419, q212_1421, q212_1424, q212_1425, q212_1426, q212_1428, q212_1431, q212_1431N, q212_1432, q212_1433, q212_1434, q212_1436, q212_1437, q212_1438, q212_1441, q212_1442, q212_1443, hw, hr, s109, ht, hk, no2, xl0, nc0, nI_1, nI_p2, nI_p3, cmp_0, eq_self, not_true_eq_false, not_false_eq_true, xaf_s, xaf_v, va_rf_s, xix_n, nI_clamp, xk1_i, xk1_a, xk1_u, xk1_n, xk1_l, xk1_d, true_and, and_true, ↓reduceIte, Nat.reduceAdd, xtup]
theorem L21 (h : STEPL G μ o b Ln f c 204 170 [.int (f (i + 1))]) (hb : xKd μ b = 0 ∧ G.2 b = some (Ln, f)) (hm : xKd μ (o + 446) = 8) (ho : xKd μ (o + 454) = 12 ∧ xLn μ (o + 454) = 1) (hi : i + 4 ≤ Ln) (hL : Ln ≤ 2048) : LAW G μ o b Ln f c i 1446 := by
  obtain ⟨μ1, μ2, k, v, hw, hr, ht, hv, e1, e2, hLS⟩ := h
  obtain ⟨hb, hg⟩ := hb
  obtain ⟨k12, n12⟩ := ho
  have kb1 := kd_eq hb e1
  have km1 := kd_eq hm e1
  have km2 := kd_eq hm e2
  have ko2 := kd_eq k12 e2
  have no2 := ln_eq n12 e2
  have hw : ∀ Q, Cn G 204 [.ref o, .int (f (i + 1)), .ref (o + 454)] μ Q = Q (.inl (some (.int k))) μ1 := hw
  have hr : ∀ Q, Cn G 170 [.ref (o + 446), .int (f (i + 1))] μ1 Q = Q (.inl (some (.long v))) μ2 := hr
  refine ⟨μ2, hLS, fun Q l5 l6 l7 l8 => ?_⟩
  by_cases hk : k = 0
  · have hv := hv hk
    refine ⟨some (.int k), some (.long v), none, l8, ?_⟩
    simp (disch := first | assumption | omega | decide) only [q212_1446, q212_1446N, q212_1447, q212_1447N, q212_1448, q212_1450, q212_1451, q212_1452, q212_1452T, q212_1453, q212_1453N, q212_1454, q212_1457, q212_1459, q212_1459N, q212_1460, q212_1460N, q212_1461, q212_1463, q212_1464, q212_1465, q212_1465T, q212_1466, q212_1469, q212_1471, q212_1471N, q212_1472, q212_1475, q212_1477, q212_1480, q212_1481, q212_1482, q212_1484, q212_1487, q212_1487N, q212_1488, q212_1489, q212_1490, q212_1492, q212_1493, q212_1496, q212_1497, q212_1498, hw, hr, s109, ht, hk, hv, no2, xl0, nc0, nI_1, nI_p2, nI_p3, cmp_0, eq_self, not_true_eq_false, not_false_eq_true, xaf_s, xaf_v, va_rf_s, xix_n, nI_clamp, xk1_i, xk1_a, xk1_u, xk1_n, xk1_l, xk1_d, true_and, and_true, ↓reduceIte, Nat.reduceAdd, xtup]
  · refine ⟨some (.int k), some (.long v), none, l8, ?_⟩
    simp (disch := first | assumption | omega | decide) only [q212_1446, q212_1446N, q212_1447, q212_1447N, q212_1448, q212_1450, q212_1451, q212_1452, q212_1452T, q212_1453, q212_1453N, q212_1454, q212_1457, q212_1459, q212_1459N, q212_1460, q212_1460N, q212_1461, q212_1463, q212_1464, q212_1465, q212_1465T, q212_1466, q212_1469, q212_1471, q212_1471N, q212_1472, q212_1475, q212_1477, q212_1480, q212_1481, q212_1482, q212_1484, q212_1487, q212_1487N, q212_1488, q212_1489, q212_1490, q212_1492, q212_1493, q212_1496, q212_1497, q212_1498, hw, hr, s109, ht, hk, no2, xl0, nc0, nI_1, nI_p2, nI_p3, cmp_0, eq_self, not_true_eq_false, not_false_eq_true, xaf_s, xaf_v, va_rf_s, xix_n, nI_clamp, xk1_i, xk1_a, xk1_u, xk1_n, xk1_l, xk1_d, true_and, and_true, ↓reduceIte, Nat.reduceAdd, xtup]
theorem L22 (h : STEP G μ o b Ln f c 205 171 [.int (f (i + 1))]) (hb : xKd μ b = 0 ∧ G.2 b = some (Ln, f)) (hm : xKd μ (o + 446) = 8) (ho : xKd μ (o + 454) = 12 ∧ xLn μ (o + 454) = 1) (hi : i + 4 ≤ Ln) (hL : Ln ≤ 2048) : LAW G μ o b Ln f c i 1501 := by
  obtain ⟨μ1, μ2, k, v, hw, hr, ht, hv, e1, e2, hLS⟩ := h
  obtain ⟨hb, hg⟩ := hb
  obtain ⟨k12, n12⟩ := ho
  have kb1 := kd_eq hb e1
  have km1 := kd_eq hm e1
  have km2 := kd_eq hm e2
  have ko2 := kd_eq k12 e2
  have no2 := ln_eq n12 e2
  have hw : ∀ Q, Cn G 205 [.ref o, .int (f (i + 1)), .ref (o + 454)] μ Q = Q (.inl (some (.int k))) μ1 := hw
  have hr : ∀ Q, Cn G 171 [.ref (o + 446), .int (f (i + 1))] μ1 Q = Q (.inl (some (.int v))) μ2 := hr
  refine ⟨μ2, hLS, fun Q l5 l6 l7 l8 => ?_⟩
  by_cases hk : k = 0
  · have hv := hv hk
    refine ⟨some (.int k), some (.int v), l7, l8, ?_⟩
    simp (disch := first | assumption | omega | decide) only [q212_1501, q212_1501N, q212_1502, q212_1502N, q212_1503, q212_1505, q212_1506, q212_1507, q212_1507T, q212_1508, q212_1508N, q212_1509, q212_1512, q212_1514, q212_1514N, q212_1515, q212_1515N, q212_1516, q212_1518, q212_1519, q212_1520, q212_1520T, q212_1521, q212_1524, q212_1526, q212_1526N, q212_1527, q212_1530, q212_1532, q212_1535, q212_1536, q212_1537, q212_1539, q212_1542, q212_1542N, q212_1543, q212_1544, q212_1545, q212_1547, q212_1548, q212_1549, q212_1552, q212_1553, q212_1554, hw, hr, s109, ht, hk, hv, no2, xl0, nc0, nI_1, nI_p2, nI_p3, cmp_0, eq_self, not_true_eq_false, not_false_eq_true, xaf_s, xaf_v, va_rf_s, xix_n, nI_clamp, xk1_i, xk1_a, xk1_u, xk1_n, xk1_l, xk1_d, true_and, and_true, ↓reduceIte, Nat.reduceAdd, xtup]
  · refine ⟨some (.int k), some (.int v), l7, l8, ?_⟩
    simp (disch := first | assumption | omega | decide) only [q212_1501, q212_1501N, q212_1502, q212_1502N, q212_1503, q212_1505, q212_1506, q212_1507, q212_1507T, q212_1508, q212_1508N, q212_1509, q212_1512, q212_1514, q212_1514N, q212_1515, q212_1515N, q212_1516, q212_1518, q212_1519, q212_1520, q212_1520T, q212_1521, q212_1524, q212_1526, q212_1526N, q212_1527, q212_1530, q212_1532, q212_1535, q212_1536, q212_1537, q212_1539, q212_1542, q212_1542N, q212_1543, q212_1544, q212_1545, q212_1547, q212_1548, q212_1549, q212_1552, q212_1553, q212_1554, hw, hr, s109, ht, hk, no2, xl0, nc0, nI_1, nI_p2, nI_p3, cmp_0, eq_self, not_true_eq_false, not_false_eq_true, xaf_s, xaf_v, va_rf_s, xix_n, nI_clamp, xk1_i, xk1_a, xk1_u, xk1_n, xk1_l, xk1_d, true_and, and_true, ↓reduceIte, Nat.reduceAdd, xtup]
theorem L23 (h : STEPL G μ o b Ln f c 206 173 [.int (f (i + 1)), .int (f (i + 2))]) (hb : xKd μ b = 0 ∧ G.2 b = some (Ln, f)) (hm : xKd μ (o + 446) = 8) (ho : xKd μ (o + 454) = 12 ∧ xLn μ (o + 454) = 1) (hi : i + 4 ≤ Ln) (hL : Ln ≤ 2048) : LAW G μ o b Ln f c i 1557 := by
  obtain ⟨μ1, μ2, k, v, hw, hr, ht, hv, e1, e2, hLS⟩ := h
  obtain ⟨hb, hg⟩ := hb
  obtain ⟨k12, n12⟩ := ho
  have kb1 := kd_eq hb e1
  have km1 := kd_eq hm e1
  have km2 := kd_eq hm e2
  have ko2 := kd_eq k12 e2
  have no2 := ln_eq n12 e2
  have hw : ∀ Q, Cn G 206 [.ref o, .int (f (i + 1)), .int (f (i + 2)), .ref (o + 454)] μ Q = Q (.inl (some (.int k))) μ1 := hw
  have hr : ∀ Q, Cn G 173 [.ref (o + 446), .int (f (i + 1)), .int (f (i + 2))] μ1 Q = Q (.inl (some (.long v))) μ2 := hr
  refine ⟨μ2, hLS, fun Q l5 l6 l7 l8 => ?_⟩
  by_cases hk : k = 0
  · have hv := hv hk
    refine ⟨some (.int k), some (.long v), none, l8, ?_⟩
    simp (disch := first | assumption | omega | decide) only [q212_1557, q212_1557N, q212_1558, q212_1558N, q212_1559, q212_1561, q212_1562, q212_1563, q212_1563T, q212_1564, q212_1564N, q212_1565, q212_1567, q212_1568, q212_1569, q212_1569T, q212_1570, q212_1570N, q212_1571, q212_1574, q212_1576, q212_1576N, q212_1577, q212_1577N, q212_1578, q212_1580, q212_1581, q212_1582, q212_1582T, q212_1583, q212_1583N, q212_1584, q212_1586, q212_1587, q212_1588, q212_1588T, q212_1589, q212_1592, q212_1594, q212_1594N, q212_1595, q212_1598, q212_1600, q212_1603, q212_1604, q212_1605, q212_1607, q212_1610, q212_1610N, q212_1611, q212_1612, q212_1613, q212_1615, q212_1616, q212_1619, q212_1620, q212_1621, hw, hr, s109, ht, hk, hv, no2, xl0, nc0, nI_1, nI_p2, nI_p3, cmp_0, eq_self, not_true_eq_false, not_false_eq_true, xaf_s, xaf_v, va_rf_s, xix_n, nI_clamp, xk1_i, xk1_a, xk1_u, xk1_n, xk1_l, xk1_d, true_and, and_true, ↓reduceIte, Nat.reduceAdd, xtup]
  · refine ⟨some (.int k), some (.long v), none, l8, ?_⟩
    simp (disch := first | assumption | omega | decide) only [q212_1557, q212_1557N, q212_1558, q212_1558N, q212_1559, q212_1561, q212_1562, q212_1563, q212_1563T, q212_1564, q212_1564N, q212_1565, q212_1567, q212_1568, q212_1569, q212_1569T, q212_1570, q212_1570N, q212_1571, q212_1574, q212_1576, q212_1576N, q212_1577, q212_1577N, q212_1578, q212_1580, q212_1581, q212_1582, q212_1582T, q212_1583, q212_1583N, q212_1584, q212_1586, q212_1587, q212_1588, q212_1588T, q212_1589, q212_1592, q212_1594, q212_1594N, q212_1595, q212_1598, q212_1600, q212_1603, q212_1604, q212_1605, q212_1607, q212_1610, q212_1610N, q212_1611, q212_1612, q212_1613, q212_1615, q212_1616, q212_1619, q212_1620, q212_1621, hw, hr, s109, ht, hk, no2, xl0, nc0, nI_1, nI_p2, nI_p3, cmp_0, eq_self, not_true_eq_false, not_false_eq_true, xaf_s, xaf_v, va_rf_s, xix_n, nI_clamp, xk1_i, xk1_a, xk1_u, xk1_n, xk1_l, xk1_d, true_and, and_true, ↓reduceIte, Nat.reduceAdd, xtup]
theorem L24 (h : STEP G μ o b Ln f c 207 175 [.int (f (i + 1)), .int (f (i + 2))]) (hb : xKd μ b = 0 ∧ G.2 b = some (Ln, f)) (hm : xKd μ (o + 446) = 8) (ho : xKd μ (o + 454) = 12 ∧ xLn μ (o + 454) = 1) (hi : i + 4 ≤ Ln) (hL : Ln ≤ 2048) : LAW G μ o b Ln f c i 1624 := by
  obtain ⟨μ1, μ2, k, v, hw, hr, ht, hv, e1, e2, hLS⟩ := h
  obtain ⟨hb, hg⟩ := hb
  obtain ⟨k12, n12⟩ := ho
  have kb1 := kd_eq hb e1
  have km1 := kd_eq hm e1
  have km2 := kd_eq hm e2
  have ko2 := kd_eq k12 e2
  have no2 := ln_eq n12 e2
  have hw : ∀ Q, Cn G 207 [.ref o, .int (f (i + 1)), .int (f (i + 2)), .ref (o + 454)] μ Q = Q (.inl (some (.int k))) μ1 := hw
  have hr : ∀ Q, Cn G 175 [.ref (o + 446), .int (f (i + 1)), .int (f (i + 2))] μ1 Q = Q (.inl (some (.int v))) μ2 := hr
  refine ⟨μ2, hLS, fun Q l5 l6 l7 l8 => ?_⟩
  by_cases hk : k = 0
  · have hv := hv hk
    refine ⟨some (.int k), some (.int v), l7, l8, ?_⟩
    simp (disch := first | assumption | omega | decide) only [q212_1624, q212_1624N, q212_1625, q212_1625N, q212_1626, q212_1628, q212_1629, q212_1630, q212_1630T, q212_1631, q212_1631N, q212_1632, q212_1634, q212_1635, q212_1636, q212_1636T, q212_1637, q212_1637N, q212_1638, q212_1641, q212_1643, q212_1643N, q212_1644, q212_1644N, q212_1645, q212_1647, q212_1648, q212_1649, q212_1649T, q212_1650, q212_1650N, q212_1651, q212_1653, q212_1654, q212_1655, q212_1655T, q212_1656, q212_1659, q212_1661, q212_1661N, q212_1662, q212_1665, q212_1667, q212_1670, q212_1671, q212_1672, q212_1674, q212_1677, q212_1677N, q212_1678, q212_1679, q212_1680, q212_1682, q212_1683, q212_1684, q212_1687, q212_1688, q212_1689, hw, hr, s109, ht, hk, hv, no2, xl0, nc0, nI_1, nI_p2, nI_p3, cmp_0, eq_self, not_true_eq_false, not_false_eq_true, xaf_s, xaf_v, va_rf_s, xix_n, nI_clamp, xk1_i, xk1_a, xk1_u, xk1_n, xk1_l, xk1_d, true_and, and_true, ↓reduceIte, Nat.reduceAdd, xtup]
  · refine ⟨some (.int k), some (.int v), l7, l8, ?_⟩
    simp (disch := first | assumption | omega | decide) only [q212_1624, q212_1624N, q212_1625, q212_1625N, q212_1626, q212_1628, q212_1629, q212_1630, q212_1630T, q212_1631, q212_1631N, q212_1632, q212_1634, q212_1635, q212_1636, q212_1636T, q212_1637, q212_1637N, q212_1638, q212_1641, q212_1643, q212_1643N, q212_1644, q212_1644N, q212_1645, q212_1647, q212_1648, q212_1649, q212_1649T, q212_1650, q212_1650N, q212_1651, q212_1653, q212_1654, q212_1655, q212_1655T, q212_1656, q212_1659, q212_1661, q212_1661N, q212_1662, q212_1665, q212_1667, q212_1670, q212_1671, q212_1672, q212_1674, q212_1677, q212_1677N, q212_1678, q212_1679, q212_1680, q212_1682, q212_1683, q212_1684, q212_1687, q212_1688, q212_1689, hw, hr, s109, ht, hk, no2, xl0, nc0, nI_1, nI_p2, nI_p3, cmp_0, eq_self, not_true_eq_false, not_false_eq_true, xaf_s, xaf_v, va_rf_s, xix_n, nI_clamp, xk1_i, xk1_a, xk1_u, xk1_n, xk1_l, xk1_d, true_and, and_true, ↓reduceIte, Nat.reduceAdd, xtup]
theorem L25 (h : STEP G μ o b Ln f c 208 177 [.int (f (i + 1))]) (hb : xKd μ b = 0 ∧ G.2 b = some (Ln, f)) (hm : xKd μ (o + 446) = 8) (ho : xKd μ (o + 454) = 12 ∧ xLn μ (o + 454) = 1) (hi : i + 4 ≤ Ln) (hL : Ln ≤ 2048) : LAW G μ o b Ln f c i 1692 := by
  obtain ⟨μ1, μ2, k, v, hw, hr, ht, hv, e1, e2, hLS⟩ := h
  obtain ⟨hb, hg⟩ := hb
  obtain ⟨k12, n12⟩ := ho
  have kb1 := kd_eq hb e1
  have km1 := kd_eq hm e1
  have km2 := kd_eq hm e2
  have ko2 := kd_eq k12 e2
  have no2 := ln_eq n12 e2
  have hw : ∀ Q, Cn G 208 [.ref o, .int (f (i + 1)), .ref (o + 454)] μ Q = Q (.inl (some (.int k))) μ1 := hw
  have hr : ∀ Q, Cn G 177 [.ref (o + 446), .int (f (i + 1))] μ1 Q = Q (.inl (some (.int v))) μ2 := hr
  refine ⟨μ2, hLS, fun Q l5 l6 l7 l8 => ?_⟩
  by_cases hk : k = 0
  · have hv := hv hk
    refine ⟨some (.int k), some (.int v), l7, l8, ?_⟩
    simp (disch := first | assumption | omega | decide) only [q212_1692, q212_1692N, q212_1693, q212_1693N, q212_1694, q212_1696, q212_1697, q212_1698, q212_1698T, q212_1699, q212_1699N, q212_1700, q212_1703, q212_1705, q212_1705N, q212_1706, q212_1706N, q212_1707, q212_1709, q212_1710, q212_1711, q212_1711T, q212_1712, q212_1715, q212_1717, q212_1717N, q212_1718, q212_1721, q212_1723, q212_1726, q212_1727, q212_1728, q212_1730, q212_1733, q212_1733N, q212_1734, q212_1735, q212_1736, q212_1738, q212_1739, q212_1740, q212_1743, q212_1744, q212_1745, hw, hr, s109, ht, hk, hv, no2, xl0, nc0, nI_1, nI_p2, nI_p3, cmp_0, eq_self, not_true_eq_false, not_false_eq_true, xaf_s, xaf_v, va_rf_s, xix_n, nI_clamp, xk1_i, xk1_a, xk1_u, xk1_n, xk1_l, xk1_d, true_and, and_true, ↓reduceIte, Nat.reduceAdd, xtup]
  · refine ⟨some (.int k), some (.int v), l7, l8, ?_⟩
    simp (disch := first | assumption | omega | decide) only [q212_1692, q212_1692N, q212_1693, q212_1693N, q212_1694, q212_1696, q212_1697, q212_1698, q212_1698T, q212_1699, q212_1699N, q212_1700, q212_1703, q212_1705, q212_1705N, q212_1706, q212_1706N, q212_1707, q212_1709, q212_1710, q212_1711, q212_1711T, q212_1712, q212_1715, q212_1717, q212_1717N, q212_1718, q212_1721, q212_1723, q212_1726, q212_1727, q212_1728, q212_1730, q212_1733, q212_1733N, q212_1734, q212_1735, q212_1736, q212_1738, q212_1739, q212_1740, q212_1743, q212_1744, q212_1745, hw, hr, s109, ht, hk, no2, xl0, nc0, nI_1, nI_p2, nI_p3, cmp_0, eq_self, not_true_eq_false, not_false_eq_true, xaf_s, xaf_v, va_rf_s, xix_n, nI_clamp, xk1_i, xk1_a, xk1_u, xk1_n, xk1_l, xk1_d, true_and, and_true, ↓reduceIte, Nat.reduceAdd, xtup]
end CAS
