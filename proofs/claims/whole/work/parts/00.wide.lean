/-! doubles are read by the library's laws: the round is over the whole of it -/
theorem dbl_one : FP.Core.val64 FP.dconst1 = .fin false (2 ^ 52) (-52) := FP.Core.val64_dconst1
