/-! ===== the words that texts need (no indexOf here) ===== -/
def dTI : List Cond := dTJ ++ [.static Lib.Math.max.name, .initialized "java/lang/Math", .code Lib.Math.max.name Lib.Math.max.code 2 (some .int), .static Lib.Math.min.name, .code Lib.Math.min.name Lib.Math.min.code 2 (some .int)]
theorem dTI_good : dTI.all goodWord = true := by decide +kernel
theorem dTI_j {w : Cond} (h : w ∈ dTJ) : w ∈ dTI := List.mem_append.mpr (Or.inl h)
