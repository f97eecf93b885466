/-! A SMALL QUOTIENT IS EQUAL TO ITSELF -/
theorem fcmp_all : ∀ a : Fin 81, ∀ c : Fin 9, (c : Nat) ≠ 0 → Op.cmpValue (FP.fcmp (FP.fdiv (FP.i2f (nn a)) (FP.i2f (nn c))) (FP.fdiv (FP.i2f (nn a)) (FP.i2f (nn c)))) .l = 0 := by decide +kernel
theorem dcmp_all : ∀ a : Fin 81, ∀ c : Fin 81, (c : Nat) ≠ 0 → Op.cmpValue (FP.dcmp (FP.ddiv (FP.i2d (nn a)) (FP.i2d (nn c))) (FP.ddiv (FP.i2d (nn a)) (FP.i2d (nn c)))) .l = 0 := by decide +kernel

