/-! SMALL QUOTIENTS ARE NUMBERS -/
theorem fdv_all : ∀ a : Fin 81, ∀ c : Fin 9, (c : Nat) ≠ 0 → FP.fdiv (FP.i2f (nn a)) (FP.i2f (nn c)) &&& 0x7fffffff ≤ 0x7f800000 := by decide +kernel
theorem ddv_all : ∀ a : Fin 81, ∀ c : Fin 81, (c : Nat) ≠ 0 → FP.ddiv (FP.i2d (nn a)) (FP.i2d (nn c)) &&& 0x7fffffffffffffff ≤ 0x7ff0000000000000 := by decide +kernel
