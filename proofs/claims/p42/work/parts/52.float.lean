/-! SMALL QUOTIENTS ARE NUMBERS -/
theorem fdv_all : ∀ a : Fin 81, ∀ c : Fin 9, (c : Nat) ≠ 0 → FP.fdiv (FP.i2f (nn a)) (FP.i2f (nn c)) &&& 0x7fffffff ≤ 0x7f800000 ∧ FP.f2d (FP.fdiv (FP.i2f (nn a)) (FP.i2f (nn c))) &&& 0x7fffffffffffffff ≤ 0x7ff0000000000000 := by decide +kernel
theorem ddv_all : ∀ a : Fin 81, ∀ c : Fin 81, (c : Nat) ≠ 0 → FP.ddiv (FP.i2d (nn a)) (FP.i2d (nn c)) &&& 0x7fffffffffffffff ≤ 0x7ff0000000000000 := by decide +kernel
theorem fdv_nn {a c : Nat} (ha : a ≤ 80) (hc : c ≤ 8) (h : c ≠ 0) : ∃ z y, fdv (FP.i2f (nn a)) (FP.i2f (nn c)) = some z ∧ f2dv z = some y := by
  have h1 := fdv_all ⟨a, by omega⟩ ⟨c, by omega⟩ h
  refine ⟨_, _, if_pos h1.1, if_pos h1.2⟩
theorem ddv_nn {a c : Nat} (ha : a ≤ 80) (hc : c ≤ 80) (h : c ≠ 0) : ∃ z, ddv (FP.i2d (nn a)) (FP.i2d (nn c)) = some z := ⟨_, if_pos (ddv_all ⟨a, by omega⟩ ⟨c, by omega⟩ h)⟩

