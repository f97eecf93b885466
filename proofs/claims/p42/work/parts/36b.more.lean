theorem mx_leR {f : Nat → Nat} {c : Nat} : ∀ (m k : Nat), (∀ x, k ≤ x → x < k + m → f x ≤ c) → mx f k m ≤ c
  | 0, k, _ => Nat.zero_le _
  | m + 1, k, h => Nat.max_le.mpr ⟨h k (Nat.le_refl _) (by omega), mx_leR m (k + 1) (fun x h1 h2 => h x (by omega) (by omega))⟩
theorem le_mx {f : Nat → Nat} : ∀ (m k x : Nat), k ≤ x → x < k + m → f x ≤ mx f k m
  | 0, k, x, h1, h2 => by omega
  | m + 1, k, x, h1, h2 => by
    rw [mx]
    by_cases h : x = k
    · rw [h]; exact Nat.le_max_left _ _
    · exact Nat.le_trans (le_mx m (k + 1) x (by omega) (by omega)) (Nat.le_max_right _ _)
