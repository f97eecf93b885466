/-! HOW MANY BITS, HOW MANY LETTERS -/
theorem nat_and16 {a c y d : Nat} (ha : a < 16) (hc : c < 16) : (a + 16 * y) &&& (c + 16 * d) = (a &&& c) + 16 * (y &&& d) := by
  have h1 : ((a + 16 * y) &&& (c + 16 * d)) % 2 ^ 4 = ((a + 16 * y) % 2 ^ 4) &&& ((c + 16 * d) % 2 ^ 4) := Nat.and_mod_two_pow
  have h2 : ((a + 16 * y) &&& (c + 16 * d)) / 2 ^ 4 = ((a + 16 * y) / 2 ^ 4) &&& ((c + 16 * d) / 2 ^ 4) := Nat.and_div_two_pow
  rw [show (a + 16 * y) % 2 ^ 4 = a by omega, show (c + 16 * d) % 2 ^ 4 = c by omega] at h1
  rw [show (a + 16 * y) / 2 ^ 4 = y by omega, show (c + 16 * d) / 2 ^ 4 = d by omega] at h2
  omega
def mk16 (c : Nat) : Nat → Nat
  | 0 => 0
  | k + 1 => c + 16 * mk16 c k
def pc4 (a : Nat) : Nat := a % 2 + a / 2 % 2 + a / 4 % 2 + a / 8 % 2
def bs1 (k x : Nat) : Nat := x - ((x / 2) &&& mk16 5 k)
def bs2 (k s : Nat) : Nat := (s &&& mk16 3 k) + ((s / 4) &&& mk16 3 k)
theorem d1 : ∀ a : Fin 16, ∀ r : Fin 2, (a.val / 2 + 8 * r.val) &&& 5 = (a.val / 2) &&& 5 := by decide
theorem d2 : ∀ a : Fin 16, ∀ r : Fin 4, (a.val / 4 + 4 * r.val) &&& 3 = (a.val / 4) &&& 3 := by decide
theorem d3 : ∀ a : Fin 16, (a.val / 2) &&& 5 ≤ a.val ∧ ((a.val - ((a.val / 2) &&& 5)) &&& 3) + (((a.val - ((a.val / 2) &&& 5)) / 4) &&& 3) = pc4 a.val := by decide
theorem bs1_go {a y : Nat} (k : Nat) (ha : a < 16) : bs1 (k + 1) (a + 16 * y) = (a - ((a / 2) &&& 5)) + 16 * bs1 k y := by
  unfold bs1
  rw [mk16, show (a + 16 * y) / 2 = (a / 2 + 8 * (y % 2)) + 16 * (y / 2) by omega, nat_and16 (by omega) (by omega)]
  have e : (a / 2 + 8 * (y % 2)) &&& 5 = (a / 2) &&& 5 := d1 ⟨a, ha⟩ ⟨y % 2, by omega⟩
  have g := (d3 ⟨a, ha⟩).1
  have g' : (a / 2) &&& 5 ≤ a := g
  have z : (y / 2) &&& mk16 5 k ≤ y := Nat.le_trans Nat.and_le_left (by omega)
  rw [e]
  omega
theorem bs2_go {a y : Nat} (k : Nat) (ha : a < 16) : bs2 (k + 1) (a + 16 * y) = ((a &&& 3) + ((a / 4) &&& 3)) + 16 * bs2 k y := by
  unfold bs2
  rw [mk16, show (a + 16 * y) / 4 = (a / 4 + 4 * (y % 4)) + 16 * (y / 4) by omega, nat_and16 (by omega) (by omega), nat_and16 (by omega) (by omega)]
  have e : (a / 4 + 4 * (y % 4)) &&& 3 = (a / 4) &&& 3 := d2 ⟨a, ha⟩ ⟨y % 4, by omega⟩
  rw [e]
  omega
theorem bs_go {a y : Nat} (k : Nat) (ha : a < 16) : bs2 (k + 1) (bs1 (k + 1) (a + 16 * y)) = pc4 a + 16 * bs2 k (bs1 k y) := by
  have g := (d3 ⟨a, ha⟩).2
  have g' : ((a - ((a / 2) &&& 5)) &&& 3) + (((a - ((a / 2) &&& 5)) / 4) &&& 3) = pc4 a := g
  rw [bs1_go k ha, bs2_go k (by omega), g']
theorem bs_0 : bs2 0 (bs1 0 0) = 0 := by decide
theorem pc4_le (a : Nat) : pc4 a ≤ 4 := by unfold pc4; omega
/-- how many bits -/
def pcn : Nat → Nat → Nat
  | 0, _ => 0
  | k + 1, v => v % 2 + pcn k (v / 2)
theorem pcn4 (k : Nat) {a y : Nat} (ha : a < 16) : pcn (k + 4) (a + 16 * y) = pc4 a + pcn k y := by
  show (a + 16 * y) % 2 + ((a + 16 * y) / 2 % 2 + ((a + 16 * y) / 2 / 2 % 2 + ((a + 16 * y) / 2 / 2 / 2 % 2 + pcn k ((a + 16 * y) / 2 / 2 / 2 / 2)))) = _
  rw [show (a + 16 * y) / 2 / 2 / 2 / 2 = y by omega]
  unfold pc4
  omega
theorem nib (v : Nat) : v = v % 16 + 16 * (v / 16) := by omega
theorem and_small {q c : Nat} (hq : q < 16) (h : c = 15 ∨ c = 0) : q &&& c = if c = 15 then q else 0 := by
  rcases h with rfl | rfl
  · rw [if_pos rfl]
    have := Nat.and_two_pow_sub_one_eq_mod q 4
    rw [show 2 ^ 4 - 1 = 15 by decide] at this
    rw [this]
    omega
  · rw [if_neg (by decide), Nat.and_zero]
theorem bits_nat {v : Nat} (hv : v < 67108864) (s t u : Nat) (hs : s = v - ((v / 2) &&& 1431655765)) (ht : t = (s &&& 858993459) + ((s / 4) &&& 858993459)) (hu : u = (t + t / 16) &&& 252645135) : (u + u / 256 + (u + u / 256) / 65536) &&& 63 = pcn 26 v ∧ s < 2147483648 ∧ t < 1000000000 ∧ u < 1000000000 := by
  have m5 : mk16 5 8 = 1431655765 := by decide
  have m3 : mk16 3 8 = 858993459 := by decide
  have hs1 : s = bs1 8 v := by rw [hs]; unfold bs1; rw [m5]
  have ht1 : t = bs2 8 (bs1 8 v) := by rw [ht, hs1]; unfold bs2; rw [m3]
  have e := ht1
  have w := show pcn 26 v = pcn 26 v from rfl
  conv at w => rhs; rw [nib v]
  rw [pcn4 22 (by omega)] at w
  conv at w => rhs; arg 2; rw [nib (v / 16)]
  rw [pcn4 18 (by omega)] at w
  conv at w => rhs; arg 2; arg 2; rw [nib (v / 16 / 16)]
  rw [pcn4 14 (by omega)] at w
  conv at w => rhs; arg 2; arg 2; arg 2; rw [nib (v / 16 / 16 / 16)]
  rw [pcn4 10 (by omega)] at w
  conv at w => rhs; arg 2; arg 2; arg 2; arg 2; rw [nib (v / 16 / 16 / 16 / 16)]
  rw [pcn4 6 (by omega)] at w
  conv at w => rhs; arg 2; arg 2; arg 2; arg 2; arg 2; rw [nib (v / 16 / 16 / 16 / 16 / 16)]
  rw [pcn4 2 (by omega)] at w
  have w2 : pcn 2 (v / 16 / 16 / 16 / 16 / 16 / 16) = pc4 (v / 16 / 16 / 16 / 16 / 16 / 16) := by
    have z : v / 16 / 16 / 16 / 16 / 16 / 16 < 4 := by omega
    generalize v / 16 / 16 / 16 / 16 / 16 / 16 = x at z
    show x % 2 + (x / 2 % 2 + 0) = pc4 x
    unfold pc4
    omega
  rw [w2] at w
  conv at e => rhs; rw [nib v]
  rw [bs_go 7 (by omega)] at e
  conv at e => rhs; arg 2; arg 2; rw [nib (v / 16)]
  rw [bs_go 6 (by omega)] at e
  conv at e => rhs; arg 2; arg 2; arg 2; arg 2; rw [nib (v / 16 / 16)]
  rw [bs_go 5 (by omega)] at e
  conv at e => rhs; arg 2; arg 2; arg 2; arg 2; arg 2; arg 2; rw [nib (v / 16 / 16 / 16)]
  rw [bs_go 4 (by omega)] at e
  conv at e => rhs; arg 2; arg 2; arg 2; arg 2; arg 2; arg 2; arg 2; arg 2; rw [nib (v / 16 / 16 / 16 / 16)]
  rw [bs_go 3 (by omega)] at e
  conv at e => rhs; arg 2; arg 2; arg 2; arg 2; arg 2; arg 2; arg 2; arg 2; arg 2; arg 2; rw [nib (v / 16 / 16 / 16 / 16 / 16)]
  rw [bs_go 2 (by omega)] at e
  conv at e => rhs; arg 2; arg 2; arg 2; arg 2; arg 2; arg 2; arg 2; arg 2; arg 2; arg 2; arg 2; arg 2; rw [nib (v / 16 / 16 / 16 / 16 / 16 / 16)]
  rw [bs_go 1 (by omega), show v / 16 / 16 / 16 / 16 / 16 / 16 / 16 = 0 + 16 * 0 by omega, bs_go 0 (by omega), bs_0] at e
  rw [show v / 16 / 16 / 16 / 16 / 16 / 16 % 16 = v / 16 / 16 / 16 / 16 / 16 / 16 by omega] at e
  have l0 := pc4_le (v % 16)
  have l1 := pc4_le (v / 16 % 16)
  have l2 := pc4_le (v / 16 / 16 % 16)
  have l3 := pc4_le (v / 16 / 16 / 16 % 16)
  have l4 := pc4_le (v / 16 / 16 / 16 / 16 % 16)
  have l5 := pc4_le (v / 16 / 16 / 16 / 16 / 16 % 16)
  have l6 := pc4_le (v / 16 / 16 / 16 / 16 / 16 / 16)
  have l7 : pc4 0 = 0 := by decide
  rw [l7] at e
  have hsle : s ≤ v := by rw [hs]; exact Nat.sub_le ..
  clear hs1 ht1 hs ht w2 m5 m3
  generalize pc4 (v % 16) = p0 at *
  generalize pc4 (v / 16 % 16) = p1 at *
  generalize pc4 (v / 16 / 16 % 16) = p2 at *
  generalize pc4 (v / 16 / 16 / 16 % 16) = p3 at *
  generalize pc4 (v / 16 / 16 / 16 / 16 % 16) = p4 at *
  generalize pc4 (v / 16 / 16 / 16 / 16 / 16 % 16) = p5 at *
  generalize pc4 (v / 16 / 16 / 16 / 16 / 16 / 16) = p6 at *
  have hu2 : u = (p0 + p1) + 256 * (p2 + p3) + 65536 * (p4 + p5) + 16777216 * p6 := by
    rw [hu, show t + t / 16 = (p0 + p1) + 16 * ((p1 + p2) + 16 * ((p2 + p3) + 16 * ((p3 + p4) + 16 * ((p4 + p5) + 16 * ((p5 + p6) + 16 * p6))))) by omega]
    rw [show 252645135 = 15 + 16 * (0 + 16 * (15 + 16 * (0 + 16 * (15 + 16 * (0 + 16 * 15))))) by decide]
    rw [nat_and16 (by omega) (by omega), nat_and16 (by omega) (by omega), nat_and16 (by omega) (by omega), nat_and16 (by omega) (by omega), nat_and16 (by omega) (by omega), nat_and16 (by omega) (by omega)]
    rw [and_small (by omega) (Or.inl rfl), and_small (by omega) (Or.inr rfl), and_small (by omega) (Or.inl rfl), and_small (by omega) (Or.inr rfl), and_small (by omega) (Or.inl rfl), and_small (by omega) (Or.inr rfl), and_small (by omega) (Or.inl rfl)]
    simp
    omega
  refine ⟨?_, by omega, by omega, by omega⟩
  have := Nat.and_two_pow_sub_one_eq_mod (u + u / 256 + (u + u / 256) / 65536) 6
  rw [show 2 ^ 6 - 1 = 63 by decide] at this
  rw [this, w]
  have x1 : u / 256 = (p2 + p3) + 256 * (p4 + p5) + 65536 * p6 := by omega
  rw [x1]
  have x2 : u + ((p2 + p3) + 256 * (p4 + p5) + 65536 * p6) = (p0 + p1 + p2 + p3) + 256 * (p2 + p3 + p4 + p5) + 65536 * (p4 + p5 + p6) + 16777216 * p6 := by omega
  rw [x2]
  have x3 : ((p0 + p1 + p2 + p3) + 256 * (p2 + p3 + p4 + p5) + 65536 * (p4 + p5 + p6) + 16777216 * p6) / 65536 = (p4 + p5 + p6) + 256 * p6 := by omega
  rw [x3]
  omega

