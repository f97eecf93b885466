/-! THE LAW'S LINES AND WORDS -/
section LNS
variable {F S L P M C : Nat → Int32} {n en l hs : Int32} {b : Bk} {w v : List Nat} {i j p q k : Nat}
theorem getD_mem {u : List Nat} {Q : Nat → Prop} (h : ∀ k, k < u.length → Q (u.getD k 0)) : ∀ x ∈ u, Q x := fun x hx => by
  obtain ⟨k, hk, rfl⟩ := List.getElem_of_mem hx
  have := h k hk
  rw [List.getD_eq_getElem?_getD, List.getElem?_eq_getElem hk] at this
  exact this
theorem Wf.lt_ln (hw : Wf b) (hi : i < b.length) : LT (ln b i) := ⟨(hw.2 i hi).2.1, getD_mem (hw.2 i hi).2.2⟩
theorem Wf.lt_sfx (hw : Wf b) (i p : Nat) : LT (sfx b i p) := by
  by_cases h : i < b.length
  · exact (hw.lt_ln h).drop p
  · rw [sfx_nil (by rw [sz_out h]; omega)]
    exact LT.nil
theorem sfx0 (b : Bk) (i : Nat) : sfx b i 0 = ln b i := List.drop_zero
theorem l_line_L (hw : Wf b) (hc : CB F S n b) (hi : i < b.length) (kk : List Int32 → Int32 → Option (List Int32)) : ∀ (fuel k : Nat), k ≤ sz b i → sz b i < fuel + k → f_L_line_L13 (nn (sz b i)) (nn i) F S n fuel (tx ((ln b i).take k)) (nn k) kk = kk (tx (ln b i)) (nn (sz b i))
  | 0, k, h1, h3 => by omega
  | fuel + 1, k, h1, h3 => by
    have h10 := hw.sz_le i
    have a1 := hw.lt_ln hi
    rw [f_L_line_L13]
    by_cases q : k < sz b i
    · have b1 := hw.lt_le i k
      have e : (ln b i).take (k + 1) = (ln b i).take k ++ [lt b i k] := by
        rw [List.take_succ]
        unfold lt
        rw [List.getD_eq_getElem?_getD, List.getElem?_eq_getElem (show k < (ln b i).length from q)]
        rfl
      have hl : ((ln b i).take k).length = k := by rw [List.length_take]; unfold sz at q; omega
      rw [if_neg (by rw [nn_le (by omega) (by omega)]; omega), show ([] : List Int32) = tx [] from rfl, tx_apS (by rw [hl]; simp only [List.length_nil]; omega), Option.bind_some, List.nil_append, x_letter hw hc q, bL, tx_apC (by omega) (by rw [hl]; omega), Option.bind_some, ← e, tx_toS (a1.take (k + 1)) (by rw [List.length_take]; unfold sz at q; omega), Option.bind_some, nn_s1, l_line_L hw hc hi kk fuel (k + 1) (by omega) (by omega)]
    · have hk : k = sz b i := by omega
      subst hk
      rw [if_pos (by rw [nn_le (by omega) (by omega)]; omega), show (ln b i).take (sz b i) = ln b i from List.take_length]
theorem l_line (hw : Wf b) (hc : CB F S n b) (hi : i < b.length) : f_L_line F S n (nn i) = some (tx (ln b i)) := by
  have h10 := hw.sz_le i
  unfold f_L_line
  rw [x_size hw hc hi, bL]
  exact l_line_L hw hc hi (fun x _ => some x) 12 0 (Nat.zero_le _) (by omega)
theorem ush3 (x : Int32) : ∃ a, a < 536870912 ∧ ush x 3 = nn a := by
  have h1 : (x.toUInt32 >>> ((3 : Int32).toUInt32 &&& Int32.toUInt32 31)).toNat = x.toUInt32.toNat / 8 := by
    rw [UInt32.toNat_shiftRight, show ((3 : Int32).toUInt32 &&& Int32.toUInt32 31).toNat % 32 = 3 by decide, Nat.shiftRight_eq_div_pow]
  have h2 : x.toUInt32.toNat < 4294967296 := x.toUInt32.toNat_lt
  refine ⟨x.toUInt32.toNat / 8, by omega, ?_⟩
  apply Int32.toInt_inj.mp
  rw [nn_toInt (by omega)]
  unfold ush
  show (BitVec.toInt (x.toUInt32 >>> ((3 : Int32).toUInt32 &&& Int32.toUInt32 31)).toBitVec) = _
  rw [BitVec.toInt_eq_toNat_of_lt]
  · show ((x.toUInt32 >>> ((3 : Int32).toUInt32 &&& Int32.toUInt32 31)).toNat : Int) = _
    rw [h1]
  · show 2 * (x.toUInt32 >>> ((3 : Int32).toUInt32 &&& Int32.toUInt32 31)).toNat < 2 ^ 32
    rw [h1]
    omega
theorem rmo_nn {a m : Nat} (ha : a < 1000000000) (hm : 0 < m) (hm2 : m < 1000) : rmo (nn a) (nn m) = some (nn (a % m)) := by
  have h1 : a / m * m ≤ a := Nat.div_mul_le_self a m
  have h2 : m * (a / m) + a % m = a := Nat.div_add_mod a m
  rw [Nat.mul_comm] at h2
  unfold rmo
  rw [if_neg (by rw [nl0, nn_eq (by omega) (by omega)]; omega), nn_div (by omega) (by omega), nn_mul, nn_sub h1, show a - a / m * m = a % m by omega]
theorem l_cell {N : Nat} (hN : N ≤ 1000) (hp : p < 1000) : ∃ r, f_L_cell S N (nn p) = some r := by
  unfold f_L_cell
  by_cases h : N ≤ p
  · rw [if_pos (show Int32.ofNat N ≤ nn p by rw [show Int32.ofNat N = nn N from rfl, nn_le (by omega) (by omega)]; exact h)]
    exact ⟨_, rfl⟩
  · rw [if_neg (show ¬ Int32.ofNat N ≤ nn p by rw [show Int32.ofNat N = nn N from rfl, nn_le (by omega) (by omega)]; exact h), ldi_nn (by omega) (by omega)]
    exact ⟨_, rfl⟩
theorem l_some {N m : Nat} (S : Nat → Int32) (hN : N ≤ 1000) (hp : p < 1000) (hm : 0 < m) (hm2 : m < 1000) : ∃ r, r < m ∧ f_L_some S N (nn p) (nn m) = some (nn r) := by
  obtain ⟨r, e⟩ := l_cell (S := S) hN hp
  obtain ⟨a, ha, e2⟩ := ush3 r
  refine ⟨a % m, Nat.mod_lt _ hm, ?_⟩
  unfold f_L_some
  rw [e, Option.bind_some, e2, rmo_nn (by omega) hm hm2, Option.bind_some]
theorem abyz {r : Nat} (h : r < 4) : ldi (fun j => (([97, 98, 121, 122] : List Int32)).getD j 0) (([97, 98, 121, 122] : List Int32)).length (nn r) = some (nn ([97, 98, 121, 122].getD r 0)) := tx_at (u := [97, 98, 121, 122]) h (by decide)
theorem l_word_L {N m t : Nat} (S : Nat → Int32) (hN : N ≤ 1000) (hp : p < 900) (hm : m ≤ 10) (ht : 0 < t) (ht4 : t ≤ 4) (kk : List Int32 → Int32 → Option (List Int32)) : ∀ (fuel k : Nat) (u : List Nat), u.length = k → LT u → k ≤ m → m < fuel + k → ∃ w, LT w ∧ w.length = m ∧ f_L_word_L28 (nn m) (nn t) S N (nn p) fuel (tx u) (nn k) kk = kk (tx w) (nn m)
  | 0, k, u, h0, hu, h1, h3 => by omega
  | fuel + 1, k, u, h0, hu, h1, h3 => by
    rw [f_L_word_L28]
    by_cases q : k < m
    · obtain ⟨r, hr, e⟩ := l_some (p := p + 2 + k) S hN (by omega) ht (by omega)
      have hv : 97 ≤ [97, 98, 121, 122].getD r 0 ∧ [97, 98, 121, 122].getD r 0 ≤ 122 := by
        rcases (show r = 0 ∨ r = 1 ∨ r = 2 ∨ r = 3 by omega) with rfl | rfl | rfl | rfl <;> decide
      obtain ⟨w, w1, w2, w3⟩ := l_word_L S hN hp hm ht ht4 kk fuel (k + 1) (u ++ [[97, 98, 121, 122].getD r 0]) (by rw [List.length_append, h0]; rfl) (hu.snoc (by omega) hv.1 hv.2) (by omega) (by omega)
      refine ⟨w, w1, w2, ?_⟩
      have e0 : apS ([] : List Int32) (tx u) = some (tx u) := by
        rw [show ([] : List Int32) = tx [] from rfl, tx_apS (by rw [h0]; simp only [List.length_nil]; omega), List.nil_append]
      rw [if_neg (by rw [nn_le (by omega) (by omega)]; omega), e0, Option.bind_some, show nn p + 2 = nn (p + 2) from nn_add p 2, nn_add, e, Option.bind_some, abyz (by omega), Option.bind_some, tx_apC (by omega) (by omega), Option.bind_some, tx_toS (hu.snoc (by omega) hv.1 hv.2) (by rw [List.length_append]; simp only [List.length_singleton]; omega), Option.bind_some, nn_s1, w3]
    · have hk : k = m := by omega
      refine ⟨u, hu, by omega, ?_⟩
      rw [if_pos (by rw [nn_le (by omega) (by omega)]; omega), hk]
theorem l_word {N m : Nat} (S : Nat → Int32) (hN : N ≤ 1000) (hp : p < 900) (hm0 : 0 < m) (hm : m ≤ 10) : ∃ w, LT w ∧ 1 ≤ w.length ∧ w.length ≤ m ∧ f_L_word S N (nn p) (nn m) = some (tx w) := by
  obtain ⟨r, hr, e⟩ := l_some (p := p) S hN (by omega) hm0 (by omega)
  obtain ⟨t, ht, e2⟩ := l_some (p := p + 1) (m := 4) S hN (by omega) (by omega) (by omega)
  obtain ⟨w, w1, w2, w3⟩ := l_word_L (m := 1 + r) (t := 1 + t) S hN hp (by omega) (by omega) (by omega) (fun x _ => some x) 12 0 [] rfl LT.nil (Nat.zero_le _) (by omega)
  refine ⟨w, w1, by omega, by omega, ?_⟩
  unfold f_L_word
  rw [e, Option.bind_some, nn_s1, show (4 : Int32) = nn 4 from rfl, e2, Option.bind_some, show (1 : Int32) = nn 1 from rfl, nn_add, nn_add]
  exact w3
theorem l_type_L {u : List Nat} (hu : LT u) (hl : w.length + u.length ≤ 60) (kk : Int32 → (Nat → Int32) → Int32 → Option ((Nat → Int32) × Int32)) : ∀ (fuel k : Nat) (C : Nat → Int32) (l : Int32), k ≤ u.length → u.length < fuel + k → TXx C l (w ++ u.take k) → ∃ C' l', f_L_type_L2 (tx u) fuel (nn k) C l kk = kk (nn u.length) C' l' ∧ TXx C' l' (w ++ u)
  | 0, k, C, l, h1, h3, ht => by omega
  | fuel + 1, k, C, l, h1, h3, ht => by
    have a1 := hu.1
    rw [f_L_type_L2]
    simp only [tx_len, nI_nn]
    by_cases q : k < u.length
    · have b1 := hu.at k
      have e : u.take (k + 1) = u.take k ++ [u.getD k 0] := by
        rw [List.take_succ, List.getD_eq_getElem?_getD, List.getElem?_eq_getElem q]
        rfl
      obtain ⟨C1, l1, g1, g2⟩ := x_append ht (by rw [List.length_append, List.length_take]; omega) (x := u.getD k 0) (by omega)
      rw [List.append_assoc, ← e] at g2
      obtain ⟨C2, l2, g3, g4⟩ := l_type_L hu hl kk fuel (k + 1) C1 l1 (by omega) (by omega) g2
      refine ⟨C2, l2, ?_, g4⟩
      rw [if_neg (by rw [nn_le (by omega) (by omega)]; omega), tx_at q (by omega), Option.bind_some, g1, Option.bind_some]
      show f_L_type_L2 (tx u) fuel (nn k + 1) C1 l1 kk = _
      rw [nn_s1, g3]
    · have hk : k = u.length := by omega
      refine ⟨C, l, ?_, ?_⟩
      · rw [if_pos (by rw [nn_le (by omega) (by omega)]; omega), hk]
      · rw [hk, List.take_length] at ht
        exact ht
theorem l_type {u : List Nat} (hu : LT u) (ht : TXx C l w) (hl : w.length + u.length ≤ 60) : ∃ C' l', f_L_type C l (tx u) = some (C', l') ∧ TXx C' l' (w ++ u) := by
  obtain ⟨C', l', g1, g2⟩ := l_type_L hu hl (fun _ q1 q2 => some (q1, q2)) 12 0 C l (Nat.zero_le _) (by have := hu.1; omega) (by rw [List.take_zero, List.append_nil]; exact ht)
  exact ⟨C', l', g1, g2⟩
end LNS
