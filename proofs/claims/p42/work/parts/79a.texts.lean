/-! THE LAW'S TEXTS: letters as naturals; alike, compare, turned -/
def tx (u : List Nat) : List Int32 := u.map nn
def LT (u : List Nat) : Prop := u.length ≤ 10 ∧ ∀ x ∈ u, 97 ≤ x ∧ x ≤ 122
theorem nI_nn (k : Nat) : nI k = nn k := rfl
theorem tx_len (u : List Nat) : (tx u).length = u.length := List.length_map _
theorem tx_getD (u : List Nat) (a : Nat) : (tx u).getD a 0 = nn (u.getD a 0) := by
  unfold tx
  rw [List.getD_eq_getElem?_getD, List.getD_eq_getElem?_getD, List.getElem?_map]
  cases u[a]? <;> rfl
theorem LT.at {u : List Nat} (h : LT u) (a : Nat) : u.getD a 0 ≤ 122 := by
  rw [List.getD_eq_getElem?_getD]
  cases e : u[a]? with
  | none => exact Nat.zero_le _
  | some x => exact (h.2 x (List.mem_of_getElem? e)).2
theorem LT.at_ge {u : List Nat} (h : LT u) {a : Nat} (ha : a < u.length) : 97 ≤ u.getD a 0 := by
  rw [List.getD_eq_getElem?_getD, List.getElem?_eq_getElem ha]
  exact (h.2 _ (List.getElem_mem ha)).1
theorem LT.drop {u : List Nat} (h : LT u) (k : Nat) : LT (u.drop k) := ⟨by rw [List.length_drop]; have := h.1; omega, fun x hx => h.2 x (List.mem_of_mem_drop hx)⟩
theorem LT.take {u : List Nat} (h : LT u) (k : Nat) : LT (u.take k) := ⟨by rw [List.length_take]; have := h.1; omega, fun x hx => h.2 x (List.mem_of_mem_take hx)⟩
theorem LT.rev {u : List Nat} (h : LT u) : LT u.reverse := ⟨by rw [List.length_reverse]; exact h.1, fun x hx => h.2 x (List.mem_reverse.mp hx)⟩
theorem LT.nil : LT [] := ⟨Nat.zero_le _, fun x hx => by simp at hx⟩
theorem LT.snoc {u : List Nat} (h : LT u) {x : Nat} (hl : u.length < 10) (h1 : 97 ≤ x) (h2 : x ≤ 122) : LT (u ++ [x]) := ⟨by rw [List.length_append]; simp only [List.length_singleton]; omega, fun y hy => by
  rcases List.mem_append.mp hy with q | q
  · exact h.2 y q
  · rw [List.mem_singleton.mp q]; exact ⟨h1, h2⟩⟩
theorem tx_at {u : List Nat} {a : Nat} (ha : a < u.length) (hl : u.length ≤ 1000) : ldi (fun j => (tx u).getD j 0) u.length (nn a) = some (nn (u.getD a 0)) := by
  rw [ldi_nn (by omega) ha]
  show some ((tx u).getD a 0) = _
  rw [tx_getD]
theorem tx_slc (u : List Nat) (a c : Nat) : slc (tx u) a c = tx ((u.drop a).take (c - a)) := by
  unfold slc tx
  rw [List.map_take, List.map_drop]
theorem tx_sub1 {u : List Nat} {a : Nat} (ha : a < u.length) (hl : u.length ≤ 1000) : sub1 (tx u) (nn a) = some (tx (u.drop a)) := by
  unfold sub1
  rw [nn_clamp (by omega), tx_len, if_neg, tx_slc, List.take_of_length_le (by rw [List.length_drop]; omega)]
  rintro (q | q)
  · exact nn_nlt0 (a := a) (by omega) q
  · omega
theorem tx_sub2 {u : List Nat} {a c : Nat} (ha : a < c) (hc : c ≤ u.length) (hl : u.length ≤ 1000) : sub2 (tx u) (nn a) (nn c) = some (tx ((u.drop a).take (c - a))) := by
  unfold sub2
  rw [nn_clamp (by omega), nn_clamp (by omega), tx_len, if_neg, tx_slc]
  rintro (q | q | q)
  · exact nn_nlt0 (a := a) (by omega) q
  · omega
  · omega
theorem tx_apS {u v : List Nat} (h : u.length + v.length ≤ 16) : apS (tx u) (tx v) = some (tx (u ++ v)) := by
  unfold apS
  rw [tx_len, tx_len, if_pos h]
  unfold tx
  rw [List.map_append]
theorem nn_s1 (a : Nat) : nn a + 1 = nn (a + 1) := nn_add a 1
theorem nn_pos {x : Nat} (h : x < 1000) : 0 ≤ nn x := by
  rw [nl0, nn_le (by omega) (by omega)]; omega
theorem nn_128 {x : Nat} (h : x < 128) : 0 ≤ nn x ∧ nn x < 128 := ⟨nn_pos (by omega), by rw [show (128 : Int32) = nn 128 from rfl, nn_lt (by omega) (by omega)]; exact h⟩
theorem tx_apC {u : List Nat} {x : Nat} (hx : x < 128) (h : u.length + 1 ≤ 16) : apC (tx u) (nn x) = some (tx (u ++ [x])) := by
  unfold apC
  rw [tx_len, if_pos ⟨nn_128 hx, h⟩]
  unfold tx
  rw [List.map_append]
  rfl
theorem tx_toS {u : List Nat} (h : LT u) (h0 : 0 < u.length) : toS (tx u) = some (tx u) := by
  unfold toS
  have g : ∀ x ∈ tx u, 0 ≤ x ∧ x < 128 := by
    intro x hx
    obtain ⟨y, hy, rfl⟩ := List.mem_map.mp hx
    have := h.2 y hy
    exact nn_128 (by omega)
  rw [tx_len, if_pos ⟨⟨h0, h.1⟩, g⟩]
theorem dropc {u : List Nat} {k : Nat} (h : k < u.length) : u.drop k = u.getD k 0 :: u.drop (k + 1) := by
  rw [List.drop_eq_getElem_cons h, List.getD_eq_getElem?_getD, List.getElem?_eq_getElem h]
  rfl
theorem l_alike_L {u v : List Nat} (hu : LT u) (hv : LT v) (kk : Int32 → Option Int32) : ∀ (fuel k : Nat), k ≤ u.length → k ≤ v.length → u.length < fuel + k → f_L_alike_L2 (tx u) (tx v) fuel (nn k) kk = kk (nn (k + cpl (u.drop k) (v.drop k)))
  | 0, k, h1, h2, h3 => by omega
  | fuel + 1, k, h1, h2, h3 => by
    have a1 := hu.1
    have a2 := hv.1
    rw [f_L_alike_L2]
    simp only [tx_len, nI_nn]
    by_cases q : k < u.length
    · rw [if_neg (by rw [nn_le (by omega) (by omega)]; omega)]
      by_cases q2 : k < v.length
      · rw [if_neg (by rw [nn_le (by omega) (by omega)]; omega), tx_at q (by omega), Option.bind_some, tx_at q2 (by omega), Option.bind_some]
        have b1 := hu.at k
        have b2 := hv.at k
        rw [dropc q, dropc q2, cpl_cons]
        by_cases e : u.getD k 0 = v.getD k 0
        · rw [if_pos e, if_neg (by rw [e]; exact fun z => z rfl), nn_s1, l_alike_L hu hv kk fuel (k + 1) (by omega) (by omega) (by omega), show k + 1 + cpl (u.drop (k + 1)) (v.drop (k + 1)) = k + (cpl (u.drop (k + 1)) (v.drop (k + 1)) + 1) by omega]
        · rw [if_neg e, if_pos (by rw [nn_eq (by omega) (by omega)]; exact e)]
          rfl
      · rw [if_pos (by rw [nn_le (by omega) (by omega)]; omega), List.drop_eq_nil_of_le (show v.length ≤ k by omega), cpl_nil']
        rfl
    · rw [if_pos (by rw [nn_le (by omega) (by omega)]; omega), List.drop_eq_nil_of_le (show u.length ≤ k by omega), cpl_nil]
      rfl
theorem l_alike {u v : List Nat} (hu : LT u) (hv : LT v) : f_L_alike (tx u) (tx v) = some (nn (cpl u v)) := by
  unfold f_L_alike
  rw [nl0, l_alike_L hu hv _ 12 0 (Nat.zero_le _) (Nat.zero_le _) (by have := hu.1; omega), List.drop_zero, List.drop_zero, Nat.zero_add]
def cmz (u v : List Nat) : Int := if u.length ≤ cpl u v ∨ v.length ≤ cpl u v then (u.length : Int) - v.length else (u.getD (cpl u v) 0 : Int) - v.getD (cpl u v) 0
theorem cmz_cons (x : Nat) (u v : List Nat) : cmz (x :: u) (x :: v) = cmz u v := by
  unfold cmz
  rw [cpl_cons, if_pos rfl, List.length_cons, List.length_cons]
  by_cases h : u.length ≤ cpl u v ∨ v.length ≤ cpl u v
  · rw [if_pos h, if_pos (by omega)]
    omega
  · rw [if_neg h, if_neg (by omega)]
    rfl
theorem cmz_spec : ∀ u v : List Nat, (cmz u v = 0 ↔ u = v) ∧ (cmz u v < 0 ↔ llt u v = true)
  | [], [] => ⟨⟨fun _ => rfl, fun _ => rfl⟩, ⟨fun h => absurd h (by decide), fun h => absurd h (by decide)⟩⟩
  | [], y :: v => by
    have e : cmz [] (y :: v) = -((v.length : Int) + 1) := by
      simp only [cmz, cpl_nil, List.length_nil, List.length_cons, Nat.le_refl, true_or, if_true]
      omega
    rw [e]
    refine ⟨⟨fun h => absurd h (by omega), fun h => by simp at h⟩, ⟨fun _ => rfl, fun _ => by omega⟩⟩
  | x :: u, [] => by
    have e : cmz (x :: u) [] = (u.length : Int) + 1 := by
      simp only [cmz, cpl_nil', List.length_nil, List.length_cons, Nat.le_refl, or_true, if_true]
      omega
    rw [e]
    refine ⟨⟨fun h => absurd h (by omega), fun h => by simp at h⟩, ⟨fun h => absurd h (by omega), fun h => absurd h (by simp [llt])⟩⟩
  | x :: u, y :: v => by
    by_cases q : x = y
    · subst q
      rw [cmz_cons, llt_cons, if_pos rfl]
      have := cmz_spec u v
      exact ⟨by rw [this.1]; simp, this.2⟩
    · have e : cmz (x :: u) (y :: v) = (x : Int) - y := by
        unfold cmz
        rw [cpl_cons, if_neg q, if_neg (by simp only [List.length_cons]; omega)]
        rfl
      rw [e, llt_cons, if_neg q]
      refine ⟨⟨fun h => absurd (show x = y by omega) q, fun h => ?_⟩, ?_⟩
      · have := (List.cons.inj h).1
        omega
      · rw [decide_eq_true_iff]
        omega
theorem nn_sub_toInt {a c : Nat} (ha : a < 1000) (hc : c < 1000) : (nn a - nn c).toInt = (a : Int) - c := by
  rw [Int32.toInt_sub, nn_toInt (by omega), nn_toInt (by omega)]
  exact Int.bmod_eq_of_le (by omega) (by omega)
theorem l_compare {u v : List Nat} (hu : LT u) (hv : LT v) : ∃ z, f_L_compare (tx u) (tx v) = some z ∧ z.toInt = cmz u v := by
  have a1 := hu.1
  have a2 := hv.1
  have a3 := cpl_le u v
  have b1 := hu.at (cpl u v)
  have b2 := hv.at (cpl u v)
  unfold f_L_compare cmz
  rw [l_alike hu hv, Option.bind_some]
  simp only [tx_len, nI_nn]
  by_cases h1 : u.length ≤ cpl u v
  · rw [if_pos (by rw [nn_le (by omega) (by omega)]; exact h1), if_pos (Or.inl h1)]
    exact ⟨_, rfl, nn_sub_toInt (by omega) (by omega)⟩
  · rw [if_neg (by rw [nn_le (by omega) (by omega)]; exact h1)]
    by_cases h2 : v.length ≤ cpl u v
    · rw [if_pos (by rw [nn_le (by omega) (by omega)]; exact h2), if_pos (Or.inr h2)]
      exact ⟨_, rfl, nn_sub_toInt (by omega) (by omega)⟩
    · rw [if_neg (by rw [nn_le (by omega) (by omega)]; exact h2), if_neg (by omega), tx_at (by omega) (by omega), Option.bind_some, tx_at (by omega) (by omega), Option.bind_some]
      exact ⟨_, rfl, nn_sub_toInt (by omega) (by omega)⟩
theorem z_zero {z : Int32} {k : Int} (h : z.toInt = k) : (z = 0) ↔ (k = 0) := by
  rw [← h, ← Int32.toInt_inj]
  exact Iff.rfl
theorem z_le {z : Int32} {k : Int} (h : z.toInt = k) : (0 ≤ z) ↔ (0 ≤ k) := by
  rw [← h, Int32.le_iff_toInt_le]
  exact Iff.rfl
theorem l_comp {u v : List Nat} (hu : LT u) (hv : LT v) : ∃ z, f_L_compare (tx u) (tx v) = some z ∧ (z = 0 ↔ u = v) ∧ (0 ≤ z ↔ ¬ llt u v = true) := by
  obtain ⟨z, e, h⟩ := l_compare hu hv
  have g := cmz_spec u v
  exact ⟨z, e, (z_zero h).trans g.1, (z_le h).trans (by rw [← g.2]; omega)⟩
theorem l_turned_L {u : List Nat} (hu : LT u) (kk : List Int32 → Int32 → Option (List Int32)) : ∀ (fuel k : Nat), k ≤ u.length → u.length < fuel + k → f_L_turned_L5 (tx u) fuel (tx (u.take k).reverse) (nn k) kk = kk (tx u.reverse) (nn u.length)
  | 0, k, h1, h3 => by omega
  | fuel + 1, k, h1, h3 => by
    have a1 := hu.1
    rw [f_L_turned_L5]
    simp only [tx_len, nI_nn]
    by_cases q : k < u.length
    · have b1 := hu.at k
      have b2 := hu.at_ge q
      have e : (u.take (k + 1)).reverse = [u.getD k 0] ++ (u.take k).reverse := by
        rw [List.take_succ, List.reverse_append, List.getD_eq_getElem?_getD, List.getElem?_eq_getElem q]
        rfl
      rw [if_neg (by rw [nn_le (by omega) (by omega)]; omega), tx_at q (by omega), Option.bind_some, show ([] : List Int32) = tx [] from rfl, tx_apC (by omega) (by simp), Option.bind_some, List.nil_append, tx_apS (by rw [List.length_reverse, List.length_take]; simp only [List.length_singleton]; omega), Option.bind_some, ← e, tx_toS (hu.take (k + 1)).rev (by rw [List.length_reverse, List.length_take]; omega), Option.bind_some, nn_s1, l_turned_L hu kk fuel (k + 1) (by omega) (by omega)]
    · have hk : k = u.length := by omega
      subst hk
      rw [if_pos (by rw [nn_le (by omega) (by omega)]; omega), List.take_length]
theorem l_turned {u : List Nat} (hu : LT u) : f_L_turned (tx u) = some (tx u.reverse) := by
  unfold f_L_turned
  have h := l_turned_L hu (fun x _ => some x) 12 0 (Nat.zero_le _) (by have := hu.1; omega)
  exact h
