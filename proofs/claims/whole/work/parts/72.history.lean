/-! WHAT CAN BE UNDONE: the ring and the rows -/
theorem ch_ex {x : Int32} (h : ch x) : ∃ m, m < 65536 ∧ x = nn m := by
  refine ⟨x.toUInt32.toUInt16.toNat, x.toUInt32.toUInt16.toNat_lt, ?_⟩
  have h' : x.toUInt32.toUInt16.toUInt32.toInt32 = x := h
  generalize x.toUInt32.toUInt16 = y at h'
  rw [← h']
  apply Int32.toBitVec_inj.mp
  show y.toUInt32.toBitVec = BitVec.ofNat 32 y.toNat
  apply BitVec.eq_of_toNat_eq
  rw [BitVec.toNat_ofNat]
  have := y.toNat_lt
  show y.toUInt32.toNat = _
  rw [UInt16.toNat_toUInt32]
  omega
theorem fits_ch {x : Int32} (h : ch x) : fits .char (.int x) = true := by
  obtain ⟨m, hm, rfl⟩ := ch_ex h
  unfold fits
  have e1 : (0 : Int32) ≤ nn m := by rw [nl0, nn_le (by omega) (by omega)]; omega
  have e2 : nn m ≤ (65535 : Int32) := by rw [show (65535 : Int32) = nn 65535 from rfl, nn_le (by omega) (by omega)]; omega
  simp [e1, e2]
section HIST
variable {F S F0 S0 A : Nat → Int32} {n : Int32} {b h0 : Bk} {H : List Bk}
theorem s_copyFrom (hc : CB F S n b) (F0 S0 : Nat → Int32) (hb : Wf b) : ∃ F' S', f_X0_copyFrom F0 S0 F S n = some (F', S', n) ∧ CB F' S' n b := by
  have h8 := hb.1
  refine ⟨va_cpy F F0 0 0 80, va_cpy S S0 0 0 8, ?_, hc.1, fun i hi => ?_, fun i hi p hp => ?_, fun k hk => ?_⟩
  · unfold f_X0_copyFrom cpc cpi
    rw [if_pos (fun i hi => fits_ch (hc.2.2.2 i hi))]
    rfl
  · have e : va_cpy S S0 0 0 8 i = S i := by
      unfold va_cpy
      rw [if_pos (by omega), show 0 + (i - 0) = i by omega]
    rw [e]
    exact hc.2.1 i hi
  · have h10 := hb.sz_le i
    have e : va_cpy F F0 0 0 80 (10 * i + p) = F (10 * i + p) := by
      unfold va_cpy
      rw [if_pos (by omega), show 0 + (10 * i + p - 0) = 10 * i + p by omega]
    rw [e]
    exact hc.2.2.1 i hi p hp
  · have e : va_cpy F F0 0 0 80 k = F k := by
      unfold va_cpy
      rw [if_pos (by omega), show 0 + (k - 0) = k by omega]
    rw [e]
    exact hc.2.2.2 k hk
def HC (HL HZ : Nat → Nat → Int32) (HN : Nat → Int32) (old size : Int32) (H : List Bk) : Prop := size = nn H.length ∧ H.length ≤ 8 ∧ ∃ o, o < 8 ∧ old = nn o ∧ ∀ (j : Nat) (h : Bk), H[j]? = some h → Wf h ∧ CB (HL ((o + j) % 8)) (HZ ((o + j) % 8)) (HN ((o + j) % 8)) h
def HR (A : Nat → Int32) (c : Int32) (H : List Bk) : Prop := c = nn H.length ∧ ∀ (j : Nat) (h : Bk), H[j]? = some h → RB A (89 * (j + 1)) h
def nxt (H : List Bk) (h0 : Bk) : List Bk := (if H.length < 8 then H else H.drop 1) ++ [h0]
theorem hix_nn {a : Nat} (ha : a < 8) : hix (nn a) = some a := by
  unfold hix
  rw [nn_clamp (by omega), if_neg]
  rintro (q | q)
  · exact nn_nlt0 (a := a) (by omega) q
  · omega
theorem ring {o k : Nat} (h : o + k < 1000) : (nn o + nn k) - (nn o + nn k) / 8 * 8 = nn ((o + k) % 8) := by
  rw [nl8, nn_add, nn_div (by omega) (by omega), nn_mul, nn_sub (by omega)]
  congr 1
  omega
theorem vu_eq {α : Type} (f : Nat → α) (k : Nat) (v : α) : va_up f k v k = v := by simp [va_up]
theorem vu_ne {α : Type} {f : Nat → α} {k j : Nat} {v : α} (h : j ≠ k) : va_up f k v j = f j := by simp [va_up, h]
theorem s_keep_H {HL HZ : Nat → Nat → Int32} {HN : Nat → Int32} {old size : Int32} (hh : HC HL HZ HN old size H) (hb : Wf h0) (hc : CB F S n h0) : ∃ HL' HZ' HN' old' size', f_X4_keep HL HZ HN old size F S n = some (HL', HZ', HN', old', size') ∧ HC HL' HZ' HN' old' size' (nxt H h0) := by
  obtain ⟨rfl, h8, o, ho, rfl, hj⟩ := hh
  unfold f_X4_keep
  rw [ring (by omega), hix_nn (Nat.mod_lt _ (by decide)), Option.bind_some]
  obtain ⟨F', S', e, hc'⟩ := s_copyFrom hc (HL ((o + H.length) % 8)) (HZ ((o + H.length) % 8)) hb
  rw [e, Option.bind_some]
  unfold nxt
  by_cases hk : H.length < 8
  · rw [if_neg (by rw [nl8, nn_le (by omega) (by omega)]; omega), if_pos hk]
    refine ⟨_, _, _, _, _, rfl, by rw [List.length_append]; exact nn_add _ 1, by rw [List.length_append]; show H.length + 1 ≤ 8; omega, o, ho, rfl, fun j h hjh => ?_⟩
    by_cases hl : j < H.length
    · rw [List.getElem?_append_left hl] at hjh
      rw [vu_ne (by omega), vu_ne (by omega), vu_ne (by omega)]
      exact hj j h hjh
    · have hjl := (List.getElem?_eq_some_iff.mp hjh).1
      rw [List.length_append] at hjl
      have hjl' : j < H.length + 1 := hjl
      have : j = H.length := by omega
      subst this
      rw [List.getElem?_append_right (Nat.le_refl _), Nat.sub_self] at hjh
      cases hjh
      rw [vu_eq, vu_eq, vu_eq]
      exact ⟨hb, hc'⟩
  · have h8' : H.length = 8 := by omega
    rw [if_pos (by rw [nl8, nn_le (by omega) (by omega)]; omega), if_neg hk]
    have hl : (H.drop 1 ++ [h0]).length = 8 := by rw [List.length_append, List.length_drop]; show H.length - 1 + 1 = 8; omega
    refine ⟨_, _, _, _, _, rfl, by rw [hl, h8'], by omega, (o + 1) % 8, Nat.mod_lt _ (by decide), ring (k := 1) (by omega), fun j h hjh => ?_⟩
    have hjl := (List.getElem?_eq_some_iff.mp hjh).1
    rw [hl] at hjl
    by_cases h7 : j < 7
    · rw [List.getElem?_append_left (by rw [List.length_drop]; omega), List.getElem?_drop] at hjh
      rw [vu_ne (by omega), vu_ne (by omega), vu_ne (by omega)]
      have := hj (1 + j) h hjh
      rw [show (o + (1 + j)) % 8 = ((o + 1) % 8 + j) % 8 by omega] at this
      exact this
    · have : j = 7 := by omega
      subst this
      rw [List.getElem?_append_right (by rw [List.length_drop]; omega), List.length_drop, h8'] at hjh
      cases hjh
      rw [show ((o + 1) % 8 + 7) % 8 = (o + H.length) % 8 by omega, vu_eq, vu_eq, vu_eq]
      exact ⟨hb, hc'⟩
theorem s_take_H {HL HZ : Nat → Nat → Int32} {HN : Nat → Int32} {old size : Int32} (hh : HC HL HZ HN old size H) (h1 : 1 ≤ H.length) (F0 S0 : Nat → Int32) (n0 : Int32) : ∃ h F' S' n', H[H.length - 1]? = some h ∧ Wf h ∧ f_X4_takeLatest HL HZ HN old size F0 S0 n0 = some (nn (H.length - 1), F', S', n') ∧ CB F' S' n' h ∧ HC HL HZ HN old (nn (H.length - 1)) (H.take (H.length - 1)) := by
  obtain ⟨rfl, h8, o, ho, rfl, hj⟩ := hh
  have hl : H[H.length - 1]? = some H[H.length - 1] := List.getElem?_eq_getElem (by omega)
  obtain ⟨w1, w2⟩ := hj _ _ hl
  obtain ⟨F', S', e, hc'⟩ := s_copyFrom w2 F0 S0 w1
  refine ⟨_, F', S', _, hl, w1, ?_, hc', ?_, ?_, o, ho, rfl, fun j h hjh => ?_⟩
  · unfold f_X4_takeLatest
    rw [if_neg (by rw [nl0, nn_le (by omega) (by omega)]; omega), show nn H.length - 1 = nn (H.length - 1) from nn_sub (b := 1) h1, ring (by omega), hix_nn (Nat.mod_lt _ (by decide)), Option.bind_some, e]
    rfl
  · rw [List.length_take, Nat.min_eq_left (by omega)]
  · rw [List.length_take]; omega
  · have hjl := (List.getElem?_eq_some_iff.mp hjh).1
    rw [List.length_take] at hjl
    rw [List.getElem?_take, if_pos (by omega)] at hjh
    exact hj j h hjh
theorem HC.none {HL HZ : Nat → Nat → Int32} {HN : Nat → Int32} {old size : Int32} (hh : HC HL HZ HN old size H) : HC HL HZ HN old (nn 0) [] := by
  obtain ⟨_, _, o, ho, e, _⟩ := hh
  exact ⟨rfl, Nat.zero_le _, o, ho, e, fun j h hjh => by simp at hjh⟩
theorem RB.rows {A A' : Nat → Int32} {p q : Nat} (hw : Wf b) (hr : RB A (89 * p) b) (h : ∀ j, j < 89 → A' (89 * q + j) = A (89 * p + j)) : RB A' (89 * q) b := RB.copied hw hr h
theorem r_begin (A : Nat → Int32) : ∃ A', f_X9_begins A = some A' ∧ (∀ j, j < 89 → A' (89 * 10 + j) = A (89 * 0 + j)) ∧ ∀ j, ¬ (89 * 10 ≤ j ∧ j < 89 * 10 + 89) → A' j = A j := by
  obtain ⟨A', e, g1, g2⟩ := r_copies A (p := 0) (q := 10) (by omega) (by omega) (by omega)
  refine ⟨A', ?_, g1, g2⟩
  unfold f_X9_begins
  rw [show f_X9_copies A 0 10 = some A' from e]
  rfl
theorem r_ends_no (A : Nat → Int32) (c r p2 : Int32) : ∃ A', f_X9_ends A c r 0 p2 = some (0, A', p2, c) ∧ (∀ j, j < 89 → A' (89 * 0 + j) = A (89 * 10 + j)) ∧ ∀ j, ¬ (89 * 0 ≤ j ∧ j < 89 * 0 + 89) → A' j = A j := by
  obtain ⟨A', e, g1, g2⟩ := r_copies A (p := 10) (q := 0) (by omega) (by omega) (by omega)
  refine ⟨A', ?_, g1, g2⟩
  unfold f_X9_ends f_X9_ends_J10
  rw [if_pos rfl, if_neg (fun z => z rfl), show f_X9_copies A 10 0 = some A' from e]
  rfl
theorem r_shift_L (K : Int32 → (Nat → Int32) → Option (Int32 × (Nat → Int32) × Int32 × Int32)) : ∀ (fuel x : Nat) (B : Nat → Int32), 1 ≤ x → x ≤ 8 → 8 < fuel + x → (∀ q j, 1 ≤ q → q < x → j < 89 → B (89 * q + j) = A (89 * (q + 1) + j)) → (∀ z, ¬ (89 ≤ z ∧ z < 89 * x) → B z = A z) → ∃ B', f_X9_ends_L37 fuel (nn x) B K = K (nn 8) B' ∧ (∀ q j, 1 ≤ q → q < 8 → j < 89 → B' (89 * q + j) = A (89 * (q + 1) + j)) ∧ (∀ z, ¬ (89 ≤ z ∧ z < 89 * 8) → B' z = A z) := by
  intro fuel
  induction fuel with
  | zero => intro x B h0 h1 h2; omega
  | succ fuel ih =>
    intro x B h0 h1 h2 h3 h4
    rw [f_X9_ends_L37]
    by_cases hx : 8 ≤ x
    · rw [if_pos (by rw [nl8, nn_le (by omega) (by omega)]; exact hx)]
      have : x = 8 := by omega
      subst this
      exact ⟨B, rfl, h3, h4⟩
    · rw [if_neg (by rw [nl8, nn_le (by omega) (by omega)]; exact hx), show nn x + 1 = nn (x + 1) from nn_add x 1]
      obtain ⟨B', e, g1, g2⟩ := r_copies B (p := x + 1) (q := x) (by omega) (by omega) (by omega)
      rw [e, Option.bind_some]
      refine ih (x + 1) B' (by omega) (by omega) (by omega) (fun q j q1 q2 hj => ?_) (fun z hz => ?_)
      · by_cases y : q = x
        · rw [y, g1 j hj]
          exact h4 _ (by omega)
        · rw [g2 _ (by omega)]
          exact h3 q j q1 (by omega) hj
      · rw [g2 _ (by omega)]
        exact h4 z (by omega)
theorem r_ends_ok {c : Int32} (hh : HR A c H) (hH : H.length ≤ 8) (hw : ∀ (j : Nat) (h : Bk), H[j]? = some h → Wf h) (hb : Wf h0) (hr0 : RB A (89 * 10) h0) (r p2 : Int32) : ∃ A', f_X9_ends A c r 1 p2 = some (r, A', 0, nn (nxt H h0).length) ∧ HR A' (nn (nxt H h0).length) (nxt H h0) ∧ (∀ z, z < 89 → A' z = A z) ∧ (∀ z, 89 * 9 ≤ z → z < 89 * 10 → A' z = A z) := by
  obtain ⟨rfl, hj⟩ := hh
  unfold f_X9_ends
  rw [if_neg (by decide)]
  unfold f_X9_ends_J10
  rw [if_pos (by decide)]
  unfold nxt
  by_cases hk : H.length < 8
  · rw [if_pos (by rw [nl8, nn_eq (by omega) (by omega)]; omega), if_pos hk]
    unfold f_X9_ends_J67
    obtain ⟨A', e, g1, g2⟩ := r_copies A (p := 10) (q := H.length + 1) (by omega) (by omega) (by omega)
    rw [show nn H.length + 1 = nn (H.length + 1) from nn_add _ 1, show (10 : Int32) = nn 10 from rfl, e, Option.bind_some]
    have hl : (H ++ [h0]).length = H.length + 1 := by rw [List.length_append]; rfl
    rw [hl]
    refine ⟨A', rfl, ⟨by rw [hl], fun j h hjh => ?_⟩, fun z hz => g2 z (by omega), fun z z1 z2 => g2 z (by omega)⟩
    have hjl := (List.getElem?_eq_some_iff.mp hjh).1
    rw [hl] at hjl
    by_cases hl2 : j < H.length
    · rw [List.getElem?_append_left hl2] at hjh
      exact (hj j h hjh).other (hw j h hjh) (q := H.length + 1) (by omega) g2
    · have : j = H.length := by omega
      subst this
      rw [List.getElem?_append_right (Nat.le_refl _), Nat.sub_self] at hjh
      cases hjh
      exact hr0.copied hb g1
  · have h8' : H.length = 8 := by omega
    rw [if_neg (by rw [h8']; exact fun z => z rfl), if_neg hk]
    obtain ⟨B, e, g1, g2⟩ := r_shift_L (A := A) (fun _ q => f_X9_ends_J67 q 0 (nn H.length - 1) r) 1000 1 A (by omega) (by omega) (by omega) (fun q j q1 q2 => by omega) (fun z _ => rfl)
    have e' : f_X9_ends_L37 1000 1 A (fun x3_37_7 q_t_allF_37_8 => f_X9_ends_J67 q_t_allF_37_8 0 (nn H.length - 1) r) = _ := e
    rw [e']
    unfold f_X9_ends_J67
    obtain ⟨A', e2, f1, f2⟩ := r_copies B (p := 10) (q := 8) (by omega) (by omega) (by omega)
    rw [show nn H.length - 1 = nn (H.length - 1) from nn_sub (b := 1) (by omega), show nn (H.length - 1) + 1 = nn (H.length - 1 + 1) from nn_add _ 1, show H.length - 1 + 1 = 8 by omega, show (10 : Int32) = nn 10 from rfl, e2, Option.bind_some]
    have hl : (H.drop 1 ++ [h0]).length = 8 := by rw [List.length_append, List.length_drop]; show H.length - 1 + 1 = 8; omega
    rw [hl]
    refine ⟨A', rfl, ⟨by rw [hl], fun j h hjh => ?_⟩, fun z hz => by rw [f2 z (by omega), g2 z (by omega)], fun z z1 z2 => by rw [f2 z (by omega), g2 z (by omega)]⟩
    have hjl := (List.getElem?_eq_some_iff.mp hjh).1
    rw [hl] at hjl
    by_cases h7 : j < 7
    · rw [List.getElem?_append_left (by rw [List.length_drop]; omega), List.getElem?_drop] at hjh
      have := hj (1 + j) h hjh
      refine this.copied (p := 1 + j + 1) (q := j + 1) (hw _ _ hjh) (fun z hz => ?_)
      rw [f2 _ (by omega), g1 (j + 1) z (by omega) (by omega) hz, show 89 * (j + 1 + 1) + z = 89 * (1 + j + 1) + z by omega]
    · have : j = 7 := by omega
      subst this
      rw [List.getElem?_append_right (by rw [List.length_drop]; omega), List.length_drop, h8'] at hjh
      cases hjh
      have hB : RB B (89 * 10) h0 := hr0.copied hb (fun z hz => g2 _ (by omega))
      exact hB.copied hb f1
end HIST
