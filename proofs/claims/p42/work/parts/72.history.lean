/-! WHAT CAN BE UNDONE: the ring and the rows -/
theorem ch_ex {x : Int32} (h : ch x) : ∃ m, m < 65536 ∧ x = nn m := by
  refine ⟨x.toUInt32.toUInt16.toNat, x.toUInt32.toUInt16.toNat_lt, ?_⟩
  have h' : x.toUInt32.toUInt16.toUInt32.toInt32 = x := h
  generalize x.toUInt32.toUInt16 = y at h'
  rw [← h']
  apply Int32.toBitVec_inj.mp
  show y.toUInt32.toBitVec = BitVec.ofNat 32 y.toNat
  apply BitVec.eq_of_toNat_eq
  rw [BitVec.toNat_ofNat]
  have := y.toNat_lt
  show y.toUInt32.toNat = _
  rw [UInt16.toNat_toUInt32]
  omega
theorem fits_ch {x : Int32} (h : ch x) : fits .char (.int x) = true := by
  obtain ⟨m, hm, rfl⟩ := ch_ex h
  unfold fits
  have e1 : (0 : Int32) ≤ nn m := by rw [nl0, nn_le (by omega) (by omega)]; omega
  have e2 : nn m ≤ (65535 : Int32) := by rw [show (65535 : Int32) = nn 65535 from rfl, nn_le (by omega) (by omega)]; omega
  simp [e1, e2]
section HIST
variable {F S F0 S0 A : Nat → Int32} {n : Int32} {b h0 : Bk} {H : List Bk}
theorem s_copyFrom (hc : CB F S n b) (F0 S0 : Nat → Int32) (hb : Wf b) : ∃ F' S', f_X0_copyFrom F0 S0 F S n = some (F', S', n) ∧ CB F' S' n b := by
  have h8 := hb.1
  refine ⟨va_cpy F F0 0 0 80, va_cpy S S0 0 0 8, ?_, hc.1, fun i hi => ?_, fun i hi p hp => ?_, fun k hk => ?_⟩
  · unfold f_X0_copyFrom cpc cpi
    rw [if_pos (fun i hi => fits_ch (hc.2.2.2 i hi))]
    rfl
  · have e : va_cpy S S0 0 0 8 i = S i := by
      unfold va_cpy
      rw [if_pos (by omega), show 0 + (i - 0) = i by omega]
    rw [e]
    exact hc.2.1 i hi
  · have h10 := hb.sz_le i
    have e : va_cpy F F0 0 0 80 (10 * i + p) = F (10 * i + p) := by
      unfold va_cpy
      rw [if_pos (by omega), show 0 + (10 * i + p - 0) = 10 * i + p by omega]
    rw [e]
    exact hc.2.2.1 i hi p hp
  · have e : va_cpy F F0 0 0 80 k = F k := by
      unfold va_cpy
      rw [if_pos (by omega), show 0 + (k - 0) = k by omega]
    rw [e]
    exact hc.2.2.2 k hk
def HC (HL HZ : Nat → Nat → Int32) (HN : Nat → Int32) (old size : Int32) (H : List Bk) : Prop := size = nn H.length ∧ H.length ≤ 8 ∧ ∃ o, o < 8 ∧ old = nn o ∧ ∀ (j : Nat) (h : Bk), H[j]? = some h → Wf h ∧ CB (HL ((o + j) % 8)) (HZ ((o + j) % 8)) (HN ((o + j) % 8)) h
def HR (A : Nat → Int32) (c : Int32) (H : List Bk) : Prop := c = nn H.length ∧ ∀ (j : Nat) (h : Bk), H[j]? = some h → RB A (89 * (j + 1)) h
def nxt (H : List Bk) (h0 : Bk) : List Bk := (if H.length < 8 then H else H.drop 1) ++ [h0]
theorem hix_nn {a : Nat} (ha : a < 8) : hix (nn a) = some a := by
  unfold hix
  rw [nn_clamp (by omega), if_neg]
  rintro (q | q)
  · exact nn_nlt0 (a := a) (by omega) q
  · omega
theorem ring {o k : Nat} (h : o + k < 1000) : (nn o + nn k) - (nn o + nn k) / 8 * 8 = nn ((o + k) % 8) := by
  rw [nl8, nn_add, nn_div (by omega) (by omega), nn_mul, nn_sub (by omega)]
  congr 1
  omega
theorem vu_eq {α : Type} (f : Nat → α) (k : Nat) (v : α) : va_up f k v k = v := by simp [va_up]
theorem vu_ne {α : Type} {f : Nat → α} {k j : Nat} {v : α} (h : j ≠ k) : va_up f k v j = f j := by simp [va_up, h]
theorem s_keep_H {HL HZ : Nat → Nat → Int32} {HN : Nat → Int32} {old size : Int32} (hh : HC HL HZ HN old size H) (hb : Wf h0) (hc : CB F S n h0) : ∃ HL' HZ' HN' old' size', f_X4_keep HL HZ HN old size F S n = some (HL', HZ', HN', old', size') ∧ HC HL' HZ' HN' old' size' (nxt H h0) := by
  obtain ⟨rfl, h8, o, ho, rfl, hj⟩ := hh
  unfold f_X4_keep
  rw [ring (by omega), hix_nn (Nat.mod_lt _ (by decide)), Option.bind_some]
  obtain ⟨F', S', e, hc'⟩ := s_copyFrom hc (HL ((o + H.length) % 8)) (HZ ((o + H.length) % 8)) hb
  rw [e, Option.bind_some]
  unfold nxt
  by_cases hk : H.length < 8
  · rw [if_neg (by rw [nl8, nn_le (by omega) (by omega)]; omega), if_pos hk]
    refine ⟨_, _, _, _, _, rfl, by rw [List.length_append]; exact nn_add _ 1, by rw [List.length_append]; show H.length + 1 ≤ 8; omega, o, ho, rfl, fun j h hjh => ?_⟩
    by_cases hl : j < H.length
    · rw [List.getElem?_append_left hl] at hjh
      rw [vu_ne (by omega), vu_ne (by omega), vu_ne (by omega)]
      exact hj j h hjh
    · have hjl := (List.getElem?_eq_some_iff.mp hjh).1
      rw [List.length_append] at hjl
      have hjl' : j < H.length + 1 := hjl
      have : j = H.length := by omega
      subst this
      rw [List.getElem?_append_right (Nat.le_refl _), Nat.sub_self] at hjh
      cases hjh
      rw [vu_eq, vu_eq, vu_eq]
      exact ⟨hb, hc'⟩
  · have h8' : H.length = 8 := by omega
    rw [if_pos (by rw [nl8, nn_le (by omega) (by omega)]; omega), if_neg hk]
    have hl : (H.drop 1 ++ [h0]).length = 8 := by rw [List.length_append, List.length_drop]; show H.length - 1 + 1 = 8; omega
    refine ⟨_, _, _, _, _, rfl, by rw [hl, h8'], by omega, (o + 1) % 8, Nat.mod_lt _ (by decide), ring (k := 1) (by omega), fun j h hjh => ?_⟩
    have hjl := (List.getElem?_eq_some_iff.mp hjh).1
    rw [hl] at hjl
    by_cases h7 : j < 7
    · rw [List.getElem?_append_left (by rw [List.length_drop]; omega), List.getElem?_drop] at hjh
      rw [vu_ne (by omega), vu_ne (by omega), vu_ne (by omega)]
      have := hj (1 + j) h hjh
      rw [show (o + (1 + j)) % 8 = ((o + 1) % 8 + j) % 8 by omega] at this
      exact this
    · have : j = 7 := by omega
      subst this
      rw [List.getElem?_append_right (by rw [List.length_drop]; omega), List.length_drop, h8'] at hjh
      cases hjh
      rw [show ((o + 1) % 8 + 7) % 8 = (o + H.length) % 8 by omega, vu_eq, vu_eq, vu_eq]
      exact ⟨hb, hc'⟩
theorem HC.none {HL HZ : Nat → Nat → Int32} {HN : Nat → Int32} {old size : Int32} (hh : HC HL HZ HN old size H) : HC HL HZ HN old (nn 0) [] := by
  obtain ⟨_, _, o, ho, e, _⟩ := hh
  exact ⟨rfl, Nat.zero_le _, o, ho, e, fun j h hjh => by simp at hjh⟩
end HIST


