/-! WHAT IS ASKED OF BOTH: the readings, wrapper by wrapper -/
theorem xb_l {ρ τ : Type} {fy : Option ρ} {r : ρ} {z : Int32} (gv : ρ → Int32 ⊕ String) (kx : ρ → String → Option τ) (kf : ρ → Int32 → Option τ) (h : fy = some r) (hz : gv r = .inl z) : xb fy gv kx kf = kf r z := by
  unfold xb
  rw [h, Option.bind_some, hz]
  rfl
theorem xb_r {ρ τ : Type} {fy : Option ρ} {r : ρ} {E : String} (gv : ρ → Int32 ⊕ String) (kx : ρ → String → Option τ) (kf : ρ → Int32 → Option τ) (h : fy = some r) (hz : gv r = .inr E) : xb fy gv kx kf = kx r E := by
  unfold xb
  rw [h, Option.bind_some, hz]
  rfl
theorem bL {β : Type} (v : Int32) (f : Int32 → Option β) (g : String → Option β) : ((some (Sum.inl v : Int32 ⊕ String)).bind fun r => r.elim f g) = f v := rfl
theorem bR {β : Type} (E : String) (f : Int32 → Option β) (g : String → Option β) : ((some (Sum.inr E : Int32 ⊕ String)).bind fun r => r.elim f g) = g E := rfl
theorem i2c_nn {v : Nat} (hv : v < 65536) : ((nn v).toUInt32 % 65536).toInt32 = nn v := by
  apply Int32.toInt_inj.mp
  rw [nn_toInt (by omega)]
  have h1 : (nn v).toUInt32.toNat = v := by
    show (BitVec.ofNat 32 v).toNat = v
    rw [BitVec.toNat_ofNat, Nat.mod_eq_of_lt (by omega)]
  have h2 : ((nn v).toUInt32 % 65536).toNat = v := by
    rw [UInt32.toNat_mod, h1]
    show v % 65536 = v
    omega
  show (BitVec.toInt ((nn v).toUInt32 % 65536).toBitVec) = v
  rw [BitVec.toInt_eq_toNat_of_lt]
  · show (((nn v).toUInt32 % 65536).toNat : Int) = v
    rw [h2]
  · show 2 * ((nn v).toUInt32 % 65536).toNat < 2 ^ 32
    rw [h2]
    omega
theorem out_lt {m : Nat} (hm : m < 1000000) {x : Int32} (h : outR (m + 1) x) : x < 0 ∨ nn m < x := by
  rcases h with h | ⟨_, h⟩
  · exact Or.inl h
  · refine Or.inr ?_
    have h1 := Int32.le_iff_toInt_le.mp h
    rw [nn_toInt (by omega)] at h1
    rw [Int32.lt_iff_toInt_lt, nn_toInt (by omega)]
    omega
section ASK
variable {F S L P M C T A O W R D Q mC : Nat → Int32} {n en l l' c : Int32} {b : Bk} {w : List Nat}
theorem ckL_in (hw : Wf b) (hc : CB F S n b) {i : Nat} (hi : i < b.length) : f_X8_checkLine n (nn i) = some (.inl 0) := by
  unfold f_X8_checkLine
  rw [s_hasLine_in hw hc hi, Option.bind_some, if_pos (by first | decide | exact d_a | exact d_b)]
theorem ckL_out (hw : Wf b) (hc : CB F S n b) {x : Int32} (h : outR b.length x) : f_X8_checkLine n x = some (.inr "java/lang/IndexOutOfBoundsException") := by
  unfold f_X8_checkLine
  rw [s_hasLine_out hw hc h, Option.bind_some, if_neg (by first | decide | exact d_a | exact d_b)]
theorem ckP_in (hw : Wf b) (hc : CB F S n b) {i p : Nat} (hp : p < sz b i) : f_X8_checkPlace S n (nn i) (nn p) = some (.inl 0) := by
  unfold f_X8_checkPlace
  rw [s_place_in hw hc hp, Option.bind_some, if_pos (by first | decide | exact d_a | exact d_b)]
theorem ckP_outL (hw : Wf b) (hc : CB F S n b) {x y : Int32} (h : outR b.length x) : f_X8_checkPlace S n x y = some (.inr "java/lang/IndexOutOfBoundsException") := by
  unfold f_X8_checkPlace
  rw [s_place_outL hw hc h, Option.bind_some, if_neg (by first | decide | exact d_a | exact d_b)]
theorem ckP_outP (hw : Wf b) (hc : CB F S n b) {i : Nat} {y : Int32} (hi : i < b.length) (h : outR (sz b i) y) : f_X8_checkPlace S n (nn i) y = some (.inr "java/lang/IndexOutOfBoundsException") := by
  unfold f_X8_checkPlace
  rw [s_place_outP hw hc hi h, Option.bind_some, if_neg (by first | decide | exact d_a | exact d_b)]
end ASK

