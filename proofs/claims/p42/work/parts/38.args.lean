/-! ARGUMENTS OF ANY SIZE; the reference's search of pieces that a line has alone -/
theorem arg {m : Nat} (hm : m < 1000000) (x : Int32) : (∃ i, i < m ∧ x = nn i) ∨ (x < nn 0 ∨ (¬ x < nn 0 ∧ nn m ≤ x)) := by
  have z : (nn 0).toInt = 0 := nn_toInt (by omega)
  by_cases h0 : x < nn 0
  · exact Or.inr (Or.inl h0)
  · by_cases h1 : nn m ≤ x
    · exact Or.inr (Or.inr ⟨h0, h1⟩)
    · have g0 : ¬ x.toInt < 0 := fun q => h0 (Int32.lt_iff_toInt_lt.mpr (by rw [z]; exact q))
      have g1 : ¬ (m : Int) ≤ x.toInt := fun q => h1 (Int32.le_iff_toInt_le.mpr (by rw [nn_toInt (by omega)]; exact q))
      refine Or.inl ⟨x.toInt.toNat, by omega, Int32.toInt_inj.mp ?_⟩
      rw [nn_toInt (by omega)]
      omega
def outR (m : Nat) (x : Int32) : Prop := x < nn 0 ∨ (¬ x < nn 0 ∧ nn m ≤ x)
theorem nn_ng {a : Nat} (ha : a < 2147483648) : (nn a = -nn 1) = False := by
  refine propext ⟨fun h => ?_, fun h => h.elim⟩
  have h2 := congrArg Int32.toInt h
  rw [nn_toInt ha] at h2
  have h3 : (-nn 1 : Int32).toInt = -1 := by decide
  omega
theorem nn_ng' {a : Nat} (ha : a < 2147483648) : ¬ nn a = -nn 1 := fun z => (nn_ng ha).mp z
section ARGS
variable {A F S : Nat → Int32} {n : Int32} {b : Bk}
theorem s_hasLine_out (hw : Wf b) (hc : CB F S n b) {x : Int32} (h : outR b.length x) : f_X0_hasLine n x = some (nn 0) := by
  unfold f_X0_hasLine
  rw [hc.1]
  rcases h with h | ⟨h0, h1⟩
  · rw [if_pos (show x < 0 from h)]
    rfl
  · rw [if_neg (show ¬ x < 0 from h0), if_pos h1]
    rfl
theorem s_hasLine_in (hw : Wf b) (hc : CB F S n b) {i : Nat} (h : i < b.length) : f_X0_hasLine n (nn i) = some (nn 1) := by
  have := hw.1
  rw [s_hasLine hw hc (by omega), if_pos h]
  rfl
theorem s_place_outL (hw : Wf b) (hc : CB F S n b) {x y : Int32} (h : outR b.length x) : f_X0_hasPlace S n x y = some (nn 0) := by
  unfold f_X0_hasPlace
  rw [hc.1]
  rcases h with h | ⟨h0, h1⟩
  · rw [if_pos (show x < 0 from h)]
    rfl
  · rw [if_neg (show ¬ x < 0 from h0), if_pos h1]
    rfl
theorem s_place_outP (hw : Wf b) (hc : CB F S n b) {i : Nat} {y : Int32} (hi : i < b.length) (h : outR (sz b i) y) : f_X0_hasPlace S n (nn i) y = some (nn 0) := by
  have h8 := hw.1
  unfold f_X0_hasPlace
  rw [hc.1]
  simp (disch := omega) only [nn_add, nn_mul, nn_sub, nn_le, nn_lt, nn_eq, nn_div, ldi_nn, ldc_nn, sti_nn, Option.bind_some, if_true, if_false, not_true_eq_false, not_false_eq_true, Nat.add_zero, nl0, nl1, nl2, nl3, nl4, nl5, nl6, nl7, nl8, nl9, nl10, nl11, nl12, nl13, nl14, nl15, nl16, nl17, nl18, nl19, nl20, nl21, nl22, nl23, nl24, nl25, nl26, nl27, nl28, nl29, nl30, nl31, nl32, nl33, nl34, nl35, nl36, nl37, nl38, nl39, nl40, nl41, nl42, nl43, nl44, nl45, nl46, nl47, nl48, nl49, nl50, nl51, nl52, nl53, nl54, nl55, nl56, nl57, nl58, nl59, nl60, nl61, nl62, nl63, nl64, nl65, nl66, nl67, nl68, nl69, nl70, nl71, nl72, nl73, nl74, nl75, nl76, nl77, nl78, nl79, nl80, nl81, nl82, nl83, nl84, nl85, nl86, nl87, nl88, nl89, nl90, nl91, nl92, nl93, nl94, nl95, nl96, nl97, nl98, nl99, nl100, nl101, nl102, nl103, nl104, nl105, nl106, nl107, nl108, nl109, nl110, nl111, nl112, nl113, nl114, nl115, nl116, nl117, nl118, nl119, nl120, nl121, nl122, nl123, nl124, nl125, nl126, nl127, nl979, nl244, nl1000]
  rw [if_neg (by omega), if_neg (by omega)]
  rcases h with h | ⟨h0, h1⟩
  · rw [if_pos h]
  · rw [if_neg h0, hc.2.1 i hi, if_pos h1]
theorem s_place_in (hw : Wf b) (hc : CB F S n b) {i p : Nat} (hp : p < sz b i) : f_X0_hasPlace S n (nn i) (nn p) = some (nn 1) := by
  have h8 := hw.1
  have h10 := hw.sz_le i
  have := sz_in hp
  rw [s_hasPlace hw hc (by omega) (by omega), if_pos hp]
  rfl
def gm (m : Nat) : Int32 := if m = 11 then -nn 1 else nn m
def ga (m a : Nat) : Int32 := if m = 11 then -nn 1 else nn a
end ARGS

