/-! ROWS COPIED -/
section COPY
variable {b : Bk}
theorem r_copies_L {A : Nat → Int32} {p q : Nat} (hp : p ≤ 10) (hq : q ≤ 10) (hpq : p ≠ q) : ∀ (fuel k : Nat) (B : Nat → Int32), k ≤ 89 → 89 < fuel + k → (∀ j, j < k → B (89 * q + j) = A (89 * p + j)) → (∀ j, ¬ (89 * q ≤ j ∧ j < 89 * q + k) → B j = A j) → ∃ A', f_X9_copies_L2 (nn p) (nn q) fuel (nn k) B (fun _ x => some x) = some A' ∧ (∀ j, j < 89 → A' (89 * q + j) = A (89 * p + j)) ∧ (∀ j, ¬ (89 * q ≤ j ∧ j < 89 * q + 89) → A' j = A j) := by
  intro fuel
  induction fuel with
  | zero => intro k B h0 h1; omega
  | succ fuel ih =>
    intro k B h0 h1 h2 h3
    rw [f_X9_copies_L2]
    simp (disch := omega) only [nn_add, nn_mul, nn_sub, nn_le, nn_lt, nn_eq, nn_div, ldi_nn, ldc_nn, sti_nn, Option.bind_some, if_true, if_false, not_true_eq_false, not_false_eq_true, Nat.add_zero, nl0, nl1, nl2, nl3, nl4, nl5, nl6, nl7, nl8, nl9, nl10, nl11, nl12, nl13, nl14, nl15, nl16, nl17, nl18, nl19, nl20, nl21, nl22, nl23, nl24, nl25, nl26, nl27, nl28, nl29, nl30, nl31, nl32, nl33, nl34, nl35, nl36, nl37, nl38, nl39, nl40, nl41, nl42, nl43, nl44, nl45, nl46, nl47, nl48, nl49, nl50, nl51, nl52, nl53, nl54, nl55, nl56, nl57, nl58, nl59, nl60, nl61, nl62, nl63, nl64, nl65, nl66, nl67, nl68, nl69, nl70, nl71, nl72, nl73, nl74, nl75, nl76, nl77, nl78, nl79, nl80, nl81, nl82, nl83, nl84, nl85, nl86, nl87, nl88, nl89, nl90, nl91, nl92, nl93, nl94, nl95, nl96, nl97, nl98, nl99, nl100, nl101, nl102, nl103, nl104, nl105, nl106, nl107, nl108, nl109, nl110, nl111, nl112, nl113, nl114, nl115, nl116, nl117, nl118, nl119, nl120, nl121, nl122, nl123, nl124, nl125, nl126, nl127, nl979, nl244, nl1000]
    by_cases hk : 89 ≤ k
    · rw [if_pos hk]
      have : k = 89 := by omega
      subst this
      exact ⟨B, rfl, h2, h3⟩
    · rw [if_neg hk]
      refine ih (k + 1) _ (by omega) (by omega) (fun j hj => ?_) (fun j hj => ?_)
      · by_cases z : j = k
        · subst z
          rw [upd_eq, h3 _ (by omega)]
        · rw [upd_ne (by omega)]
          exact h2 j (by omega)
      · rw [upd_ne (by omega)]
        exact h3 j (by omega)
theorem r_copies (A : Nat → Int32) {p q : Nat} (hp : p ≤ 10) (hq : q ≤ 10) (hpq : p ≠ q) : ∃ A', f_X9_copies A (nn p) (nn q) = some A' ∧ (∀ j, j < 89 → A' (89 * q + j) = A (89 * p + j)) ∧ (∀ j, ¬ (89 * q ≤ j ∧ j < 89 * q + 89) → A' j = A j) := by
  unfold f_X9_copies
  exact r_copies_L hp hq hpq 1000 0 A (by omega) (by omega) (fun j hj => by omega) (fun j _ => rfl)
theorem RB.copied {A A' : Nat → Int32} {p q : Nat} (hw : Wf b) (hr : RB A (89 * p) b) (h : ∀ j, j < 89 → A' (89 * q + j) = A (89 * p + j)) : RB A' (89 * q) b := by
  have h8 := hw.1
  refine ⟨?_, fun i hi => ?_, fun i hi x hx => ?_⟩
  · have := h 0 (by omega)
    rw [Nat.add_zero, Nat.add_zero] at this
    rw [this]
    exact hr.1
  · rw [h _ (by omega)]
    exact hr.2.1 i hi
  · have h10 := hw.sz_le i
    rw [h _ (by omega)]
    exact hr.2.2 i hi x hx
theorem RB.other {A A' : Nat → Int32} {p q : Nat} (hw : Wf b) (hpq : p ≠ q) (hr : RB A (89 * p) b) (h : ∀ j, ¬ (89 * q ≤ j ∧ j < 89 * q + 89) → A' j = A j) : RB A' (89 * p) b := by
  have h8 := hw.1
  refine ⟨?_, fun i hi => ?_, fun i hi x hx => ?_⟩
  · rw [h _ (by omega)]
    exact hr.1
  · rw [h _ (by omega)]
    exact hr.2.1 i hi
  · have h10 := hw.sz_le i
    rw [h _ (by omega)]
    exact hr.2.2 i hi x hx
theorem s_cpi (f g : Nat → Int32) {N : Nat} {k : Int32} : ∃ h, cpi f g N = some h := ⟨_, rfl⟩
end COPY
