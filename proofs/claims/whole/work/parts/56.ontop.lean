/-! A REASON ON TOP, A CAUSE BEHIND -/
theorem nn_pred' {a : Nat} (h : 1 ≤ a) : nn a + -nn 1 = nn (a - 1) := by rw [← Int32.sub_eq_add_neg, nn_sub h]
section ONTOP
variable {R D : Nat → Int32}
theorem s_cause (x y : Int32) : f_X6_keepCause R D (nn 1) x y = some (upd R 1 x, upd D 1 y, nn 2) := by
  unfold f_X6_keepCause
  simp (disch := omega) only [nn_add, nn_mul, nn_sub, nn_le, nn_lt, nn_eq, nn_div, ldi_nn, ldc_nn, sti_nn, Option.bind_some, if_true, if_false, not_true_eq_false, not_false_eq_true, Nat.add_zero, nl0, nl1, nl2, nl3, nl4, nl5, nl6, nl7, nl8, nl9, nl10, nl11, nl12, nl13, nl14, nl15, nl16, nl17, nl18, nl19, nl20, nl21, nl22, nl23, nl24, nl25, nl26, nl27, nl28, nl29, nl30, nl31, nl32, nl33, nl34, nl35, nl36, nl37, nl38, nl39, nl40, nl41, nl42, nl43, nl44, nl45, nl46, nl47, nl48, nl49, nl50, nl51, nl52, nl53, nl54, nl55, nl56, nl57, nl58, nl59, nl60, nl61, nl62, nl63, nl64, nl65, nl66, nl67, nl68, nl69, nl70, nl71, nl72, nl73, nl74, nl75, nl76, nl77, nl78, nl79, nl80, nl81, nl82, nl83, nl84, nl85, nl86, nl87, nl88, nl89, nl90, nl91, nl92, nl93, nl94, nl95, nl96, nl97, nl98, nl99, nl100, nl101, nl102, nl103, nl104, nl105, nl106, nl107, nl108, nl109, nl110, nl111, nl112, nl113, nl114, nl115, nl116, nl117, nl118, nl119, nl120, nl121, nl122, nl123, nl124, nl125, nl126, nl127, nl979, nl244, nl1000]
  rw [if_neg (by omega)]
theorem s_top_L {m : Nat} (kk : Int32 → (Nat → Int32) → (Nat → Int32) → Option ((Nat → Int32) × (Nat → Int32) × Int32)) : ∀ (fuel j : Nat) (RR DD : Nat → Int32), j < 3 → j < fuel → (∀ d, d ≤ j → RR d = R d ∧ DD d = D d) → (∀ d, j < d → d < m → RR d = R (d - 1) ∧ DD d = D (d - 1)) → ∃ R' D', f_X6_keepOnTop_L21 fuel (nn j) RR DD kk = kk (nn 0) R' D' ∧ (∀ d, 1 ≤ d → d < m → R' d = R (d - 1) ∧ D' d = D (d - 1)) := by
  intro fuel
  induction fuel with
  | zero => intro j RR DD h1 h2; omega
  | succ fuel ih =>
    intro j RR DD h1 h2 h3 h4
    rw [f_X6_keepOnTop_L21]
    simp (disch := omega) only [nn_add, nn_mul, nn_sub, nn_le, nn_lt, nn_eq, nn_div, ldi_nn, ldc_nn, sti_nn, Option.bind_some, if_true, if_false, not_true_eq_false, not_false_eq_true, Nat.add_zero, nl0, nl1, nl2, nl3, nl4, nl5, nl6, nl7, nl8, nl9, nl10, nl11, nl12, nl13, nl14, nl15, nl16, nl17, nl18, nl19, nl20, nl21, nl22, nl23, nl24, nl25, nl26, nl27, nl28, nl29, nl30, nl31, nl32, nl33, nl34, nl35, nl36, nl37, nl38, nl39, nl40, nl41, nl42, nl43, nl44, nl45, nl46, nl47, nl48, nl49, nl50, nl51, nl52, nl53, nl54, nl55, nl56, nl57, nl58, nl59, nl60, nl61, nl62, nl63, nl64, nl65, nl66, nl67, nl68, nl69, nl70, nl71, nl72, nl73, nl74, nl75, nl76, nl77, nl78, nl79, nl80, nl81, nl82, nl83, nl84, nl85, nl86, nl87, nl88, nl89, nl90, nl91, nl92, nl93, nl94, nl95, nl96, nl97, nl98, nl99, nl100, nl101, nl102, nl103, nl104, nl105, nl106, nl107, nl108, nl109, nl110, nl111, nl112, nl113, nl114, nl115, nl116, nl117, nl118, nl119, nl120, nl121, nl122, nl123, nl124, nl125, nl126, nl127, nl979, nl244, nl1000]
    by_cases h : j ≤ 0
    · rw [if_pos h, show j = 0 by omega]
      exact ⟨RR, DD, rfl, fun d q1 q2 => h4 d (by omega) q2⟩
    · rw [if_neg h]
      simp (disch := omega) only [nn_add, nn_mul, nn_sub, nn_le, nn_lt, nn_eq, nn_div, ldi_nn, ldc_nn, sti_nn, Option.bind_some, if_true, if_false, not_true_eq_false, not_false_eq_true, Nat.add_zero, nl0, nl1, nl2, nl3, nl4, nl5, nl6, nl7, nl8, nl9, nl10, nl11, nl12, nl13, nl14, nl15, nl16, nl17, nl18, nl19, nl20, nl21, nl22, nl23, nl24, nl25, nl26, nl27, nl28, nl29, nl30, nl31, nl32, nl33, nl34, nl35, nl36, nl37, nl38, nl39, nl40, nl41, nl42, nl43, nl44, nl45, nl46, nl47, nl48, nl49, nl50, nl51, nl52, nl53, nl54, nl55, nl56, nl57, nl58, nl59, nl60, nl61, nl62, nl63, nl64, nl65, nl66, nl67, nl68, nl69, nl70, nl71, nl72, nl73, nl74, nl75, nl76, nl77, nl78, nl79, nl80, nl81, nl82, nl83, nl84, nl85, nl86, nl87, nl88, nl89, nl90, nl91, nl92, nl93, nl94, nl95, nl96, nl97, nl98, nl99, nl100, nl101, nl102, nl103, nl104, nl105, nl106, nl107, nl108, nl109, nl110, nl111, nl112, nl113, nl114, nl115, nl116, nl117, nl118, nl119, nl120, nl121, nl122, nl123, nl124, nl125, nl126, nl127, nl979, nl244, nl1000, nn_pred']
      refine ih (j - 1) _ _ (by omega) (by omega) (fun d hd => ?_) (fun d q1 q2 => ?_)
      · rw [upd_ne (by omega), upd_ne (by omega)]
        exact h3 d (by omega)
      · by_cases z : d = j
        · rw [z, upd_eq, upd_eq]
          exact h3 (j - 1) (by omega)
        · rw [upd_ne z, upd_ne z]
          exact h4 d (by omega) q2
theorem s_top {k : Nat} (hk : k ≤ 3) (x y : Int32) : ∃ R' D', f_X6_keepOnTop R D (nn k) x y = some (R', D', nn (min (k + 1) 3)) ∧ R' 0 = x ∧ D' 0 = y ∧ (∀ d, 1 ≤ d → d < min (k + 1) 3 → R' d = R (d - 1) ∧ D' d = D (d - 1)) := by
  unfold f_X6_keepOnTop
  simp (disch := omega) only [nn_add, nn_mul, nn_sub, nn_le, nn_lt, nn_eq, nn_div, ldi_nn, ldc_nn, sti_nn, Option.bind_some, if_true, if_false, not_true_eq_false, not_false_eq_true, Nat.add_zero, nl0, nl1, nl2, nl3, nl4, nl5, nl6, nl7, nl8, nl9, nl10, nl11, nl12, nl13, nl14, nl15, nl16, nl17, nl18, nl19, nl20, nl21, nl22, nl23, nl24, nl25, nl26, nl27, nl28, nl29, nl30, nl31, nl32, nl33, nl34, nl35, nl36, nl37, nl38, nl39, nl40, nl41, nl42, nl43, nl44, nl45, nl46, nl47, nl48, nl49, nl50, nl51, nl52, nl53, nl54, nl55, nl56, nl57, nl58, nl59, nl60, nl61, nl62, nl63, nl64, nl65, nl66, nl67, nl68, nl69, nl70, nl71, nl72, nl73, nl74, nl75, nl76, nl77, nl78, nl79, nl80, nl81, nl82, nl83, nl84, nl85, nl86, nl87, nl88, nl89, nl90, nl91, nl92, nl93, nl94, nl95, nl96, nl97, nl98, nl99, nl100, nl101, nl102, nl103, nl104, nl105, nl106, nl107, nl108, nl109, nl110, nl111, nl112, nl113, nl114, nl115, nl116, nl117, nl118, nl119, nl120, nl121, nl122, nl123, nl124, nl125, nl126, nl127, nl979, nl244, nl1000]
  have hm : (if 3 < k + 1 then nn 3 else nn (k + 1)) = nn (min (k + 1) 3) := by
    by_cases h : 3 < k + 1
    · rw [if_pos h, Nat.min_eq_right (by omega)]
    · rw [if_neg h, Nat.min_eq_left (by omega)]
  rw [hm, nn_sub (by omega)]
  obtain ⟨R', D', e1, e2⟩ := s_top_L (R := R) (D := D) (m := min (k + 1) 3) (fun _ q1 q2 => some (upd q1 0 x, upd q2 0 y, nn (min (k + 1) 3))) 1000 (min (k + 1) 3 - 1) R D (by omega) (by omega) (fun d _ => ⟨rfl, rfl⟩) (fun d q1 q2 => by omega)
  exact ⟨upd R' 0 x, upd D' 0 y, e1, upd_eq _ _ _, upd_eq _ _ _, fun d q1 q2 => by rw [upd_ne (by omega), upd_ne (by omega)]; exact e2 d q1 q2⟩
end ONTOP
