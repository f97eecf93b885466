/-! REASONS ASKED FOR -/
section REASON
variable {R D M : Nat → Int32} {c : Int32}
theorem r_reason_out {x w : Int32} (h : outR 3 x) : f_X9_reason M x w = some (nn 0, nn 1) := by
  unfold f_X9_reason
  have e := out_in (m := 3) (by omega) h
  have e' : f_X9_in x 0 2 = some (nn 0) := e
  rw [e', Option.bind_some, if_neg (by decide)]
  rfl
theorem r_reason_in {d : Nat} (hd : d < 3) (w : Int32) : f_X9_reason M (nn d) w = if M (2 * d) = nn 0 then some (nn 0, nn 2) else some (if w = 0 then M (2 * d) else M (2 * d + 1), nn 0) := by
  unfold f_X9_reason
  have e := in_in (m := 3) (i := d) (by omega) hd
  have e' : f_X9_in (nn d) 0 2 = some (nn 1) := e
  rw [e', Option.bind_some, if_pos (by decide), nl2, nn_mul, ldi_nn (by omega) (by omega), Option.bind_some]
  by_cases h : M (2 * d) = nn 0
  · rw [if_neg (fun z : ¬ M (2 * d) = (0 : Int32) => z h), if_pos h]
    rfl
  · rw [if_pos (show ¬ M (2 * d) = (0 : Int32) from h), if_neg h]
    unfold f_X9_reason_J30
    rw [if_neg (by decide), nl2, nn_mul, nl0, nl1, nn_add, nn_add, ldi_nn (by omega) (by omega), ldi_nn (by omega) (by omega)]
    by_cases q : w = nn 0
    · rw [if_pos q, if_pos q]
      rfl
    · rw [if_neg q, if_neg q]
      rfl
theorem s_reasonAt {k d : Nat} (hk : k ≤ 3) (hd : d < 3) : f_X6_reasonAt R (nn k) (nn d) = some (if d < k then R d else nn 0) := by
  unfold f_X6_reasonAt
  simp (disch := omega) only [nn_add, nn_mul, nn_sub, nn_le, nn_lt, nn_eq, nn_div, ldi_nn, ldc_nn, sti_nn, Option.bind_some, if_true, if_false, not_true_eq_false, not_false_eq_true, Nat.add_zero, nl0, nl1, nl2, nl3, nl4, nl5, nl6, nl7, nl8, nl9, nl10, nl11, nl12, nl13, nl14, nl15, nl16, nl17, nl18, nl19, nl20, nl21, nl22, nl23, nl24, nl25, nl26, nl27, nl28, nl29, nl30, nl31, nl32, nl33, nl34, nl35, nl36, nl37, nl38, nl39, nl40, nl41, nl42, nl43, nl44, nl45, nl46, nl47, nl48, nl49, nl50, nl51, nl52, nl53, nl54, nl55, nl56, nl57, nl58, nl59, nl60, nl61, nl62, nl63, nl64, nl65, nl66, nl67, nl68, nl69, nl70, nl71, nl72, nl73, nl74, nl75, nl76, nl77, nl78, nl79, nl80, nl81, nl82, nl83, nl84, nl85, nl86, nl87, nl88, nl89, nl90, nl91, nl92, nl93, nl94, nl95, nl96, nl97, nl98, nl99, nl100, nl101, nl102, nl103, nl104, nl105, nl106, nl107, nl108, nl109, nl110, nl111, nl112, nl113, nl114, nl115, nl116, nl117, nl118, nl119, nl120, nl121, nl122, nl123, nl124, nl125, nl126, nl127, nl979, nl244, nl1000]
  rw [if_neg (by omega)]
  by_cases h : d < k
  · rw [if_neg (by omega), if_pos h]
  · rw [if_pos (by omega), if_neg h]
theorem s_detailAt {k d : Nat} (hk : k ≤ 3) (hd : d < 3) : f_X6_detailAt D (nn k) (nn d) = some (if d < k then D d else nn 0) := by
  unfold f_X6_detailAt
  simp (disch := omega) only [nn_add, nn_mul, nn_sub, nn_le, nn_lt, nn_eq, nn_div, ldi_nn, ldc_nn, sti_nn, Option.bind_some, if_true, if_false, not_true_eq_false, not_false_eq_true, Nat.add_zero, nl0, nl1, nl2, nl3, nl4, nl5, nl6, nl7, nl8, nl9, nl10, nl11, nl12, nl13, nl14, nl15, nl16, nl17, nl18, nl19, nl20, nl21, nl22, nl23, nl24, nl25, nl26, nl27, nl28, nl29, nl30, nl31, nl32, nl33, nl34, nl35, nl36, nl37, nl38, nl39, nl40, nl41, nl42, nl43, nl44, nl45, nl46, nl47, nl48, nl49, nl50, nl51, nl52, nl53, nl54, nl55, nl56, nl57, nl58, nl59, nl60, nl61, nl62, nl63, nl64, nl65, nl66, nl67, nl68, nl69, nl70, nl71, nl72, nl73, nl74, nl75, nl76, nl77, nl78, nl79, nl80, nl81, nl82, nl83, nl84, nl85, nl86, nl87, nl88, nl89, nl90, nl91, nl92, nl93, nl94, nl95, nl96, nl97, nl98, nl99, nl100, nl101, nl102, nl103, nl104, nl105, nl106, nl107, nl108, nl109, nl110, nl111, nl112, nl113, nl114, nl115, nl116, nl117, nl118, nl119, nl120, nl121, nl122, nl123, nl124, nl125, nl126, nl127, nl979, nl244, nl1000]
  rw [if_neg (by omega)]
  by_cases h : d < k
  · rw [if_neg (by omega), if_pos h]
  · rw [if_pos (by omega), if_neg h]
end REASON
