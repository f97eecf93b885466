/-! THE REFERENCE'S READINGS OF ITS PRESENT ROW -/
theorem llt_cpl : ∀ (u v : List Nat), llt u v = if cpl u v < u.length ∧ cpl u v < v.length then decide (u.getD (cpl u v) 0 < v.getD (cpl u v) 0) else decide (u.length < v.length)
  | [], [] => rfl
  | [], _ :: v => by simp [llt, cpl]
  | _ :: u, [] => by simp [llt, cpl]
  | a :: u, c :: v => by
    rw [llt, cpl]
    by_cases e : a = c
    · rw [if_pos e, if_pos e, llt_cpl u v]
      simp only [List.length_cons, Nat.add_lt_add_iff_right, List.getD_cons_succ]
    · rw [if_neg e, if_neg e]
      simp
theorem cpl_eq : ∀ (u v : List Nat), (u = v) = (cpl u v = u.length ∧ u.length = v.length)
  | [], [] => by simp [cpl]
  | [], _ :: v => by simp [cpl]
  | _ :: u, [] => by simp [cpl]
  | a :: u, c :: v => by
    have ih := cpl_eq u v
    rw [cpl]
    by_cases e : a = c
    · rw [if_pos e]
      simp only [List.cons.injEq, List.length_cons, Nat.add_right_cancel_iff, e, true_and]
      exact ih
    · rw [if_neg e]
      simp [e]
theorem sfx_getD (b : Bk) (i p k : Nat) : (sfx b i p).getD k 0 = lt b i (p + k) := by
  unfold sfx lt
  rw [List.getD_eq_getElem?_getD, List.getD_eq_getElem?_getD, List.getElem?_drop]
section REF
variable {A : Nat → Int32} {b : Bk}
theorem r_in {a c d : Nat} (ha : a < 1000000) (hc : c < 1000000) (hd : d < 1000000) : f_X9_in (nn a) (nn c) (nn d) = some (if c ≤ a ∧ a ≤ d then nn 1 else nn 0) := by
  unfold f_X9_in
  simp (disch := omega) only [nn_add, nn_mul, nn_sub, nn_le, nn_lt, nn_eq, nn_div, ldi_nn, ldc_nn, sti_nn, Option.bind_some, if_true, if_false, not_true_eq_false, not_false_eq_true, Nat.add_zero, nl0, nl1, nl2, nl3, nl4, nl5, nl6, nl7, nl8, nl9, nl10, nl11, nl12, nl13, nl14, nl15, nl16, nl17, nl18, nl19, nl20, nl21, nl22, nl23, nl24, nl25, nl26, nl27, nl28, nl29, nl30, nl31, nl32, nl33, nl34, nl35, nl36, nl37, nl38, nl39, nl40, nl41, nl42, nl43, nl44, nl45, nl46, nl47, nl48, nl49, nl50, nl51, nl52, nl53, nl54, nl55, nl56, nl57, nl58, nl59, nl60, nl61, nl62, nl63, nl64, nl65, nl66, nl67, nl68, nl69, nl70, nl71, nl72, nl73, nl74, nl75, nl76, nl77, nl78, nl79, nl80, nl81, nl82, nl83, nl84, nl85, nl86, nl87, nl88, nl89, nl90, nl91, nl92, nl93, nl94, nl95, nl96, nl97, nl98, nl99, nl100, nl101, nl102, nl103, nl104, nl105, nl106, nl107, nl108, nl109, nl110, nl111, nl112, nl113, nl114, nl115, nl116, nl117, nl118, nl119, nl120, nl121, nl122, nl123, nl124, nl125, nl126, nl127, nl979, nl244, nl1000]
  by_cases h1 : a < c
  · rw [if_pos h1, if_neg (by omega)]
  · rw [if_neg h1]
    by_cases h2 : d < a
    · rw [if_pos h2, if_neg (by omega)]
    · rw [if_neg h2, if_pos (by omega)]
theorem r_many (hr : RB A 0 b) : f_X9_many A = some (nn b.length) := by
  unfold f_X9_many
  simp (disch := omega) only [nn_add, nn_mul, nn_sub, nn_le, nn_lt, nn_eq, nn_div, ldi_nn, ldc_nn, sti_nn, Option.bind_some, if_true, if_false, not_true_eq_false, not_false_eq_true, Nat.add_zero, nl0, nl1, nl2, nl3, nl4, nl5, nl6, nl7, nl8, nl9, nl10, nl11, nl12, nl13, nl14, nl15, nl16, nl17, nl18, nl19, nl20, nl21, nl22, nl23, nl24, nl25, nl26, nl27, nl28, nl29, nl30, nl31, nl32, nl33, nl34, nl35, nl36, nl37, nl38, nl39, nl40, nl41, nl42, nl43, nl44, nl45, nl46, nl47, nl48, nl49, nl50, nl51, nl52, nl53, nl54, nl55, nl56, nl57, nl58, nl59, nl60, nl61, nl62, nl63, nl64, nl65, nl66, nl67, nl68, nl69, nl70, nl71, nl72, nl73, nl74, nl75, nl76, nl77, nl78, nl79, nl80, nl81, nl82, nl83, nl84, nl85, nl86, nl87, nl88, nl89, nl90, nl91, nl92, nl93, nl94, nl95, nl96, nl97, nl98, nl99, nl100, nl101, nl102, nl103, nl104, nl105, nl106, nl107, nl108, nl109, nl110, nl111, nl112, nl113, nl114, nl115, nl116, nl117, nl118, nl119, nl120, nl121, nl122, nl123, nl124, nl125, nl126, nl127, nl979, nl244, nl1000]
  rw [hr.1]
theorem r_size (hw : Wf b) (hr : RB A 0 b) {i : Nat} (hi : i < b.length) : f_X9_size A (nn i) = some (nn (sz b i)) := by
  have h8 := hw.1
  have h := hr.2.1 i hi
  unfold f_X9_size
  simp (disch := omega) only [nn_add, nn_mul, nn_sub, nn_le, nn_lt, nn_eq, nn_div, ldi_nn, ldc_nn, sti_nn, Option.bind_some, if_true, if_false, not_true_eq_false, not_false_eq_true, Nat.add_zero, nl0, nl1, nl2, nl3, nl4, nl5, nl6, nl7, nl8, nl9, nl10, nl11, nl12, nl13, nl14, nl15, nl16, nl17, nl18, nl19, nl20, nl21, nl22, nl23, nl24, nl25, nl26, nl27, nl28, nl29, nl30, nl31, nl32, nl33, nl34, nl35, nl36, nl37, nl38, nl39, nl40, nl41, nl42, nl43, nl44, nl45, nl46, nl47, nl48, nl49, nl50, nl51, nl52, nl53, nl54, nl55, nl56, nl57, nl58, nl59, nl60, nl61, nl62, nl63, nl64, nl65, nl66, nl67, nl68, nl69, nl70, nl71, nl72, nl73, nl74, nl75, nl76, nl77, nl78, nl79, nl80, nl81, nl82, nl83, nl84, nl85, nl86, nl87, nl88, nl89, nl90, nl91, nl92, nl93, nl94, nl95, nl96, nl97, nl98, nl99, nl100, nl101, nl102, nl103, nl104, nl105, nl106, nl107, nl108, nl109, nl110, nl111, nl112, nl113, nl114, nl115, nl116, nl117, nl118, nl119, nl120, nl121, nl122, nl123, nl124, nl125, nl126, nl127, nl979, nl244, nl1000]
  rw [Nat.zero_add] at h
  rw [h]
theorem r_at (hw : Wf b) (hr : RB A 0 b) {i p : Nat} (hi : i < b.length) (hp : p < sz b i) : f_X9_at A (nn i) (nn p) = some (nn (lt b i p)) := by
  have h8 := hw.1
  have h10 := hw.sz_le i
  have h := hr.2.2 i hi p hp
  unfold f_X9_at
  simp (disch := omega) only [nn_add, nn_mul, nn_sub, nn_le, nn_lt, nn_eq, nn_div, ldi_nn, ldc_nn, sti_nn, Option.bind_some, if_true, if_false, not_true_eq_false, not_false_eq_true, Nat.add_zero, nl0, nl1, nl2, nl3, nl4, nl5, nl6, nl7, nl8, nl9, nl10, nl11, nl12, nl13, nl14, nl15, nl16, nl17, nl18, nl19, nl20, nl21, nl22, nl23, nl24, nl25, nl26, nl27, nl28, nl29, nl30, nl31, nl32, nl33, nl34, nl35, nl36, nl37, nl38, nl39, nl40, nl41, nl42, nl43, nl44, nl45, nl46, nl47, nl48, nl49, nl50, nl51, nl52, nl53, nl54, nl55, nl56, nl57, nl58, nl59, nl60, nl61, nl62, nl63, nl64, nl65, nl66, nl67, nl68, nl69, nl70, nl71, nl72, nl73, nl74, nl75, nl76, nl77, nl78, nl79, nl80, nl81, nl82, nl83, nl84, nl85, nl86, nl87, nl88, nl89, nl90, nl91, nl92, nl93, nl94, nl95, nl96, nl97, nl98, nl99, nl100, nl101, nl102, nl103, nl104, nl105, nl106, nl107, nl108, nl109, nl110, nl111, nl112, nl113, nl114, nl115, nl116, nl117, nl118, nl119, nl120, nl121, nl122, nl123, nl124, nl125, nl126, nl127, nl979, nl244, nl1000]
  rw [Nat.zero_add] at h
  rw [h]
theorem r_left (hw : Wf b) (hr : RB A 0 b) {i p : Nat} (hi : i < b.length) (hp : p ≤ sz b i) (h9 : p < 10) : f_X9_left A (nn (10 * i + p)) = some (nn (sz b i - p)) := by
  have h8 := hw.1
  have h10 := hw.sz_le i
  unfold f_X9_left
  simp (disch := omega) only [nn_add, nn_mul, nn_sub, nn_le, nn_lt, nn_eq, nn_div, ldi_nn, ldc_nn, sti_nn, Option.bind_some, if_true, if_false, not_true_eq_false, not_false_eq_true, Nat.add_zero, nl0, nl1, nl2, nl3, nl4, nl5, nl6, nl7, nl8, nl9, nl10, nl11, nl12, nl13, nl14, nl15, nl16, nl17, nl18, nl19, nl20, nl21, nl22, nl23, nl24, nl25, nl26, nl27, nl28, nl29, nl30, nl31, nl32, nl33, nl34, nl35, nl36, nl37, nl38, nl39, nl40, nl41, nl42, nl43, nl44, nl45, nl46, nl47, nl48, nl49, nl50, nl51, nl52, nl53, nl54, nl55, nl56, nl57, nl58, nl59, nl60, nl61, nl62, nl63, nl64, nl65, nl66, nl67, nl68, nl69, nl70, nl71, nl72, nl73, nl74, nl75, nl76, nl77, nl78, nl79, nl80, nl81, nl82, nl83, nl84, nl85, nl86, nl87, nl88, nl89, nl90, nl91, nl92, nl93, nl94, nl95, nl96, nl97, nl98, nl99, nl100, nl101, nl102, nl103, nl104, nl105, nl106, nl107, nl108, nl109, nl110, nl111, nl112, nl113, nl114, nl115, nl116, nl117, nl118, nl119, nl120, nl121, nl122, nl123, nl124, nl125, nl126, nl127, nl979, nl244, nl1000]
  rw [show (10 * i + p) / 10 = i by omega, r_size hw hr hi, show 10 * i + p - i * 10 = p by omega]
  simp (disch := omega) only [nn_add, nn_mul, nn_sub, nn_le, nn_lt, nn_eq, nn_div, ldi_nn, ldc_nn, sti_nn, Option.bind_some, if_true, if_false, not_true_eq_false, not_false_eq_true, Nat.add_zero, nl0, nl1, nl2, nl3, nl4, nl5, nl6, nl7, nl8, nl9, nl10, nl11, nl12, nl13, nl14, nl15, nl16, nl17, nl18, nl19, nl20, nl21, nl22, nl23, nl24, nl25, nl26, nl27, nl28, nl29, nl30, nl31, nl32, nl33, nl34, nl35, nl36, nl37, nl38, nl39, nl40, nl41, nl42, nl43, nl44, nl45, nl46, nl47, nl48, nl49, nl50, nl51, nl52, nl53, nl54, nl55, nl56, nl57, nl58, nl59, nl60, nl61, nl62, nl63, nl64, nl65, nl66, nl67, nl68, nl69, nl70, nl71, nl72, nl73, nl74, nl75, nl76, nl77, nl78, nl79, nl80, nl81, nl82, nl83, nl84, nl85, nl86, nl87, nl88, nl89, nl90, nl91, nl92, nl93, nl94, nl95, nl96, nl97, nl98, nl99, nl100, nl101, nl102, nl103, nl104, nl105, nl106, nl107, nl108, nl109, nl110, nl111, nl112, nl113, nl114, nl115, nl116, nl117, nl118, nl119, nl120, nl121, nl122, nl123, nl124, nl125, nl126, nl127, nl979, nl244, nl1000]
theorem r_letterOf (hw : Wf b) (hr : RB A 0 b) {i p k : Nat} (hi : i < b.length) (hp : p + k < sz b i) : f_X9_letterOf A (nn (10 * i + p)) (nn k) = some (nn (lt b i (p + k))) := by
  have h8 := hw.1
  have h10 := hw.sz_le i
  unfold f_X9_letterOf
  simp (disch := omega) only [nn_add, nn_mul, nn_sub, nn_le, nn_lt, nn_eq, nn_div, ldi_nn, ldc_nn, sti_nn, Option.bind_some, if_true, if_false, not_true_eq_false, not_false_eq_true, Nat.add_zero, nl0, nl1, nl2, nl3, nl4, nl5, nl6, nl7, nl8, nl9, nl10, nl11, nl12, nl13, nl14, nl15, nl16, nl17, nl18, nl19, nl20, nl21, nl22, nl23, nl24, nl25, nl26, nl27, nl28, nl29, nl30, nl31, nl32, nl33, nl34, nl35, nl36, nl37, nl38, nl39, nl40, nl41, nl42, nl43, nl44, nl45, nl46, nl47, nl48, nl49, nl50, nl51, nl52, nl53, nl54, nl55, nl56, nl57, nl58, nl59, nl60, nl61, nl62, nl63, nl64, nl65, nl66, nl67, nl68, nl69, nl70, nl71, nl72, nl73, nl74, nl75, nl76, nl77, nl78, nl79, nl80, nl81, nl82, nl83, nl84, nl85, nl86, nl87, nl88, nl89, nl90, nl91, nl92, nl93, nl94, nl95, nl96, nl97, nl98, nl99, nl100, nl101, nl102, nl103, nl104, nl105, nl106, nl107, nl108, nl109, nl110, nl111, nl112, nl113, nl114, nl115, nl116, nl117, nl118, nl119, nl120, nl121, nl122, nl123, nl124, nl125, nl126, nl127, nl979, nl244, nl1000]
  rw [show (10 * i + p) / 10 = i by omega, show 10 * i + p - i * 10 + k = p + k by omega, r_at hw hr hi hp]
  rfl
theorem r_front_L (hw : Wf b) (hr : RB A 0 b) {i p j q : Nat} (hi : i < b.length) (hj : j < b.length) (hp : p < sz b i) (hq : q < sz b j) : ∀ (fuel k : Nat), k ≤ sz b i - p → sz b i - p < fuel + k → f_X9_front_L2 (nn (10 * i + p)) (nn (10 * j + q)) A fuel (nn k) (fun x => some x) = some (nn (k + cpl (sfx b i (p + k)) (sfx b j (q + k)))) := by
  intro fuel
  have h8 := hw.1
  have h10 := hw.sz_le i
  have h11 := hw.sz_le j
  induction fuel with
  | zero => intro k h1 h2; omega
  | succ fuel ih =>
    intro k h1 h2
    rw [f_X9_front_L2, r_left hw hr hi (by omega) (by omega)]
    simp (disch := omega) only [nn_add, nn_mul, nn_sub, nn_le, nn_lt, nn_eq, nn_div, ldi_nn, ldc_nn, sti_nn, Option.bind_some, if_true, if_false, not_true_eq_false, not_false_eq_true, Nat.add_zero, nl0, nl1, nl2, nl3, nl4, nl5, nl6, nl7, nl8, nl9, nl10, nl11, nl12, nl13, nl14, nl15, nl16, nl17, nl18, nl19, nl20, nl21, nl22, nl23, nl24, nl25, nl26, nl27, nl28, nl29, nl30, nl31, nl32, nl33, nl34, nl35, nl36, nl37, nl38, nl39, nl40, nl41, nl42, nl43, nl44, nl45, nl46, nl47, nl48, nl49, nl50, nl51, nl52, nl53, nl54, nl55, nl56, nl57, nl58, nl59, nl60, nl61, nl62, nl63, nl64, nl65, nl66, nl67, nl68, nl69, nl70, nl71, nl72, nl73, nl74, nl75, nl76, nl77, nl78, nl79, nl80, nl81, nl82, nl83, nl84, nl85, nl86, nl87, nl88, nl89, nl90, nl91, nl92, nl93, nl94, nl95, nl96, nl97, nl98, nl99, nl100, nl101, nl102, nl103, nl104, nl105, nl106, nl107, nl108, nl109, nl110, nl111, nl112, nl113, nl114, nl115, nl116, nl117, nl118, nl119, nl120, nl121, nl122, nl123, nl124, nl125, nl126, nl127, nl979, nl244, nl1000]
    by_cases e1 : sz b i - p ≤ k
    · rw [if_pos e1, sfx_nil (by omega), cpl_nil]
      rfl
    · rw [if_neg e1, r_left hw hr hj (by omega) (by omega)]
      simp (disch := omega) only [nn_add, nn_mul, nn_sub, nn_le, nn_lt, nn_eq, nn_div, ldi_nn, ldc_nn, sti_nn, Option.bind_some, if_true, if_false, not_true_eq_false, not_false_eq_true, Nat.add_zero, nl0, nl1, nl2, nl3, nl4, nl5, nl6, nl7, nl8, nl9, nl10, nl11, nl12, nl13, nl14, nl15, nl16, nl17, nl18, nl19, nl20, nl21, nl22, nl23, nl24, nl25, nl26, nl27, nl28, nl29, nl30, nl31, nl32, nl33, nl34, nl35, nl36, nl37, nl38, nl39, nl40, nl41, nl42, nl43, nl44, nl45, nl46, nl47, nl48, nl49, nl50, nl51, nl52, nl53, nl54, nl55, nl56, nl57, nl58, nl59, nl60, nl61, nl62, nl63, nl64, nl65, nl66, nl67, nl68, nl69, nl70, nl71, nl72, nl73, nl74, nl75, nl76, nl77, nl78, nl79, nl80, nl81, nl82, nl83, nl84, nl85, nl86, nl87, nl88, nl89, nl90, nl91, nl92, nl93, nl94, nl95, nl96, nl97, nl98, nl99, nl100, nl101, nl102, nl103, nl104, nl105, nl106, nl107, nl108, nl109, nl110, nl111, nl112, nl113, nl114, nl115, nl116, nl117, nl118, nl119, nl120, nl121, nl122, nl123, nl124, nl125, nl126, nl127, nl979, nl244, nl1000]
      by_cases e2 : sz b j - q ≤ k
      · rw [if_pos e2, sfx_nil (i := j) (by omega), cpl_nil']
        rfl
      · have l1 := hw.lt_le i (p + k)
        have l2 := hw.lt_le j (q + k)
        rw [if_neg e2, r_letterOf hw hr hi (by omega)]
        simp (disch := omega) only [nn_add, nn_mul, nn_sub, nn_le, nn_lt, nn_eq, nn_div, ldi_nn, ldc_nn, sti_nn, Option.bind_some, if_true, if_false, not_true_eq_false, not_false_eq_true, Nat.add_zero, nl0, nl1, nl2, nl3, nl4, nl5, nl6, nl7, nl8, nl9, nl10, nl11, nl12, nl13, nl14, nl15, nl16, nl17, nl18, nl19, nl20, nl21, nl22, nl23, nl24, nl25, nl26, nl27, nl28, nl29, nl30, nl31, nl32, nl33, nl34, nl35, nl36, nl37, nl38, nl39, nl40, nl41, nl42, nl43, nl44, nl45, nl46, nl47, nl48, nl49, nl50, nl51, nl52, nl53, nl54, nl55, nl56, nl57, nl58, nl59, nl60, nl61, nl62, nl63, nl64, nl65, nl66, nl67, nl68, nl69, nl70, nl71, nl72, nl73, nl74, nl75, nl76, nl77, nl78, nl79, nl80, nl81, nl82, nl83, nl84, nl85, nl86, nl87, nl88, nl89, nl90, nl91, nl92, nl93, nl94, nl95, nl96, nl97, nl98, nl99, nl100, nl101, nl102, nl103, nl104, nl105, nl106, nl107, nl108, nl109, nl110, nl111, nl112, nl113, nl114, nl115, nl116, nl117, nl118, nl119, nl120, nl121, nl122, nl123, nl124, nl125, nl126, nl127, nl979, nl244, nl1000]
        rw [r_letterOf hw hr hj (by omega)]
        simp (disch := omega) only [nn_add, nn_mul, nn_sub, nn_le, nn_lt, nn_eq, nn_div, ldi_nn, ldc_nn, sti_nn, Option.bind_some, if_true, if_false, not_true_eq_false, not_false_eq_true, Nat.add_zero, nl0, nl1, nl2, nl3, nl4, nl5, nl6, nl7, nl8, nl9, nl10, nl11, nl12, nl13, nl14, nl15, nl16, nl17, nl18, nl19, nl20, nl21, nl22, nl23, nl24, nl25, nl26, nl27, nl28, nl29, nl30, nl31, nl32, nl33, nl34, nl35, nl36, nl37, nl38, nl39, nl40, nl41, nl42, nl43, nl44, nl45, nl46, nl47, nl48, nl49, nl50, nl51, nl52, nl53, nl54, nl55, nl56, nl57, nl58, nl59, nl60, nl61, nl62, nl63, nl64, nl65, nl66, nl67, nl68, nl69, nl70, nl71, nl72, nl73, nl74, nl75, nl76, nl77, nl78, nl79, nl80, nl81, nl82, nl83, nl84, nl85, nl86, nl87, nl88, nl89, nl90, nl91, nl92, nl93, nl94, nl95, nl96, nl97, nl98, nl99, nl100, nl101, nl102, nl103, nl104, nl105, nl106, nl107, nl108, nl109, nl110, nl111, nl112, nl113, nl114, nl115, nl116, nl117, nl118, nl119, nl120, nl121, nl122, nl123, nl124, nl125, nl126, nl127, nl979, nl244, nl1000]
        rw [sfx_cons (by omega), sfx_cons (i := j) (by omega), cpl]
        by_cases e : lt b i (p + k) = lt b j (q + k)
        · rw [if_neg (fun z => z e), if_pos e, ih (k + 1) (by omega) (by omega), show p + (k + 1) = p + k + 1 by omega, show q + (k + 1) = q + k + 1 by omega]
          congr 2
          omega
        · rw [if_pos e, if_neg e]
          rfl
theorem r_front (hw : Wf b) (hr : RB A 0 b) {i p j q : Nat} (hi : i < b.length) (hj : j < b.length) (hp : p < sz b i) (hq : q < sz b j) : f_X9_front A (nn (10 * i + p)) (nn (10 * j + q)) = some (nn (cpl (sfx b i p) (sfx b j q))) := by
  have h10 := hw.sz_le i
  unfold f_X9_front
  have h := r_front_L hw hr hi hj hp hq 1000 0 (by omega) (by omega)
  rw [Nat.zero_add] at h
  exact h
theorem r_ahead (hw : Wf b) (hr : RB A 0 b) {i p j q : Nat} (hi : i < b.length) (hj : j < b.length) (hp : p < sz b i) (hq : q < sz b j) : f_X9_isAhead A (nn (10 * i + p)) (nn (10 * j + q)) = some (if bef b i p j q = true then nn 1 else nn 0) := by
  have h8 := hw.1
  have h10 := hw.sz_le i
  have h11 := hw.sz_le j
  have hl1 := sfx_len b i p
  have hl2 := sfx_len b j q
  have hcp := cpl_le (sfx b i p) (sfx b j q)
  rw [hl1] at hcp
  have hb : bef b i p j q = true ↔ (if cpl (sfx b i p) (sfx b j q) < sz b i - p ∧ cpl (sfx b i p) (sfx b j q) < sz b j - q then lt b i (p + cpl (sfx b i p) (sfx b j q)) < lt b j (q + cpl (sfx b i p) (sfx b j q)) else sz b i - p < sz b j - q) ∨ ((cpl (sfx b i p) (sfx b j q) = sz b i - p ∧ sz b i - p = sz b j - q) ∧ i < j) := by
    unfold bef
    rw [befL_iff, llt_cpl, cpl_eq, hl1, hl2, sfx_getD, sfx_getD]
    by_cases h : cpl (sfx b i p) (sfx b j q) < sz b i - p ∧ cpl (sfx b i p) (sfx b j q) < sz b j - q
    · rw [if_pos h, if_pos h, decide_eq_true_iff]
    · rw [if_neg h, if_neg h, decide_eq_true_iff]
  have hJ : ¬ (cpl (sfx b i p) (sfx b j q) < sz b i - p ∧ cpl (sfx b i p) (sfx b j q) < sz b j - q) → f_X9_isAhead_J46 (nn (10 * i + p)) (nn (10 * j + q)) A = some (if bef b i p j q = true then nn 1 else nn 0) := by
    intro hn
    rw [if_neg hn] at hb
    unfold f_X9_isAhead_J46
    rw [r_left hw hr hi (by omega) (by omega)]
    simp (disch := omega) only [nn_add, nn_mul, nn_sub, nn_le, nn_lt, nn_eq, nn_div, ldi_nn, ldc_nn, sti_nn, Option.bind_some, if_true, if_false, not_true_eq_false, not_false_eq_true, Nat.add_zero, nl0, nl1, nl2, nl3, nl4, nl5, nl6, nl7, nl8, nl9, nl10, nl11, nl12, nl13, nl14, nl15, nl16, nl17, nl18, nl19, nl20, nl21, nl22, nl23, nl24, nl25, nl26, nl27, nl28, nl29, nl30, nl31, nl32, nl33, nl34, nl35, nl36, nl37, nl38, nl39, nl40, nl41, nl42, nl43, nl44, nl45, nl46, nl47, nl48, nl49, nl50, nl51, nl52, nl53, nl54, nl55, nl56, nl57, nl58, nl59, nl60, nl61, nl62, nl63, nl64, nl65, nl66, nl67, nl68, nl69, nl70, nl71, nl72, nl73, nl74, nl75, nl76, nl77, nl78, nl79, nl80, nl81, nl82, nl83, nl84, nl85, nl86, nl87, nl88, nl89, nl90, nl91, nl92, nl93, nl94, nl95, nl96, nl97, nl98, nl99, nl100, nl101, nl102, nl103, nl104, nl105, nl106, nl107, nl108, nl109, nl110, nl111, nl112, nl113, nl114, nl115, nl116, nl117, nl118, nl119, nl120, nl121, nl122, nl123, nl124, nl125, nl126, nl127, nl979, nl244, nl1000]
    rw [r_left hw hr hj (by omega) (by omega)]
    simp (disch := omega) only [nn_add, nn_mul, nn_sub, nn_le, nn_lt, nn_eq, nn_div, ldi_nn, ldc_nn, sti_nn, Option.bind_some, if_true, if_false, not_true_eq_false, not_false_eq_true, Nat.add_zero, nl0, nl1, nl2, nl3, nl4, nl5, nl6, nl7, nl8, nl9, nl10, nl11, nl12, nl13, nl14, nl15, nl16, nl17, nl18, nl19, nl20, nl21, nl22, nl23, nl24, nl25, nl26, nl27, nl28, nl29, nl30, nl31, nl32, nl33, nl34, nl35, nl36, nl37, nl38, nl39, nl40, nl41, nl42, nl43, nl44, nl45, nl46, nl47, nl48, nl49, nl50, nl51, nl52, nl53, nl54, nl55, nl56, nl57, nl58, nl59, nl60, nl61, nl62, nl63, nl64, nl65, nl66, nl67, nl68, nl69, nl70, nl71, nl72, nl73, nl74, nl75, nl76, nl77, nl78, nl79, nl80, nl81, nl82, nl83, nl84, nl85, nl86, nl87, nl88, nl89, nl90, nl91, nl92, nl93, nl94, nl95, nl96, nl97, nl98, nl99, nl100, nl101, nl102, nl103, nl104, nl105, nl106, nl107, nl108, nl109, nl110, nl111, nl112, nl113, nl114, nl115, nl116, nl117, nl118, nl119, nl120, nl121, nl122, nl123, nl124, nl125, nl126, nl127, nl979, nl244, nl1000]
    by_cases e1 : sz b i - p < sz b j - q
    · rw [if_pos e1, if_pos (hb.mpr (Or.inl e1))]
    · rw [if_neg e1]
      by_cases e2 : sz b i - p = sz b j - q
      · rw [if_neg (fun z => z e2)]
        by_cases e3 : 10 * j + q ≤ 10 * i + p
        · rw [if_pos e3, if_neg (fun z => by
            rcases hb.mp z with h | ⟨h, h2⟩
            · exact e1 h
            · omega)]
        · have hij : i < j := by
            by_cases h : i = j
            · subst h; omega
            · omega
          have hsym : cpl (sfx b i p) (sfx b j q) = sz b i - p := by omega
          rw [if_neg e3, if_pos (hb.mpr (Or.inr ⟨⟨hsym, e2⟩, hij⟩))]
      · rw [if_pos e2, if_neg (fun z => by
          rcases hb.mp z with h | ⟨h, h2⟩
          · exact e1 h
          · exact e2 h.2)]
  unfold f_X9_isAhead
  rw [r_front hw hr hi hj hp hq]
  simp (disch := omega) only [nn_add, nn_mul, nn_sub, nn_le, nn_lt, nn_eq, nn_div, ldi_nn, ldc_nn, sti_nn, Option.bind_some, if_true, if_false, not_true_eq_false, not_false_eq_true, Nat.add_zero, nl0, nl1, nl2, nl3, nl4, nl5, nl6, nl7, nl8, nl9, nl10, nl11, nl12, nl13, nl14, nl15, nl16, nl17, nl18, nl19, nl20, nl21, nl22, nl23, nl24, nl25, nl26, nl27, nl28, nl29, nl30, nl31, nl32, nl33, nl34, nl35, nl36, nl37, nl38, nl39, nl40, nl41, nl42, nl43, nl44, nl45, nl46, nl47, nl48, nl49, nl50, nl51, nl52, nl53, nl54, nl55, nl56, nl57, nl58, nl59, nl60, nl61, nl62, nl63, nl64, nl65, nl66, nl67, nl68, nl69, nl70, nl71, nl72, nl73, nl74, nl75, nl76, nl77, nl78, nl79, nl80, nl81, nl82, nl83, nl84, nl85, nl86, nl87, nl88, nl89, nl90, nl91, nl92, nl93, nl94, nl95, nl96, nl97, nl98, nl99, nl100, nl101, nl102, nl103, nl104, nl105, nl106, nl107, nl108, nl109, nl110, nl111, nl112, nl113, nl114, nl115, nl116, nl117, nl118, nl119, nl120, nl121, nl122, nl123, nl124, nl125, nl126, nl127, nl979, nl244, nl1000]
  rw [r_left hw hr hi (by omega) (by omega)]
  simp (disch := omega) only [nn_add, nn_mul, nn_sub, nn_le, nn_lt, nn_eq, nn_div, ldi_nn, ldc_nn, sti_nn, Option.bind_some, if_true, if_false, not_true_eq_false, not_false_eq_true, Nat.add_zero, nl0, nl1, nl2, nl3, nl4, nl5, nl6, nl7, nl8, nl9, nl10, nl11, nl12, nl13, nl14, nl15, nl16, nl17, nl18, nl19, nl20, nl21, nl22, nl23, nl24, nl25, nl26, nl27, nl28, nl29, nl30, nl31, nl32, nl33, nl34, nl35, nl36, nl37, nl38, nl39, nl40, nl41, nl42, nl43, nl44, nl45, nl46, nl47, nl48, nl49, nl50, nl51, nl52, nl53, nl54, nl55, nl56, nl57, nl58, nl59, nl60, nl61, nl62, nl63, nl64, nl65, nl66, nl67, nl68, nl69, nl70, nl71, nl72, nl73, nl74, nl75, nl76, nl77, nl78, nl79, nl80, nl81, nl82, nl83, nl84, nl85, nl86, nl87, nl88, nl89, nl90, nl91, nl92, nl93, nl94, nl95, nl96, nl97, nl98, nl99, nl100, nl101, nl102, nl103, nl104, nl105, nl106, nl107, nl108, nl109, nl110, nl111, nl112, nl113, nl114, nl115, nl116, nl117, nl118, nl119, nl120, nl121, nl122, nl123, nl124, nl125, nl126, nl127, nl979, nl244, nl1000]
  by_cases e1 : sz b i - p ≤ cpl (sfx b i p) (sfx b j q)
  · rw [if_pos e1]
    exact hJ (by omega)
  · rw [if_neg e1, r_left hw hr hj (by omega) (by omega)]
    simp (disch := omega) only [nn_add, nn_mul, nn_sub, nn_le, nn_lt, nn_eq, nn_div, ldi_nn, ldc_nn, sti_nn, Option.bind_some, if_true, if_false, not_true_eq_false, not_false_eq_true, Nat.add_zero, nl0, nl1, nl2, nl3, nl4, nl5, nl6, nl7, nl8, nl9, nl10, nl11, nl12, nl13, nl14, nl15, nl16, nl17, nl18, nl19, nl20, nl21, nl22, nl23, nl24, nl25, nl26, nl27, nl28, nl29, nl30, nl31, nl32, nl33, nl34, nl35, nl36, nl37, nl38, nl39, nl40, nl41, nl42, nl43, nl44, nl45, nl46, nl47, nl48, nl49, nl50, nl51, nl52, nl53, nl54, nl55, nl56, nl57, nl58, nl59, nl60, nl61, nl62, nl63, nl64, nl65, nl66, nl67, nl68, nl69, nl70, nl71, nl72, nl73, nl74, nl75, nl76, nl77, nl78, nl79, nl80, nl81, nl82, nl83, nl84, nl85, nl86, nl87, nl88, nl89, nl90, nl91, nl92, nl93, nl94, nl95, nl96, nl97, nl98, nl99, nl100, nl101, nl102, nl103, nl104, nl105, nl106, nl107, nl108, nl109, nl110, nl111, nl112, nl113, nl114, nl115, nl116, nl117, nl118, nl119, nl120, nl121, nl122, nl123, nl124, nl125, nl126, nl127, nl979, nl244, nl1000]
    by_cases e2 : sz b j - q ≤ cpl (sfx b i p) (sfx b j q)
    · rw [if_pos e2]
      exact hJ (by omega)
    · have l1 := hw.lt_le i (p + cpl (sfx b i p) (sfx b j q))
      have l2 := hw.lt_le j (q + cpl (sfx b i p) (sfx b j q))
      rw [if_neg e2, r_letterOf hw hr hi (by omega)]
      simp (disch := omega) only [nn_add, nn_mul, nn_sub, nn_le, nn_lt, nn_eq, nn_div, ldi_nn, ldc_nn, sti_nn, Option.bind_some, if_true, if_false, not_true_eq_false, not_false_eq_true, Nat.add_zero, nl0, nl1, nl2, nl3, nl4, nl5, nl6, nl7, nl8, nl9, nl10, nl11, nl12, nl13, nl14, nl15, nl16, nl17, nl18, nl19, nl20, nl21, nl22, nl23, nl24, nl25, nl26, nl27, nl28, nl29, nl30, nl31, nl32, nl33, nl34, nl35, nl36, nl37, nl38, nl39, nl40, nl41, nl42, nl43, nl44, nl45, nl46, nl47, nl48, nl49, nl50, nl51, nl52, nl53, nl54, nl55, nl56, nl57, nl58, nl59, nl60, nl61, nl62, nl63, nl64, nl65, nl66, nl67, nl68, nl69, nl70, nl71, nl72, nl73, nl74, nl75, nl76, nl77, nl78, nl79, nl80, nl81, nl82, nl83, nl84, nl85, nl86, nl87, nl88, nl89, nl90, nl91, nl92, nl93, nl94, nl95, nl96, nl97, nl98, nl99, nl100, nl101, nl102, nl103, nl104, nl105, nl106, nl107, nl108, nl109, nl110, nl111, nl112, nl113, nl114, nl115, nl116, nl117, nl118, nl119, nl120, nl121, nl122, nl123, nl124, nl125, nl126, nl127, nl979, nl244, nl1000]
      rw [r_letterOf hw hr hj (by omega)]
      simp (disch := omega) only [nn_add, nn_mul, nn_sub, nn_le, nn_lt, nn_eq, nn_div, ldi_nn, ldc_nn, sti_nn, Option.bind_some, if_true, if_false, not_true_eq_false, not_false_eq_true, Nat.add_zero, nl0, nl1, nl2, nl3, nl4, nl5, nl6, nl7, nl8, nl9, nl10, nl11, nl12, nl13, nl14, nl15, nl16, nl17, nl18, nl19, nl20, nl21, nl22, nl23, nl24, nl25, nl26, nl27, nl28, nl29, nl30, nl31, nl32, nl33, nl34, nl35, nl36, nl37, nl38, nl39, nl40, nl41, nl42, nl43, nl44, nl45, nl46, nl47, nl48, nl49, nl50, nl51, nl52, nl53, nl54, nl55, nl56, nl57, nl58, nl59, nl60, nl61, nl62, nl63, nl64, nl65, nl66, nl67, nl68, nl69, nl70, nl71, nl72, nl73, nl74, nl75, nl76, nl77, nl78, nl79, nl80, nl81, nl82, nl83, nl84, nl85, nl86, nl87, nl88, nl89, nl90, nl91, nl92, nl93, nl94, nl95, nl96, nl97, nl98, nl99, nl100, nl101, nl102, nl103, nl104, nl105, nl106, nl107, nl108, nl109, nl110, nl111, nl112, nl113, nl114, nl115, nl116, nl117, nl118, nl119, nl120, nl121, nl122, nl123, nl124, nl125, nl126, nl127, nl979, nl244, nl1000]
      rw [if_pos (by omega)] at hb
      by_cases e3 : lt b j (q + cpl (sfx b i p) (sfx b j q)) ≤ lt b i (p + cpl (sfx b i p) (sfx b j q))
      · rw [if_pos e3, if_neg (fun z => by
          rcases hb.mp z with h | ⟨h, h2⟩
          · omega
          · omega)]
      · rw [if_neg e3, if_pos (hb.mpr (Or.inl (by omega)))]
end REF
