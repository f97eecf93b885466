/-! THE REFERENCE READS COMMANDS -/
/-- what the reference keeps of the j-th command -/
def RW (w : List Nat) (rows : Nat → Int32) (j : Nat) (e : Nat × Nat) : Prop := rows (4 * j) = nn (w.getD e.1 0) ∧ (shp (w.getD e.1 0) = 1 → rows (4 * j + 1) = nn (e.1 + 1) ∧ rows (4 * j + 2) = nn (e.2 - (e.1 + 1))) ∧ (shp (w.getD e.1 0) ≠ 1 → rows (4 * j + 1) = nn (w.getD (e.1 + 1) 0) - nn 48) ∧ (shp (w.getD e.1 0) = 3 ∨ shp (w.getD e.1 0) = 4 → rows (4 * j + 2) = nn (w.getD (e.1 + 2) 0) - nn 48) ∧ (shp (w.getD e.1 0) = 4 → rows (4 * j + 3) = nn (w.getD (e.1 + 3) 0))
section RREAD
variable {T rows : Nat → Int32} {l cm : Int32} {w : List Nat}
theorem r_sign_in (ht : TX T l w) {x : Nat} (hx : x < w.length) : f_X9_sign T l (nn x) = some (nn (w.getD x 0)) := by
  have h60 := ht.2.1
  unfold f_X9_sign
  rw [ht.1, if_neg (by rw [nn_le (by omega) (by omega)]; omega), ldc_nn (by omega) (by omega), (ht.2.2 x hx).1]
  rfl
theorem r_sign_out (ht : TX T l w) {x : Nat} (hx : w.length ≤ x) (hx2 : x < 1000) : f_X9_sign T l (nn x) = some (-1) := by
  have h60 := ht.2.1
  unfold f_X9_sign
  rw [ht.1, if_pos (by rw [nn_le (by omega) (by omega)]; omega)]
theorem r_digit_in (ht : TX T l w) {x : Nat} (h : dg w x = true) : f_X9_digit T l (nn x) (-1) = some (nn (w.getD x 0) - nn 48, nn (x + 1), -1) := by
  have h60 := ht.2.1
  have hx := dg_in h
  have hv := (ht.2.2 x hx).2
  unfold f_X9_digit
  rw [if_pos (by decide), r_sign_in ht hx, Option.bind_some, nl48, nl57, r_in (by omega) (by omega) (by omega), if_pos (dg_iff.mp h), Option.bind_some, if_pos (by first | decide | exact d_a | exact d_b), nl1, nn_add, nn_sub (by omega), Nat.add_sub_cancel, ldc_nn (by omega) (by omega), (ht.2.2 x hx).1]
  rfl
theorem r_digit_out (ht : TX T l w) {x : Nat} (hx : x ≤ w.length) (h : ¬ dg w x = true) : f_X9_digit T l (nn x) (-1) = some (0, nn x, nn x) := by
  have h60 := ht.2.1
  unfold f_X9_digit
  rw [if_pos (by decide)]
  by_cases hx' : x < w.length
  · have hv := (ht.2.2 x hx').2
    rw [r_sign_in ht hx', Option.bind_some, nl48, nl57, r_in (by omega) (by omega) (by omega), if_neg (fun z => h (dg_iff.mpr z)), Option.bind_some, if_neg (by first | decide | exact d_a | exact d_b)]
  · rw [r_sign_out ht (by omega) (by omega), Option.bind_some, show f_X9_in (-1) 48 57 = some 0 by decide +kernel, Option.bind_some, if_neg (by decide)]
theorem r_digit_f (T : Nat → Int32) (l x : Int32) {y : Nat} (hy : y < 1000) : f_X9_digit T l x (nn y) = some (0, x, nn y) := by
  unfold f_X9_digit
  rw [if_neg (show ¬ nn y < 0 from nn_nlt0 (by omega))]
theorem r_letters_L (ht : TX T l w) {m : Nat} (hm : m < 100) (K : Int32 → Int32 → Option (Int32 × Int32 × Int32)) : ∀ (r k y fuel : Nat), k + r = m → y ≤ w.length → r < fuel → f_X9_letters_L2 (-1) (nn m) T l fuel (nn k) (nn y) K = K (nn (k + nl w r y)) (nn (y + nl w r y)) := by
  intro r
  have h60 := ht.2.1
  induction r with
  | zero =>
    intro k y fuel h1 h2 h3
    obtain ⟨f, rfl⟩ : ∃ f, fuel = f + 1 := ⟨fuel - 1, by omega⟩
    rw [f_X9_letters_L2, if_neg (by decide), if_pos (by rw [nn_le (by omega) (by omega)]; omega)]
    rfl
  | succ r ih =>
    intro k y fuel h1 h2 h3
    obtain ⟨f, rfl⟩ : ∃ f, fuel = f + 1 := ⟨fuel - 1, by omega⟩
    rw [f_X9_letters_L2, if_neg (by decide), if_neg (by rw [nn_le (by omega) (by omega)]; omega), nlS]
    by_cases h : lz w y = true
    · have hy := lz_in h
      have hv := (ht.2.2 y hy).2
      rw [if_pos h, r_sign_in ht hy, Option.bind_some, nl97, nl122, r_in (by omega) (by omega) (by omega), if_pos (lz_iff.mp h), Option.bind_some, if_neg (by first | decide | exact d_a | exact d_b), show (1 : Int32) = nn 1 from rfl, nn_add, nn_add]
      have := ih (k + 1) (y + 1) f (by omega) (by omega) (by omega)
      rw [show k + (nl w r (y + 1) + 1) = k + 1 + nl w r (y + 1) by omega, show y + (nl w r (y + 1) + 1) = y + 1 + nl w r (y + 1) by omega]
      exact this
    · rw [if_neg h]
      by_cases hy : y < w.length
      · have hv := (ht.2.2 y hy).2
        rw [r_sign_in ht hy, Option.bind_some, nl97, nl122, r_in (by omega) (by omega) (by omega), if_neg (fun z => h (lz_iff.mpr z)), Option.bind_some, if_pos (by first | decide | exact d_a | exact d_b)]
        rfl
      · rw [r_sign_out ht (by omega) (by omega), Option.bind_some, show f_X9_in (-1) 97 122 = some 0 by decide +kernel, Option.bind_some, if_pos rfl]
        rfl
theorem r_letters (ht : TX T l w) {m x : Nat} (hm : m < 100) (hx : x ≤ w.length) : f_X9_letters T l (nn x) (-1) (nn m) = some (nn (nl w m x), nn (x + nl w m x), if nl w m x = 0 then nn x else -1) := by
  have h60 := ht.2.1
  have hn := nl_le w m x
  unfold f_X9_letters
  rw [show (0 : Int32) = nn 0 from rfl, r_letters_L ht hm _ m 0 x 1000 (by omega) hx (by omega), Nat.zero_add]
  unfold f_X9_letters_J44
  rw [if_neg (by decide)]
  by_cases h : nl w m x = 0
  · rw [if_pos h, h, if_neg (by first | decide | exact d_a | exact d_b)]
    rfl
  · rw [if_neg h, if_pos (by rw [show (0 : Int32) = nn 0 from rfl, nn_eq (by omega) (by omega)]; exact h)]
theorem r_letters_f (T : Nat → Int32) (l x m : Int32) {y : Nat} (hy : y < 1000) : f_X9_letters T l x (nn y) m = some (0, x, nn y) := by
  unfold f_X9_letters
  have e : f_X9_letters_L2 (nn y) m T l (999 + 1) 0 x (fun x2_2_6 q_t_here_2_7 => f_X9_letters_J44 x2_2_6 q_t_here_2_7 (nn y)) = some (0, x, nn y) := by
    rw [f_X9_letters_L2, if_pos (by rw [show (0 : Int32) = nn 0 from rfl, nn_le (by omega) (by omega)]; omega)]
    unfold f_X9_letters_J44
    rw [if_pos (by rw [show (0 : Int32) = nn 0 from rfl, nn_le (by omega) (by omega)]; omega)]
  exact e
theorem r_zero {a : Nat} (ha : a ≤ 240) (fuel : Nat) (K : Int32 → (Nat → Int32) → Option ((Nat → Int32) × Int32 × Int32 × Int32)) : f_X9_command_L24 (nn a) (fuel + 5) (nn 0) rows K = K (nn 4) (upd (upd (upd (upd rows (a + 0) (nn 0)) (a + 1) (nn 0)) (a + 2) (nn 0)) (a + 3) (nn 0)) := by
  rw [f_X9_command_L24]
  simp (disch := omega) only [nn_add, nn_mul, nn_sub, nn_le, nn_lt, nn_eq, nn_div, ldi_nn, ldc_nn, sti_nn, Option.bind_some, if_true, if_false, not_true_eq_false, not_false_eq_true, Nat.add_zero, nl0, nl1, nl2, nl3, nl4, nl5, nl6, nl7, nl8, nl9, nl10, nl11, nl12, nl13, nl14, nl15, nl16, nl17, nl18, nl19, nl20, nl21, nl22, nl23, nl24, nl25, nl26, nl27, nl28, nl29, nl30, nl31, nl32, nl33, nl34, nl35, nl36, nl37, nl38, nl39, nl40, nl41, nl42, nl43, nl44, nl45, nl46, nl47, nl48, nl49, nl50, nl51, nl52, nl53, nl54, nl55, nl56, nl57, nl58, nl59, nl60, nl61, nl62, nl63, nl64, nl65, nl66, nl67, nl68, nl69, nl70, nl71, nl72, nl73, nl74, nl75, nl76, nl77, nl78, nl79, nl80, nl81, nl82, nl83, nl84, nl85, nl86, nl87, nl88, nl89, nl90, nl91, nl92, nl93, nl94, nl95, nl96, nl97, nl98, nl99, nl100, nl101, nl102, nl103, nl104, nl105, nl106, nl107, nl108, nl109, nl110, nl111, nl112, nl113, nl114, nl115, nl116, nl117, nl118, nl119, nl120, nl121, nl122, nl123, nl124, nl125, nl126, nl127, nl979, nl244, nl1000]
  rw [if_neg (by omega), f_X9_command_L24]
  simp (disch := omega) only [nn_add, nn_mul, nn_sub, nn_le, nn_lt, nn_eq, nn_div, ldi_nn, ldc_nn, sti_nn, Option.bind_some, if_true, if_false, not_true_eq_false, not_false_eq_true, Nat.add_zero, nl0, nl1, nl2, nl3, nl4, nl5, nl6, nl7, nl8, nl9, nl10, nl11, nl12, nl13, nl14, nl15, nl16, nl17, nl18, nl19, nl20, nl21, nl22, nl23, nl24, nl25, nl26, nl27, nl28, nl29, nl30, nl31, nl32, nl33, nl34, nl35, nl36, nl37, nl38, nl39, nl40, nl41, nl42, nl43, nl44, nl45, nl46, nl47, nl48, nl49, nl50, nl51, nl52, nl53, nl54, nl55, nl56, nl57, nl58, nl59, nl60, nl61, nl62, nl63, nl64, nl65, nl66, nl67, nl68, nl69, nl70, nl71, nl72, nl73, nl74, nl75, nl76, nl77, nl78, nl79, nl80, nl81, nl82, nl83, nl84, nl85, nl86, nl87, nl88, nl89, nl90, nl91, nl92, nl93, nl94, nl95, nl96, nl97, nl98, nl99, nl100, nl101, nl102, nl103, nl104, nl105, nl106, nl107, nl108, nl109, nl110, nl111, nl112, nl113, nl114, nl115, nl116, nl117, nl118, nl119, nl120, nl121, nl122, nl123, nl124, nl125, nl126, nl127, nl979, nl244, nl1000]
  rw [if_neg (by omega), f_X9_command_L24]
  simp (disch := omega) only [nn_add, nn_mul, nn_sub, nn_le, nn_lt, nn_eq, nn_div, ldi_nn, ldc_nn, sti_nn, Option.bind_some, if_true, if_false, not_true_eq_false, not_false_eq_true, Nat.add_zero, nl0, nl1, nl2, nl3, nl4, nl5, nl6, nl7, nl8, nl9, nl10, nl11, nl12, nl13, nl14, nl15, nl16, nl17, nl18, nl19, nl20, nl21, nl22, nl23, nl24, nl25, nl26, nl27, nl28, nl29, nl30, nl31, nl32, nl33, nl34, nl35, nl36, nl37, nl38, nl39, nl40, nl41, nl42, nl43, nl44, nl45, nl46, nl47, nl48, nl49, nl50, nl51, nl52, nl53, nl54, nl55, nl56, nl57, nl58, nl59, nl60, nl61, nl62, nl63, nl64, nl65, nl66, nl67, nl68, nl69, nl70, nl71, nl72, nl73, nl74, nl75, nl76, nl77, nl78, nl79, nl80, nl81, nl82, nl83, nl84, nl85, nl86, nl87, nl88, nl89, nl90, nl91, nl92, nl93, nl94, nl95, nl96, nl97, nl98, nl99, nl100, nl101, nl102, nl103, nl104, nl105, nl106, nl107, nl108, nl109, nl110, nl111, nl112, nl113, nl114, nl115, nl116, nl117, nl118, nl119, nl120, nl121, nl122, nl123, nl124, nl125, nl126, nl127, nl979, nl244, nl1000]
  rw [if_neg (by omega), f_X9_command_L24]
  simp (disch := omega) only [nn_add, nn_mul, nn_sub, nn_le, nn_lt, nn_eq, nn_div, ldi_nn, ldc_nn, sti_nn, Option.bind_some, if_true, if_false, not_true_eq_false, not_false_eq_true, Nat.add_zero, nl0, nl1, nl2, nl3, nl4, nl5, nl6, nl7, nl8, nl9, nl10, nl11, nl12, nl13, nl14, nl15, nl16, nl17, nl18, nl19, nl20, nl21, nl22, nl23, nl24, nl25, nl26, nl27, nl28, nl29, nl30, nl31, nl32, nl33, nl34, nl35, nl36, nl37, nl38, nl39, nl40, nl41, nl42, nl43, nl44, nl45, nl46, nl47, nl48, nl49, nl50, nl51, nl52, nl53, nl54, nl55, nl56, nl57, nl58, nl59, nl60, nl61, nl62, nl63, nl64, nl65, nl66, nl67, nl68, nl69, nl70, nl71, nl72, nl73, nl74, nl75, nl76, nl77, nl78, nl79, nl80, nl81, nl82, nl83, nl84, nl85, nl86, nl87, nl88, nl89, nl90, nl91, nl92, nl93, nl94, nl95, nl96, nl97, nl98, nl99, nl100, nl101, nl102, nl103, nl104, nl105, nl106, nl107, nl108, nl109, nl110, nl111, nl112, nl113, nl114, nl115, nl116, nl117, nl118, nl119, nl120, nl121, nl122, nl123, nl124, nl125, nl126, nl127, nl979, nl244, nl1000]
  rw [if_neg (by omega), f_X9_command_L24]
  simp (disch := omega) only [nn_add, nn_mul, nn_sub, nn_le, nn_lt, nn_eq, nn_div, ldi_nn, ldc_nn, sti_nn, Option.bind_some, if_true, if_false, not_true_eq_false, not_false_eq_true, Nat.add_zero, nl0, nl1, nl2, nl3, nl4, nl5, nl6, nl7, nl8, nl9, nl10, nl11, nl12, nl13, nl14, nl15, nl16, nl17, nl18, nl19, nl20, nl21, nl22, nl23, nl24, nl25, nl26, nl27, nl28, nl29, nl30, nl31, nl32, nl33, nl34, nl35, nl36, nl37, nl38, nl39, nl40, nl41, nl42, nl43, nl44, nl45, nl46, nl47, nl48, nl49, nl50, nl51, nl52, nl53, nl54, nl55, nl56, nl57, nl58, nl59, nl60, nl61, nl62, nl63, nl64, nl65, nl66, nl67, nl68, nl69, nl70, nl71, nl72, nl73, nl74, nl75, nl76, nl77, nl78, nl79, nl80, nl81, nl82, nl83, nl84, nl85, nl86, nl87, nl88, nl89, nl90, nl91, nl92, nl93, nl94, nl95, nl96, nl97, nl98, nl99, nl100, nl101, nl102, nl103, nl104, nl105, nl106, nl107, nl108, nl109, nl110, nl111, nl112, nl113, nl114, nl115, nl116, nl117, nl118, nl119, nl120, nl121, nl122, nl123, nl124, nl125, nl126, nl127, nl979, nl244, nl1000]
  rw [if_pos (by omega)]
theorem J96_1 (ht : TX T l w) {x a : Nat} (hx : x < w.length) (ha : a ≤ 240) : f_X9_command_J96 (nn a) (nn 43) rows (nn x) (-1) cm T l = some (upd (upd rows (a + 1) (nn (x + 1))) (a + 2) (nn (nl w 10 (x + 1))), nn (x + 1 + nl w 10 (x + 1)), if nl w 10 (x + 1) = 0 then nn (x + 1) else -1, cm) := by
  unfold f_X9_command_J96
  rw [if_neg (fun z => z rfl), show (1 : Int32) = nn 1 from rfl, show (2 : Int32) = nn 2 from rfl, nn_add, nn_add, nn_add, sti_nn (by omega) (by omega), Option.bind_some, show (10 : Int32) = nn 10 from rfl]
  have e := r_letters ht (m := 10) (x := x + 1) (by omega) (by omega)
  rw [show (-nn 1 : Int32) = -1 from rfl, e, Option.bind_some, sti_nn (by omega) (by omega)]
  rfl
theorem J96_2 (ht : TX T l w) {x a v : Nat} (hx : x < w.length) (ha : a ≤ 240) (hv : v < 65536) (h1 : v ≠ 43) (h2 : v ≠ 61) (h3 : v ≠ 120) (h4 : v ≠ 106) : f_X9_command_J96 (nn a) (nn v) rows (nn x) (-1) cm T l = if dg w (x + 1) = true then some (upd (upd rows (a + 1) (nn (w.getD (x + 1) 0) - nn 48)) (a + 2) 0, nn (x + 2), -1, cm) else some (upd (upd rows (a + 1) 0) (a + 2) 0, nn (x + 1), nn (x + 1), cm) := by
  unfold f_X9_command_J96
  rw [if_pos (show ¬ nn v = 43 by rw [nl43, nn_eq (by omega) (by omega)]; exact h1)]
  rw [show nn x + 1 = nn (x + 1) from nn_add x 1, show nn a + 1 = nn (a + 1) from nn_add a 1, show nn a + 2 = nn (a + 2) from nn_add a 2]
  by_cases q : dg w (x + 1) = true
  · rw [if_pos q, r_digit_in ht q, Option.bind_some, sti_nn (by omega) (by omega), Option.bind_some, if_neg (show ¬ nn v = 61 by rw [nl61, nn_eq (by omega) (by omega)]; exact h2), if_neg (show ¬ nn v = 120 by rw [nl120, nn_eq (by omega) (by omega)]; exact h3), if_pos (show ¬ nn v = 106 by rw [nl106, nn_eq (by omega) (by omega)]; exact h4)]
    unfold f_X9_command_J184
    rw [sti_nn (by omega) (by omega), Option.bind_some, if_neg (show ¬ nn v = 61 by rw [nl61, nn_eq (by omega) (by omega)]; exact h2)]
  · rw [if_neg q, r_digit_out ht (by omega) q, Option.bind_some, sti_nn (by omega) (by omega), Option.bind_some, if_neg (show ¬ nn v = 61 by rw [nl61, nn_eq (by omega) (by omega)]; exact h2), if_neg (show ¬ nn v = 120 by rw [nl120, nn_eq (by omega) (by omega)]; exact h3), if_pos (show ¬ nn v = 106 by rw [nl106, nn_eq (by omega) (by omega)]; exact h4)]
    unfold f_X9_command_J184
    rw [sti_nn (by omega) (by omega), Option.bind_some, if_neg (show ¬ nn v = 61 by rw [nl61, nn_eq (by omega) (by omega)]; exact h2)]
theorem J96_3 (ht : TX T l w) {x a v : Nat} (hx : x < w.length) (ha : a ≤ 240) (hv : v = 120 ∨ v = 106) : f_X9_command_J96 (nn a) (nn v) rows (nn x) (-1) cm T l = if dg w (x + 1) = true then (if dg w (x + 2) = true then some (upd (upd rows (a + 1) (nn (w.getD (x + 1) 0) - nn 48)) (a + 2) (nn (w.getD (x + 2) 0) - nn 48), nn (x + 3), -1, cm) else some (upd (upd rows (a + 1) (nn (w.getD (x + 1) 0) - nn 48)) (a + 2) 0, nn (x + 2), nn (x + 2), cm)) else some (upd (upd rows (a + 1) 0) (a + 2) 0, nn (x + 1), nn (x + 1), cm) := by
  have h60 := ht.2.1
  have hJ : ∀ (R : Nat → Int32) (h f : Int32), (if nn v = 61 then (f_X9_command_J176 (nn a) (nn v) R h f cm (nn (a + 2)) T l) else (if nn v = 120 then (f_X9_command_J176 (nn a) (nn v) R h f cm (nn (a + 2)) T l) else (if ¬ nn v = 106 then (f_X9_command_J184 (nn a) (nn v) R h f cm (nn (a + 2)) 0 T l) else (f_X9_command_J176 (nn a) (nn v) R h f cm (nn (a + 2)) T l)))) = f_X9_command_J176 (nn a) (nn v) R h f cm (nn (a + 2)) T l := by
    intro R h f
    rcases hv with rfl | rfl
    · rw [if_neg (by decide), if_pos (by decide)]
    · rw [if_neg (by decide), if_neg (by decide), if_neg (fun z => z rfl)]
  have hn : ¬ nn v = 61 := by rcases hv with rfl | rfl <;> decide
  unfold f_X9_command_J96
  rw [if_pos (show ¬ nn v = 43 by rcases hv with rfl | rfl <;> decide)]
  rw [show nn x + 1 = nn (x + 1) from nn_add x 1, show nn a + 1 = nn (a + 1) from nn_add a 1, show nn a + 2 = nn (a + 2) from nn_add a 2]
  by_cases q : dg w (x + 1) = true
  · have hq := dg_in q
    rw [if_pos q, r_digit_in ht q, Option.bind_some, sti_nn (by omega) (by omega), Option.bind_some, hJ]
    unfold f_X9_command_J176
    by_cases q2 : dg w (x + 2) = true
    · rw [if_pos q2, r_digit_in ht (x := x + 1 + 1) q2, Option.bind_some]
      unfold f_X9_command_J184
      rw [sti_nn (by omega) (by omega), Option.bind_some, if_neg hn]
    · rw [if_neg q2, r_digit_out ht (x := x + 1 + 1) (by omega) q2, Option.bind_some]
      unfold f_X9_command_J184
      rw [sti_nn (by omega) (by omega), Option.bind_some, if_neg hn]
  · rw [if_neg q, r_digit_out ht (by omega) q, Option.bind_some, sti_nn (by omega) (by omega), Option.bind_some, hJ]
    unfold f_X9_command_J176
    rw [r_digit_f T l _ (by omega), Option.bind_some]
    unfold f_X9_command_J184
    rw [sti_nn (by omega) (by omega), Option.bind_some, if_neg hn]
theorem d_e : ¬ nn 0 = (1 : Int32) := by decide
theorem d_f : ¬ (0 : Int32) = 1 := by decide
theorem d61 : nn 61 = (61 : Int32) := rfl
theorem J96_4 (ht : TX T l w) {x a : Nat} (hx : x < w.length) (ha : a ≤ 240) : ∃ rows' h, f_X9_command_J96 (nn a) (nn 61) rows (nn x) (-1) cm T l = some (rows', nn h, (if dg w (x + 1) = true then (if dg w (x + 2) = true then (if lz w (x + 3) = true then -1 else nn (x + 3)) else nn (x + 2)) else nn (x + 1)), cm) ∧ (∀ z, z < a + 1 → rows' z = rows z) ∧ (dg w (x + 1) = true → dg w (x + 2) = true → lz w (x + 3) = true → h = x + 4 ∧ rows' (a + 1) = nn (w.getD (x + 1) 0) - nn 48 ∧ rows' (a + 2) = nn (w.getD (x + 2) 0) - nn 48 ∧ rows' (a + 3) = nn (w.getD (x + 3) 0)) := by
  have h60 := ht.2.1
  unfold f_X9_command_J96
  rw [if_pos (by decide)]
  rw [show nn x + 1 = nn (x + 1) from nn_add x 1, show nn a + 1 = nn (a + 1) from nn_add a 1, show nn a + 2 = nn (a + 2) from nn_add a 2]
  by_cases q : dg w (x + 1) = true
  · have hq := dg_in q
    rw [if_pos q, r_digit_in ht q, Option.bind_some, sti_nn (by omega) (by omega), Option.bind_some, if_pos d61]
    unfold f_X9_command_J176
    by_cases q2 : dg w (x + 2) = true
    · have hq2 := dg_in q2
      rw [if_pos q2, r_digit_in ht (x := x + 1 + 1) q2, Option.bind_some]
      unfold f_X9_command_J184
      rw [sti_nn (by omega) (by omega), Option.bind_some, if_pos d61, show nn a + 3 = nn (a + 3) from nn_add a 3]
      have e := r_letters ht (m := 1) (x := x + 1 + 1 + 1) (by omega) (by omega)
      by_cases q3 : lz w (x + 3) = true
      · have hq3 := lz_in q3
        have n1 : nl w 1 (x + 1 + 1 + 1) = 1 := by rw [nlS, if_pos q3, nl0']
        rw [n1, if_neg (by decide)] at e
        have e' : f_X9_letters T l (nn (x + 1 + 1 + 1)) (-1) 1 = some (nn 1, nn (x + 1 + 1 + 1 + 1), -1) := e
        rw [if_pos q3, e', Option.bind_some, if_neg (fun z => z rfl), show nn (x + 1 + 1 + 1 + 1) - 1 = nn (x + 3) from (nn_sub (b := 1) (by omega)), ldc_nn (by omega) (by omega), Option.bind_some, sti_nn (by omega) (by omega), (ht.2.2 (x + 3) hq3).1]
        refine ⟨_, _, rfl, fun z hz => ?_, fun _ _ _ => ⟨rfl, ?_, ?_, upd_eq _ _ _⟩⟩
        · rw [upd_ne (by omega), upd_ne (by omega), upd_ne (by omega)]
        · rw [upd_ne (by omega), upd_ne (by omega), upd_eq]
        · rw [upd_ne (by omega), upd_eq]
      · have n1 : nl w 1 (x + 1 + 1 + 1) = 0 := by rw [nlS, if_neg q3]
        rw [n1, if_pos rfl] at e
        have e' : f_X9_letters T l (nn (x + 1 + 1 + 1)) (-1) 1 = some (nn 0, nn (x + 1 + 1 + 1), nn (x + 1 + 1 + 1)) := e
        rw [if_neg q3, e', Option.bind_some, if_pos d_e, sti_nn (by omega) (by omega)]
        refine ⟨_, _, rfl, fun z hz => ?_, fun _ _ y => absurd y q3⟩
        rw [upd_ne (by omega), upd_ne (by omega), upd_ne (by omega)]
    · rw [if_neg q2, r_digit_out ht (x := x + 1 + 1) (by omega) q2, Option.bind_some]
      unfold f_X9_command_J184
      rw [sti_nn (by omega) (by omega), Option.bind_some, if_pos d61, show nn a + 3 = nn (a + 3) from nn_add a 3, r_letters_f T l _ _ (by omega), Option.bind_some, if_pos d_f, sti_nn (by omega) (by omega)]
      refine ⟨_, _, rfl, fun z hz => ?_, fun _ y _ => absurd y q2⟩
      rw [upd_ne (by omega), upd_ne (by omega), upd_ne (by omega)]
  · rw [if_neg q, r_digit_out ht (by omega) q, Option.bind_some, sti_nn (by omega) (by omega), Option.bind_some, if_pos d61]
    unfold f_X9_command_J176
    rw [r_digit_f T l _ (by omega), Option.bind_some]
    unfold f_X9_command_J184
    rw [sti_nn (by omega) (by omega), Option.bind_some, if_pos d61, show nn a + 3 = nn (a + 3) from nn_add a 3, r_letters_f T l _ _ (by omega), Option.bind_some, if_pos d_f, sti_nn (by omega) (by omega)]
    refine ⟨_, _, rfl, fun z hz => ?_, fun y _ _ => absurd y q⟩
    rw [upd_ne (by omega), upd_ne (by omega), upd_ne (by omega)]
end RREAD
