/-! THE REFERENCE CHANGES ITS PRESENT ROW -/
section ROPS
variable {A B W M : Nat → Int32} {b : Bk} {w : List Nat} {N i j p q s : Nat}
theorem raw_set (hi : i < 8) (hp : p < 11) (x : Int32) : f_X9_set A (nn i) (nn p) x = some (upd A (1 + 11 * i + p) x) := by
  unfold f_X9_set
  simp (disch := omega) only [nn_add, nn_mul, nn_sub, nn_le, nn_lt, nn_eq, nn_div, ldi_nn, ldc_nn, sti_nn, Option.bind_some, if_true, if_false, not_true_eq_false, not_false_eq_true, Nat.add_zero, nl0, nl1, nl2, nl3, nl4, nl5, nl6, nl7, nl8, nl9, nl10, nl11, nl12, nl13, nl14, nl15, nl16, nl17, nl18, nl19, nl20, nl21, nl22, nl23, nl24, nl25, nl26, nl27, nl28, nl29, nl30, nl31, nl32, nl33, nl34, nl35, nl36, nl37, nl38, nl39, nl40, nl41, nl42, nl43, nl44, nl45, nl46, nl47, nl48, nl49, nl50, nl51, nl52, nl53, nl54, nl55, nl56, nl57, nl58, nl59, nl60, nl61, nl62, nl63, nl64, nl65, nl66, nl67, nl68, nl69, nl70, nl71, nl72, nl73, nl74, nl75, nl76, nl77, nl78, nl79, nl80, nl81, nl82, nl83, nl84, nl85, nl86, nl87, nl88, nl89, nl90, nl91, nl92, nl93, nl94, nl95, nl96, nl97, nl98, nl99, nl100, nl101, nl102, nl103, nl104, nl105, nl106, nl107, nl108, nl109, nl110, nl111, nl112, nl113, nl114, nl115, nl116, nl117, nl118, nl119, nl120, nl121, nl122, nl123, nl124, nl125, nl126, nl127, nl979, nl244, nl1000]
theorem raw_at (hi : i < 8) (hp : p < 11) : f_X9_at A (nn i) (nn p) = some (A (1 + 11 * i + p)) := by
  unfold f_X9_at
  simp (disch := omega) only [nn_add, nn_mul, nn_sub, nn_le, nn_lt, nn_eq, nn_div, ldi_nn, ldc_nn, sti_nn, Option.bind_some, if_true, if_false, not_true_eq_false, not_false_eq_true, Nat.add_zero, nl0, nl1, nl2, nl3, nl4, nl5, nl6, nl7, nl8, nl9, nl10, nl11, nl12, nl13, nl14, nl15, nl16, nl17, nl18, nl19, nl20, nl21, nl22, nl23, nl24, nl25, nl26, nl27, nl28, nl29, nl30, nl31, nl32, nl33, nl34, nl35, nl36, nl37, nl38, nl39, nl40, nl41, nl42, nl43, nl44, nl45, nl46, nl47, nl48, nl49, nl50, nl51, nl52, nl53, nl54, nl55, nl56, nl57, nl58, nl59, nl60, nl61, nl62, nl63, nl64, nl65, nl66, nl67, nl68, nl69, nl70, nl71, nl72, nl73, nl74, nl75, nl76, nl77, nl78, nl79, nl80, nl81, nl82, nl83, nl84, nl85, nl86, nl87, nl88, nl89, nl90, nl91, nl92, nl93, nl94, nl95, nl96, nl97, nl98, nl99, nl100, nl101, nl102, nl103, nl104, nl105, nl106, nl107, nl108, nl109, nl110, nl111, nl112, nl113, nl114, nl115, nl116, nl117, nl118, nl119, nl120, nl121, nl122, nl123, nl124, nl125, nl126, nl127, nl979, nl244, nl1000]
theorem raw_rsize (hi : i < 8) : f_X9_size A (nn i) = some (A (1 + 11 * i + 10)) := by
  unfold f_X9_size
  simp (disch := omega) only [nn_add, nn_mul, nn_sub, nn_le, nn_lt, nn_eq, nn_div, ldi_nn, ldc_nn, sti_nn, Option.bind_some, if_true, if_false, not_true_eq_false, not_false_eq_true, Nat.add_zero, nl0, nl1, nl2, nl3, nl4, nl5, nl6, nl7, nl8, nl9, nl10, nl11, nl12, nl13, nl14, nl15, nl16, nl17, nl18, nl19, nl20, nl21, nl22, nl23, nl24, nl25, nl26, nl27, nl28, nl29, nl30, nl31, nl32, nl33, nl34, nl35, nl36, nl37, nl38, nl39, nl40, nl41, nl42, nl43, nl44, nl45, nl46, nl47, nl48, nl49, nl50, nl51, nl52, nl53, nl54, nl55, nl56, nl57, nl58, nl59, nl60, nl61, nl62, nl63, nl64, nl65, nl66, nl67, nl68, nl69, nl70, nl71, nl72, nl73, nl74, nl75, nl76, nl77, nl78, nl79, nl80, nl81, nl82, nl83, nl84, nl85, nl86, nl87, nl88, nl89, nl90, nl91, nl92, nl93, nl94, nl95, nl96, nl97, nl98, nl99, nl100, nl101, nl102, nl103, nl104, nl105, nl106, nl107, nl108, nl109, nl110, nl111, nl112, nl113, nl114, nl115, nl116, nl117, nl118, nl119, nl120, nl121, nl122, nl123, nl124, nl125, nl126, nl127, nl979, nl244, nl1000]
theorem r_adds_L {m : Nat} (hN : N < 8) (hm : m ≤ 10) (kk : Int32 → (Nat → Int32) → Option (Int32 × (Nat → Int32) × (Nat → Int32) × Int32)) : ∀ (fuel k : Nat) (B : Nat → Int32), k ≤ m → m < fuel + k → (∀ q, q < k → B (1 + 11 * N + q) = W q) → (∀ z, ¬ (1 + 11 * N ≤ z ∧ z < 1 + 11 * N + k) → B z = A z) → ∃ B', f_X9_adds_L30 (nn N) W (nn m) fuel (nn k) B kk = kk (nn m) B' ∧ (∀ q, q < m → B' (1 + 11 * N + q) = W q) ∧ (∀ z, ¬ (1 + 11 * N ≤ z ∧ z < 1 + 11 * N + m) → B' z = A z) := by
  intro fuel
  induction fuel with
  | zero => intro k B h0 h1; omega
  | succ fuel ih =>
    intro k B h0 h1 h2 h3
    rw [f_X9_adds_L30]
    simp (disch := omega) only [nn_add, nn_mul, nn_sub, nn_le, nn_lt, nn_eq, nn_div, ldi_nn, ldc_nn, sti_nn, Option.bind_some, if_true, if_false, not_true_eq_false, not_false_eq_true, Nat.add_zero, nl0, nl1, nl2, nl3, nl4, nl5, nl6, nl7, nl8, nl9, nl10, nl11, nl12, nl13, nl14, nl15, nl16, nl17, nl18, nl19, nl20, nl21, nl22, nl23, nl24, nl25, nl26, nl27, nl28, nl29, nl30, nl31, nl32, nl33, nl34, nl35, nl36, nl37, nl38, nl39, nl40, nl41, nl42, nl43, nl44, nl45, nl46, nl47, nl48, nl49, nl50, nl51, nl52, nl53, nl54, nl55, nl56, nl57, nl58, nl59, nl60, nl61, nl62, nl63, nl64, nl65, nl66, nl67, nl68, nl69, nl70, nl71, nl72, nl73, nl74, nl75, nl76, nl77, nl78, nl79, nl80, nl81, nl82, nl83, nl84, nl85, nl86, nl87, nl88, nl89, nl90, nl91, nl92, nl93, nl94, nl95, nl96, nl97, nl98, nl99, nl100, nl101, nl102, nl103, nl104, nl105, nl106, nl107, nl108, nl109, nl110, nl111, nl112, nl113, nl114, nl115, nl116, nl117, nl118, nl119, nl120, nl121, nl122, nl123, nl124, nl125, nl126, nl127, nl979, nl244, nl1000]
    by_cases hk : m ≤ k
    · rw [if_pos hk]
      have : k = m := by omega
      subst this
      exact ⟨B, rfl, h2, h3⟩
    · rw [if_neg hk, raw_set hN (by omega), Option.bind_some]
      refine ih (k + 1) _ (by omega) (by omega) (fun q hq => ?_) (fun z hz => ?_)
      · by_cases y : q = k
        · rw [y, upd_eq]
        · rw [upd_ne (by omega)]
          exact h2 q (by omega)
      · rw [upd_ne (by omega)]
        exact h3 z (by omega)
theorem r_adds (hw : Wf b) (hr : RB A 0 b) (hg : GL w) (hd : ∀ q, q < w.length → W q = nn (w.getD q 0)) (h8 : b.length < 8) (r : Int32) : ∃ A', f_X9_adds A M W r (nn w.length) = some (1, A', M, nn b.length) ∧ RB A' 0 (b ++ [w]) ∧ ∀ z, 89 ≤ z → A' z = A z := by
  have hm := hg.2.1
  obtain ⟨B, e, g1, g2⟩ := r_adds_L (N := b.length) (A := A) (W := W) h8 hm (fun _ q1 => (f_X9_set q1 (nn b.length) (nn 10) (nn w.length)).bind fun r64_10 => (ldi r64_10 979 (nn 0)).bind fun v73_11 => (sti r64_10 979 (nn 0) (v73_11 + (nn 1))).bind fun g76_12 => some ((nn 1), g76_12, M, (nn b.length))) 1000 0 A (by omega) (by omega) (fun q hq => by omega) (fun z _ => rfl)
  have e0 : upd B (1 + 11 * b.length + 10) (nn w.length) 0 = nn b.length := by rw [upd_ne (by omega), g2 _ (by omega)]; exact hr.1
  refine ⟨upd (upd B (1 + 11 * b.length + 10) (nn w.length)) 0 (nn (b.length + 1)), ?_, RB.mk' ?_ (fun k hk => ?_), fun z hz => ?_⟩
  · unfold f_X9_adds
    rw [r_many hr, Option.bind_some, if_pos (show ¬ nn b.length = 8 by rw [nl8, nn_eq (by omega) (by omega)]; omega)]
    unfold f_X9_adds_J17
    rw [nl0, r_refuses_0, Option.bind_some, if_pos rfl]
    rw [raw_set h8 (by omega), Option.bind_some, ldi_nn (by omega) (by omega), Option.bind_some, e0, sti_nn (by omega) (by omega), Option.bind_some, nn_add] at e
    exact e
  · rw [upd_eq, len_app]
  · rw [len_app] at hk
    rw [ln_app]
    by_cases z : k = b.length
    · rw [if_pos z, z]
      refine ⟨by rw [upd_ne (by omega), upd_eq], fun p hp => ?_⟩
      rw [upd_ne (by omega), upd_ne (by omega), g1 p hp]
      exact hd p hp
    · rw [if_neg z]
      have hk' : k < b.length := by omega
      have hl := hw.len hk'
      refine ⟨?_, fun p hp => ?_⟩
      · rw [upd_ne (by omega), upd_ne (by omega), g2 _ (by omega)]
        exact (hr.line hk').1
      · rw [upd_ne (by omega), upd_ne (by omega), g2 _ (by omega)]
        exact (hr.line hk').2 p hp
  · rw [upd_ne (by omega), upd_ne (by omega), g2 _ (by omega)]
theorem r_addsFull (hr : RB A 0 b) (h8 : b.length = 8) (r s : Int32) : f_X9_adds A M W r s = some (0, A, rfM M (nn 1) (nn 8), r) := by
  unfold f_X9_adds
  rw [r_many hr, Option.bind_some, h8, if_neg (by first | decide | exact d_a | exact d_b)]
  unfold f_X9_adds_J17
  rw [nl1, nl8, r_refuses_1, Option.bind_some, if_neg (by first | decide | exact d_a | exact d_b)]
theorem r_goes_L (hN : N ≤ 8) (hi : i < N) (kk : Int32 → (Nat → Int32) → Option (Nat → Int32)) : ∀ (fuel x : Nat) (B : Nat → Int32), 11 * i ≤ x → x ≤ 11 * (N - 1) → 11 * (N - 1) < fuel + x → B 0 = nn N → (∀ z, 1 + 11 * i ≤ z → z < 1 + x → B z = A (z + 11)) → (∀ z, ¬ (1 + 11 * i ≤ z ∧ z < 1 + x) → B z = A z) → ∃ B', f_X9_goes_L5 fuel (nn x) B kk = kk (nn (11 * (N - 1))) B' ∧ (∀ z, 1 + 11 * i ≤ z → z < 1 + 11 * (N - 1) → B' z = A (z + 11)) ∧ (∀ z, ¬ (1 + 11 * i ≤ z ∧ z < 1 + 11 * (N - 1)) → B' z = A z) := by
  intro fuel
  induction fuel with
  | zero => intro x B h0 h1 h2; omega
  | succ fuel ih =>
    intro x B h0 h1 h2 h3 h4 h5
    rw [f_X9_goes_L5]
    unfold f_X9_many
    simp (disch := omega) only [nn_add, nn_mul, nn_sub, nn_le, nn_lt, nn_eq, nn_div, ldi_nn, ldc_nn, sti_nn, Option.bind_some, if_true, if_false, not_true_eq_false, not_false_eq_true, Nat.add_zero, nl0, nl1, nl2, nl3, nl4, nl5, nl6, nl7, nl8, nl9, nl10, nl11, nl12, nl13, nl14, nl15, nl16, nl17, nl18, nl19, nl20, nl21, nl22, nl23, nl24, nl25, nl26, nl27, nl28, nl29, nl30, nl31, nl32, nl33, nl34, nl35, nl36, nl37, nl38, nl39, nl40, nl41, nl42, nl43, nl44, nl45, nl46, nl47, nl48, nl49, nl50, nl51, nl52, nl53, nl54, nl55, nl56, nl57, nl58, nl59, nl60, nl61, nl62, nl63, nl64, nl65, nl66, nl67, nl68, nl69, nl70, nl71, nl72, nl73, nl74, nl75, nl76, nl77, nl78, nl79, nl80, nl81, nl82, nl83, nl84, nl85, nl86, nl87, nl88, nl89, nl90, nl91, nl92, nl93, nl94, nl95, nl96, nl97, nl98, nl99, nl100, nl101, nl102, nl103, nl104, nl105, nl106, nl107, nl108, nl109, nl110, nl111, nl112, nl113, nl114, nl115, nl116, nl117, nl118, nl119, nl120, nl121, nl122, nl123, nl124, nl125, nl126, nl127, nl979, nl244, nl1000]
    rw [h3]
    simp (disch := omega) only [nn_add, nn_mul, nn_sub, nn_le, nn_lt, nn_eq, nn_div, ldi_nn, ldc_nn, sti_nn, Option.bind_some, if_true, if_false, not_true_eq_false, not_false_eq_true, Nat.add_zero, nl0, nl1, nl2, nl3, nl4, nl5, nl6, nl7, nl8, nl9, nl10, nl11, nl12, nl13, nl14, nl15, nl16, nl17, nl18, nl19, nl20, nl21, nl22, nl23, nl24, nl25, nl26, nl27, nl28, nl29, nl30, nl31, nl32, nl33, nl34, nl35, nl36, nl37, nl38, nl39, nl40, nl41, nl42, nl43, nl44, nl45, nl46, nl47, nl48, nl49, nl50, nl51, nl52, nl53, nl54, nl55, nl56, nl57, nl58, nl59, nl60, nl61, nl62, nl63, nl64, nl65, nl66, nl67, nl68, nl69, nl70, nl71, nl72, nl73, nl74, nl75, nl76, nl77, nl78, nl79, nl80, nl81, nl82, nl83, nl84, nl85, nl86, nl87, nl88, nl89, nl90, nl91, nl92, nl93, nl94, nl95, nl96, nl97, nl98, nl99, nl100, nl101, nl102, nl103, nl104, nl105, nl106, nl107, nl108, nl109, nl110, nl111, nl112, nl113, nl114, nl115, nl116, nl117, nl118, nl119, nl120, nl121, nl122, nl123, nl124, nl125, nl126, nl127, nl979, nl244, nl1000]
    by_cases hx : 11 * (N - 1) ≤ x
    · rw [if_pos hx]
      have : x = 11 * (N - 1) := by omega
      subst this
      exact ⟨B, rfl, h4, h5⟩
    · rw [if_neg hx]
      refine ih (x + 1) _ (by omega) (by omega) (by omega) (by rw [upd_ne (by omega)]; exact h3) (fun z z1 z2 => ?_) (fun z hz => ?_)
      · by_cases y : z = 1 + x
        · rw [y, upd_eq]
          exact h5 _ (by omega)
        · rw [upd_ne (by omega)]
          exact h4 z z1 (by omega)
      · rw [upd_ne (by omega)]
        exact h5 z (by omega)
theorem r_goes (hw : Wf b) (hr : RB A 0 b) (hi : i < b.length) : ∃ A', f_X9_goes A (nn i) = some A' ∧ RB A' 0 (b.eraseIdx i) ∧ ∀ z, 89 ≤ z → A' z = A z := by
  have h8 := hw.1
  obtain ⟨B, e, g1, g2⟩ := r_goes_L (i := i) (N := b.length) (A := A) h8 hi (fun _ q1 => (ldi q1 979 (nn 0)).bind fun v49_7 => (sti q1 979 (nn 0) (v49_7 - (nn 1))).bind fun g52_8 => some g52_8) 1000 (11 * i) A (by omega) (by omega) (by omega) hr.1 (fun z z1 z2 => by omega) (fun z _ => rfl)
  have e0 : B 0 = nn b.length := by rw [g2 _ (by omega)]; exact hr.1
  refine ⟨upd B 0 (nn (b.length - 1)), ?_, RB.mk' (by rw [upd_eq, len_del hi]) (fun k hk => ?_), fun z hz => ?_⟩
  · unfold f_X9_goes
    simp (disch := omega) only [nn_add, nn_mul, nn_sub, nn_le, nn_lt, nn_eq, nn_div, ldi_nn, ldc_nn, sti_nn, Option.bind_some, if_true, if_false, not_true_eq_false, not_false_eq_true, Nat.add_zero, nl0, nl1, nl2, nl3, nl4, nl5, nl6, nl7, nl8, nl9, nl10, nl11, nl12, nl13, nl14, nl15, nl16, nl17, nl18, nl19, nl20, nl21, nl22, nl23, nl24, nl25, nl26, nl27, nl28, nl29, nl30, nl31, nl32, nl33, nl34, nl35, nl36, nl37, nl38, nl39, nl40, nl41, nl42, nl43, nl44, nl45, nl46, nl47, nl48, nl49, nl50, nl51, nl52, nl53, nl54, nl55, nl56, nl57, nl58, nl59, nl60, nl61, nl62, nl63, nl64, nl65, nl66, nl67, nl68, nl69, nl70, nl71, nl72, nl73, nl74, nl75, nl76, nl77, nl78, nl79, nl80, nl81, nl82, nl83, nl84, nl85, nl86, nl87, nl88, nl89, nl90, nl91, nl92, nl93, nl94, nl95, nl96, nl97, nl98, nl99, nl100, nl101, nl102, nl103, nl104, nl105, nl106, nl107, nl108, nl109, nl110, nl111, nl112, nl113, nl114, nl115, nl116, nl117, nl118, nl119, nl120, nl121, nl122, nl123, nl124, nl125, nl126, nl127, nl979, nl244, nl1000] at e ⊢
    rw [e, e0]
    simp (disch := omega) only [nn_add, nn_mul, nn_sub, nn_le, nn_lt, nn_eq, nn_div, ldi_nn, ldc_nn, sti_nn, Option.bind_some, if_true, if_false, not_true_eq_false, not_false_eq_true, Nat.add_zero, nl0, nl1, nl2, nl3, nl4, nl5, nl6, nl7, nl8, nl9, nl10, nl11, nl12, nl13, nl14, nl15, nl16, nl17, nl18, nl19, nl20, nl21, nl22, nl23, nl24, nl25, nl26, nl27, nl28, nl29, nl30, nl31, nl32, nl33, nl34, nl35, nl36, nl37, nl38, nl39, nl40, nl41, nl42, nl43, nl44, nl45, nl46, nl47, nl48, nl49, nl50, nl51, nl52, nl53, nl54, nl55, nl56, nl57, nl58, nl59, nl60, nl61, nl62, nl63, nl64, nl65, nl66, nl67, nl68, nl69, nl70, nl71, nl72, nl73, nl74, nl75, nl76, nl77, nl78, nl79, nl80, nl81, nl82, nl83, nl84, nl85, nl86, nl87, nl88, nl89, nl90, nl91, nl92, nl93, nl94, nl95, nl96, nl97, nl98, nl99, nl100, nl101, nl102, nl103, nl104, nl105, nl106, nl107, nl108, nl109, nl110, nl111, nl112, nl113, nl114, nl115, nl116, nl117, nl118, nl119, nl120, nl121, nl122, nl123, nl124, nl125, nl126, nl127, nl979, nl244, nl1000]
  · rw [len_del hi] at hk
    rw [ln_del]
    by_cases z : k < i
    · rw [if_pos z]
      have hl := hw.len (i := k) (by omega)
      refine ⟨?_, fun p hp => ?_⟩
      · rw [upd_ne (by omega), g2 _ (by omega)]
        exact (hr.line (by omega)).1
      · rw [upd_ne (by omega), g2 _ (by omega)]
        exact (hr.line (by omega)).2 p hp
    · rw [if_neg z]
      have hl := hw.len (i := k + 1) (by omega)
      refine ⟨?_, fun p hp => ?_⟩
      · rw [upd_ne (by omega), g1 _ (by omega) (by omega), show 1 + 11 * k + 10 + 11 = 1 + 11 * (k + 1) + 10 by omega]
        exact (hr.line (by omega)).1
      · rw [upd_ne (by omega), g1 _ (by omega) (by omega), show 1 + 11 * k + p + 11 = 1 + 11 * (k + 1) + p by omega]
        exact (hr.line (by omega)).2 p hp
  · rw [upd_ne (by omega), g2 _ (by omega)]
theorem r_setB (hw : Wf b) (hr : RB A 0 b) (hp : p < sz b i) (x : Nat) : f_X9_set A (nn i) (nn p) (nn x) = some (upd A (1 + 11 * i + p) (nn x)) ∧ RB (upd A (1 + 11 * i + p) (nn x)) 0 (b.set i ((ln b i).set p x)) := by
  have hi := sz_in hp
  have h10 := hw.sz_le i
  have h8 := hw.1
  refine ⟨raw_set (by omega) (by omega) _, RB.mk' (by rw [List.length_set, upd_ne (by omega)]; exact hr.1) (fun k hk => ?_)⟩
  rw [List.length_set] at hk
  rw [ln_set hi]
  have hl' := hw.len hk
  by_cases z : k = i
  · rw [if_pos z, z]
    refine ⟨by rw [List.length_set, upd_ne (by omega)]; exact (hr.line hi).1, fun q hq => ?_⟩
    rw [List.length_set] at hq
    rw [getD_set hp]
    by_cases y : q = p
    · rw [if_pos y, y, upd_eq]
    · rw [if_neg y, upd_ne (by omega)]
      exact (hr.line hi).2 q hq
  · rw [if_neg z]
    refine ⟨by rw [upd_ne (by omega)]; exact (hr.line hk).1, fun q hq => ?_⟩
    rw [upd_ne (by omega)]
    exact (hr.line hk).2 q hq
theorem r_swap_L (hi : i < 8) (hj : j < 8) (kk : Int32 → (Nat → Int32) → Option (Int32 × (Nat → Int32) × (Nat → Int32) × Int32)) : ∀ (fuel k : Nat) (B : Nat → Int32), k ≤ 11 → 11 < fuel + k → (∀ q, q < k → B (1 + 11 * i + q) = A (1 + 11 * j + q) ∧ B (1 + 11 * j + q) = A (1 + 11 * i + q)) → (∀ z, ¬ (1 + 11 * i ≤ z ∧ z < 1 + 11 * i + k) → ¬ (1 + 11 * j ≤ z ∧ z < 1 + 11 * j + k) → B z = A z) → ∃ B', f_X9_swaps_L13 (nn i) (nn j) fuel (nn k) B kk = kk (nn 11) B' ∧ mvR A B' i j ∧ mvR A B' j i ∧ (∀ z, ¬ (1 + 11 * i ≤ z ∧ z < 1 + 11 * i + 11) → ¬ (1 + 11 * j ≤ z ∧ z < 1 + 11 * j + 11) → B' z = A z) := by
  intro fuel
  induction fuel with
  | zero => intro k B h0 h1; omega
  | succ fuel ih =>
    intro k B h0 h1 h2 h3
    rw [f_X9_swaps_L13]
    simp (disch := omega) only [nn_add, nn_mul, nn_sub, nn_le, nn_lt, nn_eq, nn_div, ldi_nn, ldc_nn, sti_nn, Option.bind_some, if_true, if_false, not_true_eq_false, not_false_eq_true, Nat.add_zero, nl0, nl1, nl2, nl3, nl4, nl5, nl6, nl7, nl8, nl9, nl10, nl11, nl12, nl13, nl14, nl15, nl16, nl17, nl18, nl19, nl20, nl21, nl22, nl23, nl24, nl25, nl26, nl27, nl28, nl29, nl30, nl31, nl32, nl33, nl34, nl35, nl36, nl37, nl38, nl39, nl40, nl41, nl42, nl43, nl44, nl45, nl46, nl47, nl48, nl49, nl50, nl51, nl52, nl53, nl54, nl55, nl56, nl57, nl58, nl59, nl60, nl61, nl62, nl63, nl64, nl65, nl66, nl67, nl68, nl69, nl70, nl71, nl72, nl73, nl74, nl75, nl76, nl77, nl78, nl79, nl80, nl81, nl82, nl83, nl84, nl85, nl86, nl87, nl88, nl89, nl90, nl91, nl92, nl93, nl94, nl95, nl96, nl97, nl98, nl99, nl100, nl101, nl102, nl103, nl104, nl105, nl106, nl107, nl108, nl109, nl110, nl111, nl112, nl113, nl114, nl115, nl116, nl117, nl118, nl119, nl120, nl121, nl122, nl123, nl124, nl125, nl126, nl127, nl979, nl244, nl1000]
    by_cases hk : 11 ≤ k
    · rw [if_pos hk]
      have : k = 11 := by omega
      subst this
      exact ⟨B, rfl, fun q hq => (h2 q hq).1, fun q hq => (h2 q hq).2, h3⟩
    · rw [if_neg hk, raw_at hi (by omega), Option.bind_some, raw_at hj (by omega), Option.bind_some, raw_set hi (by omega), Option.bind_some, raw_set hj (by omega), Option.bind_some]
      rw [h3 (1 + 11 * i + k) (by omega) (by omega), h3 (1 + 11 * j + k) (by omega) (by omega)]
      refine ih (k + 1) _ (by omega) (by omega) (fun q hq => ?_) (fun z c1 c2 => ?_)
      · by_cases z : q = k
        · subst z
          refine ⟨?_, upd_eq _ _ _⟩
          by_cases e : i = j
          · subst e; rw [upd_eq]
          · rw [upd_ne (by omega), upd_eq]
        · rw [upd_ne (by omega), upd_ne (by omega), upd_ne (by omega), upd_ne (by omega)]
          exact h2 q (by omega)
      · rw [upd_ne (by omega), upd_ne (by omega)]
        exact h3 z (by omega) (by omega)
theorem ln_swap (hi : i < b.length) (hj : j < b.length) (k : Nat) : ln ((b.set i (ln b j)).set j (ln b i)) k = if k = j then ln b i else if k = i then ln b j else ln b k := by
  rw [ln_set (by rw [List.length_set]; exact hj), ln_set hi]
theorem len_swap (b : Bk) (i j : Nat) (u v : List Nat) : ((b.set i u).set j v).length = b.length := by rw [List.length_set, List.length_set]
theorem RB.swap {A' : Nat → Int32} (hw : Wf b) (hr : RB A 0 b) (hi : i < b.length) (hj : j < b.length) (m1 : mvR A A' i j) (m2 : mvR A A' j i) (g : ∀ z, ¬ (1 + 11 * i ≤ z ∧ z < 1 + 11 * i + 11) → ¬ (1 + 11 * j ≤ z ∧ z < 1 + 11 * j + 11) → A' z = A z) : RB A' 0 ((b.set i (ln b j)).set j (ln b i)) := by
  refine RB.mk' (by rw [len_swap, g 0 (by omega) (by omega)]; exact hr.1) (fun k hk => ?_)
  rw [len_swap] at hk
  rw [ln_swap hi hj]
  by_cases z : k = j
  · rw [if_pos z, z]
    exact m2.line (hw.len hi) (hr.line hi)
  · rw [if_neg z]
    by_cases y : k = i
    · rw [if_pos y, y]
      exact m1.line (hw.len hj) (hr.line hj)
    · rw [if_neg y]
      have hm : mvR A A' k k := fun p hp => g _ (by omega) (by omega)
      exact hm.line (hw.len hk) (hr.line hk)
theorem Wf.swap (hw : Wf b) (hi : i < b.length) (hj : j < b.length) : Wf ((b.set i (ln b j)).set j (ln b i)) := (hw.set hi (hw.gl hj)).set (by rw [List.length_set]; exact hj) (hw.gl hi)
theorem r_join_L {a m : Nat} (hi : i < 8) (hj : j < 8) (hij : i ≠ j) (ham : a + m ≤ 10) (kk : Int32 → (Nat → Int32) → Option (Int32 × (Nat → Int32) × (Nat → Int32) × Int32)) : ∀ (fuel k : Nat) (B : Nat → Int32), k ≤ m → m < fuel + k → (∀ q, q < k → B (1 + 11 * i + (a + q)) = A (1 + 11 * j + q)) → (∀ z, ¬ (1 + 11 * i + a ≤ z ∧ z < 1 + 11 * i + a + k) → B z = A z) → ∃ B', f_X9_joins_L72 (nn a) (nn m) (nn i) (nn j) fuel (nn k) B kk = kk (nn m) B' ∧ (∀ q, q < m → B' (1 + 11 * i + (a + q)) = A (1 + 11 * j + q)) ∧ (∀ z, ¬ (1 + 11 * i + a ≤ z ∧ z < 1 + 11 * i + a + m) → B' z = A z) := by
  intro fuel
  induction fuel with
  | zero => intro k B h0 h1; omega
  | succ fuel ih =>
    intro k B h0 h1 h2 h3
    rw [f_X9_joins_L72]
    simp (disch := omega) only [nn_add, nn_mul, nn_sub, nn_le, nn_lt, nn_eq, nn_div, ldi_nn, ldc_nn, sti_nn, Option.bind_some, if_true, if_false, not_true_eq_false, not_false_eq_true, Nat.add_zero, nl0, nl1, nl2, nl3, nl4, nl5, nl6, nl7, nl8, nl9, nl10, nl11, nl12, nl13, nl14, nl15, nl16, nl17, nl18, nl19, nl20, nl21, nl22, nl23, nl24, nl25, nl26, nl27, nl28, nl29, nl30, nl31, nl32, nl33, nl34, nl35, nl36, nl37, nl38, nl39, nl40, nl41, nl42, nl43, nl44, nl45, nl46, nl47, nl48, nl49, nl50, nl51, nl52, nl53, nl54, nl55, nl56, nl57, nl58, nl59, nl60, nl61, nl62, nl63, nl64, nl65, nl66, nl67, nl68, nl69, nl70, nl71, nl72, nl73, nl74, nl75, nl76, nl77, nl78, nl79, nl80, nl81, nl82, nl83, nl84, nl85, nl86, nl87, nl88, nl89, nl90, nl91, nl92, nl93, nl94, nl95, nl96, nl97, nl98, nl99, nl100, nl101, nl102, nl103, nl104, nl105, nl106, nl107, nl108, nl109, nl110, nl111, nl112, nl113, nl114, nl115, nl116, nl117, nl118, nl119, nl120, nl121, nl122, nl123, nl124, nl125, nl126, nl127, nl979, nl244, nl1000]
    by_cases hk : m ≤ k
    · rw [if_pos hk]
      have : k = m := by omega
      subst this
      exact ⟨B, rfl, h2, h3⟩
    · rw [if_neg hk, raw_at hj (by omega), Option.bind_some, raw_set hi (by omega), Option.bind_some, h3 (1 + 11 * j + k) (by omega)]
      refine ih (k + 1) _ (by omega) (by omega) (fun q hq => ?_) (fun z hz => ?_)
      · by_cases y : q = k
        · rw [y, upd_eq]
        · rw [upd_ne (by omega)]
          exact h2 q (by omega)
      · rw [upd_ne (by omega)]
        exact h3 z (by omega)
theorem RB.join {A' : Nat → Int32} (hw : Wf b) (hr : RB A 0 b) (hi : i < b.length) (hj : j < b.length) (h10 : sz b i + sz b j ≤ 10) (g1 : ∀ q, q < sz b j → A' (1 + 11 * i + (sz b i + q)) = A (1 + 11 * j + q)) (g2 : ∀ z, ¬ (1 + 11 * i + sz b i ≤ z ∧ z < 1 + 11 * i + sz b i + sz b j) → A' z = A z) : RB (upd A' (1 + 11 * i + 10) (nn (sz b i + sz b j))) 0 (b.set i (ln b i ++ ln b j)) := by
  have h8 := hw.1
  refine RB.mk' (by rw [List.length_set, upd_ne (by omega), g2 _ (by omega)]; exact hr.1) (fun k hk => ?_)
  rw [List.length_set] at hk
  rw [ln_set hi]
  by_cases z : k = i
  · rw [if_pos z, z]
    refine ⟨by rw [upd_eq, List.length_append]; rfl, fun p hp => ?_⟩
    rw [List.length_append] at hp
    unfold sz at h10 g1 g2
    rw [getD_app, upd_ne (by omega)]
    by_cases y : p < (ln b i).length
    · rw [if_pos y, g2 _ (by omega)]
      exact (hr.line hi).2 p y
    · rw [if_neg y]
      have := g1 (p - (ln b i).length) (by omega)
      rw [show 1 + 11 * i + ((ln b i).length + (p - (ln b i).length)) = 1 + 11 * i + p by omega] at this
      rw [this]
      exact (hr.line hj).2 _ (by omega)
  · rw [if_neg z]
    have hl := hw.len hk
    refine ⟨?_, fun p hp => ?_⟩
    · rw [upd_ne (by omega), g2 _ (by omega)]
      exact (hr.line hk).1
    · rw [upd_ne (by omega), g2 _ (by omega)]
      exact (hr.line hk).2 p hp
theorem r_turn_L {m : Nat} (hi : i < 8) (hm : m < 10) (kk : Int32 → (Nat → Int32) → Option (Int32 × (Nat → Int32) × (Nat → Int32) × (Nat → Int32) × Int32 × Int32)) : ∀ (fuel k : Nat) (B : Nat → Int32), 2 * k ≤ m + 1 → m < fuel + k → (∀ q, q ≤ m → (q < k ∨ m - k < q) → B (1 + 11 * i + q) = A (1 + 11 * i + (m - q))) → (∀ z, ¬ (∃ q, q ≤ m ∧ (q < k ∨ m - k < q) ∧ z = 1 + 11 * i + q) → B z = A z) → ∃ x B', f_X9_turns_L34 (nn (m + 1)) (nn i) fuel (nn k) B kk = kk x B' ∧ (∀ q, q ≤ m → B' (1 + 11 * i + q) = A (1 + 11 * i + (m - q))) ∧ (∀ z, ¬ (1 + 11 * i ≤ z ∧ z ≤ 1 + 11 * i + m) → B' z = A z) := by
  intro fuel
  induction fuel with
  | zero => intro k B h0 h1; omega
  | succ fuel ih =>
    intro k B h0 h1 h2 h3
    rw [f_X9_turns_L34]
    by_cases hk0 : m < k
    · omega
    simp (disch := omega) only [nn_add, nn_mul, nn_sub, nn_le, nn_lt, nn_eq, nn_div, ldi_nn, ldc_nn, sti_nn, Option.bind_some, if_true, if_false, not_true_eq_false, not_false_eq_true, Nat.add_zero, nl0, nl1, nl2, nl3, nl4, nl5, nl6, nl7, nl8, nl9, nl10, nl11, nl12, nl13, nl14, nl15, nl16, nl17, nl18, nl19, nl20, nl21, nl22, nl23, nl24, nl25, nl26, nl27, nl28, nl29, nl30, nl31, nl32, nl33, nl34, nl35, nl36, nl37, nl38, nl39, nl40, nl41, nl42, nl43, nl44, nl45, nl46, nl47, nl48, nl49, nl50, nl51, nl52, nl53, nl54, nl55, nl56, nl57, nl58, nl59, nl60, nl61, nl62, nl63, nl64, nl65, nl66, nl67, nl68, nl69, nl70, nl71, nl72, nl73, nl74, nl75, nl76, nl77, nl78, nl79, nl80, nl81, nl82, nl83, nl84, nl85, nl86, nl87, nl88, nl89, nl90, nl91, nl92, nl93, nl94, nl95, nl96, nl97, nl98, nl99, nl100, nl101, nl102, nl103, nl104, nl105, nl106, nl107, nl108, nl109, nl110, nl111, nl112, nl113, nl114, nl115, nl116, nl117, nl118, nl119, nl120, nl121, nl122, nl123, nl124, nl125, nl126, nl127, nl979, nl244, nl1000]
    rw [show m + 1 - 1 = m by omega]
    by_cases hk : m - k ≤ k
    · rw [if_pos hk]
      refine ⟨_, B, rfl, fun q hq => ?_, fun z hz => h3 z ?_⟩
      · by_cases y : q < k ∨ m - k < q
        · exact h2 q hq y
        · rw [h3]
          · congr 1
            omega
          · rintro ⟨q', a1, a2, a3⟩
            have : q' = q := by omega
            subst this
            exact y a2
      · rintro ⟨q, a1, a2, a3⟩
        exact hz (by omega)
    · rw [if_neg hk]
      have e1 : B (1 + 11 * i + k) = A (1 + 11 * i + k) := h3 _ (by rintro ⟨q, a1, a2, a3⟩; omega)
      have e2 : B (1 + 11 * i + (m - k)) = A (1 + 11 * i + (m - k)) := h3 _ (by rintro ⟨q, a1, a2, a3⟩; omega)
      rw [raw_at hi (by omega), Option.bind_some, raw_at hi (by omega), Option.bind_some, e1, e2, raw_set hi (by omega), Option.bind_some, raw_set hi (by omega), Option.bind_some]
      refine ih (k + 1) _ (by omega) (by omega) (fun q hq y => ?_) (fun z hz => ?_)
      · by_cases y1 : q = m - k
        · rw [y1, upd_eq, show m - (m - k) = k by omega]
        · rw [upd_ne (by omega)]
          by_cases y2 : q = k
          · rw [y2, upd_eq]
          · rw [upd_ne (by omega)]
            exact h2 q hq (by omega)
      · rw [upd_ne (fun y => hz ⟨m - k, by omega, by omega, y⟩), upd_ne (fun y => hz ⟨k, by omega, by omega, y⟩)]
        exact h3 z (fun ⟨q, a1, a2, a3⟩ => hz ⟨q, a1, by omega, a3⟩)
theorem RB.turn {A' : Nat → Int32} (hw : Wf b) (hr : RB A 0 b) (hi : i < b.length) (g1 : ∀ q, q ≤ sz b i - 1 → A' (1 + 11 * i + q) = A (1 + 11 * i + (sz b i - 1 - q))) (g2 : ∀ z, ¬ (1 + 11 * i ≤ z ∧ z ≤ 1 + 11 * i + (sz b i - 1)) → A' z = A z) : RB A' 0 (b.set i (ln b i).reverse) := by
  have hg := hw.gl hi
  have h1 : 1 ≤ sz b i := hg.1
  have h10 := hw.sz_le i
  refine RB.mk' (by rw [List.length_set, g2 _ (by omega)]; exact hr.1) (fun k hk => ?_)
  rw [List.length_set] at hk
  rw [ln_set hi]
  by_cases z : k = i
  · rw [if_pos z, z]
    refine ⟨by rw [List.length_reverse, g2 _ (by omega)]; exact (hr.line hi).1, fun p hp => ?_⟩
    rw [List.length_reverse] at hp
    rw [getD_rev hp, g1 p (by unfold sz; omega)]
    exact (hr.line hi).2 ((ln b i).length - 1 - p) (by omega)
  · rw [if_neg z]
    have hl := hw.len hk
    refine ⟨?_, fun p hp => ?_⟩
    · rw [g2 _ (by omega)]
      exact (hr.line hk).1
    · rw [g2 _ (by omega)]
      exact (hr.line hk).2 p hp
end ROPS
