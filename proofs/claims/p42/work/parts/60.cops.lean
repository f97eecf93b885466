/-! THE CLASS CHANGES ITS ARRAYS -/
section COPS
variable {F S G T : Nat → Int32} {n : Int32} {b : Bk} {N i p q s : Nat}
theorem raw_line (hN : N ≤ 8) (hi : i < N) : f_X0_hasLine (nn N) (nn i) = some (nn 1) := by
  unfold f_X0_hasLine
  simp (disch := omega) only [nn_add, nn_mul, nn_sub, nn_le, nn_lt, nn_eq, nn_div, ldi_nn, ldc_nn, sti_nn, Option.bind_some, if_true, if_false, not_true_eq_false, not_false_eq_true, Nat.add_zero, nl0, nl1, nl2, nl3, nl4, nl5, nl6, nl7, nl8, nl9, nl10, nl11, nl12, nl13, nl14, nl15, nl16, nl17, nl18, nl19, nl20, nl21, nl22, nl23, nl24, nl25, nl26, nl27, nl28, nl29, nl30, nl31, nl32, nl33, nl34, nl35, nl36, nl37, nl38, nl39, nl40, nl41, nl42, nl43, nl44, nl45, nl46, nl47, nl48, nl49, nl50, nl51, nl52, nl53, nl54, nl55, nl56, nl57, nl58, nl59, nl60, nl61, nl62, nl63, nl64, nl65, nl66, nl67, nl68, nl69, nl70, nl71, nl72, nl73, nl74, nl75, nl76, nl77, nl78, nl79, nl80, nl81, nl82, nl83, nl84, nl85, nl86, nl87, nl88, nl89, nl90, nl91, nl92, nl93, nl94, nl95, nl96, nl97, nl98, nl99, nl100, nl101, nl102, nl103, nl104, nl105, nl106, nl107, nl108, nl109, nl110, nl111, nl112, nl113, nl114, nl115, nl116, nl117, nl118, nl119, nl120, nl121, nl122, nl123, nl124, nl125, nl126, nl127, nl979, nl244, nl1000]
  rw [if_neg (by omega), if_neg (by omega)]
theorem raw_place (hN : N ≤ 8) (hi : i < N) (hs : T i = nn s) (h10 : s ≤ 10) (hp : p < s) : f_X0_hasPlace T (nn N) (nn i) (nn p) = some (nn 1) := by
  unfold f_X0_hasPlace
  simp (disch := omega) only [nn_add, nn_mul, nn_sub, nn_le, nn_lt, nn_eq, nn_div, ldi_nn, ldc_nn, sti_nn, Option.bind_some, if_true, if_false, not_true_eq_false, not_false_eq_true, Nat.add_zero, nl0, nl1, nl2, nl3, nl4, nl5, nl6, nl7, nl8, nl9, nl10, nl11, nl12, nl13, nl14, nl15, nl16, nl17, nl18, nl19, nl20, nl21, nl22, nl23, nl24, nl25, nl26, nl27, nl28, nl29, nl30, nl31, nl32, nl33, nl34, nl35, nl36, nl37, nl38, nl39, nl40, nl41, nl42, nl43, nl44, nl45, nl46, nl47, nl48, nl49, nl50, nl51, nl52, nl53, nl54, nl55, nl56, nl57, nl58, nl59, nl60, nl61, nl62, nl63, nl64, nl65, nl66, nl67, nl68, nl69, nl70, nl71, nl72, nl73, nl74, nl75, nl76, nl77, nl78, nl79, nl80, nl81, nl82, nl83, nl84, nl85, nl86, nl87, nl88, nl89, nl90, nl91, nl92, nl93, nl94, nl95, nl96, nl97, nl98, nl99, nl100, nl101, nl102, nl103, nl104, nl105, nl106, nl107, nl108, nl109, nl110, nl111, nl112, nl113, nl114, nl115, nl116, nl117, nl118, nl119, nl120, nl121, nl122, nl123, nl124, nl125, nl126, nl127, nl979, nl244, nl1000]
  rw [if_neg (by omega), if_neg (by omega), if_neg (by omega), hs]
  simp (disch := omega) only [nn_add, nn_mul, nn_sub, nn_le, nn_lt, nn_eq, nn_div, ldi_nn, ldc_nn, sti_nn, Option.bind_some, if_true, if_false, not_true_eq_false, not_false_eq_true, Nat.add_zero, nl0, nl1, nl2, nl3, nl4, nl5, nl6, nl7, nl8, nl9, nl10, nl11, nl12, nl13, nl14, nl15, nl16, nl17, nl18, nl19, nl20, nl21, nl22, nl23, nl24, nl25, nl26, nl27, nl28, nl29, nl30, nl31, nl32, nl33, nl34, nl35, nl36, nl37, nl38, nl39, nl40, nl41, nl42, nl43, nl44, nl45, nl46, nl47, nl48, nl49, nl50, nl51, nl52, nl53, nl54, nl55, nl56, nl57, nl58, nl59, nl60, nl61, nl62, nl63, nl64, nl65, nl66, nl67, nl68, nl69, nl70, nl71, nl72, nl73, nl74, nl75, nl76, nl77, nl78, nl79, nl80, nl81, nl82, nl83, nl84, nl85, nl86, nl87, nl88, nl89, nl90, nl91, nl92, nl93, nl94, nl95, nl96, nl97, nl98, nl99, nl100, nl101, nl102, nl103, nl104, nl105, nl106, nl107, nl108, nl109, nl110, nl111, nl112, nl113, nl114, nl115, nl116, nl117, nl118, nl119, nl120, nl121, nl122, nl123, nl124, nl125, nl126, nl127, nl979, nl244, nl1000]
  rw [if_neg (by omega)]
theorem raw_size (hN : N ≤ 8) (hi : i < N) : f_X0_size T (nn N) (nn i) = some (T i) := by
  unfold f_X0_size
  rw [raw_line hN hi]
  simp (disch := omega) only [nn_add, nn_mul, nn_sub, nn_le, nn_lt, nn_eq, nn_div, ldi_nn, ldc_nn, sti_nn, Option.bind_some, if_true, if_false, not_true_eq_false, not_false_eq_true, Nat.add_zero, nl0, nl1, nl2, nl3, nl4, nl5, nl6, nl7, nl8, nl9, nl10, nl11, nl12, nl13, nl14, nl15, nl16, nl17, nl18, nl19, nl20, nl21, nl22, nl23, nl24, nl25, nl26, nl27, nl28, nl29, nl30, nl31, nl32, nl33, nl34, nl35, nl36, nl37, nl38, nl39, nl40, nl41, nl42, nl43, nl44, nl45, nl46, nl47, nl48, nl49, nl50, nl51, nl52, nl53, nl54, nl55, nl56, nl57, nl58, nl59, nl60, nl61, nl62, nl63, nl64, nl65, nl66, nl67, nl68, nl69, nl70, nl71, nl72, nl73, nl74, nl75, nl76, nl77, nl78, nl79, nl80, nl81, nl82, nl83, nl84, nl85, nl86, nl87, nl88, nl89, nl90, nl91, nl92, nl93, nl94, nl95, nl96, nl97, nl98, nl99, nl100, nl101, nl102, nl103, nl104, nl105, nl106, nl107, nl108, nl109, nl110, nl111, nl112, nl113, nl114, nl115, nl116, nl117, nl118, nl119, nl120, nl121, nl122, nl123, nl124, nl125, nl126, nl127, nl979, nl244, nl1000]
  rw [if_neg (by omega)]
theorem raw_letter (hN : N ≤ 8) (hi : i < N) (hs : T i = nn s) (h10 : s ≤ 10) (hp : p < s) (hch : ch (G (10 * i + p))) : f_X0_letterAt G T (nn N) (nn i) (nn p) = some (G (10 * i + p)) := by
  unfold f_X0_letterAt
  rw [raw_place hN hi hs h10 hp]
  simp (disch := omega) only [nn_add, nn_mul, nn_sub, nn_le, nn_lt, nn_eq, nn_div, ldi_nn, ldc_nn, sti_nn, Option.bind_some, if_true, if_false, not_true_eq_false, not_false_eq_true, Nat.add_zero, nl0, nl1, nl2, nl3, nl4, nl5, nl6, nl7, nl8, nl9, nl10, nl11, nl12, nl13, nl14, nl15, nl16, nl17, nl18, nl19, nl20, nl21, nl22, nl23, nl24, nl25, nl26, nl27, nl28, nl29, nl30, nl31, nl32, nl33, nl34, nl35, nl36, nl37, nl38, nl39, nl40, nl41, nl42, nl43, nl44, nl45, nl46, nl47, nl48, nl49, nl50, nl51, nl52, nl53, nl54, nl55, nl56, nl57, nl58, nl59, nl60, nl61, nl62, nl63, nl64, nl65, nl66, nl67, nl68, nl69, nl70, nl71, nl72, nl73, nl74, nl75, nl76, nl77, nl78, nl79, nl80, nl81, nl82, nl83, nl84, nl85, nl86, nl87, nl88, nl89, nl90, nl91, nl92, nl93, nl94, nl95, nl96, nl97, nl98, nl99, nl100, nl101, nl102, nl103, nl104, nl105, nl106, nl107, nl108, nl109, nl110, nl111, nl112, nl113, nl114, nl115, nl116, nl117, nl118, nl119, nl120, nl121, nl122, nl123, nl124, nl125, nl126, nl127, nl979, nl244, nl1000]
  rw [if_neg (by omega), show i * 10 + p = 10 * i + p by omega, rc_of hch]
  rfl
theorem raw_setL (hN : N ≤ 8) (hi : i < N) (hs : T i = nn s) (h10 : s ≤ 10) (hp : p < s) {x : Int32} (hx : ch x) : f_X0_setLetter G T (nn N) (nn i) (nn p) x = some (upd G (10 * i + p) x) := by
  unfold f_X0_setLetter
  rw [raw_place hN hi hs h10 hp]
  simp (disch := omega) only [nn_add, nn_mul, nn_sub, nn_le, nn_lt, nn_eq, nn_div, ldi_nn, ldc_nn, sti_nn, Option.bind_some, if_true, if_false, not_true_eq_false, not_false_eq_true, Nat.add_zero, nl0, nl1, nl2, nl3, nl4, nl5, nl6, nl7, nl8, nl9, nl10, nl11, nl12, nl13, nl14, nl15, nl16, nl17, nl18, nl19, nl20, nl21, nl22, nl23, nl24, nl25, nl26, nl27, nl28, nl29, nl30, nl31, nl32, nl33, nl34, nl35, nl36, nl37, nl38, nl39, nl40, nl41, nl42, nl43, nl44, nl45, nl46, nl47, nl48, nl49, nl50, nl51, nl52, nl53, nl54, nl55, nl56, nl57, nl58, nl59, nl60, nl61, nl62, nl63, nl64, nl65, nl66, nl67, nl68, nl69, nl70, nl71, nl72, nl73, nl74, nl75, nl76, nl77, nl78, nl79, nl80, nl81, nl82, nl83, nl84, nl85, nl86, nl87, nl88, nl89, nl90, nl91, nl92, nl93, nl94, nl95, nl96, nl97, nl98, nl99, nl100, nl101, nl102, nl103, nl104, nl105, nl106, nl107, nl108, nl109, nl110, nl111, nl112, nl113, nl114, nl115, nl116, nl117, nl118, nl119, nl120, nl121, nl122, nl123, nl124, nl125, nl126, nl127, nl979, nl244, nl1000]
  rw [if_neg (by omega), show i * 10 + p = 10 * i + p by omega, stc_nn (by omega) (by omega) hx]
  rfl
theorem raw_putL (hN : N ≤ 8) (hi : i < N) (hs : T i = nn q) (h10 : q < 10) {x : Int32} (hx : ch x) : f_X0_putLetter G T (nn N) (nn i) x = some (upd G (10 * i + q) x, upd T i (nn (q + 1))) := by
  unfold f_X0_putLetter
  rw [raw_line hN hi]
  simp (disch := omega) only [nn_add, nn_mul, nn_sub, nn_le, nn_lt, nn_eq, nn_div, ldi_nn, ldc_nn, sti_nn, Option.bind_some, if_true, if_false, not_true_eq_false, not_false_eq_true, Nat.add_zero, nl0, nl1, nl2, nl3, nl4, nl5, nl6, nl7, nl8, nl9, nl10, nl11, nl12, nl13, nl14, nl15, nl16, nl17, nl18, nl19, nl20, nl21, nl22, nl23, nl24, nl25, nl26, nl27, nl28, nl29, nl30, nl31, nl32, nl33, nl34, nl35, nl36, nl37, nl38, nl39, nl40, nl41, nl42, nl43, nl44, nl45, nl46, nl47, nl48, nl49, nl50, nl51, nl52, nl53, nl54, nl55, nl56, nl57, nl58, nl59, nl60, nl61, nl62, nl63, nl64, nl65, nl66, nl67, nl68, nl69, nl70, nl71, nl72, nl73, nl74, nl75, nl76, nl77, nl78, nl79, nl80, nl81, nl82, nl83, nl84, nl85, nl86, nl87, nl88, nl89, nl90, nl91, nl92, nl93, nl94, nl95, nl96, nl97, nl98, nl99, nl100, nl101, nl102, nl103, nl104, nl105, nl106, nl107, nl108, nl109, nl110, nl111, nl112, nl113, nl114, nl115, nl116, nl117, nl118, nl119, nl120, nl121, nl122, nl123, nl124, nl125, nl126, nl127, nl979, nl244, nl1000]
  rw [if_neg (by omega), hs]
  simp (disch := omega) only [nn_add, nn_mul, nn_sub, nn_le, nn_lt, nn_eq, nn_div, ldi_nn, ldc_nn, sti_nn, Option.bind_some, if_true, if_false, not_true_eq_false, not_false_eq_true, Nat.add_zero, nl0, nl1, nl2, nl3, nl4, nl5, nl6, nl7, nl8, nl9, nl10, nl11, nl12, nl13, nl14, nl15, nl16, nl17, nl18, nl19, nl20, nl21, nl22, nl23, nl24, nl25, nl26, nl27, nl28, nl29, nl30, nl31, nl32, nl33, nl34, nl35, nl36, nl37, nl38, nl39, nl40, nl41, nl42, nl43, nl44, nl45, nl46, nl47, nl48, nl49, nl50, nl51, nl52, nl53, nl54, nl55, nl56, nl57, nl58, nl59, nl60, nl61, nl62, nl63, nl64, nl65, nl66, nl67, nl68, nl69, nl70, nl71, nl72, nl73, nl74, nl75, nl76, nl77, nl78, nl79, nl80, nl81, nl82, nl83, nl84, nl85, nl86, nl87, nl88, nl89, nl90, nl91, nl92, nl93, nl94, nl95, nl96, nl97, nl98, nl99, nl100, nl101, nl102, nl103, nl104, nl105, nl106, nl107, nl108, nl109, nl110, nl111, nl112, nl113, nl114, nl115, nl116, nl117, nl118, nl119, nl120, nl121, nl122, nl123, nl124, nl125, nl126, nl127, nl979, nl244, nl1000]
  rw [if_neg (by omega), upd_eq]
  simp (disch := omega) only [nn_add, nn_mul, nn_sub, nn_le, nn_lt, nn_eq, nn_div, ldi_nn, ldc_nn, sti_nn, Option.bind_some, if_true, if_false, not_true_eq_false, not_false_eq_true, Nat.add_zero, nl0, nl1, nl2, nl3, nl4, nl5, nl6, nl7, nl8, nl9, nl10, nl11, nl12, nl13, nl14, nl15, nl16, nl17, nl18, nl19, nl20, nl21, nl22, nl23, nl24, nl25, nl26, nl27, nl28, nl29, nl30, nl31, nl32, nl33, nl34, nl35, nl36, nl37, nl38, nl39, nl40, nl41, nl42, nl43, nl44, nl45, nl46, nl47, nl48, nl49, nl50, nl51, nl52, nl53, nl54, nl55, nl56, nl57, nl58, nl59, nl60, nl61, nl62, nl63, nl64, nl65, nl66, nl67, nl68, nl69, nl70, nl71, nl72, nl73, nl74, nl75, nl76, nl77, nl78, nl79, nl80, nl81, nl82, nl83, nl84, nl85, nl86, nl87, nl88, nl89, nl90, nl91, nl92, nl93, nl94, nl95, nl96, nl97, nl98, nl99, nl100, nl101, nl102, nl103, nl104, nl105, nl106, nl107, nl108, nl109, nl110, nl111, nl112, nl113, nl114, nl115, nl116, nl117, nl118, nl119, nl120, nl121, nl122, nl123, nl124, nl125, nl126, nl127, nl979, nl244, nl1000]
  rw [show q + 1 - 1 = q by omega, raw_setL hN hi (upd_eq _ _ _) (by omega) (by omega) hx]
  rfl
theorem ch_upd (h : ∀ k, k < 80 → ch (G k)) {a : Nat} {x : Int32} (hx : ch x) : ∀ k, k < 80 → ch (upd G a x k) := fun k hk => by
  by_cases e : k = a
  · rw [e, upd_eq]; exact hx
  · rw [upd_ne e]; exact h k hk
theorem ch_of (h : ∀ k, k < 80 → ch (G k)) {a : Nat} (ha : a < 80) : vp_nar .char (G a) = G a := h a ha
theorem s_exch_L {j : Nat} (hi : i < 8) (hj : j < 8) (hch : ∀ k, k < 80 → ch (F k)) (kk : Int32 → (Nat → Int32) → Option ((Nat → Int32) × (Nat → Int32))) : ∀ (fuel k : Nat) (G : Nat → Int32), k ≤ 10 → 10 < fuel + k → (∀ q, q < k → G (10 * i + q) = F (10 * j + q) ∧ G (10 * j + q) = F (10 * i + q)) → (∀ c, ¬ (10 * i ≤ c ∧ c < 10 * i + k) → ¬ (10 * j ≤ c ∧ c < 10 * j + k) → G c = F c) → ∃ G', f_X0_exchangeLines_L18 (nn i) (nn j) fuel (nn k) G kk = kk (nn 10) G' ∧ (∀ q, q < 10 → G' (10 * i + q) = F (10 * j + q) ∧ G' (10 * j + q) = F (10 * i + q)) ∧ (∀ c, ¬ (10 * i ≤ c ∧ c < 10 * i + 10) → ¬ (10 * j ≤ c ∧ c < 10 * j + 10) → G' c = F c) := by
  intro fuel
  induction fuel with
  | zero => intro k G h0 h1; omega
  | succ fuel ih =>
    intro k G h0 h1 h2 h3
    rw [f_X0_exchangeLines_L18]
    simp (disch := omega) only [nn_add, nn_mul, nn_sub, nn_le, nn_lt, nn_eq, nn_div, ldi_nn, ldc_nn, sti_nn, Option.bind_some, if_true, if_false, not_true_eq_false, not_false_eq_true, Nat.add_zero, nl0, nl1, nl2, nl3, nl4, nl5, nl6, nl7, nl8, nl9, nl10, nl11, nl12, nl13, nl14, nl15, nl16, nl17, nl18, nl19, nl20, nl21, nl22, nl23, nl24, nl25, nl26, nl27, nl28, nl29, nl30, nl31, nl32, nl33, nl34, nl35, nl36, nl37, nl38, nl39, nl40, nl41, nl42, nl43, nl44, nl45, nl46, nl47, nl48, nl49, nl50, nl51, nl52, nl53, nl54, nl55, nl56, nl57, nl58, nl59, nl60, nl61, nl62, nl63, nl64, nl65, nl66, nl67, nl68, nl69, nl70, nl71, nl72, nl73, nl74, nl75, nl76, nl77, nl78, nl79, nl80, nl81, nl82, nl83, nl84, nl85, nl86, nl87, nl88, nl89, nl90, nl91, nl92, nl93, nl94, nl95, nl96, nl97, nl98, nl99, nl100, nl101, nl102, nl103, nl104, nl105, nl106, nl107, nl108, nl109, nl110, nl111, nl112, nl113, nl114, nl115, nl116, nl117, nl118, nl119, nl120, nl121, nl122, nl123, nl124, nl125, nl126, nl127, nl979, nl244, nl1000]
    by_cases hk : 10 ≤ k
    · rw [if_pos hk]
      have : k = 10 := by omega
      subst this
      exact ⟨G, rfl, h2, h3⟩
    · rw [if_neg hk]
      have ei : G (i * 10 + k) = F (10 * i + k) := by rw [show i * 10 + k = 10 * i + k by omega]; exact h3 _ (by omega) (by omega)
      have ej : G (j * 10 + k) = F (10 * j + k) := by rw [show j * 10 + k = 10 * j + k by omega]; exact h3 _ (by omega) (by omega)
      rw [ei, ej, stc_nn (by omega) (by omega) (hch _ (by omega)), Option.bind_some, stc_nn (by omega) (by omega) (hch _ (by omega)), Option.bind_some]
      rw [show i * 10 + k = 10 * i + k by omega, show j * 10 + k = 10 * j + k by omega]
      refine ih (k + 1) _ (by omega) (by omega) (fun q hq => ?_) (fun c c1 c2 => ?_)
      · by_cases z : q = k
        · subst z
          refine ⟨?_, upd_eq _ _ _⟩
          by_cases e : i = j
          · subst e; rw [upd_eq]
          · rw [upd_ne (by omega), upd_eq]
        · rw [upd_ne (by omega), upd_ne (by omega), upd_ne (by omega), upd_ne (by omega)]
          exact h2 q (by omega)
      · rw [upd_ne (by omega), upd_ne (by omega)]
        exact h3 c (by omega) (by omega)
theorem s_exch {j : Nat} (hN : N ≤ 8) (hi : i < N) (hj : j < N) (S : Nat → Int32) (hch : ∀ k, k < 80 → ch (F k)) : ∃ F' S', f_X0_exchangeLines F S (nn N) (nn i) (nn j) = some (F', S') ∧ mvC F S F' S' i j ∧ mvC F S F' S' j i ∧ (∀ k, k ≠ i → k ≠ j → mvC F S F' S' k k) ∧ (∀ k, k < 80 → ch (F' k)) := by
  obtain ⟨G, e1, e2, e3⟩ := s_exch_L (i := i) (j := j) (F := F) (by omega) (by omega) hch (fun x3_18_10 q_t_lettersF_18_11 => (ldi S 8 (nn i)).bind fun v83_12 => (ldi S 8 (nn j)).bind fun v95_13 => (sti S 8 (nn i) v95_13).bind fun g96_14 => (sti g96_14 8 (nn j) v83_12).bind fun g103_15 => some (q_t_lettersF_18_11, g103_15)) 1000 0 F (by omega) (by omega) (fun q hq => by omega) (fun c _ _ => rfl)
  refine ⟨G, upd (upd S i (S j)) j (S i), ?_, ⟨?_, fun p hp => (e2 p hp).1⟩, ⟨upd_eq _ _ _, fun p hp => (e2 p hp).2⟩, fun k h1 h2 => ⟨?_, fun p hp => e3 _ (by omega) (by omega)⟩, fun k hk => ?_⟩
  · unfold f_X0_exchangeLines
    rw [raw_line hN hi, raw_line hN hj]
    simp (disch := omega) only [nn_add, nn_mul, nn_sub, nn_le, nn_lt, nn_eq, nn_div, ldi_nn, ldc_nn, sti_nn, Option.bind_some, if_true, if_false, not_true_eq_false, not_false_eq_true, Nat.add_zero, nl0, nl1, nl2, nl3, nl4, nl5, nl6, nl7, nl8, nl9, nl10, nl11, nl12, nl13, nl14, nl15, nl16, nl17, nl18, nl19, nl20, nl21, nl22, nl23, nl24, nl25, nl26, nl27, nl28, nl29, nl30, nl31, nl32, nl33, nl34, nl35, nl36, nl37, nl38, nl39, nl40, nl41, nl42, nl43, nl44, nl45, nl46, nl47, nl48, nl49, nl50, nl51, nl52, nl53, nl54, nl55, nl56, nl57, nl58, nl59, nl60, nl61, nl62, nl63, nl64, nl65, nl66, nl67, nl68, nl69, nl70, nl71, nl72, nl73, nl74, nl75, nl76, nl77, nl78, nl79, nl80, nl81, nl82, nl83, nl84, nl85, nl86, nl87, nl88, nl89, nl90, nl91, nl92, nl93, nl94, nl95, nl96, nl97, nl98, nl99, nl100, nl101, nl102, nl103, nl104, nl105, nl106, nl107, nl108, nl109, nl110, nl111, nl112, nl113, nl114, nl115, nl116, nl117, nl118, nl119, nl120, nl121, nl122, nl123, nl124, nl125, nl126, nl127, nl979, nl244, nl1000] at e1 ⊢
    rw [if_neg (by omega), if_neg (by omega)]
    exact e1
  · by_cases e : i = j
    · subst e; rw [upd_eq]
    · rw [upd_ne e, upd_eq]
  · rw [upd_ne h2, upd_ne h1]
  · by_cases c1 : 10 * i ≤ k ∧ k < 10 * i + 10
    · have := (e2 (k - 10 * i) (by omega)).1
      rw [show 10 * i + (k - 10 * i) = k by omega] at this
      rw [this]
      exact hch _ (by omega)
    · by_cases c2 : 10 * j ≤ k ∧ k < 10 * j + 10
      · have := (e2 (k - 10 * j) (by omega)).2
        rw [show 10 * j + (k - 10 * j) = k by omega] at this
        rw [this]
        exact hch _ (by omega)
      · rw [e3 k c1 c2]
        exact hch k hk
theorem s_rem_L (hN : N ≤ 8) (kk : Int32 → (Nat → Int32) → (Nat → Int32) → Option ((Nat → Int32) × (Nat → Int32) × Int32)) : ∀ (fuel x : Nat) (G T : Nat → Int32), i < x → x ≤ N → N < fuel + x → (∀ k, k < 80 → ch (G k)) → (∀ k, k < i → mvC F S G T k k) → (∀ k, i ≤ k → k + 1 < x → mvC F S G T k (k + 1)) → mvC F S G T (x - 1) i → (∀ k, x ≤ k → mvC F S G T k k) → ∃ G' T', f_X0_removeLine_L12 (nn N) fuel (nn x) G T kk = kk (nn N) G' T' ∧ (∀ k, k < i → mvC F S G' T' k k) ∧ (∀ k, i ≤ k → k + 1 < N → mvC F S G' T' k (k + 1)) ∧ (∀ k, k < 80 → ch (G' k)) := by
  intro fuel
  induction fuel with
  | zero => intro x G T h0 h1 h2; omega
  | succ fuel ih =>
    intro x G T h0 h1 h2 hch h3 h4 h5 h6
    rw [f_X0_removeLine_L12]
    simp (disch := omega) only [nn_add, nn_mul, nn_sub, nn_le, nn_lt, nn_eq, nn_div, ldi_nn, ldc_nn, sti_nn, Option.bind_some, if_true, if_false, not_true_eq_false, not_false_eq_true, Nat.add_zero, nl0, nl1, nl2, nl3, nl4, nl5, nl6, nl7, nl8, nl9, nl10, nl11, nl12, nl13, nl14, nl15, nl16, nl17, nl18, nl19, nl20, nl21, nl22, nl23, nl24, nl25, nl26, nl27, nl28, nl29, nl30, nl31, nl32, nl33, nl34, nl35, nl36, nl37, nl38, nl39, nl40, nl41, nl42, nl43, nl44, nl45, nl46, nl47, nl48, nl49, nl50, nl51, nl52, nl53, nl54, nl55, nl56, nl57, nl58, nl59, nl60, nl61, nl62, nl63, nl64, nl65, nl66, nl67, nl68, nl69, nl70, nl71, nl72, nl73, nl74, nl75, nl76, nl77, nl78, nl79, nl80, nl81, nl82, nl83, nl84, nl85, nl86, nl87, nl88, nl89, nl90, nl91, nl92, nl93, nl94, nl95, nl96, nl97, nl98, nl99, nl100, nl101, nl102, nl103, nl104, nl105, nl106, nl107, nl108, nl109, nl110, nl111, nl112, nl113, nl114, nl115, nl116, nl117, nl118, nl119, nl120, nl121, nl122, nl123, nl124, nl125, nl126, nl127, nl979, nl244, nl1000]
    by_cases hx : N ≤ x
    · rw [if_pos hx]
      have : x = N := by omega
      subst this
      exact ⟨G, T, rfl, h3, h4, hch⟩
    · rw [if_neg hx]
      obtain ⟨G', T', e, m1, m2, m3, hch'⟩ := s_exch (i := x - 1) (j := x) hN (by omega) (by omega) T hch
      rw [e, Option.bind_some]
      refine ih (x + 1) G' T' (by omega) (by omega) (by omega) hch' (fun k hk => (h3 k hk).tr (m3 k (by omega) (by omega))) (fun k q1 q2 => ?_) ?_ (fun k hk => (h6 k (by omega)).tr (m3 k (by omega) (by omega)))
      · by_cases z : k + 1 < x
        · exact (h4 k q1 z).tr (m3 k (by omega) (by omega))
        · have : x = k + 1 := by omega
          subst this
          exact (h6 (k + 1) (Nat.le_refl _)).tr m1
      · rw [show x + 1 - 1 = x by omega]
        exact h5.tr m2
theorem s_remove (hw : Wf b) (hc : CB F S n b) (hi : i < b.length) : ∃ F' S', f_X0_removeLine F S n (nn i) = some (F', S', nn (b.length - 1)) ∧ CB F' S' (nn (b.length - 1)) (b.eraseIdx i) := by
  have h8 := hw.1
  obtain ⟨G, T, e, m1, m2, hch⟩ := s_rem_L (i := i) (F := F) (S := S) h8 (fun _ q1 q2 => some (q1, q2, nn b.length - 1)) 1000 (i + 1) F S (by omega) (by omega) (by omega) hc.2.2.2 (fun k _ => ⟨rfl, fun _ _ => rfl⟩) (fun k q1 q2 => by omega) ⟨rfl, fun _ _ => rfl⟩ (fun k _ => ⟨rfl, fun _ _ => rfl⟩)
  refine ⟨G, T, ?_, CB.mk' (by rw [len_del hi]) (fun k hk => ?_) hch⟩
  · unfold f_X0_removeLine
    rw [hc.1, raw_line h8 hi]
    simp (disch := omega) only [nn_add, nn_mul, nn_sub, nn_le, nn_lt, nn_eq, nn_div, ldi_nn, ldc_nn, sti_nn, Option.bind_some, if_true, if_false, not_true_eq_false, not_false_eq_true, Nat.add_zero, nl0, nl1, nl2, nl3, nl4, nl5, nl6, nl7, nl8, nl9, nl10, nl11, nl12, nl13, nl14, nl15, nl16, nl17, nl18, nl19, nl20, nl21, nl22, nl23, nl24, nl25, nl26, nl27, nl28, nl29, nl30, nl31, nl32, nl33, nl34, nl35, nl36, nl37, nl38, nl39, nl40, nl41, nl42, nl43, nl44, nl45, nl46, nl47, nl48, nl49, nl50, nl51, nl52, nl53, nl54, nl55, nl56, nl57, nl58, nl59, nl60, nl61, nl62, nl63, nl64, nl65, nl66, nl67, nl68, nl69, nl70, nl71, nl72, nl73, nl74, nl75, nl76, nl77, nl78, nl79, nl80, nl81, nl82, nl83, nl84, nl85, nl86, nl87, nl88, nl89, nl90, nl91, nl92, nl93, nl94, nl95, nl96, nl97, nl98, nl99, nl100, nl101, nl102, nl103, nl104, nl105, nl106, nl107, nl108, nl109, nl110, nl111, nl112, nl113, nl114, nl115, nl116, nl117, nl118, nl119, nl120, nl121, nl122, nl123, nl124, nl125, nl126, nl127, nl979, nl244, nl1000] at e ⊢
    rw [if_neg (by omega), e]
  · rw [len_del hi] at hk
    rw [ln_del]
    by_cases z : k < i
    · rw [if_pos z]
      exact (m1 k z).line (hw.len (by omega)) (hc.line (by omega))
    · rw [if_neg z]
      exact (m2 k (by omega) (by omega)).line (hw.len (by omega)) (hc.line (by omega))
end COPS

