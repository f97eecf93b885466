/-! THE BOOK AS A LIST OF LINES: how the class's arrays and the reference's row stand for it; the class's readings of it -/
abbrev Bk : Type := List (List Nat)
def ln (b : Bk) (i : Nat) : List Nat := b.getD i []
def sz (b : Bk) (i : Nat) : Nat := (ln b i).length
def lt (b : Bk) (i p : Nat) : Nat := (ln b i).getD p 0
def sfx (b : Bk) (i p : Nat) : List Nat := (ln b i).drop p
def Wf (b : Bk) : Prop := b.length ≤ 8 ∧ ∀ i, i < b.length → 1 ≤ sz b i ∧ sz b i ≤ 10 ∧ ∀ p, p < sz b i → 97 ≤ lt b i p ∧ lt b i p ≤ 122
def CB (F S : Nat → Int32) (n : Int32) (b : Bk) : Prop := n = nn b.length ∧ (∀ i, i < b.length → S i = nn (sz b i)) ∧ (∀ i, i < b.length → ∀ p, p < sz b i → F (10 * i + p) = nn (lt b i p)) ∧ ∀ k, k < 80 → ch (F k)
def RB (A : Nat → Int32) (o : Nat) (b : Bk) : Prop := A o = nn b.length ∧ (∀ i, i < b.length → A (o + (1 + 11 * i + 10)) = nn (sz b i)) ∧ ∀ i, i < b.length → ∀ p, p < sz b i → A (o + (1 + 11 * i + p)) = nn (lt b i p)
theorem sz_out {b : Bk} {i : Nat} (h : ¬ i < b.length) : sz b i = 0 := by
  unfold sz ln
  rw [List.getD_eq_getElem?_getD, List.getElem?_eq_none (by omega)]
  rfl
theorem lt_out {b : Bk} {i p : Nat} (h : ¬ p < sz b i) : lt b i p = 0 := by
  unfold lt
  rw [List.getD_eq_getElem?_getD, List.getElem?_eq_none (by unfold sz at h; omega)]
  rfl
theorem sz_in {b : Bk} {i p : Nat} (h : p < sz b i) : i < b.length := by
  by_cases q : i < b.length
  · exact q
  · rw [sz_out q] at h; omega
theorem Wf.sz_le {b : Bk} (h : Wf b) (i : Nat) : sz b i ≤ 10 := by
  by_cases q : i < b.length
  · exact (h.2 i q).2.1
  · rw [sz_out q]; omega
theorem Wf.lt_le {b : Bk} (h : Wf b) (i p : Nat) : lt b i p ≤ 122 := by
  by_cases q : p < sz b i
  · exact ((h.2 i (sz_in q)).2.2 p q).2
  · rw [lt_out q]; omega
theorem Wf.lt_ge {b : Bk} (h : Wf b) {i p : Nat} (q : p < sz b i) : 97 ≤ lt b i p := ((h.2 i (sz_in q)).2.2 p q).1
theorem Wf.lt_zero {b : Bk} (h : Wf b) (i p : Nat) : (lt b i p = 0) = ¬ p < sz b i := by
  refine propext ⟨fun e q => ?_, lt_out⟩
  have := h.lt_ge q
  omega
theorem sfx_nil {b : Bk} {i p : Nat} (h : ¬ p < sz b i) : sfx b i p = [] := by
  unfold sfx
  exact List.drop_eq_nil_of_le (by unfold sz at h; omega)
theorem sfx_cons {b : Bk} {i p : Nat} (h : p < sz b i) : sfx b i p = lt b i p :: sfx b i (p + 1) := by
  unfold sfx lt
  unfold sz at h
  rw [List.drop_eq_getElem_cons h, List.getD_eq_getElem?_getD, List.getElem?_eq_getElem h]
  rfl
section BOOK
variable {F S : Nat → Int32} {n : Int32} {b : Bk}
theorem s_lines (hc : CB F S n b) : f_X0_lines n = some (nn b.length) := by rw [f_X0_lines, hc.1]
theorem s_hasLine (hw : Wf b) (hc : CB F S n b) {i : Nat} (hi : i < 1000000) : f_X0_hasLine n (nn i) = some (if i < b.length then 1 else 0) := by
  have h8 := hw.1
  unfold f_X0_hasLine
  rw [hc.1]
  simp (disch := omega) only [nn_add, nn_mul, nn_sub, nn_le, nn_lt, nn_eq, nn_div, ldi_nn, ldc_nn, sti_nn, Option.bind_some, if_true, if_false, not_true_eq_false, not_false_eq_true, Nat.add_zero, nl0, nl1, nl2, nl3, nl4, nl5, nl6, nl7, nl8, nl9, nl10, nl11, nl12, nl13, nl14, nl15, nl16, nl17, nl18, nl19, nl20, nl21, nl22, nl23, nl24, nl25, nl26, nl27, nl28, nl29, nl30, nl31, nl32, nl33, nl34, nl35, nl36, nl37, nl38, nl39, nl40, nl41, nl42, nl43, nl44, nl45, nl46, nl47, nl48, nl49, nl50, nl51, nl52, nl53, nl54, nl55, nl56, nl57, nl58, nl59, nl60, nl61, nl62, nl63, nl64, nl65, nl66, nl67, nl68, nl69, nl70, nl71, nl72, nl73, nl74, nl75, nl76, nl77, nl78, nl79, nl80, nl81, nl82, nl83, nl84, nl85, nl86, nl87, nl88, nl89, nl90, nl91, nl92, nl93, nl94, nl95, nl96, nl97, nl98, nl99, nl100, nl101, nl102, nl103, nl104, nl105, nl106, nl107, nl108, nl109, nl110, nl111, nl112, nl113, nl114, nl115, nl116, nl117, nl118, nl119, nl120, nl121, nl122, nl123, nl124, nl125, nl126, nl127, nl979, nl244, nl1000]
  by_cases h : i < b.length
  · rw [if_neg (by omega), if_neg (by omega), if_pos h]
  · rw [if_neg (by omega), if_pos (by omega), if_neg h]
theorem s_size (hw : Wf b) (hc : CB F S n b) {i : Nat} (hi : i < 1000000) : f_X0_size S n (nn i) = some (nn (sz b i)) := by
  have h8 := hw.1
  unfold f_X0_size
  rw [s_hasLine hw hc hi]
  by_cases h : i < b.length
  · rw [if_pos h]
    simp (disch := omega) only [nn_add, nn_mul, nn_sub, nn_le, nn_lt, nn_eq, nn_div, ldi_nn, ldc_nn, sti_nn, Option.bind_some, if_true, if_false, not_true_eq_false, not_false_eq_true, Nat.add_zero, nl0, nl1, nl2, nl3, nl4, nl5, nl6, nl7, nl8, nl9, nl10, nl11, nl12, nl13, nl14, nl15, nl16, nl17, nl18, nl19, nl20, nl21, nl22, nl23, nl24, nl25, nl26, nl27, nl28, nl29, nl30, nl31, nl32, nl33, nl34, nl35, nl36, nl37, nl38, nl39, nl40, nl41, nl42, nl43, nl44, nl45, nl46, nl47, nl48, nl49, nl50, nl51, nl52, nl53, nl54, nl55, nl56, nl57, nl58, nl59, nl60, nl61, nl62, nl63, nl64, nl65, nl66, nl67, nl68, nl69, nl70, nl71, nl72, nl73, nl74, nl75, nl76, nl77, nl78, nl79, nl80, nl81, nl82, nl83, nl84, nl85, nl86, nl87, nl88, nl89, nl90, nl91, nl92, nl93, nl94, nl95, nl96, nl97, nl98, nl99, nl100, nl101, nl102, nl103, nl104, nl105, nl106, nl107, nl108, nl109, nl110, nl111, nl112, nl113, nl114, nl115, nl116, nl117, nl118, nl119, nl120, nl121, nl122, nl123, nl124, nl125, nl126, nl127, nl979, nl244, nl1000]
    rw [if_neg (by omega), hc.2.1 i h]
  · rw [if_neg h, sz_out h]
    simp (disch := omega) only [nn_add, nn_mul, nn_sub, nn_le, nn_lt, nn_eq, nn_div, ldi_nn, ldc_nn, sti_nn, Option.bind_some, if_true, if_false, not_true_eq_false, not_false_eq_true, Nat.add_zero, nl0, nl1, nl2, nl3, nl4, nl5, nl6, nl7, nl8, nl9, nl10, nl11, nl12, nl13, nl14, nl15, nl16, nl17, nl18, nl19, nl20, nl21, nl22, nl23, nl24, nl25, nl26, nl27, nl28, nl29, nl30, nl31, nl32, nl33, nl34, nl35, nl36, nl37, nl38, nl39, nl40, nl41, nl42, nl43, nl44, nl45, nl46, nl47, nl48, nl49, nl50, nl51, nl52, nl53, nl54, nl55, nl56, nl57, nl58, nl59, nl60, nl61, nl62, nl63, nl64, nl65, nl66, nl67, nl68, nl69, nl70, nl71, nl72, nl73, nl74, nl75, nl76, nl77, nl78, nl79, nl80, nl81, nl82, nl83, nl84, nl85, nl86, nl87, nl88, nl89, nl90, nl91, nl92, nl93, nl94, nl95, nl96, nl97, nl98, nl99, nl100, nl101, nl102, nl103, nl104, nl105, nl106, nl107, nl108, nl109, nl110, nl111, nl112, nl113, nl114, nl115, nl116, nl117, nl118, nl119, nl120, nl121, nl122, nl123, nl124, nl125, nl126, nl127, nl979, nl244, nl1000]
theorem s_hasPlace (hw : Wf b) (hc : CB F S n b) {i p : Nat} (hi : i < 1000000) (hp : p < 1000000) : f_X0_hasPlace S n (nn i) (nn p) = some (if p < sz b i then 1 else 0) := by
  have h8 := hw.1
  unfold f_X0_hasPlace
  rw [hc.1]
  by_cases h : i < b.length
  · have h10 := hw.sz_le i
    simp (disch := omega) only [nn_add, nn_mul, nn_sub, nn_le, nn_lt, nn_eq, nn_div, ldi_nn, ldc_nn, sti_nn, Option.bind_some, if_true, if_false, not_true_eq_false, not_false_eq_true, Nat.add_zero, nl0, nl1, nl2, nl3, nl4, nl5, nl6, nl7, nl8, nl9, nl10, nl11, nl12, nl13, nl14, nl15, nl16, nl17, nl18, nl19, nl20, nl21, nl22, nl23, nl24, nl25, nl26, nl27, nl28, nl29, nl30, nl31, nl32, nl33, nl34, nl35, nl36, nl37, nl38, nl39, nl40, nl41, nl42, nl43, nl44, nl45, nl46, nl47, nl48, nl49, nl50, nl51, nl52, nl53, nl54, nl55, nl56, nl57, nl58, nl59, nl60, nl61, nl62, nl63, nl64, nl65, nl66, nl67, nl68, nl69, nl70, nl71, nl72, nl73, nl74, nl75, nl76, nl77, nl78, nl79, nl80, nl81, nl82, nl83, nl84, nl85, nl86, nl87, nl88, nl89, nl90, nl91, nl92, nl93, nl94, nl95, nl96, nl97, nl98, nl99, nl100, nl101, nl102, nl103, nl104, nl105, nl106, nl107, nl108, nl109, nl110, nl111, nl112, nl113, nl114, nl115, nl116, nl117, nl118, nl119, nl120, nl121, nl122, nl123, nl124, nl125, nl126, nl127, nl979, nl244, nl1000]
    rw [if_neg (by omega), if_neg (by omega), if_neg (by omega), hc.2.1 i h]
    simp (disch := omega) only [nn_add, nn_mul, nn_sub, nn_le, nn_lt, nn_eq, nn_div, ldi_nn, ldc_nn, sti_nn, Option.bind_some, if_true, if_false, not_true_eq_false, not_false_eq_true, Nat.add_zero, nl0, nl1, nl2, nl3, nl4, nl5, nl6, nl7, nl8, nl9, nl10, nl11, nl12, nl13, nl14, nl15, nl16, nl17, nl18, nl19, nl20, nl21, nl22, nl23, nl24, nl25, nl26, nl27, nl28, nl29, nl30, nl31, nl32, nl33, nl34, nl35, nl36, nl37, nl38, nl39, nl40, nl41, nl42, nl43, nl44, nl45, nl46, nl47, nl48, nl49, nl50, nl51, nl52, nl53, nl54, nl55, nl56, nl57, nl58, nl59, nl60, nl61, nl62, nl63, nl64, nl65, nl66, nl67, nl68, nl69, nl70, nl71, nl72, nl73, nl74, nl75, nl76, nl77, nl78, nl79, nl80, nl81, nl82, nl83, nl84, nl85, nl86, nl87, nl88, nl89, nl90, nl91, nl92, nl93, nl94, nl95, nl96, nl97, nl98, nl99, nl100, nl101, nl102, nl103, nl104, nl105, nl106, nl107, nl108, nl109, nl110, nl111, nl112, nl113, nl114, nl115, nl116, nl117, nl118, nl119, nl120, nl121, nl122, nl123, nl124, nl125, nl126, nl127, nl979, nl244, nl1000]
    by_cases q : p < sz b i
    · rw [if_neg (by omega), if_pos q]
    · rw [if_pos (by omega), if_neg q]
  · rw [sz_out h]
    simp (disch := omega) only [nn_add, nn_mul, nn_sub, nn_le, nn_lt, nn_eq, nn_div, ldi_nn, ldc_nn, sti_nn, Option.bind_some, if_true, if_false, not_true_eq_false, not_false_eq_true, Nat.add_zero, nl0, nl1, nl2, nl3, nl4, nl5, nl6, nl7, nl8, nl9, nl10, nl11, nl12, nl13, nl14, nl15, nl16, nl17, nl18, nl19, nl20, nl21, nl22, nl23, nl24, nl25, nl26, nl27, nl28, nl29, nl30, nl31, nl32, nl33, nl34, nl35, nl36, nl37, nl38, nl39, nl40, nl41, nl42, nl43, nl44, nl45, nl46, nl47, nl48, nl49, nl50, nl51, nl52, nl53, nl54, nl55, nl56, nl57, nl58, nl59, nl60, nl61, nl62, nl63, nl64, nl65, nl66, nl67, nl68, nl69, nl70, nl71, nl72, nl73, nl74, nl75, nl76, nl77, nl78, nl79, nl80, nl81, nl82, nl83, nl84, nl85, nl86, nl87, nl88, nl89, nl90, nl91, nl92, nl93, nl94, nl95, nl96, nl97, nl98, nl99, nl100, nl101, nl102, nl103, nl104, nl105, nl106, nl107, nl108, nl109, nl110, nl111, nl112, nl113, nl114, nl115, nl116, nl117, nl118, nl119, nl120, nl121, nl122, nl123, nl124, nl125, nl126, nl127, nl979, nl244, nl1000]
    rw [if_neg (by omega), if_pos (by omega), if_neg (by omega)]
theorem s_letterAt (hw : Wf b) (hc : CB F S n b) {i p : Nat} (hi : i < 1000000) (hp : p < 1000000) : f_X0_letterAt F S n (nn i) (nn p) = some (nn (lt b i p)) := by
  have h8 := hw.1
  unfold f_X0_letterAt
  rw [s_hasPlace hw hc hi hp]
  by_cases q : p < sz b i
  · have h1 := sz_in q
    have h10 := hw.sz_le i
    rw [if_pos q]
    simp (disch := omega) only [nn_add, nn_mul, nn_sub, nn_le, nn_lt, nn_eq, nn_div, ldi_nn, ldc_nn, sti_nn, Option.bind_some, if_true, if_false, not_true_eq_false, not_false_eq_true, Nat.add_zero, nl0, nl1, nl2, nl3, nl4, nl5, nl6, nl7, nl8, nl9, nl10, nl11, nl12, nl13, nl14, nl15, nl16, nl17, nl18, nl19, nl20, nl21, nl22, nl23, nl24, nl25, nl26, nl27, nl28, nl29, nl30, nl31, nl32, nl33, nl34, nl35, nl36, nl37, nl38, nl39, nl40, nl41, nl42, nl43, nl44, nl45, nl46, nl47, nl48, nl49, nl50, nl51, nl52, nl53, nl54, nl55, nl56, nl57, nl58, nl59, nl60, nl61, nl62, nl63, nl64, nl65, nl66, nl67, nl68, nl69, nl70, nl71, nl72, nl73, nl74, nl75, nl76, nl77, nl78, nl79, nl80, nl81, nl82, nl83, nl84, nl85, nl86, nl87, nl88, nl89, nl90, nl91, nl92, nl93, nl94, nl95, nl96, nl97, nl98, nl99, nl100, nl101, nl102, nl103, nl104, nl105, nl106, nl107, nl108, nl109, nl110, nl111, nl112, nl113, nl114, nl115, nl116, nl117, nl118, nl119, nl120, nl121, nl122, nl123, nl124, nl125, nl126, nl127, nl979, nl244, nl1000]
    rw [if_neg (by omega), show i * 10 + p = 10 * i + p by omega, rc_of (hc.2.2.2 _ (by omega)), hc.2.2.1 i h1 p q]
    rfl
  · rw [if_neg q, lt_out q]
    simp (disch := omega) only [nn_add, nn_mul, nn_sub, nn_le, nn_lt, nn_eq, nn_div, ldi_nn, ldc_nn, sti_nn, Option.bind_some, if_true, if_false, not_true_eq_false, not_false_eq_true, Nat.add_zero, nl0, nl1, nl2, nl3, nl4, nl5, nl6, nl7, nl8, nl9, nl10, nl11, nl12, nl13, nl14, nl15, nl16, nl17, nl18, nl19, nl20, nl21, nl22, nl23, nl24, nl25, nl26, nl27, nl28, nl29, nl30, nl31, nl32, nl33, nl34, nl35, nl36, nl37, nl38, nl39, nl40, nl41, nl42, nl43, nl44, nl45, nl46, nl47, nl48, nl49, nl50, nl51, nl52, nl53, nl54, nl55, nl56, nl57, nl58, nl59, nl60, nl61, nl62, nl63, nl64, nl65, nl66, nl67, nl68, nl69, nl70, nl71, nl72, nl73, nl74, nl75, nl76, nl77, nl78, nl79, nl80, nl81, nl82, nl83, nl84, nl85, nl86, nl87, nl88, nl89, nl90, nl91, nl92, nl93, nl94, nl95, nl96, nl97, nl98, nl99, nl100, nl101, nl102, nl103, nl104, nl105, nl106, nl107, nl108, nl109, nl110, nl111, nl112, nl113, nl114, nl115, nl116, nl117, nl118, nl119, nl120, nl121, nl122, nl123, nl124, nl125, nl126, nl127, nl979, nl244, nl1000]
/-- how many letters two endings have in common -/
def cpl : List Nat → List Nat → Nat
  | a :: u, c :: v => if a = c then cpl u v + 1 else 0
  | _, _ => 0
theorem cpl_nil (v : List Nat) : cpl [] v = 0 := by cases v <;> rfl
theorem cpl_nil' (u : List Nat) : cpl u [] = 0 := by cases u <;> rfl
theorem cpl_le : ∀ (u v : List Nat), cpl u v ≤ u.length
  | [], v => by rw [cpl_nil]; exact Nat.zero_le _
  | a :: u, [] => by rw [cpl_nil']; exact Nat.zero_le _
  | a :: u, c :: v => by
    rw [cpl]
    have := cpl_le u v
    by_cases h : a = c
    · rw [if_pos h]; simp; omega
    · rw [if_neg h]; omega
theorem sfx_len (b : Bk) (i p : Nat) : (sfx b i p).length = sz b i - p := by unfold sfx sz; exact List.length_drop ..
theorem s_same_L (hw : Wf b) (hc : CB F S n b) {i p j q : Nat} (hi : i < 1000) (hp : p < 1000) (hj : j < 1000) (hq : q < 1000) : ∀ (fuel k : Nat), k ≤ 10 → 10 < fuel + k → f_X0_sameLetters_L3 (nn i) (nn p) (nn j) (nn q) F S n fuel (nn k) (fun _ => some (nn 10)) = some (nn (k + cpl (sfx b i (p + k)) (sfx b j (q + k)))) := by
  intro fuel
  induction fuel with
  | zero => intro k h1 h2; omega
  | succ fuel ih =>
    intro k h1 h2
    have h10 := hw.sz_le i
    rw [f_X0_sameLetters_L3]
    simp (disch := omega) only [nn_add, nn_mul, nn_sub, nn_le, nn_lt, nn_eq, nn_div, ldi_nn, ldc_nn, sti_nn, Option.bind_some, if_true, if_false, not_true_eq_false, not_false_eq_true, Nat.add_zero, nl0, nl1, nl2, nl3, nl4, nl5, nl6, nl7, nl8, nl9, nl10, nl11, nl12, nl13, nl14, nl15, nl16, nl17, nl18, nl19, nl20, nl21, nl22, nl23, nl24, nl25, nl26, nl27, nl28, nl29, nl30, nl31, nl32, nl33, nl34, nl35, nl36, nl37, nl38, nl39, nl40, nl41, nl42, nl43, nl44, nl45, nl46, nl47, nl48, nl49, nl50, nl51, nl52, nl53, nl54, nl55, nl56, nl57, nl58, nl59, nl60, nl61, nl62, nl63, nl64, nl65, nl66, nl67, nl68, nl69, nl70, nl71, nl72, nl73, nl74, nl75, nl76, nl77, nl78, nl79, nl80, nl81, nl82, nl83, nl84, nl85, nl86, nl87, nl88, nl89, nl90, nl91, nl92, nl93, nl94, nl95, nl96, nl97, nl98, nl99, nl100, nl101, nl102, nl103, nl104, nl105, nl106, nl107, nl108, nl109, nl110, nl111, nl112, nl113, nl114, nl115, nl116, nl117, nl118, nl119, nl120, nl121, nl122, nl123, nl124, nl125, nl126, nl127, nl979, nl244, nl1000]
    by_cases hk : 10 ≤ k
    · rw [if_pos hk, sfx_nil (by omega), cpl_nil, show k = 10 by omega]
    · rw [if_neg hk, s_letterAt hw hc (by omega) (by omega)]
      have l1 := hw.lt_le i (p + k)
      have l2 := hw.lt_le j (q + k)
      simp (disch := omega) only [nn_add, nn_mul, nn_sub, nn_le, nn_lt, nn_eq, nn_div, ldi_nn, ldc_nn, sti_nn, Option.bind_some, if_true, if_false, not_true_eq_false, not_false_eq_true, Nat.add_zero, nl0, nl1, nl2, nl3, nl4, nl5, nl6, nl7, nl8, nl9, nl10, nl11, nl12, nl13, nl14, nl15, nl16, nl17, nl18, nl19, nl20, nl21, nl22, nl23, nl24, nl25, nl26, nl27, nl28, nl29, nl30, nl31, nl32, nl33, nl34, nl35, nl36, nl37, nl38, nl39, nl40, nl41, nl42, nl43, nl44, nl45, nl46, nl47, nl48, nl49, nl50, nl51, nl52, nl53, nl54, nl55, nl56, nl57, nl58, nl59, nl60, nl61, nl62, nl63, nl64, nl65, nl66, nl67, nl68, nl69, nl70, nl71, nl72, nl73, nl74, nl75, nl76, nl77, nl78, nl79, nl80, nl81, nl82, nl83, nl84, nl85, nl86, nl87, nl88, nl89, nl90, nl91, nl92, nl93, nl94, nl95, nl96, nl97, nl98, nl99, nl100, nl101, nl102, nl103, nl104, nl105, nl106, nl107, nl108, nl109, nl110, nl111, nl112, nl113, nl114, nl115, nl116, nl117, nl118, nl119, nl120, nl121, nl122, nl123, nl124, nl125, nl126, nl127, nl979, nl244, nl1000]
      by_cases e1 : p + k < sz b i
      · have g1 := hw.lt_ge e1
        rw [if_neg (by omega), s_letterAt hw hc (by omega) (by omega)]
        simp (disch := omega) only [nn_add, nn_mul, nn_sub, nn_le, nn_lt, nn_eq, nn_div, ldi_nn, ldc_nn, sti_nn, Option.bind_some, if_true, if_false, not_true_eq_false, not_false_eq_true, Nat.add_zero, nl0, nl1, nl2, nl3, nl4, nl5, nl6, nl7, nl8, nl9, nl10, nl11, nl12, nl13, nl14, nl15, nl16, nl17, nl18, nl19, nl20, nl21, nl22, nl23, nl24, nl25, nl26, nl27, nl28, nl29, nl30, nl31, nl32, nl33, nl34, nl35, nl36, nl37, nl38, nl39, nl40, nl41, nl42, nl43, nl44, nl45, nl46, nl47, nl48, nl49, nl50, nl51, nl52, nl53, nl54, nl55, nl56, nl57, nl58, nl59, nl60, nl61, nl62, nl63, nl64, nl65, nl66, nl67, nl68, nl69, nl70, nl71, nl72, nl73, nl74, nl75, nl76, nl77, nl78, nl79, nl80, nl81, nl82, nl83, nl84, nl85, nl86, nl87, nl88, nl89, nl90, nl91, nl92, nl93, nl94, nl95, nl96, nl97, nl98, nl99, nl100, nl101, nl102, nl103, nl104, nl105, nl106, nl107, nl108, nl109, nl110, nl111, nl112, nl113, nl114, nl115, nl116, nl117, nl118, nl119, nl120, nl121, nl122, nl123, nl124, nl125, nl126, nl127, nl979, nl244, nl1000]
        rw [sfx_cons e1]
        by_cases e2 : q + k < sz b j
        · rw [sfx_cons e2, cpl]
          by_cases e : lt b i (p + k) = lt b j (q + k)
          · rw [if_pos e, if_pos e, ih (k + 1) (by omega) (by omega)]
            congr 2
            rw [show p + (k + 1) = p + k + 1 by omega, show q + (k + 1) = q + k + 1 by omega]
            omega
          · rw [if_neg e, if_neg e]; rfl
        · rw [sfx_nil e2, cpl_nil', lt_out e2, if_neg (by omega)]; rfl
      · rw [if_pos ((hw.lt_zero i (p + k)).mpr e1), sfx_nil e1, cpl_nil]; rfl
theorem s_same (hw : Wf b) (hc : CB F S n b) {i p j q : Nat} (hi : i < 1000) (hp : p < 1000) (hj : j < 1000) (hq : q < 1000) : f_X0_sameLetters F S n (nn i) (nn p) (nn j) (nn q) = some (nn (cpl (sfx b i p) (sfx b j q))) := by
  unfold f_X0_sameLetters
  have h := s_same_L hw hc hi hp hj hq 1000 0 (by omega) (by omega)
  rw [Nat.zero_add] at h
  exact h
end BOOK

