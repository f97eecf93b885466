/-! TEXTS AND WORDS -/
def TXx (C : Nat → Int32) (l : Int32) (w : List Nat) : Prop := l = nn w.length ∧ w.length ≤ 60 ∧ ∀ i, i < w.length → C i = nn (w.getD i 0) ∧ w.getD i 0 < 65536
theorem ch_nn {x : Nat} (h : x < 65536) : ch (nn x) := by
  unfold ch vp_nar
  have e : narrow .char (.int (nn x)) = .int (nn x) := by
    have : ((nn x).toUInt32 % 65536).toInt32 = nn x := by
      apply Int32.toInt_inj.mp
      rw [nn_toInt (by omega)]
      have h1 : (nn x).toUInt32.toNat = x := by
        show (BitVec.ofInt 32 (x : Int)).toNat = x
        simp
        omega
      have h2 : ((nn x).toUInt32 % 65536).toNat = x := by
        rw [UInt32.toNat_mod, h1]
        show x % 65536 = x
        omega
      have h3 : ((nn x).toUInt32 % 65536) = UInt32.ofNat x := by
        apply UInt32.toNat_inj.mp
        rw [h2]
        simp
        omega
      rw [h3]
      have : (UInt32.ofNat x).toInt32 = Int32.ofNat x := rfl
      rw [this]
      exact nn_toInt (by omega)
    unfold narrow
    first
    | rw [this]
    | (simp only []; rw [this])
    | exact congrArg Value.int this
  rw [e]
def ltr (x : Nat) : Bool := decide (97 ≤ x) && decide (x ≤ 122)
def wrd (w : List Nat) : Bool := decide (1 ≤ w.length) && (decide (w.length ≤ 10) && al (fun k => ltr (w.getD k 0)) 0 (w.length - 0))
/-- the first letters in which an ending and a word differ; 0, 0: none before the word's end -/
def cmw : List Nat → List Nat → Nat × Nat
  | _, [] => (0, 0)
  | [], c :: _ => (0, c)
  | a :: u, c :: w => if a = c then cmw u w else (a, c)
theorem cmw_nil (u : List Nat) : cmw u [] = (0, 0) := by cases u <;> rfl
theorem cmw_nil' (c : Nat) (w : List Nat) : cmw [] (c :: w) = (0, c) := rfl
theorem cmw_cons (a c : Nat) (u w : List Nat) : cmw (a :: u) (c :: w) = if a = c then cmw u w else (a, c) := rfl
theorem al_all {P : Nat → Bool} : ∀ (m k : Nat), al P k m = true → ∀ x, k ≤ x → x < k + m → P x = true
  | 0, k, _, x, h1, h2 => by omega
  | m + 1, k, h, x, h1, h2 => by
    have e0 : al P k (m + 1) = if P k = true then al P (k + 1) m else false := rfl
    rw [e0] at h
    by_cases e : P k = true
    · rw [if_pos e] at h
      by_cases q : x = k
      · rw [q]; exact e
      · exact al_all m (k + 1) h x (by omega) (by omega)
    · rw [if_neg e] at h; cases h
theorem wrd_ltr {w : List Nat} (h : wrd w = true) : 1 ≤ w.length ∧ w.length ≤ 10 ∧ ∀ k, k < w.length → 97 ≤ w.getD k 0 ∧ w.getD k 0 ≤ 122 := by
  unfold wrd at h
  simp only [Bool.and_eq_true, decide_eq_true_iff] at h
  refine ⟨h.1, h.2.1, fun k hk => ?_⟩
  have := al_all _ _ h.2.2 k (by omega) (by omega)
  unfold ltr at this
  simpa using this
theorem drop_nil {w : List Nat} {k : Nat} (h : ¬ k < w.length) : w.drop k = [] := List.drop_eq_nil_of_le (by omega)
theorem drop_cons {w : List Nat} {k : Nat} (h : k < w.length) : w.drop k = w.getD k 0 :: w.drop (k + 1) := by
  rw [List.drop_eq_getElem_cons h, List.getD_eq_getElem?_getD, List.getElem?_eq_getElem h]
  rfl
theorem getD_out {w : List Nat} {k : Nat} (h : ¬ k < w.length) : w.getD k 0 = 0 := by
  rw [List.getD_eq_getElem?_getD, List.getElem?_eq_none (by omega)]
  rfl
section TEXT
variable {F S C A W : Nat → Int32} {n l : Int32} {b : Bk} {w : List Nat}
theorem s_length (ht : TXx C l w) : f_X7_length l = some (nn w.length) := by rw [f_X7_length, ht.1]
theorem s_charAt (ht : TXx C l w) {k : Nat} (hk : k < 1000) : f_X7_characterAt C l (nn k) = some (nn (w.getD k 0)) := by
  have h60 := ht.2.1
  unfold f_X7_characterAt
  rw [ht.1]
  simp (disch := omega) only [nn_add, nn_mul, nn_sub, nn_le, nn_lt, nn_eq, nn_div, ldi_nn, ldc_nn, sti_nn, Option.bind_some, if_true, if_false, not_true_eq_false, not_false_eq_true, Nat.add_zero, nl0, nl1, nl2, nl3, nl4, nl5, nl6, nl7, nl8, nl9, nl10, nl11, nl12, nl13, nl14, nl15, nl16, nl17, nl18, nl19, nl20, nl21, nl22, nl23, nl24, nl25, nl26, nl27, nl28, nl29, nl30, nl31, nl32, nl33, nl34, nl35, nl36, nl37, nl38, nl39, nl40, nl41, nl42, nl43, nl44, nl45, nl46, nl47, nl48, nl49, nl50, nl51, nl52, nl53, nl54, nl55, nl56, nl57, nl58, nl59, nl60, nl61, nl62, nl63, nl64, nl65, nl66, nl67, nl68, nl69, nl70, nl71, nl72, nl73, nl74, nl75, nl76, nl77, nl78, nl79, nl80, nl81, nl82, nl83, nl84, nl85, nl86, nl87, nl88, nl89, nl90, nl91, nl92, nl93, nl94, nl95, nl96, nl97, nl98, nl99, nl100, nl101, nl102, nl103, nl104, nl105, nl106, nl107, nl108, nl109, nl110, nl111, nl112, nl113, nl114, nl115, nl116, nl117, nl118, nl119, nl120, nl121, nl122, nl123, nl124, nl125, nl126, nl127, nl979, nl244, nl1000]
  rw [if_neg (by omega)]
  by_cases h : k < w.length
  · rw [if_neg (by omega)]
    first
    | simp (disch := omega) only [nn_add, nn_mul, nn_sub, nn_le, nn_lt, nn_eq, nn_div, ldi_nn, ldc_nn, sti_nn, Option.bind_some, if_true, if_false, not_true_eq_false, not_false_eq_true, Nat.add_zero, nl0, nl1, nl2, nl3, nl4, nl5, nl6, nl7, nl8, nl9, nl10, nl11, nl12, nl13, nl14, nl15, nl16, nl17, nl18, nl19, nl20, nl21, nl22, nl23, nl24, nl25, nl26, nl27, nl28, nl29, nl30, nl31, nl32, nl33, nl34, nl35, nl36, nl37, nl38, nl39, nl40, nl41, nl42, nl43, nl44, nl45, nl46, nl47, nl48, nl49, nl50, nl51, nl52, nl53, nl54, nl55, nl56, nl57, nl58, nl59, nl60, nl61, nl62, nl63, nl64, nl65, nl66, nl67, nl68, nl69, nl70, nl71, nl72, nl73, nl74, nl75, nl76, nl77, nl78, nl79, nl80, nl81, nl82, nl83, nl84, nl85, nl86, nl87, nl88, nl89, nl90, nl91, nl92, nl93, nl94, nl95, nl96, nl97, nl98, nl99, nl100, nl101, nl102, nl103, nl104, nl105, nl106, nl107, nl108, nl109, nl110, nl111, nl112, nl113, nl114, nl115, nl116, nl117, nl118, nl119, nl120, nl121, nl122, nl123, nl124, nl125, nl126, nl127, nl979, nl244, nl1000]
    | skip
    rw [(ht.2.2 k h).1, rc_of (ch_nn (ht.2.2 k h).2)]
    rfl
  · rw [if_pos (by omega), getD_out h]
theorem s_small {x : Nat} (hx : x < 1000000) : f_X8_isSmallLetter (nn x) = some (if ltr x = true then nn 1 else nn 0) := by
  unfold f_X8_isSmallLetter ltr
  simp (disch := omega) only [nn_add, nn_mul, nn_sub, nn_le, nn_lt, nn_eq, nn_div, ldi_nn, ldc_nn, sti_nn, Option.bind_some, if_true, if_false, not_true_eq_false, not_false_eq_true, Nat.add_zero, nl0, nl1, nl2, nl3, nl4, nl5, nl6, nl7, nl8, nl9, nl10, nl11, nl12, nl13, nl14, nl15, nl16, nl17, nl18, nl19, nl20, nl21, nl22, nl23, nl24, nl25, nl26, nl27, nl28, nl29, nl30, nl31, nl32, nl33, nl34, nl35, nl36, nl37, nl38, nl39, nl40, nl41, nl42, nl43, nl44, nl45, nl46, nl47, nl48, nl49, nl50, nl51, nl52, nl53, nl54, nl55, nl56, nl57, nl58, nl59, nl60, nl61, nl62, nl63, nl64, nl65, nl66, nl67, nl68, nl69, nl70, nl71, nl72, nl73, nl74, nl75, nl76, nl77, nl78, nl79, nl80, nl81, nl82, nl83, nl84, nl85, nl86, nl87, nl88, nl89, nl90, nl91, nl92, nl93, nl94, nl95, nl96, nl97, nl98, nl99, nl100, nl101, nl102, nl103, nl104, nl105, nl106, nl107, nl108, nl109, nl110, nl111, nl112, nl113, nl114, nl115, nl116, nl117, nl118, nl119, nl120, nl121, nl122, nl123, nl124, nl125, nl126, nl127, nl979, nl244, nl1000]
  by_cases h1 : x < 97
  · rw [if_pos h1, if_neg]
    simp
    omega
  · rw [if_neg h1]
    by_cases h2 : 122 < x
    · rw [if_pos h2, if_neg]
      simp
      omega
    · rw [if_neg h2, if_pos]
      simp
      omega
theorem s_isWord_L (ht : TXx C l w) (hl : w.length ≤ 10) : ∀ (fuel k : Nat), k ≤ w.length → w.length < fuel + k → f_X7_isWord_L20 C l fuel (nn k) (fun _ => some 1) = some (if al (fun k => ltr (w.getD k 0)) k (w.length - k) = true then nn 1 else nn 0) := by
  intro fuel
  have h60 := ht.2.1
  induction fuel with
  | zero => intro k h1 h2; omega
  | succ fuel ih =>
    intro k h1 h2
    rw [f_X7_isWord_L20, ht.1]
    rw [← ht.1]
    by_cases hk : w.length ≤ k
    · rw [if_pos (by rw [ht.1, nn_le (by omega) (by omega)]; exact hk), al_end _ hk, if_pos rfl]
      rfl
    · rw [if_neg (by rw [ht.1, nn_le (by omega) (by omega)]; exact hk), al_go _ (by omega)]
      have hc := ht.2.2 k (by omega)
      simp (disch := omega) only [nn_add, nn_mul, nn_sub, nn_le, nn_lt, nn_eq, nn_div, ldi_nn, ldc_nn, sti_nn, Option.bind_some, if_true, if_false, not_true_eq_false, not_false_eq_true, Nat.add_zero, nl0, nl1, nl2, nl3, nl4, nl5, nl6, nl7, nl8, nl9, nl10, nl11, nl12, nl13, nl14, nl15, nl16, nl17, nl18, nl19, nl20, nl21, nl22, nl23, nl24, nl25, nl26, nl27, nl28, nl29, nl30, nl31, nl32, nl33, nl34, nl35, nl36, nl37, nl38, nl39, nl40, nl41, nl42, nl43, nl44, nl45, nl46, nl47, nl48, nl49, nl50, nl51, nl52, nl53, nl54, nl55, nl56, nl57, nl58, nl59, nl60, nl61, nl62, nl63, nl64, nl65, nl66, nl67, nl68, nl69, nl70, nl71, nl72, nl73, nl74, nl75, nl76, nl77, nl78, nl79, nl80, nl81, nl82, nl83, nl84, nl85, nl86, nl87, nl88, nl89, nl90, nl91, nl92, nl93, nl94, nl95, nl96, nl97, nl98, nl99, nl100, nl101, nl102, nl103, nl104, nl105, nl106, nl107, nl108, nl109, nl110, nl111, nl112, nl113, nl114, nl115, nl116, nl117, nl118, nl119, nl120, nl121, nl122, nl123, nl124, nl125, nl126, nl127, nl979, nl244, nl1000]
      rw [hc.1, s_small (by omega)]
      have e := ih (k + 1) (by omega) (by omega)
      simp (disch := omega) only [nn_add, nn_mul, nn_sub, nn_le, nn_lt, nn_eq, nn_div, ldi_nn, ldc_nn, sti_nn, Option.bind_some, if_true, if_false, not_true_eq_false, not_false_eq_true, Nat.add_zero, nl0, nl1, nl2, nl3, nl4, nl5, nl6, nl7, nl8, nl9, nl10, nl11, nl12, nl13, nl14, nl15, nl16, nl17, nl18, nl19, nl20, nl21, nl22, nl23, nl24, nl25, nl26, nl27, nl28, nl29, nl30, nl31, nl32, nl33, nl34, nl35, nl36, nl37, nl38, nl39, nl40, nl41, nl42, nl43, nl44, nl45, nl46, nl47, nl48, nl49, nl50, nl51, nl52, nl53, nl54, nl55, nl56, nl57, nl58, nl59, nl60, nl61, nl62, nl63, nl64, nl65, nl66, nl67, nl68, nl69, nl70, nl71, nl72, nl73, nl74, nl75, nl76, nl77, nl78, nl79, nl80, nl81, nl82, nl83, nl84, nl85, nl86, nl87, nl88, nl89, nl90, nl91, nl92, nl93, nl94, nl95, nl96, nl97, nl98, nl99, nl100, nl101, nl102, nl103, nl104, nl105, nl106, nl107, nl108, nl109, nl110, nl111, nl112, nl113, nl114, nl115, nl116, nl117, nl118, nl119, nl120, nl121, nl122, nl123, nl124, nl125, nl126, nl127, nl979, nl244, nl1000] at e
      by_cases h : ltr (w.getD k 0) = true
      · rw [if_pos h, Option.bind_some, if_pos (by decide), e, if_pos h]
      · rw [if_neg h, Option.bind_some, if_neg (by decide), if_neg h, if_neg (by decide)]
theorem s_isWord (ht : TXx C l w) : f_X7_isWord C l = some (if wrd w = true then nn 1 else nn 0) := by
  have h60 := ht.2.1
  unfold f_X7_isWord wrd
  have e := s_isWord_L ht (w := w) (C := C) (l := l)
  by_cases h0 : w.length = 0
  · rw [if_pos (by rw [ht.1, h0]; rfl), if_neg]
    · rfl
    · simp [h0]
  · rw [if_neg (by rw [ht.1, nl0, nn_eq (by omega) (by omega)]; exact h0)]
    by_cases h10 : w.length ≤ 10
    · rw [if_pos (by rw [ht.1, nl10, nn_le (by omega) (by omega)]; exact h10)]
      have e := s_isWord_L ht h10 1000 0 (by omega) (by omega)
      rw [nl0]
      refine e.trans ?_
      rw [show decide (1 ≤ w.length) = true from decide_eq_true (by omega), show decide (w.length ≤ 10) = true from decide_eq_true h10]
      rfl
    · rw [if_neg (by rw [ht.1, nl10, nn_le (by omega) (by omega)]; exact h10), if_neg]
      · rfl
      · simp [h10]
theorem s_cmw_L (hw : Wf b) (hc : CB F S n b) (ht : TXx C l w) (hz : ∀ k, k < w.length → 1 ≤ w.getD k 0) {i p : Nat} (hi : i < 1000) (hp : p < 500) : ∀ (fuel k : Nat), k ≤ w.length → w.length < fuel + k → f_X5_compareToWord_L3 (nn i) (nn p) F S n C l fuel (nn k) (fun _ => some (nn 0)) = some (nn (cmw (sfx b i (p + k)) (w.drop k)).1 - nn (cmw (sfx b i (p + k)) (w.drop k)).2) := by
  intro fuel
  have h60 := ht.2.1
  induction fuel with
  | zero => intro k h1 h2; omega
  | succ fuel ih =>
    intro k h1 h2
    rw [f_X5_compareToWord_L3, s_length ht]
    simp (disch := omega) only [nn_add, nn_mul, nn_sub, nn_le, nn_lt, nn_eq, nn_div, ldi_nn, ldc_nn, sti_nn, Option.bind_some, if_true, if_false, not_true_eq_false, not_false_eq_true, Nat.add_zero, nl0, nl1, nl2, nl3, nl4, nl5, nl6, nl7, nl8, nl9, nl10, nl11, nl12, nl13, nl14, nl15, nl16, nl17, nl18, nl19, nl20, nl21, nl22, nl23, nl24, nl25, nl26, nl27, nl28, nl29, nl30, nl31, nl32, nl33, nl34, nl35, nl36, nl37, nl38, nl39, nl40, nl41, nl42, nl43, nl44, nl45, nl46, nl47, nl48, nl49, nl50, nl51, nl52, nl53, nl54, nl55, nl56, nl57, nl58, nl59, nl60, nl61, nl62, nl63, nl64, nl65, nl66, nl67, nl68, nl69, nl70, nl71, nl72, nl73, nl74, nl75, nl76, nl77, nl78, nl79, nl80, nl81, nl82, nl83, nl84, nl85, nl86, nl87, nl88, nl89, nl90, nl91, nl92, nl93, nl94, nl95, nl96, nl97, nl98, nl99, nl100, nl101, nl102, nl103, nl104, nl105, nl106, nl107, nl108, nl109, nl110, nl111, nl112, nl113, nl114, nl115, nl116, nl117, nl118, nl119, nl120, nl121, nl122, nl123, nl124, nl125, nl126, nl127, nl979, nl244, nl1000]
    by_cases hk : w.length ≤ k
    · rw [if_pos hk, drop_nil (by omega), cmw_nil]
      rfl
    · have l1 := hw.lt_le i (p + k)
      have l2 := (ht.2.2 k (by omega)).2
      rw [if_neg hk, s_letterAt hw hc (by omega) (by omega)]
      simp (disch := omega) only [nn_add, nn_mul, nn_sub, nn_le, nn_lt, nn_eq, nn_div, ldi_nn, ldc_nn, sti_nn, Option.bind_some, if_true, if_false, not_true_eq_false, not_false_eq_true, Nat.add_zero, nl0, nl1, nl2, nl3, nl4, nl5, nl6, nl7, nl8, nl9, nl10, nl11, nl12, nl13, nl14, nl15, nl16, nl17, nl18, nl19, nl20, nl21, nl22, nl23, nl24, nl25, nl26, nl27, nl28, nl29, nl30, nl31, nl32, nl33, nl34, nl35, nl36, nl37, nl38, nl39, nl40, nl41, nl42, nl43, nl44, nl45, nl46, nl47, nl48, nl49, nl50, nl51, nl52, nl53, nl54, nl55, nl56, nl57, nl58, nl59, nl60, nl61, nl62, nl63, nl64, nl65, nl66, nl67, nl68, nl69, nl70, nl71, nl72, nl73, nl74, nl75, nl76, nl77, nl78, nl79, nl80, nl81, nl82, nl83, nl84, nl85, nl86, nl87, nl88, nl89, nl90, nl91, nl92, nl93, nl94, nl95, nl96, nl97, nl98, nl99, nl100, nl101, nl102, nl103, nl104, nl105, nl106, nl107, nl108, nl109, nl110, nl111, nl112, nl113, nl114, nl115, nl116, nl117, nl118, nl119, nl120, nl121, nl122, nl123, nl124, nl125, nl126, nl127, nl979, nl244, nl1000]
      rw [s_charAt ht (by omega)]
      simp (disch := omega) only [nn_add, nn_mul, nn_sub, nn_le, nn_lt, nn_eq, nn_div, ldi_nn, ldc_nn, sti_nn, Option.bind_some, if_true, if_false, not_true_eq_false, not_false_eq_true, Nat.add_zero, nl0, nl1, nl2, nl3, nl4, nl5, nl6, nl7, nl8, nl9, nl10, nl11, nl12, nl13, nl14, nl15, nl16, nl17, nl18, nl19, nl20, nl21, nl22, nl23, nl24, nl25, nl26, nl27, nl28, nl29, nl30, nl31, nl32, nl33, nl34, nl35, nl36, nl37, nl38, nl39, nl40, nl41, nl42, nl43, nl44, nl45, nl46, nl47, nl48, nl49, nl50, nl51, nl52, nl53, nl54, nl55, nl56, nl57, nl58, nl59, nl60, nl61, nl62, nl63, nl64, nl65, nl66, nl67, nl68, nl69, nl70, nl71, nl72, nl73, nl74, nl75, nl76, nl77, nl78, nl79, nl80, nl81, nl82, nl83, nl84, nl85, nl86, nl87, nl88, nl89, nl90, nl91, nl92, nl93, nl94, nl95, nl96, nl97, nl98, nl99, nl100, nl101, nl102, nl103, nl104, nl105, nl106, nl107, nl108, nl109, nl110, nl111, nl112, nl113, nl114, nl115, nl116, nl117, nl118, nl119, nl120, nl121, nl122, nl123, nl124, nl125, nl126, nl127, nl979, nl244, nl1000]
      rw [drop_cons (by omega)]
      by_cases e1 : p + k < sz b i
      · rw [sfx_cons e1, cmw_cons]
        by_cases e : lt b i (p + k) = w.getD k 0
        · rw [if_pos e, if_pos e, ih (k + 1) (by omega) (by omega), show p + (k + 1) = p + k + 1 by omega]
        · rw [if_neg e, if_neg e]
      · have := hz k (by omega)
        rw [sfx_nil e1, cmw_nil', lt_out e1, if_neg (by omega)]
theorem s_cmw (hw : Wf b) (hc : CB F S n b) (ht : TXx C l w) (hz : ∀ k, k < w.length → 1 ≤ w.getD k 0) {i p : Nat} (hi : i < 1000) (hp : p < 500) : f_X5_compareToWord F S n C l (nn i) (nn p) = some (nn (cmw (sfx b i p) w).1 - nn (cmw (sfx b i p) w).2) := by
  have h60 := ht.2.1
  unfold f_X5_compareToWord
  exact s_cmw_L hw hc ht hz hi hp 1000 0 (by omega) (by omega)
end TEXT

