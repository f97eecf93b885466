/-! PIECES: the class's -/
def mx (f : Nat → Nat) : Nat → Nat → Nat
  | _, 0 => 0
  | k, m + 1 => max (f k) (mx f (k + 1) m)
theorem mx_end (f : Nat → Nat) {k m : Nat} (h : m ≤ k) : mx f k (m - k) = 0 := by rw [show m - k = 0 by omega]; rfl
theorem mx_go (f : Nat → Nat) {k m : Nat} (h : k < m) : mx f k (m - k) = max (f k) (mx f (k + 1) (m - (k + 1))) := by rw [show m - k = (m - (k + 1)) + 1 by omega]; rfl
theorem mx_le {f : Nat → Nat} {c : Nat} (hf : ∀ x, f x ≤ c) : ∀ (m k : Nat), mx f k m ≤ c
  | 0, k => Nat.zero_le _
  | m + 1, k => Nat.max_le.mpr ⟨hf k, mx_le hf m (k + 1)⟩
theorem ite_max (a c : Nat) : (if a < c then nn c else nn a) = nn (max a c) := by
  by_cases h : a < c
  · rw [if_pos h, Nat.max_eq_right (by omega)]
  · rw [if_neg h, Nat.max_eq_left (by omega)]
def mil (b : Bk) (i p j e : Nat) : Nat := mx (fun q => cpl (sfx b i p) (sfx b j q)) 0 (e - 0)
def lrep (b : Bk) (i : Nat) : Nat := mx (fun p => mil b i p i p) 0 (sz b i - 0)
def lsha (b : Bk) (i j : Nat) : Nat := mx (fun p => mil b i p j (sz b j)) 0 (sz b i - 0)
def ala (b : Bk) (i p : Nat) : Nat := mx (fun x => if x = i then 0 else mil b i p x (sz b x)) 0 (b.length - 0)
def saa (b : Bk) (i p : Nat) : Nat := if sz b i - p ≤ ala b i p then 11 else ala b i p + 1
def mnn (f : Nat → Nat) : Nat → Nat → Nat → Nat
  | a, _, 0 => a
  | a, k, m + 1 => mnn f (min a (f k)) (k + 1) m
def sal (b : Bk) (i : Nat) : Nat := mnn (saa b i) 11 0 (sz b i - 0)
def mfa (b : Bk) (i p : Nat) : Nat := max (mil b i p i p) (mx (fun x => mil b i p x (sz b x)) 0 (i - 0))
def cnew (b : Bk) : Nat := sm (fun i => sm (fun p => sz b i - p - mfa b i p) 0 (sz b i - 0)) 0 (b.length - 0)
theorem mil_le {b : Bk} (hw : Wf b) (i p j e : Nat) : mil b i p j e ≤ 10 := mx_le (fun q => by have := cpl_le (sfx b i p) (sfx b j q); rw [sfx_len] at this; have := hw.sz_le i; omega) _ _
theorem mil_le' {b : Bk} (i p j e : Nat) : mil b i p j e ≤ sz b i - p := mx_le (fun q => by have := cpl_le (sfx b i p) (sfx b j q); rw [sfx_len] at this; omega) _ _
theorem ala_le {b : Bk} (hw : Wf b) (i p : Nat) : ala b i p ≤ 10 := by
  unfold ala
  refine mx_le (fun x => ?_) _ _
  show (if x = i then 0 else mil b i p x (sz b x)) ≤ 10
  have := mil_le hw i p x (sz b x)
  split <;> omega
theorem saa_le {b : Bk} (hw : Wf b) (i p : Nat) : saa b i p ≤ 11 := by unfold saa; have := ala_le hw i p; split <;> omega
theorem mfa_le {b : Bk} (i p : Nat) : mfa b i p ≤ sz b i - p := Nat.max_le.mpr ⟨mil_le' _ _ _ _, mx_le (fun x => mil_le' _ _ _ _) _ _⟩
theorem mnn_end (f : Nat → Nat) (a : Nat) {k m : Nat} (h : m ≤ k) : mnn f a k (m - k) = a := by rw [show m - k = 0 by omega]; rfl
theorem mnn_go (f : Nat → Nat) (a : Nat) {k m : Nat} (h : k < m) : mnn f a k (m - k) = mnn f (min a (f k)) (k + 1) (m - (k + 1)) := by rw [show m - k = (m - (k + 1)) + 1 by omega]; rfl
section PIE
variable {F S : Nat → Int32} {n : Int32} {b : Bk}
theorem s_mil_L (hw : Wf b) (hc : CB F S n b) {i p j e : Nat} (hi : i < 1000) (hp : p < 1000) (hj : j < 1000) (he : e < 900) (kk : Int32 → Int32 → Option Int32) : ∀ (fuel k a : Nat), a ≤ 1000 → k ≤ e → e < fuel + k → f_X5_mostInLine_L6 (nn i) (nn p) (nn j) (nn e) F S n fuel (nn a) (nn k) kk = kk (nn (max a (mx (fun q => cpl (sfx b i p) (sfx b j q)) k (e - k)))) (nn e) := by
  intro fuel
  induction fuel with
  | zero => intro k a h0 h1 h2; omega
  | succ fuel ih =>
    intro k a h0 h1 h2
    have h10 := hw.sz_le i
    rw [f_X5_mostInLine_L6]
    simp (disch := omega) only [nn_add, nn_mul, nn_sub, nn_le, nn_lt, nn_eq, nn_div, ldi_nn, ldc_nn, sti_nn, Option.bind_some, if_true, if_false, not_true_eq_false, not_false_eq_true, Nat.add_zero, nl0, nl1, nl2, nl3, nl4, nl5, nl6, nl7, nl8, nl9, nl10, nl11, nl12, nl13, nl14, nl15, nl16, nl17, nl18, nl19, nl20, nl21, nl22, nl23, nl24, nl25, nl26, nl27, nl28, nl29, nl30, nl31, nl32, nl33, nl34, nl35, nl36, nl37, nl38, nl39, nl40, nl41, nl42, nl43, nl44, nl45, nl46, nl47, nl48, nl49, nl50, nl51, nl52, nl53, nl54, nl55, nl56, nl57, nl58, nl59, nl60, nl61, nl62, nl63, nl64, nl65, nl66, nl67, nl68, nl69, nl70, nl71, nl72, nl73, nl74, nl75, nl76, nl77, nl78, nl79, nl80, nl81, nl82, nl83, nl84, nl85, nl86, nl87, nl88, nl89, nl90, nl91, nl92, nl93, nl94, nl95, nl96, nl97, nl98, nl99, nl100, nl101, nl102, nl103, nl104, nl105, nl106, nl107, nl108, nl109, nl110, nl111, nl112, nl113, nl114, nl115, nl116, nl117, nl118, nl119, nl120, nl121, nl122, nl123, nl124, nl125, nl126, nl127, nl979, nl244, nl1000]
    by_cases hk : e ≤ k
    · rw [if_pos hk, mx_end _ hk, show k = e by omega, Nat.max_zero]
    · have hcp := cpl_le (sfx b i p) (sfx b j k)
      rw [sfx_len] at hcp
      rw [if_neg hk, s_same hw hc hi hp hj (by omega), mx_go _ (by omega)]
      simp (disch := omega) only [nn_add, nn_mul, nn_sub, nn_le, nn_lt, nn_eq, nn_div, ldi_nn, ldc_nn, sti_nn, Option.bind_some, if_true, if_false, not_true_eq_false, not_false_eq_true, Nat.add_zero, nl0, nl1, nl2, nl3, nl4, nl5, nl6, nl7, nl8, nl9, nl10, nl11, nl12, nl13, nl14, nl15, nl16, nl17, nl18, nl19, nl20, nl21, nl22, nl23, nl24, nl25, nl26, nl27, nl28, nl29, nl30, nl31, nl32, nl33, nl34, nl35, nl36, nl37, nl38, nl39, nl40, nl41, nl42, nl43, nl44, nl45, nl46, nl47, nl48, nl49, nl50, nl51, nl52, nl53, nl54, nl55, nl56, nl57, nl58, nl59, nl60, nl61, nl62, nl63, nl64, nl65, nl66, nl67, nl68, nl69, nl70, nl71, nl72, nl73, nl74, nl75, nl76, nl77, nl78, nl79, nl80, nl81, nl82, nl83, nl84, nl85, nl86, nl87, nl88, nl89, nl90, nl91, nl92, nl93, nl94, nl95, nl96, nl97, nl98, nl99, nl100, nl101, nl102, nl103, nl104, nl105, nl106, nl107, nl108, nl109, nl110, nl111, nl112, nl113, nl114, nl115, nl116, nl117, nl118, nl119, nl120, nl121, nl122, nl123, nl124, nl125, nl126, nl127, nl979, nl244, nl1000]
      rw [ite_max, ih (k + 1) _ (by omega) (by omega) (by omega), Nat.max_assoc]
theorem s_mil (hw : Wf b) (hc : CB F S n b) {i p j e : Nat} (hi : i < 1000) (hp : p < 1000) (hj : j < 1000) (he : e < 900) : f_X5_mostInLine F S n (nn i) (nn p) (nn j) (nn e) = some (nn (mil b i p j e)) := by
  unfold f_X5_mostInLine
  have h := s_mil_L hw hc hi hp hj he (fun x _ => some x) 1000 0 0 (by omega) (by omega) (by omega)
  rw [Nat.zero_max] at h
  exact h
theorem s_lrep_L (hw : Wf b) (hc : CB F S n b) {i : Nat} (hi : i < 1000) (kk : Int32 → Int32 → Option Int32) : ∀ (fuel k a : Nat), a ≤ 1000 → k ≤ sz b i → sz b i < fuel + k → f_X5_longestRepeat_L4 (nn i) F S n fuel (nn a) (nn k) kk = kk (nn (max a (mx (fun p => mil b i p i p) k (sz b i - k)))) (nn (sz b i)) := by
  intro fuel
  have h10 := hw.sz_le i
  induction fuel with
  | zero => intro k a h0 h1 h2; omega
  | succ fuel ih =>
    intro k a h0 h1 h2
    rw [f_X5_longestRepeat_L4, s_size hw hc (by omega)]
    simp (disch := omega) only [nn_add, nn_mul, nn_sub, nn_le, nn_lt, nn_eq, nn_div, ldi_nn, ldc_nn, sti_nn, Option.bind_some, if_true, if_false, not_true_eq_false, not_false_eq_true, Nat.add_zero, nl0, nl1, nl2, nl3, nl4, nl5, nl6, nl7, nl8, nl9, nl10, nl11, nl12, nl13, nl14, nl15, nl16, nl17, nl18, nl19, nl20, nl21, nl22, nl23, nl24, nl25, nl26, nl27, nl28, nl29, nl30, nl31, nl32, nl33, nl34, nl35, nl36, nl37, nl38, nl39, nl40, nl41, nl42, nl43, nl44, nl45, nl46, nl47, nl48, nl49, nl50, nl51, nl52, nl53, nl54, nl55, nl56, nl57, nl58, nl59, nl60, nl61, nl62, nl63, nl64, nl65, nl66, nl67, nl68, nl69, nl70, nl71, nl72, nl73, nl74, nl75, nl76, nl77, nl78, nl79, nl80, nl81, nl82, nl83, nl84, nl85, nl86, nl87, nl88, nl89, nl90, nl91, nl92, nl93, nl94, nl95, nl96, nl97, nl98, nl99, nl100, nl101, nl102, nl103, nl104, nl105, nl106, nl107, nl108, nl109, nl110, nl111, nl112, nl113, nl114, nl115, nl116, nl117, nl118, nl119, nl120, nl121, nl122, nl123, nl124, nl125, nl126, nl127, nl979, nl244, nl1000]
    by_cases hk : sz b i ≤ k
    · rw [if_pos hk, mx_end _ hk, show k = sz b i by omega, Nat.max_zero]
    · have hm := mil_le hw i k i k
      rw [if_neg hk, s_mil hw hc hi (by omega) hi (by omega), mx_go _ (by omega)]
      simp (disch := omega) only [nn_add, nn_mul, nn_sub, nn_le, nn_lt, nn_eq, nn_div, ldi_nn, ldc_nn, sti_nn, Option.bind_some, if_true, if_false, not_true_eq_false, not_false_eq_true, Nat.add_zero, nl0, nl1, nl2, nl3, nl4, nl5, nl6, nl7, nl8, nl9, nl10, nl11, nl12, nl13, nl14, nl15, nl16, nl17, nl18, nl19, nl20, nl21, nl22, nl23, nl24, nl25, nl26, nl27, nl28, nl29, nl30, nl31, nl32, nl33, nl34, nl35, nl36, nl37, nl38, nl39, nl40, nl41, nl42, nl43, nl44, nl45, nl46, nl47, nl48, nl49, nl50, nl51, nl52, nl53, nl54, nl55, nl56, nl57, nl58, nl59, nl60, nl61, nl62, nl63, nl64, nl65, nl66, nl67, nl68, nl69, nl70, nl71, nl72, nl73, nl74, nl75, nl76, nl77, nl78, nl79, nl80, nl81, nl82, nl83, nl84, nl85, nl86, nl87, nl88, nl89, nl90, nl91, nl92, nl93, nl94, nl95, nl96, nl97, nl98, nl99, nl100, nl101, nl102, nl103, nl104, nl105, nl106, nl107, nl108, nl109, nl110, nl111, nl112, nl113, nl114, nl115, nl116, nl117, nl118, nl119, nl120, nl121, nl122, nl123, nl124, nl125, nl126, nl127, nl979, nl244, nl1000]
      rw [ite_max, ih (k + 1) _ (by omega) (by omega) (by omega), Nat.max_assoc]
theorem s_lrep (hw : Wf b) (hc : CB F S n b) {i : Nat} (hi : i < 1000) : f_X5_longestRepeat F S n (nn i) = some (nn (lrep b i)) := by
  unfold f_X5_longestRepeat
  have h10 := hw.sz_le i
  have h := s_lrep_L hw hc hi (fun x _ => some x) 1000 0 0 (by omega) (by omega) (by omega)
  rw [Nat.zero_max] at h
  exact h
theorem s_lsha_L (hw : Wf b) (hc : CB F S n b) {i j : Nat} (hi : i < 1000) (hj : j < 1000) (kk : Int32 → Int32 → Option Int32) : ∀ (fuel k a : Nat), a ≤ 1000 → k ≤ sz b i → sz b i < fuel + k → f_X5_longestShared_L5 (nn i) (nn j) F S n fuel (nn a) (nn k) kk = kk (nn (max a (mx (fun p => mil b i p j (sz b j)) k (sz b i - k)))) (nn (sz b i)) := by
  intro fuel
  have h10 := hw.sz_le i
  have h11 := hw.sz_le j
  induction fuel with
  | zero => intro k a h0 h1 h2; omega
  | succ fuel ih =>
    intro k a h0 h1 h2
    rw [f_X5_longestShared_L5, s_size hw hc (by omega)]
    simp (disch := omega) only [nn_add, nn_mul, nn_sub, nn_le, nn_lt, nn_eq, nn_div, ldi_nn, ldc_nn, sti_nn, Option.bind_some, if_true, if_false, not_true_eq_false, not_false_eq_true, Nat.add_zero, nl0, nl1, nl2, nl3, nl4, nl5, nl6, nl7, nl8, nl9, nl10, nl11, nl12, nl13, nl14, nl15, nl16, nl17, nl18, nl19, nl20, nl21, nl22, nl23, nl24, nl25, nl26, nl27, nl28, nl29, nl30, nl31, nl32, nl33, nl34, nl35, nl36, nl37, nl38, nl39, nl40, nl41, nl42, nl43, nl44, nl45, nl46, nl47, nl48, nl49, nl50, nl51, nl52, nl53, nl54, nl55, nl56, nl57, nl58, nl59, nl60, nl61, nl62, nl63, nl64, nl65, nl66, nl67, nl68, nl69, nl70, nl71, nl72, nl73, nl74, nl75, nl76, nl77, nl78, nl79, nl80, nl81, nl82, nl83, nl84, nl85, nl86, nl87, nl88, nl89, nl90, nl91, nl92, nl93, nl94, nl95, nl96, nl97, nl98, nl99, nl100, nl101, nl102, nl103, nl104, nl105, nl106, nl107, nl108, nl109, nl110, nl111, nl112, nl113, nl114, nl115, nl116, nl117, nl118, nl119, nl120, nl121, nl122, nl123, nl124, nl125, nl126, nl127, nl979, nl244, nl1000]
    by_cases hk : sz b i ≤ k
    · rw [if_pos hk, mx_end _ hk, show k = sz b i by omega, Nat.max_zero]
    · have hm := mil_le hw i k j (sz b j)
      rw [if_neg hk, s_size hw hc (by omega)]
      simp (disch := omega) only [nn_add, nn_mul, nn_sub, nn_le, nn_lt, nn_eq, nn_div, ldi_nn, ldc_nn, sti_nn, Option.bind_some, if_true, if_false, not_true_eq_false, not_false_eq_true, Nat.add_zero, nl0, nl1, nl2, nl3, nl4, nl5, nl6, nl7, nl8, nl9, nl10, nl11, nl12, nl13, nl14, nl15, nl16, nl17, nl18, nl19, nl20, nl21, nl22, nl23, nl24, nl25, nl26, nl27, nl28, nl29, nl30, nl31, nl32, nl33, nl34, nl35, nl36, nl37, nl38, nl39, nl40, nl41, nl42, nl43, nl44, nl45, nl46, nl47, nl48, nl49, nl50, nl51, nl52, nl53, nl54, nl55, nl56, nl57, nl58, nl59, nl60, nl61, nl62, nl63, nl64, nl65, nl66, nl67, nl68, nl69, nl70, nl71, nl72, nl73, nl74, nl75, nl76, nl77, nl78, nl79, nl80, nl81, nl82, nl83, nl84, nl85, nl86, nl87, nl88, nl89, nl90, nl91, nl92, nl93, nl94, nl95, nl96, nl97, nl98, nl99, nl100, nl101, nl102, nl103, nl104, nl105, nl106, nl107, nl108, nl109, nl110, nl111, nl112, nl113, nl114, nl115, nl116, nl117, nl118, nl119, nl120, nl121, nl122, nl123, nl124, nl125, nl126, nl127, nl979, nl244, nl1000]
      rw [s_mil hw hc hi (by omega) hj (by omega), mx_go _ (by omega)]
      simp (disch := omega) only [nn_add, nn_mul, nn_sub, nn_le, nn_lt, nn_eq, nn_div, ldi_nn, ldc_nn, sti_nn, Option.bind_some, if_true, if_false, not_true_eq_false, not_false_eq_true, Nat.add_zero, nl0, nl1, nl2, nl3, nl4, nl5, nl6, nl7, nl8, nl9, nl10, nl11, nl12, nl13, nl14, nl15, nl16, nl17, nl18, nl19, nl20, nl21, nl22, nl23, nl24, nl25, nl26, nl27, nl28, nl29, nl30, nl31, nl32, nl33, nl34, nl35, nl36, nl37, nl38, nl39, nl40, nl41, nl42, nl43, nl44, nl45, nl46, nl47, nl48, nl49, nl50, nl51, nl52, nl53, nl54, nl55, nl56, nl57, nl58, nl59, nl60, nl61, nl62, nl63, nl64, nl65, nl66, nl67, nl68, nl69, nl70, nl71, nl72, nl73, nl74, nl75, nl76, nl77, nl78, nl79, nl80, nl81, nl82, nl83, nl84, nl85, nl86, nl87, nl88, nl89, nl90, nl91, nl92, nl93, nl94, nl95, nl96, nl97, nl98, nl99, nl100, nl101, nl102, nl103, nl104, nl105, nl106, nl107, nl108, nl109, nl110, nl111, nl112, nl113, nl114, nl115, nl116, nl117, nl118, nl119, nl120, nl121, nl122, nl123, nl124, nl125, nl126, nl127, nl979, nl244, nl1000]
      rw [ite_max, ih (k + 1) _ (by omega) (by omega) (by omega), Nat.max_assoc]
theorem s_lsha (hw : Wf b) (hc : CB F S n b) {i j : Nat} (hi : i < 1000) (hj : j < 1000) : f_X5_longestShared F S n (nn i) (nn j) = some (nn (lsha b i j)) := by
  unfold f_X5_longestShared
  have h10 := hw.sz_le i
  have h := s_lsha_L hw hc hi hj (fun x _ => some x) 1000 0 0 (by omega) (by omega) (by omega)
  rw [Nat.zero_max] at h
  exact h
theorem s_ala_L (hw : Wf b) (hc : CB F S n b) {i p : Nat} (hi : i < 1000) (hp : p < 1000) (kk : Int32 → Int32 → Option Int32) : ∀ (fuel x a : Nat), a ≤ 1000 → x ≤ b.length → b.length < fuel + x → f_X5_shortestAloneAt_L5 (nn i) (nn p) F S n fuel (nn a) (nn x) kk = kk (nn (max a (mx (fun x => if x = i then 0 else mil b i p x (sz b x)) x (b.length - x)))) (nn b.length) := by
  intro fuel
  have h8 := hw.1
  induction fuel with
  | zero => intro k a h0 h1 h2; omega
  | succ fuel ih =>
    intro x a h0 h1 h2
    have h11 := hw.sz_le x
    rw [f_X5_shortestAloneAt_L5, s_lines hc]
    simp (disch := omega) only [nn_add, nn_mul, nn_sub, nn_le, nn_lt, nn_eq, nn_div, ldi_nn, ldc_nn, sti_nn, Option.bind_some, if_true, if_false, not_true_eq_false, not_false_eq_true, Nat.add_zero, nl0, nl1, nl2, nl3, nl4, nl5, nl6, nl7, nl8, nl9, nl10, nl11, nl12, nl13, nl14, nl15, nl16, nl17, nl18, nl19, nl20, nl21, nl22, nl23, nl24, nl25, nl26, nl27, nl28, nl29, nl30, nl31, nl32, nl33, nl34, nl35, nl36, nl37, nl38, nl39, nl40, nl41, nl42, nl43, nl44, nl45, nl46, nl47, nl48, nl49, nl50, nl51, nl52, nl53, nl54, nl55, nl56, nl57, nl58, nl59, nl60, nl61, nl62, nl63, nl64, nl65, nl66, nl67, nl68, nl69, nl70, nl71, nl72, nl73, nl74, nl75, nl76, nl77, nl78, nl79, nl80, nl81, nl82, nl83, nl84, nl85, nl86, nl87, nl88, nl89, nl90, nl91, nl92, nl93, nl94, nl95, nl96, nl97, nl98, nl99, nl100, nl101, nl102, nl103, nl104, nl105, nl106, nl107, nl108, nl109, nl110, nl111, nl112, nl113, nl114, nl115, nl116, nl117, nl118, nl119, nl120, nl121, nl122, nl123, nl124, nl125, nl126, nl127, nl979, nl244, nl1000]
    by_cases hk : b.length ≤ x
    · rw [if_pos hk, mx_end _ hk, show x = b.length by omega, Nat.max_zero]
    · rw [if_neg hk, mx_go _ (by omega)]
      by_cases hx : x = i
      · rw [if_pos hx, if_pos hx, ih (x + 1) a h0 (by omega) (by omega), Nat.zero_max]
      · have hm := mil_le hw i p x (sz b x)
        rw [if_neg hx, if_neg hx, s_size hw hc (by omega)]
        simp (disch := omega) only [nn_add, nn_mul, nn_sub, nn_le, nn_lt, nn_eq, nn_div, ldi_nn, ldc_nn, sti_nn, Option.bind_some, if_true, if_false, not_true_eq_false, not_false_eq_true, Nat.add_zero, nl0, nl1, nl2, nl3, nl4, nl5, nl6, nl7, nl8, nl9, nl10, nl11, nl12, nl13, nl14, nl15, nl16, nl17, nl18, nl19, nl20, nl21, nl22, nl23, nl24, nl25, nl26, nl27, nl28, nl29, nl30, nl31, nl32, nl33, nl34, nl35, nl36, nl37, nl38, nl39, nl40, nl41, nl42, nl43, nl44, nl45, nl46, nl47, nl48, nl49, nl50, nl51, nl52, nl53, nl54, nl55, nl56, nl57, nl58, nl59, nl60, nl61, nl62, nl63, nl64, nl65, nl66, nl67, nl68, nl69, nl70, nl71, nl72, nl73, nl74, nl75, nl76, nl77, nl78, nl79, nl80, nl81, nl82, nl83, nl84, nl85, nl86, nl87, nl88, nl89, nl90, nl91, nl92, nl93, nl94, nl95, nl96, nl97, nl98, nl99, nl100, nl101, nl102, nl103, nl104, nl105, nl106, nl107, nl108, nl109, nl110, nl111, nl112, nl113, nl114, nl115, nl116, nl117, nl118, nl119, nl120, nl121, nl122, nl123, nl124, nl125, nl126, nl127, nl979, nl244, nl1000]
        rw [s_mil hw hc hi hp (by omega) (by omega)]
        simp (disch := omega) only [nn_add, nn_mul, nn_sub, nn_le, nn_lt, nn_eq, nn_div, ldi_nn, ldc_nn, sti_nn, Option.bind_some, if_true, if_false, not_true_eq_false, not_false_eq_true, Nat.add_zero, nl0, nl1, nl2, nl3, nl4, nl5, nl6, nl7, nl8, nl9, nl10, nl11, nl12, nl13, nl14, nl15, nl16, nl17, nl18, nl19, nl20, nl21, nl22, nl23, nl24, nl25, nl26, nl27, nl28, nl29, nl30, nl31, nl32, nl33, nl34, nl35, nl36, nl37, nl38, nl39, nl40, nl41, nl42, nl43, nl44, nl45, nl46, nl47, nl48, nl49, nl50, nl51, nl52, nl53, nl54, nl55, nl56, nl57, nl58, nl59, nl60, nl61, nl62, nl63, nl64, nl65, nl66, nl67, nl68, nl69, nl70, nl71, nl72, nl73, nl74, nl75, nl76, nl77, nl78, nl79, nl80, nl81, nl82, nl83, nl84, nl85, nl86, nl87, nl88, nl89, nl90, nl91, nl92, nl93, nl94, nl95, nl96, nl97, nl98, nl99, nl100, nl101, nl102, nl103, nl104, nl105, nl106, nl107, nl108, nl109, nl110, nl111, nl112, nl113, nl114, nl115, nl116, nl117, nl118, nl119, nl120, nl121, nl122, nl123, nl124, nl125, nl126, nl127, nl979, nl244, nl1000]
        rw [ite_max, ih (x + 1) _ (by omega) (by omega) (by omega), Nat.max_assoc]
theorem s_saa (hw : Wf b) (hc : CB F S n b) {i p : Nat} (hi : i < 1000) (hp : p ≤ sz b i) : f_X5_shortestAloneAt F S n (nn i) (nn p) = some (nn (saa b i p)) := by
  unfold f_X5_shortestAloneAt
  have h8 := hw.1
  have h10 := hw.sz_le i
  have ha := ala_le hw i p
  have h := s_ala_L hw hc hi (p := p) (by omega) (fun x _ => (f_X0_size S n (nn i)).bind fun r48_8 => if (r48_8 - nn p) ≤ x then (some 11) else (some (x + 1))) 1000 0 0 (by omega) (by omega) (by omega)
  rw [Nat.zero_max] at h
  refine h.trans ?_
  show ((f_X0_size S n (nn i)).bind fun r48_8 => if (r48_8 - nn p) ≤ nn (ala b i p) then (some 11) else (some (nn (ala b i p) + 1))) = _
  rw [s_size hw hc (by omega)]
  unfold saa
  simp (disch := omega) only [nn_add, nn_mul, nn_sub, nn_le, nn_lt, nn_eq, nn_div, ldi_nn, ldc_nn, sti_nn, Option.bind_some, if_true, if_false, not_true_eq_false, not_false_eq_true, Nat.add_zero, nl0, nl1, nl2, nl3, nl4, nl5, nl6, nl7, nl8, nl9, nl10, nl11, nl12, nl13, nl14, nl15, nl16, nl17, nl18, nl19, nl20, nl21, nl22, nl23, nl24, nl25, nl26, nl27, nl28, nl29, nl30, nl31, nl32, nl33, nl34, nl35, nl36, nl37, nl38, nl39, nl40, nl41, nl42, nl43, nl44, nl45, nl46, nl47, nl48, nl49, nl50, nl51, nl52, nl53, nl54, nl55, nl56, nl57, nl58, nl59, nl60, nl61, nl62, nl63, nl64, nl65, nl66, nl67, nl68, nl69, nl70, nl71, nl72, nl73, nl74, nl75, nl76, nl77, nl78, nl79, nl80, nl81, nl82, nl83, nl84, nl85, nl86, nl87, nl88, nl89, nl90, nl91, nl92, nl93, nl94, nl95, nl96, nl97, nl98, nl99, nl100, nl101, nl102, nl103, nl104, nl105, nl106, nl107, nl108, nl109, nl110, nl111, nl112, nl113, nl114, nl115, nl116, nl117, nl118, nl119, nl120, nl121, nl122, nl123, nl124, nl125, nl126, nl127, nl979, nl244, nl1000]
  split <;> rfl
theorem s_sal_L (hw : Wf b) (hc : CB F S n b) {i : Nat} (hi : i < 1000) (kk : Int32 → Int32 → Option Int32) : ∀ (fuel k a : Nat), a ≤ 1000 → k ≤ sz b i → sz b i < fuel + k → f_X5_shortestAlone_L5 (nn i) F S n fuel (nn a) (nn k) kk = kk (nn (mnn (saa b i) a k (sz b i - k))) (nn (sz b i)) := by
  intro fuel
  have h10 := hw.sz_le i
  induction fuel with
  | zero => intro k a h0 h1 h2; omega
  | succ fuel ih =>
    intro k a h0 h1 h2
    rw [f_X5_shortestAlone_L5, s_size hw hc (by omega)]
    simp (disch := omega) only [nn_add, nn_mul, nn_sub, nn_le, nn_lt, nn_eq, nn_div, ldi_nn, ldc_nn, sti_nn, Option.bind_some, if_true, if_false, not_true_eq_false, not_false_eq_true, Nat.add_zero, nl0, nl1, nl2, nl3, nl4, nl5, nl6, nl7, nl8, nl9, nl10, nl11, nl12, nl13, nl14, nl15, nl16, nl17, nl18, nl19, nl20, nl21, nl22, nl23, nl24, nl25, nl26, nl27, nl28, nl29, nl30, nl31, nl32, nl33, nl34, nl35, nl36, nl37, nl38, nl39, nl40, nl41, nl42, nl43, nl44, nl45, nl46, nl47, nl48, nl49, nl50, nl51, nl52, nl53, nl54, nl55, nl56, nl57, nl58, nl59, nl60, nl61, nl62, nl63, nl64, nl65, nl66, nl67, nl68, nl69, nl70, nl71, nl72, nl73, nl74, nl75, nl76, nl77, nl78, nl79, nl80, nl81, nl82, nl83, nl84, nl85, nl86, nl87, nl88, nl89, nl90, nl91, nl92, nl93, nl94, nl95, nl96, nl97, nl98, nl99, nl100, nl101, nl102, nl103, nl104, nl105, nl106, nl107, nl108, nl109, nl110, nl111, nl112, nl113, nl114, nl115, nl116, nl117, nl118, nl119, nl120, nl121, nl122, nl123, nl124, nl125, nl126, nl127, nl979, nl244, nl1000]
    by_cases hk : sz b i ≤ k
    · rw [if_pos hk, mnn_end _ _ hk, show k = sz b i by omega]
    · have hm := saa_le hw i k
      rw [if_neg hk, s_saa hw hc hi (by omega), mnn_go _ _ (by omega)]
      simp (disch := omega) only [nn_add, nn_mul, nn_sub, nn_le, nn_lt, nn_eq, nn_div, ldi_nn, ldc_nn, sti_nn, Option.bind_some, if_true, if_false, not_true_eq_false, not_false_eq_true, Nat.add_zero, nl0, nl1, nl2, nl3, nl4, nl5, nl6, nl7, nl8, nl9, nl10, nl11, nl12, nl13, nl14, nl15, nl16, nl17, nl18, nl19, nl20, nl21, nl22, nl23, nl24, nl25, nl26, nl27, nl28, nl29, nl30, nl31, nl32, nl33, nl34, nl35, nl36, nl37, nl38, nl39, nl40, nl41, nl42, nl43, nl44, nl45, nl46, nl47, nl48, nl49, nl50, nl51, nl52, nl53, nl54, nl55, nl56, nl57, nl58, nl59, nl60, nl61, nl62, nl63, nl64, nl65, nl66, nl67, nl68, nl69, nl70, nl71, nl72, nl73, nl74, nl75, nl76, nl77, nl78, nl79, nl80, nl81, nl82, nl83, nl84, nl85, nl86, nl87, nl88, nl89, nl90, nl91, nl92, nl93, nl94, nl95, nl96, nl97, nl98, nl99, nl100, nl101, nl102, nl103, nl104, nl105, nl106, nl107, nl108, nl109, nl110, nl111, nl112, nl113, nl114, nl115, nl116, nl117, nl118, nl119, nl120, nl121, nl122, nl123, nl124, nl125, nl126, nl127, nl979, nl244, nl1000]
      have e : (if saa b i k < a then nn (saa b i k) else nn a) = nn (min a (saa b i k)) := by
        by_cases h : saa b i k < a
        · rw [if_pos h, Nat.min_eq_right (by omega)]
        · rw [if_neg h, Nat.min_eq_left (by omega)]
      rw [e, ih (k + 1) _ (by omega) (by omega) (by omega)]
theorem s_sal (hw : Wf b) (hc : CB F S n b) {i : Nat} (hi : i < 1000) : f_X5_shortestAlone F S n (nn i) = some (nn (sal b i)) := by
  unfold f_X5_shortestAlone
  have h10 := hw.sz_le i
  exact s_sal_L hw hc hi (fun x _ => some x) 1000 0 11 (by omega) (by omega) (by omega)
theorem s_fap_L (hw : Wf b) (hc : CB F S n b) {i v : Nat} (hi : i < 1000) (hv : v < 1000) : ∀ (fuel k : Nat), k ≤ sz b i → sz b i < fuel + k → f_X5_firstAlonePlace_L2 (nn i) (nn v) F S n fuel (nn k) (fun x => some x) = some (nn (lst (fun p => decide (saa b i p = v)) k (sz b i - k))) := by
  intro fuel
  have h10 := hw.sz_le i
  induction fuel with
  | zero => intro k h1 h2; omega
  | succ fuel ih =>
    intro k h1 h2
    rw [f_X5_firstAlonePlace_L2, s_size hw hc (by omega)]
    simp (disch := omega) only [nn_add, nn_mul, nn_sub, nn_le, nn_lt, nn_eq, nn_div, ldi_nn, ldc_nn, sti_nn, Option.bind_some, if_true, if_false, not_true_eq_false, not_false_eq_true, Nat.add_zero, nl0, nl1, nl2, nl3, nl4, nl5, nl6, nl7, nl8, nl9, nl10, nl11, nl12, nl13, nl14, nl15, nl16, nl17, nl18, nl19, nl20, nl21, nl22, nl23, nl24, nl25, nl26, nl27, nl28, nl29, nl30, nl31, nl32, nl33, nl34, nl35, nl36, nl37, nl38, nl39, nl40, nl41, nl42, nl43, nl44, nl45, nl46, nl47, nl48, nl49, nl50, nl51, nl52, nl53, nl54, nl55, nl56, nl57, nl58, nl59, nl60, nl61, nl62, nl63, nl64, nl65, nl66, nl67, nl68, nl69, nl70, nl71, nl72, nl73, nl74, nl75, nl76, nl77, nl78, nl79, nl80, nl81, nl82, nl83, nl84, nl85, nl86, nl87, nl88, nl89, nl90, nl91, nl92, nl93, nl94, nl95, nl96, nl97, nl98, nl99, nl100, nl101, nl102, nl103, nl104, nl105, nl106, nl107, nl108, nl109, nl110, nl111, nl112, nl113, nl114, nl115, nl116, nl117, nl118, nl119, nl120, nl121, nl122, nl123, nl124, nl125, nl126, nl127, nl979, nl244, nl1000]
    by_cases hk : sz b i ≤ k
    · rw [if_pos hk, lst_end _ hk]
    · have hm := saa_le hw i k
      rw [if_neg hk, s_saa hw hc hi (by omega), lst_go _ (by omega)]
      simp (disch := omega) only [nn_add, nn_mul, nn_sub, nn_le, nn_lt, nn_eq, nn_div, ldi_nn, ldc_nn, sti_nn, Option.bind_some, if_true, if_false, not_true_eq_false, not_false_eq_true, Nat.add_zero, nl0, nl1, nl2, nl3, nl4, nl5, nl6, nl7, nl8, nl9, nl10, nl11, nl12, nl13, nl14, nl15, nl16, nl17, nl18, nl19, nl20, nl21, nl22, nl23, nl24, nl25, nl26, nl27, nl28, nl29, nl30, nl31, nl32, nl33, nl34, nl35, nl36, nl37, nl38, nl39, nl40, nl41, nl42, nl43, nl44, nl45, nl46, nl47, nl48, nl49, nl50, nl51, nl52, nl53, nl54, nl55, nl56, nl57, nl58, nl59, nl60, nl61, nl62, nl63, nl64, nl65, nl66, nl67, nl68, nl69, nl70, nl71, nl72, nl73, nl74, nl75, nl76, nl77, nl78, nl79, nl80, nl81, nl82, nl83, nl84, nl85, nl86, nl87, nl88, nl89, nl90, nl91, nl92, nl93, nl94, nl95, nl96, nl97, nl98, nl99, nl100, nl101, nl102, nl103, nl104, nl105, nl106, nl107, nl108, nl109, nl110, nl111, nl112, nl113, nl114, nl115, nl116, nl117, nl118, nl119, nl120, nl121, nl122, nl123, nl124, nl125, nl126, nl127, nl979, nl244, nl1000]
      by_cases h : saa b i k = v
      · rw [if_pos h, if_pos (decide_eq_true h)]
      · rw [if_neg h, if_neg (fun q => h (of_decide_eq_true q)), ih (k + 1) (by omega) (by omega)]
theorem s_fap (hw : Wf b) (hc : CB F S n b) {i v : Nat} (hi : i < 1000) (hv : v < 1000) : f_X5_firstAlonePlace F S n (nn i) (nn v) = some (nn (lst (fun p => decide (saa b i p = v)) 0 (sz b i - 0))) := by
  unfold f_X5_firstAlonePlace
  have h10 := hw.sz_le i
  exact s_fap_L hw hc hi hv 1000 0 (by omega) (by omega)
theorem s_mfa_L (hw : Wf b) (hc : CB F S n b) {i p : Nat} (hi : i < 1000) (hp : p < 1000) (kk : Int32 → Int32 → Option Int32) : ∀ (fuel x a : Nat), a ≤ 1000 → x ≤ i → i < fuel + x → f_X5_mostFurtherAhead_L12 (nn i) (nn p) F S n fuel (nn a) (nn x) kk = kk (nn (max a (mx (fun x => mil b i p x (sz b x)) x (i - x)))) (nn i) := by
  intro fuel
  induction fuel with
  | zero => intro k a h0 h1 h2; omega
  | succ fuel ih =>
    intro x a h0 h1 h2
    have h11 := hw.sz_le x
    rw [f_X5_mostFurtherAhead_L12]
    simp (disch := omega) only [nn_add, nn_mul, nn_sub, nn_le, nn_lt, nn_eq, nn_div, ldi_nn, ldc_nn, sti_nn, Option.bind_some, if_true, if_false, not_true_eq_false, not_false_eq_true, Nat.add_zero, nl0, nl1, nl2, nl3, nl4, nl5, nl6, nl7, nl8, nl9, nl10, nl11, nl12, nl13, nl14, nl15, nl16, nl17, nl18, nl19, nl20, nl21, nl22, nl23, nl24, nl25, nl26, nl27, nl28, nl29, nl30, nl31, nl32, nl33, nl34, nl35, nl36, nl37, nl38, nl39, nl40, nl41, nl42, nl43, nl44, nl45, nl46, nl47, nl48, nl49, nl50, nl51, nl52, nl53, nl54, nl55, nl56, nl57, nl58, nl59, nl60, nl61, nl62, nl63, nl64, nl65, nl66, nl67, nl68, nl69, nl70, nl71, nl72, nl73, nl74, nl75, nl76, nl77, nl78, nl79, nl80, nl81, nl82, nl83, nl84, nl85, nl86, nl87, nl88, nl89, nl90, nl91, nl92, nl93, nl94, nl95, nl96, nl97, nl98, nl99, nl100, nl101, nl102, nl103, nl104, nl105, nl106, nl107, nl108, nl109, nl110, nl111, nl112, nl113, nl114, nl115, nl116, nl117, nl118, nl119, nl120, nl121, nl122, nl123, nl124, nl125, nl126, nl127, nl979, nl244, nl1000]
    by_cases hk : i ≤ x
    · rw [if_pos hk, mx_end _ hk, show x = i by omega, Nat.max_zero]
    · have hm := mil_le hw i p x (sz b x)
      rw [if_neg hk, s_size hw hc (by omega), mx_go _ (by omega)]
      simp (disch := omega) only [nn_add, nn_mul, nn_sub, nn_le, nn_lt, nn_eq, nn_div, ldi_nn, ldc_nn, sti_nn, Option.bind_some, if_true, if_false, not_true_eq_false, not_false_eq_true, Nat.add_zero, nl0, nl1, nl2, nl3, nl4, nl5, nl6, nl7, nl8, nl9, nl10, nl11, nl12, nl13, nl14, nl15, nl16, nl17, nl18, nl19, nl20, nl21, nl22, nl23, nl24, nl25, nl26, nl27, nl28, nl29, nl30, nl31, nl32, nl33, nl34, nl35, nl36, nl37, nl38, nl39, nl40, nl41, nl42, nl43, nl44, nl45, nl46, nl47, nl48, nl49, nl50, nl51, nl52, nl53, nl54, nl55, nl56, nl57, nl58, nl59, nl60, nl61, nl62, nl63, nl64, nl65, nl66, nl67, nl68, nl69, nl70, nl71, nl72, nl73, nl74, nl75, nl76, nl77, nl78, nl79, nl80, nl81, nl82, nl83, nl84, nl85, nl86, nl87, nl88, nl89, nl90, nl91, nl92, nl93, nl94, nl95, nl96, nl97, nl98, nl99, nl100, nl101, nl102, nl103, nl104, nl105, nl106, nl107, nl108, nl109, nl110, nl111, nl112, nl113, nl114, nl115, nl116, nl117, nl118, nl119, nl120, nl121, nl122, nl123, nl124, nl125, nl126, nl127, nl979, nl244, nl1000]
      rw [s_mil hw hc hi hp (by omega) (by omega)]
      simp (disch := omega) only [nn_add, nn_mul, nn_sub, nn_le, nn_lt, nn_eq, nn_div, ldi_nn, ldc_nn, sti_nn, Option.bind_some, if_true, if_false, not_true_eq_false, not_false_eq_true, Nat.add_zero, nl0, nl1, nl2, nl3, nl4, nl5, nl6, nl7, nl8, nl9, nl10, nl11, nl12, nl13, nl14, nl15, nl16, nl17, nl18, nl19, nl20, nl21, nl22, nl23, nl24, nl25, nl26, nl27, nl28, nl29, nl30, nl31, nl32, nl33, nl34, nl35, nl36, nl37, nl38, nl39, nl40, nl41, nl42, nl43, nl44, nl45, nl46, nl47, nl48, nl49, nl50, nl51, nl52, nl53, nl54, nl55, nl56, nl57, nl58, nl59, nl60, nl61, nl62, nl63, nl64, nl65, nl66, nl67, nl68, nl69, nl70, nl71, nl72, nl73, nl74, nl75, nl76, nl77, nl78, nl79, nl80, nl81, nl82, nl83, nl84, nl85, nl86, nl87, nl88, nl89, nl90, nl91, nl92, nl93, nl94, nl95, nl96, nl97, nl98, nl99, nl100, nl101, nl102, nl103, nl104, nl105, nl106, nl107, nl108, nl109, nl110, nl111, nl112, nl113, nl114, nl115, nl116, nl117, nl118, nl119, nl120, nl121, nl122, nl123, nl124, nl125, nl126, nl127, nl979, nl244, nl1000]
      rw [ite_max, ih (x + 1) _ (by omega) (by omega) (by omega), Nat.max_assoc]
theorem s_mfa (hw : Wf b) (hc : CB F S n b) {i p : Nat} (hi : i < 100) (hp : p < 100) : f_X5_mostFurtherAhead F S n (nn i) (nn p) = some (nn (mfa b i p)) := by
  unfold f_X5_mostFurtherAhead
  have hm := mil_le hw i p i p
  rw [s_mil hw hc (by omega) (by omega) (by omega) (by omega)]
  simp (disch := omega) only [nn_add, nn_mul, nn_sub, nn_le, nn_lt, nn_eq, nn_div, ldi_nn, ldc_nn, sti_nn, Option.bind_some, if_true, if_false, not_true_eq_false, not_false_eq_true, Nat.add_zero, nl0, nl1, nl2, nl3, nl4, nl5, nl6, nl7, nl8, nl9, nl10, nl11, nl12, nl13, nl14, nl15, nl16, nl17, nl18, nl19, nl20, nl21, nl22, nl23, nl24, nl25, nl26, nl27, nl28, nl29, nl30, nl31, nl32, nl33, nl34, nl35, nl36, nl37, nl38, nl39, nl40, nl41, nl42, nl43, nl44, nl45, nl46, nl47, nl48, nl49, nl50, nl51, nl52, nl53, nl54, nl55, nl56, nl57, nl58, nl59, nl60, nl61, nl62, nl63, nl64, nl65, nl66, nl67, nl68, nl69, nl70, nl71, nl72, nl73, nl74, nl75, nl76, nl77, nl78, nl79, nl80, nl81, nl82, nl83, nl84, nl85, nl86, nl87, nl88, nl89, nl90, nl91, nl92, nl93, nl94, nl95, nl96, nl97, nl98, nl99, nl100, nl101, nl102, nl103, nl104, nl105, nl106, nl107, nl108, nl109, nl110, nl111, nl112, nl113, nl114, nl115, nl116, nl117, nl118, nl119, nl120, nl121, nl122, nl123, nl124, nl125, nl126, nl127, nl979, nl244, nl1000]
  exact s_mfa_L hw hc (by omega) (by omega) (fun x _ => some x) 1000 0 _ (by omega) (by omega) (by omega)
theorem s_cnew_L2 (hw : Wf b) (hc : CB F S n b) {i : Nat} (hi : i < 100) (kk : Int32 → Int32 → Option Int32) : ∀ (fuel k a : Nat), k ≤ sz b i → sz b i < fuel + k → f_X5_countNew_L14 (nn i) F S n fuel (nn a) (nn k) kk = kk (nn (a + sm (fun p => sz b i - p - mfa b i p) k (sz b i - k))) (nn (sz b i)) := by
  intro fuel
  have h10 := hw.sz_le i
  induction fuel with
  | zero => intro k a h1 h2; omega
  | succ fuel ih =>
    intro k a h1 h2
    rw [f_X5_countNew_L14, s_size hw hc (by omega)]
    simp (disch := omega) only [nn_add, nn_mul, nn_sub, nn_le, nn_lt, nn_eq, nn_div, ldi_nn, ldc_nn, sti_nn, Option.bind_some, if_true, if_false, not_true_eq_false, not_false_eq_true, Nat.add_zero, nl0, nl1, nl2, nl3, nl4, nl5, nl6, nl7, nl8, nl9, nl10, nl11, nl12, nl13, nl14, nl15, nl16, nl17, nl18, nl19, nl20, nl21, nl22, nl23, nl24, nl25, nl26, nl27, nl28, nl29, nl30, nl31, nl32, nl33, nl34, nl35, nl36, nl37, nl38, nl39, nl40, nl41, nl42, nl43, nl44, nl45, nl46, nl47, nl48, nl49, nl50, nl51, nl52, nl53, nl54, nl55, nl56, nl57, nl58, nl59, nl60, nl61, nl62, nl63, nl64, nl65, nl66, nl67, nl68, nl69, nl70, nl71, nl72, nl73, nl74, nl75, nl76, nl77, nl78, nl79, nl80, nl81, nl82, nl83, nl84, nl85, nl86, nl87, nl88, nl89, nl90, nl91, nl92, nl93, nl94, nl95, nl96, nl97, nl98, nl99, nl100, nl101, nl102, nl103, nl104, nl105, nl106, nl107, nl108, nl109, nl110, nl111, nl112, nl113, nl114, nl115, nl116, nl117, nl118, nl119, nl120, nl121, nl122, nl123, nl124, nl125, nl126, nl127, nl979, nl244, nl1000]
    by_cases hk : sz b i ≤ k
    · rw [if_pos hk, sm_end _ hk, show k = sz b i by omega]
      rfl
    · have hm := mfa_le (b := b) i k
      rw [if_neg hk, s_mfa hw hc hi (by omega), sm_go _ (by omega)]
      simp (disch := omega) only [nn_add, nn_mul, nn_sub, nn_le, nn_lt, nn_eq, nn_div, ldi_nn, ldc_nn, sti_nn, Option.bind_some, if_true, if_false, not_true_eq_false, not_false_eq_true, Nat.add_zero, nl0, nl1, nl2, nl3, nl4, nl5, nl6, nl7, nl8, nl9, nl10, nl11, nl12, nl13, nl14, nl15, nl16, nl17, nl18, nl19, nl20, nl21, nl22, nl23, nl24, nl25, nl26, nl27, nl28, nl29, nl30, nl31, nl32, nl33, nl34, nl35, nl36, nl37, nl38, nl39, nl40, nl41, nl42, nl43, nl44, nl45, nl46, nl47, nl48, nl49, nl50, nl51, nl52, nl53, nl54, nl55, nl56, nl57, nl58, nl59, nl60, nl61, nl62, nl63, nl64, nl65, nl66, nl67, nl68, nl69, nl70, nl71, nl72, nl73, nl74, nl75, nl76, nl77, nl78, nl79, nl80, nl81, nl82, nl83, nl84, nl85, nl86, nl87, nl88, nl89, nl90, nl91, nl92, nl93, nl94, nl95, nl96, nl97, nl98, nl99, nl100, nl101, nl102, nl103, nl104, nl105, nl106, nl107, nl108, nl109, nl110, nl111, nl112, nl113, nl114, nl115, nl116, nl117, nl118, nl119, nl120, nl121, nl122, nl123, nl124, nl125, nl126, nl127, nl979, nl244, nl1000]
      rw [ih (k + 1) _ (by omega) (by omega), Nat.add_assoc]
theorem s_cnew_L1 (hw : Wf b) (hc : CB F S n b) (kk : Int32 → Int32 → Option Int32) : ∀ (fuel x a : Nat), x ≤ b.length → b.length < fuel + x → f_X5_countNew_L4 F S n fuel (nn a) (nn x) kk = kk (nn (a + sm (fun i => sm (fun p => sz b i - p - mfa b i p) 0 (sz b i - 0)) x (b.length - x))) (nn b.length) := by
  intro fuel
  have h8 := hw.1
  induction fuel with
  | zero => intro k a h1 h2; omega
  | succ fuel ih =>
    intro x a h1 h2
    have h10 := hw.sz_le x
    rw [f_X5_countNew_L4, s_lines hc]
    simp (disch := omega) only [nn_add, nn_mul, nn_sub, nn_le, nn_lt, nn_eq, nn_div, ldi_nn, ldc_nn, sti_nn, Option.bind_some, if_true, if_false, not_true_eq_false, not_false_eq_true, Nat.add_zero, nl0, nl1, nl2, nl3, nl4, nl5, nl6, nl7, nl8, nl9, nl10, nl11, nl12, nl13, nl14, nl15, nl16, nl17, nl18, nl19, nl20, nl21, nl22, nl23, nl24, nl25, nl26, nl27, nl28, nl29, nl30, nl31, nl32, nl33, nl34, nl35, nl36, nl37, nl38, nl39, nl40, nl41, nl42, nl43, nl44, nl45, nl46, nl47, nl48, nl49, nl50, nl51, nl52, nl53, nl54, nl55, nl56, nl57, nl58, nl59, nl60, nl61, nl62, nl63, nl64, nl65, nl66, nl67, nl68, nl69, nl70, nl71, nl72, nl73, nl74, nl75, nl76, nl77, nl78, nl79, nl80, nl81, nl82, nl83, nl84, nl85, nl86, nl87, nl88, nl89, nl90, nl91, nl92, nl93, nl94, nl95, nl96, nl97, nl98, nl99, nl100, nl101, nl102, nl103, nl104, nl105, nl106, nl107, nl108, nl109, nl110, nl111, nl112, nl113, nl114, nl115, nl116, nl117, nl118, nl119, nl120, nl121, nl122, nl123, nl124, nl125, nl126, nl127, nl979, nl244, nl1000]
    by_cases hk : b.length ≤ x
    · rw [if_pos hk, sm_end _ hk, show x = b.length by omega]
      rfl
    · rw [if_neg hk, s_cnew_L2 hw hc (by omega) _ 1000 0 a (by omega) (by omega), ih (x + 1) _ (by omega) (by omega), sm_go (k := x) _ (by omega), Nat.add_assoc]
theorem s_cnew (hw : Wf b) (hc : CB F S n b) : f_X5_countNew F S n = some (nn (cnew b)) := by
  unfold f_X5_countNew
  have h8 := hw.1
  have h := s_cnew_L1 hw hc (fun x _ => some x) 1000 0 0 (by omega) (by omega)
  rw [Nat.zero_add] at h
  exact h
end PIE

