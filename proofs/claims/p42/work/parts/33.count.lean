/-! SUMS, SEARCHES AND ALL-QUESTIONS OVER A RANGE; the book's counts -/
def sm (f : Nat → Nat) : Nat → Nat → Nat
  | _, 0 => 0
  | k, m + 1 => f k + sm f (k + 1) m
def lst (P : Nat → Bool) : Nat → Nat → Nat
  | k, 0 => k
  | k, m + 1 => if P k = true then k else lst P (k + 1) m
def al (P : Nat → Bool) : Nat → Nat → Bool
  | _, 0 => true
  | k, m + 1 => if P k = true then al P (k + 1) m else false
def one (P : Bool) : Nat := if P = true then 1 else 0
theorem one_t {P : Bool} (h : P = true) : one P = 1 := if_pos h
theorem one_f {P : Bool} (h : ¬ P = true) : one P = 0 := if_neg h
theorem sm_end (f : Nat → Nat) {k m : Nat} (h : m ≤ k) : sm f k (m - k) = 0 := by rw [show m - k = 0 by omega]; rfl
theorem sm_go (f : Nat → Nat) {k m : Nat} (h : k < m) : sm f k (m - k) = f k + sm f (k + 1) (m - (k + 1)) := by rw [show m - k = (m - (k + 1)) + 1 by omega]; rfl
theorem lst_end (P : Nat → Bool) {k m : Nat} (h : m ≤ k) : lst P k (m - k) = k := by rw [show m - k = 0 by omega]; rfl
theorem lst_go (P : Nat → Bool) {k m : Nat} (h : k < m) : lst P k (m - k) = if P k = true then k else lst P (k + 1) (m - (k + 1)) := by rw [show m - k = (m - (k + 1)) + 1 by omega]; rfl
theorem al_end (P : Nat → Bool) {k m : Nat} (h : m ≤ k) : al P k (m - k) = true := by rw [show m - k = 0 by omega]; rfl
theorem al_go (P : Nat → Bool) {k m : Nat} (h : k < m) : al P k (m - k) = if P k = true then al P (k + 1) (m - (k + 1)) else false := by rw [show m - k = (m - (k + 1)) + 1 by omega]; rfl
theorem lst_le (P : Nat → Bool) : ∀ (m k : Nat), k ≤ lst P k m ∧ lst P k m ≤ k + m
  | 0, k => ⟨Nat.le_refl _, Nat.le_refl _⟩
  | m + 1, k => by
    rw [lst]
    by_cases h : P k = true
    · rw [if_pos h]; omega
    · rw [if_neg h]; have := lst_le P m (k + 1); omega
def rk (b : Bk) (i p : Nat) : Nat := sm (fun x => sm (fun y => one (bef b x y i p)) 0 (sz b x - 0)) 0 (b.length - 0)
def sme (b : Bk) (i j : Nat) : Bool := decide (sz b i = sz b j) && decide (cpl (sfx b i 0) (sfx b j 0) = sz b i)
def like (b : Bk) (i : Nat) : Nat := sm (fun j => one (sme b i j)) 0 (b.length - 0)
def kin (b : Bk) : Nat := sm (fun i => one (decide (lst (fun j => sme b j i) 0 (i - 0) = i))) 0 (b.length - 0)
def rvs (b : Bk) (i j : Nat) : Bool := decide (sz b i = sz b j) && al (fun k => decide (lt b i k = lt b j (sz b i - 1 - k))) 0 (sz b i - 0)
def pal (b : Bk) : Nat := sm (fun i => one (rvs b i i)) 0 (b.length - 0)
def per (b : Bk) (i : Nat) : Nat := lst (fun k => decide (sz b i - k ≤ cpl (sfx b i k) (sfx b i 0))) 1 (sz b i - 1)
section COUNT
variable {F S : Nat → Int32} {n : Int32} {b : Bk}
theorem s_rank_L2 (hw : Wf b) (hc : CB F S n b) {i p x : Nat} (hi : i < 1000) (hp : p < 1000) (hx : x < 1000) (kk : Int32 → Int32 → Option Int32) : ∀ (fuel k a : Nat), k ≤ sz b x → sz b x < fuel + k → f_X0_countEndingsBefore_L17 (nn x) (nn i) (nn p) F S n fuel (nn a) (nn k) kk = kk (nn (a + sm (fun y => one (bef b x y i p)) k (sz b x - k))) (nn (sz b x)) := by
  intro fuel
  have h10 := hw.sz_le x
  induction fuel with
  | zero => intro k a h1 h2; omega
  | succ fuel ih =>
    intro k a h1 h2
    rw [f_X0_countEndingsBefore_L17, s_size hw hc (by omega)]
    simp (disch := omega) only [nn_add, nn_mul, nn_sub, nn_le, nn_lt, nn_eq, nn_div, ldi_nn, ldc_nn, sti_nn, Option.bind_some, if_true, if_false, not_true_eq_false, not_false_eq_true, Nat.add_zero, nl0, nl1, nl2, nl3, nl4, nl5, nl6, nl7, nl8, nl9, nl10, nl11, nl12, nl13, nl14, nl15, nl16, nl17, nl18, nl19, nl20, nl21, nl22, nl23, nl24, nl25, nl26, nl27, nl28, nl29, nl30, nl31, nl32, nl33, nl34, nl35, nl36, nl37, nl38, nl39, nl40, nl41, nl42, nl43, nl44, nl45, nl46, nl47, nl48, nl49, nl50, nl51, nl52, nl53, nl54, nl55, nl56, nl57, nl58, nl59, nl60, nl61, nl62, nl63, nl64, nl65, nl66, nl67, nl68, nl69, nl70, nl71, nl72, nl73, nl74, nl75, nl76, nl77, nl78, nl79, nl80, nl81, nl82, nl83, nl84, nl85, nl86, nl87, nl88, nl89, nl90, nl91, nl92, nl93, nl94, nl95, nl96, nl97, nl98, nl99, nl100, nl101, nl102, nl103, nl104, nl105, nl106, nl107, nl108, nl109, nl110, nl111, nl112, nl113, nl114, nl115, nl116, nl117, nl118, nl119, nl120, nl121, nl122, nl123, nl124, nl125, nl126, nl127, nl979, nl244, nl1000]
    by_cases hk : sz b x ≤ k
    · rw [if_pos hk, sm_end _ hk, show k = sz b x by omega]
      rfl
    · rw [if_neg hk, s_comes hw hc (by omega) (by omega) hi hp, sm_go _ (by omega)]
      have e1 := ih (k + 1) (a + 1) (by omega) (by omega)
      have e2 := ih (k + 1) a (by omega) (by omega)
      by_cases h : bef b x k i p = true
      · rw [if_pos h, one_t h]
        simp (disch := omega) only [nn_add, nn_mul, nn_sub, nn_le, nn_lt, nn_eq, nn_div, ldi_nn, ldc_nn, sti_nn, Option.bind_some, if_true, if_false, not_true_eq_false, not_false_eq_true, Nat.add_zero, nl0, nl1, nl2, nl3, nl4, nl5, nl6, nl7, nl8, nl9, nl10, nl11, nl12, nl13, nl14, nl15, nl16, nl17, nl18, nl19, nl20, nl21, nl22, nl23, nl24, nl25, nl26, nl27, nl28, nl29, nl30, nl31, nl32, nl33, nl34, nl35, nl36, nl37, nl38, nl39, nl40, nl41, nl42, nl43, nl44, nl45, nl46, nl47, nl48, nl49, nl50, nl51, nl52, nl53, nl54, nl55, nl56, nl57, nl58, nl59, nl60, nl61, nl62, nl63, nl64, nl65, nl66, nl67, nl68, nl69, nl70, nl71, nl72, nl73, nl74, nl75, nl76, nl77, nl78, nl79, nl80, nl81, nl82, nl83, nl84, nl85, nl86, nl87, nl88, nl89, nl90, nl91, nl92, nl93, nl94, nl95, nl96, nl97, nl98, nl99, nl100, nl101, nl102, nl103, nl104, nl105, nl106, nl107, nl108, nl109, nl110, nl111, nl112, nl113, nl114, nl115, nl116, nl117, nl118, nl119, nl120, nl121, nl122, nl123, nl124, nl125, nl126, nl127, nl979, nl244, nl1000]
        rw [if_neg (by omega), e1, Nat.add_assoc]
      · rw [if_neg h, one_f h]
        simp (disch := omega) only [nn_add, nn_mul, nn_sub, nn_le, nn_lt, nn_eq, nn_div, ldi_nn, ldc_nn, sti_nn, Option.bind_some, if_true, if_false, not_true_eq_false, not_false_eq_true, Nat.add_zero, nl0, nl1, nl2, nl3, nl4, nl5, nl6, nl7, nl8, nl9, nl10, nl11, nl12, nl13, nl14, nl15, nl16, nl17, nl18, nl19, nl20, nl21, nl22, nl23, nl24, nl25, nl26, nl27, nl28, nl29, nl30, nl31, nl32, nl33, nl34, nl35, nl36, nl37, nl38, nl39, nl40, nl41, nl42, nl43, nl44, nl45, nl46, nl47, nl48, nl49, nl50, nl51, nl52, nl53, nl54, nl55, nl56, nl57, nl58, nl59, nl60, nl61, nl62, nl63, nl64, nl65, nl66, nl67, nl68, nl69, nl70, nl71, nl72, nl73, nl74, nl75, nl76, nl77, nl78, nl79, nl80, nl81, nl82, nl83, nl84, nl85, nl86, nl87, nl88, nl89, nl90, nl91, nl92, nl93, nl94, nl95, nl96, nl97, nl98, nl99, nl100, nl101, nl102, nl103, nl104, nl105, nl106, nl107, nl108, nl109, nl110, nl111, nl112, nl113, nl114, nl115, nl116, nl117, nl118, nl119, nl120, nl121, nl122, nl123, nl124, nl125, nl126, nl127, nl979, nl244, nl1000]
        rw [e2, Nat.zero_add]
theorem s_rank_L1 (hw : Wf b) (hc : CB F S n b) {i p : Nat} (hi : i < 1000) (hp : p < 1000) (kk : Int32 → Int32 → Option Int32) : ∀ (fuel x a : Nat), x ≤ b.length → b.length < fuel + x → f_X0_countEndingsBefore_L5 (nn i) (nn p) F S n fuel (nn a) (nn x) kk = kk (nn (a + sm (fun x => sm (fun y => one (bef b x y i p)) 0 (sz b x - 0)) x (b.length - x))) (nn b.length) := by
  intro fuel
  have h8 := hw.1
  obtain rfl : n = nn b.length := hc.1
  induction fuel with
  | zero => intro k a h1 h2; omega
  | succ fuel ih =>
    intro x a h1 h2
    have h10 := hw.sz_le x
    rw [f_X0_countEndingsBefore_L5]
    simp (disch := omega) only [nn_add, nn_mul, nn_sub, nn_le, nn_lt, nn_eq, nn_div, ldi_nn, ldc_nn, sti_nn, Option.bind_some, if_true, if_false, not_true_eq_false, not_false_eq_true, Nat.add_zero, nl0, nl1, nl2, nl3, nl4, nl5, nl6, nl7, nl8, nl9, nl10, nl11, nl12, nl13, nl14, nl15, nl16, nl17, nl18, nl19, nl20, nl21, nl22, nl23, nl24, nl25, nl26, nl27, nl28, nl29, nl30, nl31, nl32, nl33, nl34, nl35, nl36, nl37, nl38, nl39, nl40, nl41, nl42, nl43, nl44, nl45, nl46, nl47, nl48, nl49, nl50, nl51, nl52, nl53, nl54, nl55, nl56, nl57, nl58, nl59, nl60, nl61, nl62, nl63, nl64, nl65, nl66, nl67, nl68, nl69, nl70, nl71, nl72, nl73, nl74, nl75, nl76, nl77, nl78, nl79, nl80, nl81, nl82, nl83, nl84, nl85, nl86, nl87, nl88, nl89, nl90, nl91, nl92, nl93, nl94, nl95, nl96, nl97, nl98, nl99, nl100, nl101, nl102, nl103, nl104, nl105, nl106, nl107, nl108, nl109, nl110, nl111, nl112, nl113, nl114, nl115, nl116, nl117, nl118, nl119, nl120, nl121, nl122, nl123, nl124, nl125, nl126, nl127, nl979, nl244, nl1000]
    by_cases hk : b.length ≤ x
    · rw [if_pos hk, sm_end _ hk, show x = b.length by omega]
      rfl
    · rw [if_neg hk]
      have e1 := s_rank_L2 hw hc hi hp (x := x) (by omega) (fun x3 x5 => f_X0_countEndingsBefore_L5 (nn i) (nn p) F S (nn b.length) fuel x3 (nn (x + 1)) kk) 1000 0 a (by omega) (by omega)
      rw [e1, ih (x + 1) _ (by omega) (by omega), sm_go (k := x) _ (by omega), Nat.add_assoc]
theorem s_rankAgain (hw : Wf b) (hc : CB F S n b) {i p : Nat} (hi : i < 1000) (hp : p < 1000) : f_X0_countEndingsBefore F S n (nn i) (nn p) = some (nn (rk b i p)) := by
  unfold f_X0_countEndingsBefore
  have h8 := hw.1
  have h := s_rank_L1 hw hc hi hp (fun x3 _ => some x3) 1000 0 0 (by omega) (by omega)
  rw [Nat.zero_add] at h
  exact h
theorem s_isSame (hw : Wf b) (hc : CB F S n b) {i j : Nat} (hi : i < 1000) (hj : j < 1000) : f_X0_isSame F S n (nn i) (nn j) = some (if sme b i j = true then nn 1 else nn 0) := by
  have h10 := hw.sz_le i
  have h11 := hw.sz_le j
  unfold f_X0_isSame sme
  rw [s_size hw hc (by omega)]
  simp (disch := omega) only [nn_add, nn_mul, nn_sub, nn_le, nn_lt, nn_eq, nn_div, ldi_nn, ldc_nn, sti_nn, Option.bind_some, if_true, if_false, not_true_eq_false, not_false_eq_true, Nat.add_zero, nl0, nl1, nl2, nl3, nl4, nl5, nl6, nl7, nl8, nl9, nl10, nl11, nl12, nl13, nl14, nl15, nl16, nl17, nl18, nl19, nl20, nl21, nl22, nl23, nl24, nl25, nl26, nl27, nl28, nl29, nl30, nl31, nl32, nl33, nl34, nl35, nl36, nl37, nl38, nl39, nl40, nl41, nl42, nl43, nl44, nl45, nl46, nl47, nl48, nl49, nl50, nl51, nl52, nl53, nl54, nl55, nl56, nl57, nl58, nl59, nl60, nl61, nl62, nl63, nl64, nl65, nl66, nl67, nl68, nl69, nl70, nl71, nl72, nl73, nl74, nl75, nl76, nl77, nl78, nl79, nl80, nl81, nl82, nl83, nl84, nl85, nl86, nl87, nl88, nl89, nl90, nl91, nl92, nl93, nl94, nl95, nl96, nl97, nl98, nl99, nl100, nl101, nl102, nl103, nl104, nl105, nl106, nl107, nl108, nl109, nl110, nl111, nl112, nl113, nl114, nl115, nl116, nl117, nl118, nl119, nl120, nl121, nl122, nl123, nl124, nl125, nl126, nl127, nl979, nl244, nl1000]
  rw [s_size hw hc (by omega)]
  simp (disch := omega) only [nn_add, nn_mul, nn_sub, nn_le, nn_lt, nn_eq, nn_div, ldi_nn, ldc_nn, sti_nn, Option.bind_some, if_true, if_false, not_true_eq_false, not_false_eq_true, Nat.add_zero, nl0, nl1, nl2, nl3, nl4, nl5, nl6, nl7, nl8, nl9, nl10, nl11, nl12, nl13, nl14, nl15, nl16, nl17, nl18, nl19, nl20, nl21, nl22, nl23, nl24, nl25, nl26, nl27, nl28, nl29, nl30, nl31, nl32, nl33, nl34, nl35, nl36, nl37, nl38, nl39, nl40, nl41, nl42, nl43, nl44, nl45, nl46, nl47, nl48, nl49, nl50, nl51, nl52, nl53, nl54, nl55, nl56, nl57, nl58, nl59, nl60, nl61, nl62, nl63, nl64, nl65, nl66, nl67, nl68, nl69, nl70, nl71, nl72, nl73, nl74, nl75, nl76, nl77, nl78, nl79, nl80, nl81, nl82, nl83, nl84, nl85, nl86, nl87, nl88, nl89, nl90, nl91, nl92, nl93, nl94, nl95, nl96, nl97, nl98, nl99, nl100, nl101, nl102, nl103, nl104, nl105, nl106, nl107, nl108, nl109, nl110, nl111, nl112, nl113, nl114, nl115, nl116, nl117, nl118, nl119, nl120, nl121, nl122, nl123, nl124, nl125, nl126, nl127, nl979, nl244, nl1000]
  by_cases e : sz b i = sz b j
  · rw [if_neg (fun q => q e), s_same hw hc hi (by omega) hj (by omega)]
    have := cpl_le (sfx b i 0) (sfx b j 0)
    rw [sfx_len] at this
    simp (disch := omega) only [nn_add, nn_mul, nn_sub, nn_le, nn_lt, nn_eq, nn_div, ldi_nn, ldc_nn, sti_nn, Option.bind_some, if_true, if_false, not_true_eq_false, not_false_eq_true, Nat.add_zero, nl0, nl1, nl2, nl3, nl4, nl5, nl6, nl7, nl8, nl9, nl10, nl11, nl12, nl13, nl14, nl15, nl16, nl17, nl18, nl19, nl20, nl21, nl22, nl23, nl24, nl25, nl26, nl27, nl28, nl29, nl30, nl31, nl32, nl33, nl34, nl35, nl36, nl37, nl38, nl39, nl40, nl41, nl42, nl43, nl44, nl45, nl46, nl47, nl48, nl49, nl50, nl51, nl52, nl53, nl54, nl55, nl56, nl57, nl58, nl59, nl60, nl61, nl62, nl63, nl64, nl65, nl66, nl67, nl68, nl69, nl70, nl71, nl72, nl73, nl74, nl75, nl76, nl77, nl78, nl79, nl80, nl81, nl82, nl83, nl84, nl85, nl86, nl87, nl88, nl89, nl90, nl91, nl92, nl93, nl94, nl95, nl96, nl97, nl98, nl99, nl100, nl101, nl102, nl103, nl104, nl105, nl106, nl107, nl108, nl109, nl110, nl111, nl112, nl113, nl114, nl115, nl116, nl117, nl118, nl119, nl120, nl121, nl122, nl123, nl124, nl125, nl126, nl127, nl979, nl244, nl1000]
    by_cases f : cpl (sfx b i 0) (sfx b j 0) = sz b i
    · rw [if_neg (fun q => q f), if_pos]
      simp [e, f]
    · rw [if_pos f, if_neg]
      simp [f]
  · rw [if_pos e, if_neg]
    simp [e]
theorem s_like_L (hw : Wf b) (hc : CB F S n b) {i : Nat} (hi : i < 1000) (kk : Int32 → Int32 → Option Int32) : ∀ (fuel x a : Nat), x ≤ b.length → b.length < fuel + x → f_X0_countSameLines_L4 (nn i) F S n fuel (nn a) (nn x) kk = kk (nn (a + sm (fun j => one (sme b i j)) x (b.length - x))) (nn b.length) := by
  intro fuel
  have h8 := hw.1
  obtain rfl : n = nn b.length := hc.1
  induction fuel with
  | zero => intro k a h1 h2; omega
  | succ fuel ih =>
    intro x a h1 h2
    rw [f_X0_countSameLines_L4, s_isSame hw hc hi (by omega)]
    simp (disch := omega) only [nn_add, nn_mul, nn_sub, nn_le, nn_lt, nn_eq, nn_div, ldi_nn, ldc_nn, sti_nn, Option.bind_some, if_true, if_false, not_true_eq_false, not_false_eq_true, Nat.add_zero, nl0, nl1, nl2, nl3, nl4, nl5, nl6, nl7, nl8, nl9, nl10, nl11, nl12, nl13, nl14, nl15, nl16, nl17, nl18, nl19, nl20, nl21, nl22, nl23, nl24, nl25, nl26, nl27, nl28, nl29, nl30, nl31, nl32, nl33, nl34, nl35, nl36, nl37, nl38, nl39, nl40, nl41, nl42, nl43, nl44, nl45, nl46, nl47, nl48, nl49, nl50, nl51, nl52, nl53, nl54, nl55, nl56, nl57, nl58, nl59, nl60, nl61, nl62, nl63, nl64, nl65, nl66, nl67, nl68, nl69, nl70, nl71, nl72, nl73, nl74, nl75, nl76, nl77, nl78, nl79, nl80, nl81, nl82, nl83, nl84, nl85, nl86, nl87, nl88, nl89, nl90, nl91, nl92, nl93, nl94, nl95, nl96, nl97, nl98, nl99, nl100, nl101, nl102, nl103, nl104, nl105, nl106, nl107, nl108, nl109, nl110, nl111, nl112, nl113, nl114, nl115, nl116, nl117, nl118, nl119, nl120, nl121, nl122, nl123, nl124, nl125, nl126, nl127, nl979, nl244, nl1000]
    by_cases hk : b.length ≤ x
    · rw [if_pos hk, sm_end _ hk, show x = b.length by omega]
      rfl
    · rw [if_neg hk, sm_go _ (by omega)]
      by_cases h : sme b i x = true
      · rw [if_pos h, one_t h]
        simp (disch := omega) only [nn_add, nn_mul, nn_sub, nn_le, nn_lt, nn_eq, nn_div, ldi_nn, ldc_nn, sti_nn, Option.bind_some, if_true, if_false, not_true_eq_false, not_false_eq_true, Nat.add_zero, nl0, nl1, nl2, nl3, nl4, nl5, nl6, nl7, nl8, nl9, nl10, nl11, nl12, nl13, nl14, nl15, nl16, nl17, nl18, nl19, nl20, nl21, nl22, nl23, nl24, nl25, nl26, nl27, nl28, nl29, nl30, nl31, nl32, nl33, nl34, nl35, nl36, nl37, nl38, nl39, nl40, nl41, nl42, nl43, nl44, nl45, nl46, nl47, nl48, nl49, nl50, nl51, nl52, nl53, nl54, nl55, nl56, nl57, nl58, nl59, nl60, nl61, nl62, nl63, nl64, nl65, nl66, nl67, nl68, nl69, nl70, nl71, nl72, nl73, nl74, nl75, nl76, nl77, nl78, nl79, nl80, nl81, nl82, nl83, nl84, nl85, nl86, nl87, nl88, nl89, nl90, nl91, nl92, nl93, nl94, nl95, nl96, nl97, nl98, nl99, nl100, nl101, nl102, nl103, nl104, nl105, nl106, nl107, nl108, nl109, nl110, nl111, nl112, nl113, nl114, nl115, nl116, nl117, nl118, nl119, nl120, nl121, nl122, nl123, nl124, nl125, nl126, nl127, nl979, nl244, nl1000]
        rw [if_neg (by omega), ih (x + 1) (a + 1) (by omega) (by omega), Nat.add_assoc]
      · rw [if_neg h, one_f h]
        simp (disch := omega) only [nn_add, nn_mul, nn_sub, nn_le, nn_lt, nn_eq, nn_div, ldi_nn, ldc_nn, sti_nn, Option.bind_some, if_true, if_false, not_true_eq_false, not_false_eq_true, Nat.add_zero, nl0, nl1, nl2, nl3, nl4, nl5, nl6, nl7, nl8, nl9, nl10, nl11, nl12, nl13, nl14, nl15, nl16, nl17, nl18, nl19, nl20, nl21, nl22, nl23, nl24, nl25, nl26, nl27, nl28, nl29, nl30, nl31, nl32, nl33, nl34, nl35, nl36, nl37, nl38, nl39, nl40, nl41, nl42, nl43, nl44, nl45, nl46, nl47, nl48, nl49, nl50, nl51, nl52, nl53, nl54, nl55, nl56, nl57, nl58, nl59, nl60, nl61, nl62, nl63, nl64, nl65, nl66, nl67, nl68, nl69, nl70, nl71, nl72, nl73, nl74, nl75, nl76, nl77, nl78, nl79, nl80, nl81, nl82, nl83, nl84, nl85, nl86, nl87, nl88, nl89, nl90, nl91, nl92, nl93, nl94, nl95, nl96, nl97, nl98, nl99, nl100, nl101, nl102, nl103, nl104, nl105, nl106, nl107, nl108, nl109, nl110, nl111, nl112, nl113, nl114, nl115, nl116, nl117, nl118, nl119, nl120, nl121, nl122, nl123, nl124, nl125, nl126, nl127, nl979, nl244, nl1000]
        rw [ih (x + 1) a (by omega) (by omega), Nat.zero_add]
theorem s_like (hw : Wf b) (hc : CB F S n b) {i : Nat} (hi : i < 1000) : f_X0_countSameLines F S n (nn i) = some (nn (like b i)) := by
  unfold f_X0_countSameLines
  have h8 := hw.1
  have h := s_like_L hw hc hi (fun x3 _ => some x3) 1000 0 0 (by omega) (by omega)
  rw [Nat.zero_add] at h
  exact h
theorem s_kin_L2 (hw : Wf b) (hc : CB F S n b) {i : Nat} (hi : i < 1000) (kk : Int32 → Option Int32) : ∀ (fuel k : Nat), k ≤ i → i < fuel + k → f_X0_countKinds_L14 (nn i) F S n fuel (nn k) kk = kk (nn (lst (fun j => sme b j i) k (i - k))) := by
  intro fuel
  induction fuel with
  | zero => intro k h1 h2; omega
  | succ fuel ih =>
    intro k h1 h2
    rw [f_X0_countKinds_L14, s_isSame hw hc (by omega) hi]
    simp (disch := omega) only [nn_add, nn_mul, nn_sub, nn_le, nn_lt, nn_eq, nn_div, ldi_nn, ldc_nn, sti_nn, Option.bind_some, if_true, if_false, not_true_eq_false, not_false_eq_true, Nat.add_zero, nl0, nl1, nl2, nl3, nl4, nl5, nl6, nl7, nl8, nl9, nl10, nl11, nl12, nl13, nl14, nl15, nl16, nl17, nl18, nl19, nl20, nl21, nl22, nl23, nl24, nl25, nl26, nl27, nl28, nl29, nl30, nl31, nl32, nl33, nl34, nl35, nl36, nl37, nl38, nl39, nl40, nl41, nl42, nl43, nl44, nl45, nl46, nl47, nl48, nl49, nl50, nl51, nl52, nl53, nl54, nl55, nl56, nl57, nl58, nl59, nl60, nl61, nl62, nl63, nl64, nl65, nl66, nl67, nl68, nl69, nl70, nl71, nl72, nl73, nl74, nl75, nl76, nl77, nl78, nl79, nl80, nl81, nl82, nl83, nl84, nl85, nl86, nl87, nl88, nl89, nl90, nl91, nl92, nl93, nl94, nl95, nl96, nl97, nl98, nl99, nl100, nl101, nl102, nl103, nl104, nl105, nl106, nl107, nl108, nl109, nl110, nl111, nl112, nl113, nl114, nl115, nl116, nl117, nl118, nl119, nl120, nl121, nl122, nl123, nl124, nl125, nl126, nl127, nl979, nl244, nl1000]
    by_cases hk : i ≤ k
    · rw [if_pos hk, lst_end _ hk]
    · rw [if_neg hk, lst_go _ (by omega)]
      by_cases h : sme b k i = true
      · rw [if_pos h, if_pos h]
        simp (disch := omega) only [nn_add, nn_mul, nn_sub, nn_le, nn_lt, nn_eq, nn_div, ldi_nn, ldc_nn, sti_nn, Option.bind_some, if_true, if_false, not_true_eq_false, not_false_eq_true, Nat.add_zero, nl0, nl1, nl2, nl3, nl4, nl5, nl6, nl7, nl8, nl9, nl10, nl11, nl12, nl13, nl14, nl15, nl16, nl17, nl18, nl19, nl20, nl21, nl22, nl23, nl24, nl25, nl26, nl27, nl28, nl29, nl30, nl31, nl32, nl33, nl34, nl35, nl36, nl37, nl38, nl39, nl40, nl41, nl42, nl43, nl44, nl45, nl46, nl47, nl48, nl49, nl50, nl51, nl52, nl53, nl54, nl55, nl56, nl57, nl58, nl59, nl60, nl61, nl62, nl63, nl64, nl65, nl66, nl67, nl68, nl69, nl70, nl71, nl72, nl73, nl74, nl75, nl76, nl77, nl78, nl79, nl80, nl81, nl82, nl83, nl84, nl85, nl86, nl87, nl88, nl89, nl90, nl91, nl92, nl93, nl94, nl95, nl96, nl97, nl98, nl99, nl100, nl101, nl102, nl103, nl104, nl105, nl106, nl107, nl108, nl109, nl110, nl111, nl112, nl113, nl114, nl115, nl116, nl117, nl118, nl119, nl120, nl121, nl122, nl123, nl124, nl125, nl126, nl127, nl979, nl244, nl1000]
        rw [if_pos (by omega)]
      · rw [if_neg h, if_neg h]
        simp (disch := omega) only [nn_add, nn_mul, nn_sub, nn_le, nn_lt, nn_eq, nn_div, ldi_nn, ldc_nn, sti_nn, Option.bind_some, if_true, if_false, not_true_eq_false, not_false_eq_true, Nat.add_zero, nl0, nl1, nl2, nl3, nl4, nl5, nl6, nl7, nl8, nl9, nl10, nl11, nl12, nl13, nl14, nl15, nl16, nl17, nl18, nl19, nl20, nl21, nl22, nl23, nl24, nl25, nl26, nl27, nl28, nl29, nl30, nl31, nl32, nl33, nl34, nl35, nl36, nl37, nl38, nl39, nl40, nl41, nl42, nl43, nl44, nl45, nl46, nl47, nl48, nl49, nl50, nl51, nl52, nl53, nl54, nl55, nl56, nl57, nl58, nl59, nl60, nl61, nl62, nl63, nl64, nl65, nl66, nl67, nl68, nl69, nl70, nl71, nl72, nl73, nl74, nl75, nl76, nl77, nl78, nl79, nl80, nl81, nl82, nl83, nl84, nl85, nl86, nl87, nl88, nl89, nl90, nl91, nl92, nl93, nl94, nl95, nl96, nl97, nl98, nl99, nl100, nl101, nl102, nl103, nl104, nl105, nl106, nl107, nl108, nl109, nl110, nl111, nl112, nl113, nl114, nl115, nl116, nl117, nl118, nl119, nl120, nl121, nl122, nl123, nl124, nl125, nl126, nl127, nl979, nl244, nl1000]
        rw [ih (k + 1) (by omega) (by omega)]
theorem s_kin_L1 (hw : Wf b) (hc : CB F S n b) (kk : Int32 → Int32 → Option Int32) : ∀ (fuel x a : Nat), x ≤ b.length → b.length < fuel + x → f_X0_countKinds_L4 F S n fuel (nn a) (nn x) kk = kk (nn (a + sm (fun i => one (decide (lst (fun j => sme b j i) 0 (i - 0) = i))) x (b.length - x))) (nn b.length) := by
  intro fuel
  have h8 := hw.1
  obtain rfl : n = nn b.length := hc.1
  induction fuel with
  | zero => intro k a h1 h2; omega
  | succ fuel ih =>
    intro x a h1 h2
    rw [f_X0_countKinds_L4]
    simp (disch := omega) only [nn_add, nn_mul, nn_sub, nn_le, nn_lt, nn_eq, nn_div, ldi_nn, ldc_nn, sti_nn, Option.bind_some, if_true, if_false, not_true_eq_false, not_false_eq_true, Nat.add_zero, nl0, nl1, nl2, nl3, nl4, nl5, nl6, nl7, nl8, nl9, nl10, nl11, nl12, nl13, nl14, nl15, nl16, nl17, nl18, nl19, nl20, nl21, nl22, nl23, nl24, nl25, nl26, nl27, nl28, nl29, nl30, nl31, nl32, nl33, nl34, nl35, nl36, nl37, nl38, nl39, nl40, nl41, nl42, nl43, nl44, nl45, nl46, nl47, nl48, nl49, nl50, nl51, nl52, nl53, nl54, nl55, nl56, nl57, nl58, nl59, nl60, nl61, nl62, nl63, nl64, nl65, nl66, nl67, nl68, nl69, nl70, nl71, nl72, nl73, nl74, nl75, nl76, nl77, nl78, nl79, nl80, nl81, nl82, nl83, nl84, nl85, nl86, nl87, nl88, nl89, nl90, nl91, nl92, nl93, nl94, nl95, nl96, nl97, nl98, nl99, nl100, nl101, nl102, nl103, nl104, nl105, nl106, nl107, nl108, nl109, nl110, nl111, nl112, nl113, nl114, nl115, nl116, nl117, nl118, nl119, nl120, nl121, nl122, nl123, nl124, nl125, nl126, nl127, nl979, nl244, nl1000]
    by_cases hk : b.length ≤ x
    · rw [if_pos hk, sm_end _ hk, show x = b.length by omega]
      rfl
    · rw [if_neg hk, s_kin_L2 hw hc (by omega) _ 1000 0 (by omega) (by omega), sm_go (k := x) _ (by omega)]
      have hl := lst_le (fun j => sme b j x) (x - 0) 0
      simp (disch := omega) only [nn_add, nn_mul, nn_sub, nn_le, nn_lt, nn_eq, nn_div, ldi_nn, ldc_nn, sti_nn, Option.bind_some, if_true, if_false, not_true_eq_false, not_false_eq_true, Nat.add_zero, nl0, nl1, nl2, nl3, nl4, nl5, nl6, nl7, nl8, nl9, nl10, nl11, nl12, nl13, nl14, nl15, nl16, nl17, nl18, nl19, nl20, nl21, nl22, nl23, nl24, nl25, nl26, nl27, nl28, nl29, nl30, nl31, nl32, nl33, nl34, nl35, nl36, nl37, nl38, nl39, nl40, nl41, nl42, nl43, nl44, nl45, nl46, nl47, nl48, nl49, nl50, nl51, nl52, nl53, nl54, nl55, nl56, nl57, nl58, nl59, nl60, nl61, nl62, nl63, nl64, nl65, nl66, nl67, nl68, nl69, nl70, nl71, nl72, nl73, nl74, nl75, nl76, nl77, nl78, nl79, nl80, nl81, nl82, nl83, nl84, nl85, nl86, nl87, nl88, nl89, nl90, nl91, nl92, nl93, nl94, nl95, nl96, nl97, nl98, nl99, nl100, nl101, nl102, nl103, nl104, nl105, nl106, nl107, nl108, nl109, nl110, nl111, nl112, nl113, nl114, nl115, nl116, nl117, nl118, nl119, nl120, nl121, nl122, nl123, nl124, nl125, nl126, nl127, nl979, nl244, nl1000]
      by_cases h : lst (fun j => sme b j x) 0 (x - 0) = x
      · rw [if_neg (fun q => q h), ih (x + 1) (a + 1) (by omega) (by omega), one_t (decide_eq_true h), Nat.add_assoc]
      · rw [if_pos h, ih (x + 1) a (by omega) (by omega), one_f (fun q => h (of_decide_eq_true q)), Nat.zero_add]
theorem s_kinds (hw : Wf b) (hc : CB F S n b) : f_X0_countKinds F S n = some (nn (kin b)) := by
  unfold f_X0_countKinds
  have h8 := hw.1
  have h := s_kin_L1 hw hc (fun x3 _ => some x3) 1000 0 0 (by omega) (by omega)
  rw [Nat.zero_add] at h
  exact h
theorem s_rvs_L (hw : Wf b) (hc : CB F S n b) {i j m : Nat} (hi : i < 1000) (hj : j < 1000) (hm : m ≤ 10) : ∀ (fuel k : Nat), k ≤ m → m < fuel + k → f_X0_isReverse_L20 (nn m) (nn i) (nn j) F S n fuel (nn k) (fun _ => some 1) = some (if al (fun k => decide (lt b i k = lt b j (m - 1 - k))) k (m - k) = true then nn 1 else nn 0) := by
  intro fuel
  induction fuel with
  | zero => intro k h1 h2; omega
  | succ fuel ih =>
    intro k h1 h2
    rw [f_X0_isReverse_L20]
    simp (disch := omega) only [nn_add, nn_mul, nn_sub, nn_le, nn_lt, nn_eq, nn_div, ldi_nn, ldc_nn, sti_nn, Option.bind_some, if_true, if_false, not_true_eq_false, not_false_eq_true, Nat.add_zero, nl0, nl1, nl2, nl3, nl4, nl5, nl6, nl7, nl8, nl9, nl10, nl11, nl12, nl13, nl14, nl15, nl16, nl17, nl18, nl19, nl20, nl21, nl22, nl23, nl24, nl25, nl26, nl27, nl28, nl29, nl30, nl31, nl32, nl33, nl34, nl35, nl36, nl37, nl38, nl39, nl40, nl41, nl42, nl43, nl44, nl45, nl46, nl47, nl48, nl49, nl50, nl51, nl52, nl53, nl54, nl55, nl56, nl57, nl58, nl59, nl60, nl61, nl62, nl63, nl64, nl65, nl66, nl67, nl68, nl69, nl70, nl71, nl72, nl73, nl74, nl75, nl76, nl77, nl78, nl79, nl80, nl81, nl82, nl83, nl84, nl85, nl86, nl87, nl88, nl89, nl90, nl91, nl92, nl93, nl94, nl95, nl96, nl97, nl98, nl99, nl100, nl101, nl102, nl103, nl104, nl105, nl106, nl107, nl108, nl109, nl110, nl111, nl112, nl113, nl114, nl115, nl116, nl117, nl118, nl119, nl120, nl121, nl122, nl123, nl124, nl125, nl126, nl127, nl979, nl244, nl1000]
    by_cases hk : m ≤ k
    · rw [if_pos hk, al_end _ hk, if_pos rfl]
    · have l1 := hw.lt_le i k
      have l2 := hw.lt_le j (m - 1 - k)
      rw [if_neg hk, al_go _ (by omega), s_letterAt hw hc (by omega) (by omega)]
      simp (disch := omega) only [nn_add, nn_mul, nn_sub, nn_le, nn_lt, nn_eq, nn_div, ldi_nn, ldc_nn, sti_nn, Option.bind_some, if_true, if_false, not_true_eq_false, not_false_eq_true, Nat.add_zero, nl0, nl1, nl2, nl3, nl4, nl5, nl6, nl7, nl8, nl9, nl10, nl11, nl12, nl13, nl14, nl15, nl16, nl17, nl18, nl19, nl20, nl21, nl22, nl23, nl24, nl25, nl26, nl27, nl28, nl29, nl30, nl31, nl32, nl33, nl34, nl35, nl36, nl37, nl38, nl39, nl40, nl41, nl42, nl43, nl44, nl45, nl46, nl47, nl48, nl49, nl50, nl51, nl52, nl53, nl54, nl55, nl56, nl57, nl58, nl59, nl60, nl61, nl62, nl63, nl64, nl65, nl66, nl67, nl68, nl69, nl70, nl71, nl72, nl73, nl74, nl75, nl76, nl77, nl78, nl79, nl80, nl81, nl82, nl83, nl84, nl85, nl86, nl87, nl88, nl89, nl90, nl91, nl92, nl93, nl94, nl95, nl96, nl97, nl98, nl99, nl100, nl101, nl102, nl103, nl104, nl105, nl106, nl107, nl108, nl109, nl110, nl111, nl112, nl113, nl114, nl115, nl116, nl117, nl118, nl119, nl120, nl121, nl122, nl123, nl124, nl125, nl126, nl127, nl979, nl244, nl1000]
      rw [s_letterAt hw hc (by omega) (by omega)]
      simp (disch := omega) only [nn_add, nn_mul, nn_sub, nn_le, nn_lt, nn_eq, nn_div, ldi_nn, ldc_nn, sti_nn, Option.bind_some, if_true, if_false, not_true_eq_false, not_false_eq_true, Nat.add_zero, nl0, nl1, nl2, nl3, nl4, nl5, nl6, nl7, nl8, nl9, nl10, nl11, nl12, nl13, nl14, nl15, nl16, nl17, nl18, nl19, nl20, nl21, nl22, nl23, nl24, nl25, nl26, nl27, nl28, nl29, nl30, nl31, nl32, nl33, nl34, nl35, nl36, nl37, nl38, nl39, nl40, nl41, nl42, nl43, nl44, nl45, nl46, nl47, nl48, nl49, nl50, nl51, nl52, nl53, nl54, nl55, nl56, nl57, nl58, nl59, nl60, nl61, nl62, nl63, nl64, nl65, nl66, nl67, nl68, nl69, nl70, nl71, nl72, nl73, nl74, nl75, nl76, nl77, nl78, nl79, nl80, nl81, nl82, nl83, nl84, nl85, nl86, nl87, nl88, nl89, nl90, nl91, nl92, nl93, nl94, nl95, nl96, nl97, nl98, nl99, nl100, nl101, nl102, nl103, nl104, nl105, nl106, nl107, nl108, nl109, nl110, nl111, nl112, nl113, nl114, nl115, nl116, nl117, nl118, nl119, nl120, nl121, nl122, nl123, nl124, nl125, nl126, nl127, nl979, nl244, nl1000]
      have e := ih (k + 1) (by omega) (by omega)
      simp (disch := omega) only [nn_add, nn_mul, nn_sub, nn_le, nn_lt, nn_eq, nn_div, ldi_nn, ldc_nn, sti_nn, Option.bind_some, if_true, if_false, not_true_eq_false, not_false_eq_true, Nat.add_zero, nl0, nl1, nl2, nl3, nl4, nl5, nl6, nl7, nl8, nl9, nl10, nl11, nl12, nl13, nl14, nl15, nl16, nl17, nl18, nl19, nl20, nl21, nl22, nl23, nl24, nl25, nl26, nl27, nl28, nl29, nl30, nl31, nl32, nl33, nl34, nl35, nl36, nl37, nl38, nl39, nl40, nl41, nl42, nl43, nl44, nl45, nl46, nl47, nl48, nl49, nl50, nl51, nl52, nl53, nl54, nl55, nl56, nl57, nl58, nl59, nl60, nl61, nl62, nl63, nl64, nl65, nl66, nl67, nl68, nl69, nl70, nl71, nl72, nl73, nl74, nl75, nl76, nl77, nl78, nl79, nl80, nl81, nl82, nl83, nl84, nl85, nl86, nl87, nl88, nl89, nl90, nl91, nl92, nl93, nl94, nl95, nl96, nl97, nl98, nl99, nl100, nl101, nl102, nl103, nl104, nl105, nl106, nl107, nl108, nl109, nl110, nl111, nl112, nl113, nl114, nl115, nl116, nl117, nl118, nl119, nl120, nl121, nl122, nl123, nl124, nl125, nl126, nl127, nl979, nl244, nl1000] at e
      by_cases h : lt b i k = lt b j (m - 1 - k)
      · rw [if_pos h, e, if_pos (decide_eq_true h)]
      · rw [if_neg h, if_neg (fun q => h (of_decide_eq_true q)), if_neg (by decide)]
theorem s_isReverse (hw : Wf b) (hc : CB F S n b) {i j : Nat} (hi : i < 1000) (hj : j < 1000) : f_X0_isReverse F S n (nn i) (nn j) = some (if rvs b i j = true then nn 1 else nn 0) := by
  have h10 := hw.sz_le i
  have h11 := hw.sz_le j
  unfold f_X0_isReverse rvs
  rw [s_size hw hc (by omega)]
  simp (disch := omega) only [nn_add, nn_mul, nn_sub, nn_le, nn_lt, nn_eq, nn_div, ldi_nn, ldc_nn, sti_nn, Option.bind_some, if_true, if_false, not_true_eq_false, not_false_eq_true, Nat.add_zero, nl0, nl1, nl2, nl3, nl4, nl5, nl6, nl7, nl8, nl9, nl10, nl11, nl12, nl13, nl14, nl15, nl16, nl17, nl18, nl19, nl20, nl21, nl22, nl23, nl24, nl25, nl26, nl27, nl28, nl29, nl30, nl31, nl32, nl33, nl34, nl35, nl36, nl37, nl38, nl39, nl40, nl41, nl42, nl43, nl44, nl45, nl46, nl47, nl48, nl49, nl50, nl51, nl52, nl53, nl54, nl55, nl56, nl57, nl58, nl59, nl60, nl61, nl62, nl63, nl64, nl65, nl66, nl67, nl68, nl69, nl70, nl71, nl72, nl73, nl74, nl75, nl76, nl77, nl78, nl79, nl80, nl81, nl82, nl83, nl84, nl85, nl86, nl87, nl88, nl89, nl90, nl91, nl92, nl93, nl94, nl95, nl96, nl97, nl98, nl99, nl100, nl101, nl102, nl103, nl104, nl105, nl106, nl107, nl108, nl109, nl110, nl111, nl112, nl113, nl114, nl115, nl116, nl117, nl118, nl119, nl120, nl121, nl122, nl123, nl124, nl125, nl126, nl127, nl979, nl244, nl1000]
  rw [s_size hw hc (by omega)]
  simp (disch := omega) only [nn_add, nn_mul, nn_sub, nn_le, nn_lt, nn_eq, nn_div, ldi_nn, ldc_nn, sti_nn, Option.bind_some, if_true, if_false, not_true_eq_false, not_false_eq_true, Nat.add_zero, nl0, nl1, nl2, nl3, nl4, nl5, nl6, nl7, nl8, nl9, nl10, nl11, nl12, nl13, nl14, nl15, nl16, nl17, nl18, nl19, nl20, nl21, nl22, nl23, nl24, nl25, nl26, nl27, nl28, nl29, nl30, nl31, nl32, nl33, nl34, nl35, nl36, nl37, nl38, nl39, nl40, nl41, nl42, nl43, nl44, nl45, nl46, nl47, nl48, nl49, nl50, nl51, nl52, nl53, nl54, nl55, nl56, nl57, nl58, nl59, nl60, nl61, nl62, nl63, nl64, nl65, nl66, nl67, nl68, nl69, nl70, nl71, nl72, nl73, nl74, nl75, nl76, nl77, nl78, nl79, nl80, nl81, nl82, nl83, nl84, nl85, nl86, nl87, nl88, nl89, nl90, nl91, nl92, nl93, nl94, nl95, nl96, nl97, nl98, nl99, nl100, nl101, nl102, nl103, nl104, nl105, nl106, nl107, nl108, nl109, nl110, nl111, nl112, nl113, nl114, nl115, nl116, nl117, nl118, nl119, nl120, nl121, nl122, nl123, nl124, nl125, nl126, nl127, nl979, nl244, nl1000]
  by_cases e : sz b i = sz b j
  · have h := s_rvs_L hw hc hi hj h10 1000 0 (by omega) (by omega)
    simp (disch := omega) only [nn_add, nn_mul, nn_sub, nn_le, nn_lt, nn_eq, nn_div, ldi_nn, ldc_nn, sti_nn, Option.bind_some, if_true, if_false, not_true_eq_false, not_false_eq_true, Nat.add_zero, nl0, nl1, nl2, nl3, nl4, nl5, nl6, nl7, nl8, nl9, nl10, nl11, nl12, nl13, nl14, nl15, nl16, nl17, nl18, nl19, nl20, nl21, nl22, nl23, nl24, nl25, nl26, nl27, nl28, nl29, nl30, nl31, nl32, nl33, nl34, nl35, nl36, nl37, nl38, nl39, nl40, nl41, nl42, nl43, nl44, nl45, nl46, nl47, nl48, nl49, nl50, nl51, nl52, nl53, nl54, nl55, nl56, nl57, nl58, nl59, nl60, nl61, nl62, nl63, nl64, nl65, nl66, nl67, nl68, nl69, nl70, nl71, nl72, nl73, nl74, nl75, nl76, nl77, nl78, nl79, nl80, nl81, nl82, nl83, nl84, nl85, nl86, nl87, nl88, nl89, nl90, nl91, nl92, nl93, nl94, nl95, nl96, nl97, nl98, nl99, nl100, nl101, nl102, nl103, nl104, nl105, nl106, nl107, nl108, nl109, nl110, nl111, nl112, nl113, nl114, nl115, nl116, nl117, nl118, nl119, nl120, nl121, nl122, nl123, nl124, nl125, nl126, nl127, nl979, nl244, nl1000] at h
    rw [if_pos e, h, decide_eq_true e]
    rfl
  · rw [if_neg e, if_neg]
    simp [e]
theorem s_pal_L (hw : Wf b) (hc : CB F S n b) (kk : Int32 → Int32 → Option Int32) : ∀ (fuel x a : Nat), x ≤ b.length → b.length < fuel + x → f_X0_countReversible_L4 F S n fuel (nn a) (nn x) kk = kk (nn (a + sm (fun i => one (rvs b i i)) x (b.length - x))) (nn b.length) := by
  intro fuel
  have h8 := hw.1
  obtain rfl : n = nn b.length := hc.1
  induction fuel with
  | zero => intro k a h1 h2; omega
  | succ fuel ih =>
    intro x a h1 h2
    rw [f_X0_countReversible_L4, s_isReverse hw hc (by omega) (by omega)]
    simp (disch := omega) only [nn_add, nn_mul, nn_sub, nn_le, nn_lt, nn_eq, nn_div, ldi_nn, ldc_nn, sti_nn, Option.bind_some, if_true, if_false, not_true_eq_false, not_false_eq_true, Nat.add_zero, nl0, nl1, nl2, nl3, nl4, nl5, nl6, nl7, nl8, nl9, nl10, nl11, nl12, nl13, nl14, nl15, nl16, nl17, nl18, nl19, nl20, nl21, nl22, nl23, nl24, nl25, nl26, nl27, nl28, nl29, nl30, nl31, nl32, nl33, nl34, nl35, nl36, nl37, nl38, nl39, nl40, nl41, nl42, nl43, nl44, nl45, nl46, nl47, nl48, nl49, nl50, nl51, nl52, nl53, nl54, nl55, nl56, nl57, nl58, nl59, nl60, nl61, nl62, nl63, nl64, nl65, nl66, nl67, nl68, nl69, nl70, nl71, nl72, nl73, nl74, nl75, nl76, nl77, nl78, nl79, nl80, nl81, nl82, nl83, nl84, nl85, nl86, nl87, nl88, nl89, nl90, nl91, nl92, nl93, nl94, nl95, nl96, nl97, nl98, nl99, nl100, nl101, nl102, nl103, nl104, nl105, nl106, nl107, nl108, nl109, nl110, nl111, nl112, nl113, nl114, nl115, nl116, nl117, nl118, nl119, nl120, nl121, nl122, nl123, nl124, nl125, nl126, nl127, nl979, nl244, nl1000]
    by_cases hk : b.length ≤ x
    · rw [if_pos hk, sm_end _ hk, show x = b.length by omega]
      rfl
    · rw [if_neg hk, sm_go _ (by omega)]
      by_cases h : rvs b x x = true
      · rw [if_pos h, one_t h]
        simp (disch := omega) only [nn_add, nn_mul, nn_sub, nn_le, nn_lt, nn_eq, nn_div, ldi_nn, ldc_nn, sti_nn, Option.bind_some, if_true, if_false, not_true_eq_false, not_false_eq_true, Nat.add_zero, nl0, nl1, nl2, nl3, nl4, nl5, nl6, nl7, nl8, nl9, nl10, nl11, nl12, nl13, nl14, nl15, nl16, nl17, nl18, nl19, nl20, nl21, nl22, nl23, nl24, nl25, nl26, nl27, nl28, nl29, nl30, nl31, nl32, nl33, nl34, nl35, nl36, nl37, nl38, nl39, nl40, nl41, nl42, nl43, nl44, nl45, nl46, nl47, nl48, nl49, nl50, nl51, nl52, nl53, nl54, nl55, nl56, nl57, nl58, nl59, nl60, nl61, nl62, nl63, nl64, nl65, nl66, nl67, nl68, nl69, nl70, nl71, nl72, nl73, nl74, nl75, nl76, nl77, nl78, nl79, nl80, nl81, nl82, nl83, nl84, nl85, nl86, nl87, nl88, nl89, nl90, nl91, nl92, nl93, nl94, nl95, nl96, nl97, nl98, nl99, nl100, nl101, nl102, nl103, nl104, nl105, nl106, nl107, nl108, nl109, nl110, nl111, nl112, nl113, nl114, nl115, nl116, nl117, nl118, nl119, nl120, nl121, nl122, nl123, nl124, nl125, nl126, nl127, nl979, nl244, nl1000]
        rw [if_neg (by omega), ih (x + 1) (a + 1) (by omega) (by omega), Nat.add_assoc]
      · rw [if_neg h, one_f h]
        simp (disch := omega) only [nn_add, nn_mul, nn_sub, nn_le, nn_lt, nn_eq, nn_div, ldi_nn, ldc_nn, sti_nn, Option.bind_some, if_true, if_false, not_true_eq_false, not_false_eq_true, Nat.add_zero, nl0, nl1, nl2, nl3, nl4, nl5, nl6, nl7, nl8, nl9, nl10, nl11, nl12, nl13, nl14, nl15, nl16, nl17, nl18, nl19, nl20, nl21, nl22, nl23, nl24, nl25, nl26, nl27, nl28, nl29, nl30, nl31, nl32, nl33, nl34, nl35, nl36, nl37, nl38, nl39, nl40, nl41, nl42, nl43, nl44, nl45, nl46, nl47, nl48, nl49, nl50, nl51, nl52, nl53, nl54, nl55, nl56, nl57, nl58, nl59, nl60, nl61, nl62, nl63, nl64, nl65, nl66, nl67, nl68, nl69, nl70, nl71, nl72, nl73, nl74, nl75, nl76, nl77, nl78, nl79, nl80, nl81, nl82, nl83, nl84, nl85, nl86, nl87, nl88, nl89, nl90, nl91, nl92, nl93, nl94, nl95, nl96, nl97, nl98, nl99, nl100, nl101, nl102, nl103, nl104, nl105, nl106, nl107, nl108, nl109, nl110, nl111, nl112, nl113, nl114, nl115, nl116, nl117, nl118, nl119, nl120, nl121, nl122, nl123, nl124, nl125, nl126, nl127, nl979, nl244, nl1000]
        rw [ih (x + 1) a (by omega) (by omega), Nat.zero_add]
theorem s_pal (hw : Wf b) (hc : CB F S n b) : f_X0_countReversible F S n = some (nn (pal b)) := by
  unfold f_X0_countReversible
  have h8 := hw.1
  have h := s_pal_L hw hc (fun x3 _ => some x3) 1000 0 0 (by omega) (by omega)
  rw [Nat.zero_add] at h
  exact h
theorem s_per_L (hw : Wf b) (hc : CB F S n b) {i : Nat} (hi : i < 1000) (h1z : 1 ≤ sz b i) : ∀ (fuel k : Nat), 1 ≤ k → k ≤ sz b i → sz b i < fuel + k → f_X0_period_L8 (nn (sz b i)) (nn i) F S n fuel (nn k) (fun x => some x) = some (nn (lst (fun k => decide (sz b i - k ≤ cpl (sfx b i k) (sfx b i 0))) k (sz b i - k))) := by
  intro fuel
  have h10 := hw.sz_le i
  induction fuel with
  | zero => intro k h0 h1 h2; omega
  | succ fuel ih =>
    intro k h0 h1 h2
    rw [f_X0_period_L8]
    simp (disch := omega) only [nn_add, nn_mul, nn_sub, nn_le, nn_lt, nn_eq, nn_div, ldi_nn, ldc_nn, sti_nn, Option.bind_some, if_true, if_false, not_true_eq_false, not_false_eq_true, Nat.add_zero, nl0, nl1, nl2, nl3, nl4, nl5, nl6, nl7, nl8, nl9, nl10, nl11, nl12, nl13, nl14, nl15, nl16, nl17, nl18, nl19, nl20, nl21, nl22, nl23, nl24, nl25, nl26, nl27, nl28, nl29, nl30, nl31, nl32, nl33, nl34, nl35, nl36, nl37, nl38, nl39, nl40, nl41, nl42, nl43, nl44, nl45, nl46, nl47, nl48, nl49, nl50, nl51, nl52, nl53, nl54, nl55, nl56, nl57, nl58, nl59, nl60, nl61, nl62, nl63, nl64, nl65, nl66, nl67, nl68, nl69, nl70, nl71, nl72, nl73, nl74, nl75, nl76, nl77, nl78, nl79, nl80, nl81, nl82, nl83, nl84, nl85, nl86, nl87, nl88, nl89, nl90, nl91, nl92, nl93, nl94, nl95, nl96, nl97, nl98, nl99, nl100, nl101, nl102, nl103, nl104, nl105, nl106, nl107, nl108, nl109, nl110, nl111, nl112, nl113, nl114, nl115, nl116, nl117, nl118, nl119, nl120, nl121, nl122, nl123, nl124, nl125, nl126, nl127, nl979, nl244, nl1000]
    by_cases hk : sz b i ≤ k
    · rw [if_pos hk, lst_end _ hk]
    · have hcp := cpl_le (sfx b i k) (sfx b i 0)
      rw [sfx_len] at hcp
      rw [if_neg hk, s_same hw hc hi (by omega) hi (by omega), lst_go _ (by omega)]
      simp (disch := omega) only [nn_add, nn_mul, nn_sub, nn_le, nn_lt, nn_eq, nn_div, ldi_nn, ldc_nn, sti_nn, Option.bind_some, if_true, if_false, not_true_eq_false, not_false_eq_true, Nat.add_zero, nl0, nl1, nl2, nl3, nl4, nl5, nl6, nl7, nl8, nl9, nl10, nl11, nl12, nl13, nl14, nl15, nl16, nl17, nl18, nl19, nl20, nl21, nl22, nl23, nl24, nl25, nl26, nl27, nl28, nl29, nl30, nl31, nl32, nl33, nl34, nl35, nl36, nl37, nl38, nl39, nl40, nl41, nl42, nl43, nl44, nl45, nl46, nl47, nl48, nl49, nl50, nl51, nl52, nl53, nl54, nl55, nl56, nl57, nl58, nl59, nl60, nl61, nl62, nl63, nl64, nl65, nl66, nl67, nl68, nl69, nl70, nl71, nl72, nl73, nl74, nl75, nl76, nl77, nl78, nl79, nl80, nl81, nl82, nl83, nl84, nl85, nl86, nl87, nl88, nl89, nl90, nl91, nl92, nl93, nl94, nl95, nl96, nl97, nl98, nl99, nl100, nl101, nl102, nl103, nl104, nl105, nl106, nl107, nl108, nl109, nl110, nl111, nl112, nl113, nl114, nl115, nl116, nl117, nl118, nl119, nl120, nl121, nl122, nl123, nl124, nl125, nl126, nl127, nl979, nl244, nl1000]
      by_cases h : sz b i - k ≤ cpl (sfx b i k) (sfx b i 0)
      · rw [if_pos h, if_pos (decide_eq_true h)]
      · rw [if_neg h, if_neg (fun q => h (of_decide_eq_true q)), ih (k + 1) (by omega) (by omega) (by omega)]
theorem s_period (hw : Wf b) (hc : CB F S n b) {i : Nat} (hi : i < b.length) : f_X0_period F S n (nn i) = some (nn (per b i)) := by
  have h8 := hw.1
  unfold f_X0_period
  rw [s_size hw hc (by omega)]
  simp (disch := omega) only [nn_add, nn_mul, nn_sub, nn_le, nn_lt, nn_eq, nn_div, ldi_nn, ldc_nn, sti_nn, Option.bind_some, if_true, if_false, not_true_eq_false, not_false_eq_true, Nat.add_zero, nl0, nl1, nl2, nl3, nl4, nl5, nl6, nl7, nl8, nl9, nl10, nl11, nl12, nl13, nl14, nl15, nl16, nl17, nl18, nl19, nl20, nl21, nl22, nl23, nl24, nl25, nl26, nl27, nl28, nl29, nl30, nl31, nl32, nl33, nl34, nl35, nl36, nl37, nl38, nl39, nl40, nl41, nl42, nl43, nl44, nl45, nl46, nl47, nl48, nl49, nl50, nl51, nl52, nl53, nl54, nl55, nl56, nl57, nl58, nl59, nl60, nl61, nl62, nl63, nl64, nl65, nl66, nl67, nl68, nl69, nl70, nl71, nl72, nl73, nl74, nl75, nl76, nl77, nl78, nl79, nl80, nl81, nl82, nl83, nl84, nl85, nl86, nl87, nl88, nl89, nl90, nl91, nl92, nl93, nl94, nl95, nl96, nl97, nl98, nl99, nl100, nl101, nl102, nl103, nl104, nl105, nl106, nl107, nl108, nl109, nl110, nl111, nl112, nl113, nl114, nl115, nl116, nl117, nl118, nl119, nl120, nl121, nl122, nl123, nl124, nl125, nl126, nl127, nl979, nl244, nl1000]
  exact s_per_L hw hc (by omega) (hw.2 i hi).1 1000 1 (by omega) (hw.2 i hi).1 (by have := hw.sz_le i; omega)
end COUNT

