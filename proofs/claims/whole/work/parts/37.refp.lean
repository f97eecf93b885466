/-! PIECES: the reference's, and that both say the same -/
theorem ite_max' (a c : Nat) : (if c ≤ a then nn a else nn c) = nn (max a c) := by
  by_cases h : c ≤ a
  · rw [if_pos h, Nat.max_eq_left h]
  · rw [if_neg h, Nat.max_eq_right (by omega)]
theorem mx_leR {f : Nat → Nat} {c : Nat} : ∀ (m k : Nat), (∀ x, k ≤ x → x < k + m → f x ≤ c) → mx f k m ≤ c
  | 0, k, _ => Nat.zero_le _
  | m + 1, k, h => Nat.max_le.mpr ⟨h k (Nat.le_refl _) (by omega), mx_leR m (k + 1) (fun x h1 h2 => h x (by omega) (by omega))⟩
theorem le_mx {f : Nat → Nat} : ∀ (m k x : Nat), k ≤ x → x < k + m → f x ≤ mx f k m
  | 0, k, x, h1, h2 => by omega
  | m + 1, k, x, h1, h2 => by
    rw [mx]
    by_cases h : x = k
    · rw [h]; exact Nat.le_max_left _ _
    · exact Nat.le_trans (le_mx m (k + 1) x (by omega) (by omega)) (Nat.le_max_right _ _)
theorem cpl_comm : ∀ u v : List Nat, cpl u v = cpl v u
  | [], [] => rfl
  | [], _ :: _ => rfl
  | _ :: _, [] => rfl
  | a :: u, c :: v => by
    rw [cpl, cpl, cpl_comm u v]
    by_cases h : a = c
    · rw [if_pos h, if_pos h.symm]
    · rw [if_neg h, if_neg (fun q => h q.symm)]
def lofv (b : Bk) (i j a q : Nat) : Nat := if i = j ∧ a = q then 0 else cpl (sfx b i a) (sfx b j q)
def lof (b : Bk) (i j : Nat) : Nat := mx (fun a => mx (fun q => lofv b i j a q) 0 (sz b j - 0)) 0 (sz b i - 0)
theorem lofv_le {b : Bk} (hw : Wf b) (i j a q : Nat) : lofv b i j a q ≤ 10 := by
  unfold lofv
  have := cpl_le (sfx b i a) (sfx b j q)
  rw [sfx_len] at this
  have := hw.sz_le i
  split <;> omega
theorem lof_ne {b : Bk} {i j : Nat} (h : i ≠ j) : lof b i j = lsha b i j := by
  unfold lof lsha mil lofv
  have e : ∀ a q : Nat, (if i = j ∧ a = q then 0 else cpl (sfx b i a) (sfx b j q)) = cpl (sfx b i a) (sfx b j q) := fun a q => if_neg (fun z => h z.1)
  simp only [e]
theorem lof_same (b : Bk) (i : Nat) : lof b i i = lrep b i := by
  apply Nat.le_antisymm
  · refine mx_leR _ _ (fun a _ ha => mx_leR _ _ (fun q _ hq => ?_))
    unfold lofv
    by_cases e : a = q
    · rw [if_pos ⟨rfl, e⟩]; exact Nat.zero_le _
    · rw [if_neg (fun z => e z.2)]
      rcases Nat.lt_or_gt_of_ne e with h | h
      · rw [cpl_comm]
        refine Nat.le_trans ?_ (le_mx (f := fun p => mil b i p i p) (sz b i - 0) 0 q (by omega) (by omega))
        exact le_mx (f := fun z => cpl (sfx b i q) (sfx b i z)) (q - 0) 0 a (by omega) (by omega)
      · refine Nat.le_trans ?_ (le_mx (f := fun p => mil b i p i p) (sz b i - 0) 0 a (by omega) (by omega))
        exact le_mx (f := fun z => cpl (sfx b i a) (sfx b i z)) (a - 0) 0 q (by omega) (by omega)
  · refine mx_leR _ _ (fun p _ hp => mx_leR _ _ (fun q _ hq => ?_))
    refine Nat.le_trans ?_ (le_mx (f := fun a => mx (fun q => lofv b i i a q) 0 (sz b i - 0)) (sz b i - 0) 0 p (by omega) (by omega))
    refine Nat.le_trans ?_ (le_mx (f := fun q => lofv b i i p q) (sz b i - 0) 0 q (by omega) (by omega))
    show _ ≤ lofv b i i p q
    unfold lofv
    rw [if_neg (fun z => by omega)]
    exact Nat.le_refl _
theorem lsha_same {b : Bk} (i : Nat) : lsha b i i = sz b i := by
  apply Nat.le_antisymm
  · refine mx_leR _ _ (fun p _ hp => Nat.le_trans (mil_le' _ _ _ _) (by omega))
  · by_cases h : 0 < sz b i
    · refine Nat.le_trans ?_ (le_mx (f := fun p => mil b i p i (sz b i)) (sz b i - 0) 0 0 (by omega) (by omega))
      refine Nat.le_trans ?_ (le_mx (f := fun q => cpl (sfx b i 0) (sfx b i q)) (sz b i - 0) 0 0 (by omega) (by omega))
      show _ ≤ cpl (sfx b i 0) (sfx b i 0)
      rw [cpl_self, sfx_len]
      omega
    · omega
def ab (f : Nat → Nat) : Nat → Nat → Nat → Nat → Nat × Nat
  | m, a, _, 0 => (m, a)
  | m, a, k, t + 1 => if f k < m then ab f (f k) k (k + 1) t else ab f m a (k + 1) t
theorem ab_fst (f : Nat → Nat) : ∀ (t m a k : Nat), (ab f m a k t).1 = mnn f m k t
  | 0, m, a, k => rfl
  | t + 1, m, a, k => by
    rw [ab, mnn]
    by_cases h : f k < m
    · rw [if_pos h, ab_fst f t, Nat.min_eq_right (by omega)]
    · rw [if_neg h, ab_fst f t, Nat.min_eq_left (by omega)]
theorem mnn_le (f : Nat → Nat) : ∀ (t m k : Nat), mnn f m k t ≤ m
  | 0, m, k => Nat.le_refl _
  | t + 1, m, k => by rw [mnn]; exact Nat.le_trans (mnn_le f t _ _) (Nat.min_le_left _ _)
theorem ab_snd (f : Nat → Nat) : ∀ (t m a k : Nat), (mnn f m k t < m → (ab f m a k t).2 = lst (fun p => decide (f p = mnn f m k t)) k t) ∧ (¬ mnn f m k t < m → (ab f m a k t).2 = a)
  | 0, m, a, k => ⟨fun h => absurd h (Nat.lt_irrefl _), fun _ => rfl⟩
  | t + 1, m, a, k => by
    rw [ab, mnn]
    by_cases h : f k < m
    · rw [if_pos h, Nat.min_eq_right (by omega)]
      have hl := mnn_le f t (f k) (k + 1)
      have ih := ab_snd f t (f k) k (k + 1)
      refine ⟨fun _ => ?_, fun q => by omega⟩
      rw [lst]
      by_cases e : mnn f (f k) (k + 1) t < f k
      · rw [ih.1 e, if_neg]
        intro z
        have := of_decide_eq_true z
        omega
      · rw [ih.2 e, if_pos (decide_eq_true (by omega))]
    · rw [if_neg h, Nat.min_eq_left (by omega)]
      have ih := ab_snd f t m a (k + 1)
      refine ⟨fun q => ?_, ih.2⟩
      rw [lst, ih.1 q, if_neg]
      intro z
      have := of_decide_eq_true z
      omega
section REFP
variable {A : Nat → Int32} {b : Bk}
theorem r_lof_L2 (hw : Wf b) (hr : RB A 0 b) {i j x : Nat} (hi : i < b.length) (hj : j < b.length) (hx : x < sz b i) (kk : Int32 → Int32 → Option Int32) : ∀ (fuel k a : Nat), a ≤ 1000 → k ≤ sz b j → sz b j < fuel + k → f_X9_longestOf_L18 (nn x) (nn i) (nn j) A fuel (nn a) (nn k) kk = kk (nn (max a (mx (fun q => lofv b i j x q) k (sz b j - k)))) (nn (sz b j)) := by
  intro fuel
  have h8 := hw.1
  have h10 := hw.sz_le i
  have h11 := hw.sz_le j
  induction fuel with
  | zero => intro k a h0 h1 h2; omega
  | succ fuel ih =>
    intro k a h0 h1 h2
    rw [f_X9_longestOf_L18, r_size hw hr hj]
    simp (disch := omega) only [nn_add, nn_mul, nn_sub, nn_le, nn_lt, nn_eq, nn_div, ldi_nn, ldc_nn, sti_nn, Option.bind_some, if_true, if_false, not_true_eq_false, not_false_eq_true, Nat.add_zero, nl0, nl1, nl2, nl3, nl4, nl5, nl6, nl7, nl8, nl9, nl10, nl11, nl12, nl13, nl14, nl15, nl16, nl17, nl18, nl19, nl20, nl21, nl22, nl23, nl24, nl25, nl26, nl27, nl28, nl29, nl30, nl31, nl32, nl33, nl34, nl35, nl36, nl37, nl38, nl39, nl40, nl41, nl42, nl43, nl44, nl45, nl46, nl47, nl48, nl49, nl50, nl51, nl52, nl53, nl54, nl55, nl56, nl57, nl58, nl59, nl60, nl61, nl62, nl63, nl64, nl65, nl66, nl67, nl68, nl69, nl70, nl71, nl72, nl73, nl74, nl75, nl76, nl77, nl78, nl79, nl80, nl81, nl82, nl83, nl84, nl85, nl86, nl87, nl88, nl89, nl90, nl91, nl92, nl93, nl94, nl95, nl96, nl97, nl98, nl99, nl100, nl101, nl102, nl103, nl104, nl105, nl106, nl107, nl108, nl109, nl110, nl111, nl112, nl113, nl114, nl115, nl116, nl117, nl118, nl119, nl120, nl121, nl122, nl123, nl124, nl125, nl126, nl127, nl979, nl244, nl1000]
    by_cases hk : sz b j ≤ k
    · rw [if_pos hk, mx_end _ hk, show k = sz b j by omega, Nat.max_zero]
    · have hv := lofv_le hw i j x k
      have step : ∀ v : Nat, v = lofv b i j x k → (if v ≤ a then f_X9_longestOf_L18 (nn x) (nn i) (nn j) A fuel (nn a) (nn (k + 1)) kk else f_X9_longestOf_L18 (nn x) (nn i) (nn j) A fuel (nn v) (nn (k + 1)) kk) = kk (nn (max a (mx (fun q => lofv b i j x q) k (sz b j - k)))) (nn (sz b j)) := by
        intro v hv2
        subst hv2
        rw [mx_go _ (by omega), ← Nat.max_assoc]
        by_cases h : lofv b i j x k ≤ a
        · rw [if_pos h, ih (k + 1) a h0 (by omega) (by omega), Nat.max_eq_left h]
        · rw [if_neg h, ih (k + 1) _ (by omega) (by omega) (by omega), Nat.max_eq_right (a := a) (by omega)]
      rw [if_neg hk]
      by_cases e1 : i = j
      · rw [if_neg (fun z => z e1)]
        by_cases e2 : x = k
        · rw [if_neg (fun z => z e2)]
          have := step 0 (by unfold lofv; rw [if_pos ⟨e1, e2⟩])
          rw [if_pos (by omega)] at this ⊢
          exact this
        · rw [if_pos e2, r_front hw hr hi hj hx (by omega)]
          have hcp := cpl_le (sfx b i x) (sfx b j k)
          rw [sfx_len] at hcp
          simp (disch := omega) only [nn_add, nn_mul, nn_sub, nn_le, nn_lt, nn_eq, nn_div, ldi_nn, ldc_nn, sti_nn, Option.bind_some, if_true, if_false, not_true_eq_false, not_false_eq_true, Nat.add_zero, nl0, nl1, nl2, nl3, nl4, nl5, nl6, nl7, nl8, nl9, nl10, nl11, nl12, nl13, nl14, nl15, nl16, nl17, nl18, nl19, nl20, nl21, nl22, nl23, nl24, nl25, nl26, nl27, nl28, nl29, nl30, nl31, nl32, nl33, nl34, nl35, nl36, nl37, nl38, nl39, nl40, nl41, nl42, nl43, nl44, nl45, nl46, nl47, nl48, nl49, nl50, nl51, nl52, nl53, nl54, nl55, nl56, nl57, nl58, nl59, nl60, nl61, nl62, nl63, nl64, nl65, nl66, nl67, nl68, nl69, nl70, nl71, nl72, nl73, nl74, nl75, nl76, nl77, nl78, nl79, nl80, nl81, nl82, nl83, nl84, nl85, nl86, nl87, nl88, nl89, nl90, nl91, nl92, nl93, nl94, nl95, nl96, nl97, nl98, nl99, nl100, nl101, nl102, nl103, nl104, nl105, nl106, nl107, nl108, nl109, nl110, nl111, nl112, nl113, nl114, nl115, nl116, nl117, nl118, nl119, nl120, nl121, nl122, nl123, nl124, nl125, nl126, nl127, nl979, nl244, nl1000]
          exact step _ (by unfold lofv; rw [if_neg (fun z => e2 z.2)])
      · rw [if_pos e1, r_front hw hr hi hj hx (by omega)]
        have hcp := cpl_le (sfx b i x) (sfx b j k)
        rw [sfx_len] at hcp
        simp (disch := omega) only [nn_add, nn_mul, nn_sub, nn_le, nn_lt, nn_eq, nn_div, ldi_nn, ldc_nn, sti_nn, Option.bind_some, if_true, if_false, not_true_eq_false, not_false_eq_true, Nat.add_zero, nl0, nl1, nl2, nl3, nl4, nl5, nl6, nl7, nl8, nl9, nl10, nl11, nl12, nl13, nl14, nl15, nl16, nl17, nl18, nl19, nl20, nl21, nl22, nl23, nl24, nl25, nl26, nl27, nl28, nl29, nl30, nl31, nl32, nl33, nl34, nl35, nl36, nl37, nl38, nl39, nl40, nl41, nl42, nl43, nl44, nl45, nl46, nl47, nl48, nl49, nl50, nl51, nl52, nl53, nl54, nl55, nl56, nl57, nl58, nl59, nl60, nl61, nl62, nl63, nl64, nl65, nl66, nl67, nl68, nl69, nl70, nl71, nl72, nl73, nl74, nl75, nl76, nl77, nl78, nl79, nl80, nl81, nl82, nl83, nl84, nl85, nl86, nl87, nl88, nl89, nl90, nl91, nl92, nl93, nl94, nl95, nl96, nl97, nl98, nl99, nl100, nl101, nl102, nl103, nl104, nl105, nl106, nl107, nl108, nl109, nl110, nl111, nl112, nl113, nl114, nl115, nl116, nl117, nl118, nl119, nl120, nl121, nl122, nl123, nl124, nl125, nl126, nl127, nl979, nl244, nl1000]
        exact step _ (by unfold lofv; rw [if_neg (fun z => e1 z.1)])
theorem r_lof_L1 (hw : Wf b) (hr : RB A 0 b) {i j : Nat} (hi : i < b.length) (hj : j < b.length) (kk : Int32 → Int32 → Option Int32) : ∀ (fuel x a : Nat), a ≤ 1000 → x ≤ sz b i → sz b i < fuel + x → f_X9_longestOf_L5 (nn i) (nn j) A fuel (nn a) (nn x) kk = kk (nn (max a (mx (fun x => mx (fun q => lofv b i j x q) 0 (sz b j - 0)) x (sz b i - x)))) (nn (sz b i)) := by
  intro fuel
  have h8 := hw.1
  have h10 := hw.sz_le i
  have h11 := hw.sz_le j
  induction fuel with
  | zero => intro k a h0 h1 h2; omega
  | succ fuel ih =>
    intro x a h0 h1 h2
    rw [f_X9_longestOf_L5, r_size hw hr hi]
    simp (disch := omega) only [nn_add, nn_mul, nn_sub, nn_le, nn_lt, nn_eq, nn_div, ldi_nn, ldc_nn, sti_nn, Option.bind_some, if_true, if_false, not_true_eq_false, not_false_eq_true, Nat.add_zero, nl0, nl1, nl2, nl3, nl4, nl5, nl6, nl7, nl8, nl9, nl10, nl11, nl12, nl13, nl14, nl15, nl16, nl17, nl18, nl19, nl20, nl21, nl22, nl23, nl24, nl25, nl26, nl27, nl28, nl29, nl30, nl31, nl32, nl33, nl34, nl35, nl36, nl37, nl38, nl39, nl40, nl41, nl42, nl43, nl44, nl45, nl46, nl47, nl48, nl49, nl50, nl51, nl52, nl53, nl54, nl55, nl56, nl57, nl58, nl59, nl60, nl61, nl62, nl63, nl64, nl65, nl66, nl67, nl68, nl69, nl70, nl71, nl72, nl73, nl74, nl75, nl76, nl77, nl78, nl79, nl80, nl81, nl82, nl83, nl84, nl85, nl86, nl87, nl88, nl89, nl90, nl91, nl92, nl93, nl94, nl95, nl96, nl97, nl98, nl99, nl100, nl101, nl102, nl103, nl104, nl105, nl106, nl107, nl108, nl109, nl110, nl111, nl112, nl113, nl114, nl115, nl116, nl117, nl118, nl119, nl120, nl121, nl122, nl123, nl124, nl125, nl126, nl127, nl979, nl244, nl1000]
    by_cases hk : sz b i ≤ x
    · rw [if_pos hk, mx_end _ hk, show x = sz b i by omega, Nat.max_zero]
    · have hm : mx (fun q => lofv b i j x q) 0 (sz b j - 0) ≤ 10 := mx_le (fun q => lofv_le hw i j x q) _ _
      rw [if_neg hk, r_lof_L2 hw hr hi hj (by omega) _ 1000 0 a h0 (by omega) (by omega), ih (x + 1) _ (by omega) (by omega) (by omega), mx_go (k := x) _ (by omega), Nat.max_assoc]
theorem r_lof (hw : Wf b) (hr : RB A 0 b) {i j : Nat} (hi : i < b.length) (hj : j < b.length) : f_X9_longestOf A (nn i) (nn j) = some (nn (lof b i j)) := by
  unfold f_X9_longestOf
  have h10 := hw.sz_le i
  have h := r_lof_L1 hw hr hi hj (fun x _ => some x) 1000 0 0 (by omega) (by omega) (by omega)
  rw [Nat.zero_max] at h
  exact h
theorem r_ala_L2 (hw : Wf b) (hr : RB A 0 b) {i p x : Nat} (hi : i < b.length) (hp : p < sz b i) (hx : x < b.length) (hne : ¬ x = i) (kk : Int32 → Int32 → Option Int32) : ∀ (fuel k a : Nat), a ≤ 1000 → k ≤ sz b x → sz b x < fuel + k → f_X9_aloneFrom_L17 (nn x) (nn i) (nn p) A fuel (nn a) (nn k) kk = kk (nn (max a (mx (fun q => cpl (sfx b i p) (sfx b x q)) k (sz b x - k)))) (nn (sz b x)) := by
  intro fuel
  have h8 := hw.1
  have h10 := hw.sz_le i
  have h11 := hw.sz_le x
  induction fuel with
  | zero => intro k a h0 h1 h2; omega
  | succ fuel ih =>
    intro k a h0 h1 h2
    rw [f_X9_aloneFrom_L17, r_size hw hr hx]
    simp (disch := omega) only [nn_add, nn_mul, nn_sub, nn_le, nn_lt, nn_eq, nn_div, ldi_nn, ldc_nn, sti_nn, Option.bind_some, if_true, if_false, not_true_eq_false, not_false_eq_true, Nat.add_zero, nl0, nl1, nl2, nl3, nl4, nl5, nl6, nl7, nl8, nl9, nl10, nl11, nl12, nl13, nl14, nl15, nl16, nl17, nl18, nl19, nl20, nl21, nl22, nl23, nl24, nl25, nl26, nl27, nl28, nl29, nl30, nl31, nl32, nl33, nl34, nl35, nl36, nl37, nl38, nl39, nl40, nl41, nl42, nl43, nl44, nl45, nl46, nl47, nl48, nl49, nl50, nl51, nl52, nl53, nl54, nl55, nl56, nl57, nl58, nl59, nl60, nl61, nl62, nl63, nl64, nl65, nl66, nl67, nl68, nl69, nl70, nl71, nl72, nl73, nl74, nl75, nl76, nl77, nl78, nl79, nl80, nl81, nl82, nl83, nl84, nl85, nl86, nl87, nl88, nl89, nl90, nl91, nl92, nl93, nl94, nl95, nl96, nl97, nl98, nl99, nl100, nl101, nl102, nl103, nl104, nl105, nl106, nl107, nl108, nl109, nl110, nl111, nl112, nl113, nl114, nl115, nl116, nl117, nl118, nl119, nl120, nl121, nl122, nl123, nl124, nl125, nl126, nl127, nl979, nl244, nl1000]
    by_cases hk : sz b x ≤ k
    · rw [if_pos hk, mx_end _ hk, show k = sz b x by omega, Nat.max_zero]
    · have hcp := cpl_le (sfx b i p) (sfx b x k)
      rw [sfx_len] at hcp
      rw [if_neg hk, if_neg hne, r_front hw hr hi hx hp (by omega), mx_go _ (by omega), ← Nat.max_assoc]
      simp (disch := omega) only [nn_add, nn_mul, nn_sub, nn_le, nn_lt, nn_eq, nn_div, ldi_nn, ldc_nn, sti_nn, Option.bind_some, if_true, if_false, not_true_eq_false, not_false_eq_true, Nat.add_zero, nl0, nl1, nl2, nl3, nl4, nl5, nl6, nl7, nl8, nl9, nl10, nl11, nl12, nl13, nl14, nl15, nl16, nl17, nl18, nl19, nl20, nl21, nl22, nl23, nl24, nl25, nl26, nl27, nl28, nl29, nl30, nl31, nl32, nl33, nl34, nl35, nl36, nl37, nl38, nl39, nl40, nl41, nl42, nl43, nl44, nl45, nl46, nl47, nl48, nl49, nl50, nl51, nl52, nl53, nl54, nl55, nl56, nl57, nl58, nl59, nl60, nl61, nl62, nl63, nl64, nl65, nl66, nl67, nl68, nl69, nl70, nl71, nl72, nl73, nl74, nl75, nl76, nl77, nl78, nl79, nl80, nl81, nl82, nl83, nl84, nl85, nl86, nl87, nl88, nl89, nl90, nl91, nl92, nl93, nl94, nl95, nl96, nl97, nl98, nl99, nl100, nl101, nl102, nl103, nl104, nl105, nl106, nl107, nl108, nl109, nl110, nl111, nl112, nl113, nl114, nl115, nl116, nl117, nl118, nl119, nl120, nl121, nl122, nl123, nl124, nl125, nl126, nl127, nl979, nl244, nl1000]
      by_cases h : cpl (sfx b i p) (sfx b x k) ≤ a
      · rw [if_pos h, ih (k + 1) a h0 (by omega) (by omega), Nat.max_eq_left h]
      · rw [if_neg h, ih (k + 1) _ (by omega) (by omega) (by omega), Nat.max_eq_right (a := a) (by omega)]
theorem r_ala_L1 (hw : Wf b) (hr : RB A 0 b) {i p : Nat} (hi : i < b.length) (hp : p < sz b i) (kk : Int32 → Int32 → Option Int32) : ∀ (fuel x a : Nat), a ≤ 1000 → x ≤ b.length → b.length < fuel + x → f_X9_aloneFrom_L5 (nn i) (nn p) A fuel (nn a) (nn x) kk = kk (nn (max a (mx (fun x => if x = i then 0 else mil b i p x (sz b x)) x (b.length - x)))) (nn b.length) := by
  intro fuel
  have h8 := hw.1
  induction fuel with
  | zero => intro k a h0 h1 h2; omega
  | succ fuel ih =>
    intro x a h0 h1 h2
    have h11 := hw.sz_le x
    rw [f_X9_aloneFrom_L5, r_many hr]
    simp (disch := omega) only [nn_add, nn_mul, nn_sub, nn_le, nn_lt, nn_eq, nn_div, ldi_nn, ldc_nn, sti_nn, Option.bind_some, if_true, if_false, not_true_eq_false, not_false_eq_true, Nat.add_zero, nl0, nl1, nl2, nl3, nl4, nl5, nl6, nl7, nl8, nl9, nl10, nl11, nl12, nl13, nl14, nl15, nl16, nl17, nl18, nl19, nl20, nl21, nl22, nl23, nl24, nl25, nl26, nl27, nl28, nl29, nl30, nl31, nl32, nl33, nl34, nl35, nl36, nl37, nl38, nl39, nl40, nl41, nl42, nl43, nl44, nl45, nl46, nl47, nl48, nl49, nl50, nl51, nl52, nl53, nl54, nl55, nl56, nl57, nl58, nl59, nl60, nl61, nl62, nl63, nl64, nl65, nl66, nl67, nl68, nl69, nl70, nl71, nl72, nl73, nl74, nl75, nl76, nl77, nl78, nl79, nl80, nl81, nl82, nl83, nl84, nl85, nl86, nl87, nl88, nl89, nl90, nl91, nl92, nl93, nl94, nl95, nl96, nl97, nl98, nl99, nl100, nl101, nl102, nl103, nl104, nl105, nl106, nl107, nl108, nl109, nl110, nl111, nl112, nl113, nl114, nl115, nl116, nl117, nl118, nl119, nl120, nl121, nl122, nl123, nl124, nl125, nl126, nl127, nl979, nl244, nl1000]
    by_cases hk : b.length ≤ x
    · rw [if_pos hk, mx_end _ hk, show x = b.length by omega, Nat.max_zero]
    · rw [if_neg hk, mx_go (k := x) _ (by omega)]
      by_cases hx : x = i
      · have hs := (hw.2 x (by omega)).1
        rw [if_pos hx, Nat.zero_max, f_X9_aloneFrom_L17, r_size hw hr (by omega)]
        simp (disch := omega) only [nn_add, nn_mul, nn_sub, nn_le, nn_lt, nn_eq, nn_div, ldi_nn, ldc_nn, sti_nn, Option.bind_some, if_true, if_false, not_true_eq_false, not_false_eq_true, Nat.add_zero, nl0, nl1, nl2, nl3, nl4, nl5, nl6, nl7, nl8, nl9, nl10, nl11, nl12, nl13, nl14, nl15, nl16, nl17, nl18, nl19, nl20, nl21, nl22, nl23, nl24, nl25, nl26, nl27, nl28, nl29, nl30, nl31, nl32, nl33, nl34, nl35, nl36, nl37, nl38, nl39, nl40, nl41, nl42, nl43, nl44, nl45, nl46, nl47, nl48, nl49, nl50, nl51, nl52, nl53, nl54, nl55, nl56, nl57, nl58, nl59, nl60, nl61, nl62, nl63, nl64, nl65, nl66, nl67, nl68, nl69, nl70, nl71, nl72, nl73, nl74, nl75, nl76, nl77, nl78, nl79, nl80, nl81, nl82, nl83, nl84, nl85, nl86, nl87, nl88, nl89, nl90, nl91, nl92, nl93, nl94, nl95, nl96, nl97, nl98, nl99, nl100, nl101, nl102, nl103, nl104, nl105, nl106, nl107, nl108, nl109, nl110, nl111, nl112, nl113, nl114, nl115, nl116, nl117, nl118, nl119, nl120, nl121, nl122, nl123, nl124, nl125, nl126, nl127, nl979, nl244, nl1000]
        rw [if_neg (by omega), if_pos hx, ih (x + 1) a h0 (by omega) (by omega)]
      · have hm := mil_le hw i p x (sz b x)
        rw [if_neg hx, r_ala_L2 hw hr hi hp (by omega) hx _ 1000 0 a h0 (by omega) (by omega)]
        show f_X9_aloneFrom_L5 (nn i) (nn p) A fuel (nn (max a (mil b i p x (sz b x)))) (nn (x + 1)) kk = _
        rw [ih (x + 1) _ (by omega) (by omega) (by omega), Nat.max_assoc]
theorem r_aloneFrom (hw : Wf b) (hr : RB A 0 b) {i p : Nat} (hi : i < b.length) (hp : p < sz b i) : f_X9_aloneFrom A (nn i) (nn p) = some (if saa b i p = 11 then -1 else nn (saa b i p)) := by
  have h8 := hw.1
  have h10 := hw.sz_le i
  have ha := ala_le hw i p
  unfold f_X9_aloneFrom
  have h := r_ala_L1 hw hr hi hp (fun x _ => (f_X9_size A (nn i)).bind fun r82_12 => if (r82_12 - nn p) ≤ x then (some (-1)) else (some (x + 1))) 1000 0 0 (by omega) (by omega) (by omega)
  rw [Nat.zero_max] at h
  refine h.trans ?_
  show ((f_X9_size A (nn i)).bind fun r82_12 => if (r82_12 - nn p) ≤ nn (ala b i p) then (some (-1)) else (some (nn (ala b i p) + 1))) = _
  rw [r_size hw hr hi]
  unfold saa
  simp (disch := omega) only [nn_add, nn_mul, nn_sub, nn_le, nn_lt, nn_eq, nn_div, ldi_nn, ldc_nn, sti_nn, Option.bind_some, if_true, if_false, not_true_eq_false, not_false_eq_true, Nat.add_zero, nl0, nl1, nl2, nl3, nl4, nl5, nl6, nl7, nl8, nl9, nl10, nl11, nl12, nl13, nl14, nl15, nl16, nl17, nl18, nl19, nl20, nl21, nl22, nl23, nl24, nl25, nl26, nl27, nl28, nl29, nl30, nl31, nl32, nl33, nl34, nl35, nl36, nl37, nl38, nl39, nl40, nl41, nl42, nl43, nl44, nl45, nl46, nl47, nl48, nl49, nl50, nl51, nl52, nl53, nl54, nl55, nl56, nl57, nl58, nl59, nl60, nl61, nl62, nl63, nl64, nl65, nl66, nl67, nl68, nl69, nl70, nl71, nl72, nl73, nl74, nl75, nl76, nl77, nl78, nl79, nl80, nl81, nl82, nl83, nl84, nl85, nl86, nl87, nl88, nl89, nl90, nl91, nl92, nl93, nl94, nl95, nl96, nl97, nl98, nl99, nl100, nl101, nl102, nl103, nl104, nl105, nl106, nl107, nl108, nl109, nl110, nl111, nl112, nl113, nl114, nl115, nl116, nl117, nl118, nl119, nl120, nl121, nl122, nl123, nl124, nl125, nl126, nl127, nl979, nl244, nl1000]
  by_cases e : sz b i - p ≤ ala b i p
  · rw [if_pos e, if_pos e, if_pos rfl]
  · rw [if_neg e, if_neg e, if_neg (by omega)]
end REFP
