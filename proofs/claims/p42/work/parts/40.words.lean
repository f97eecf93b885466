/-! WORDS: where they stand -/
def pfx (u w : List Nat) : Bool := decide ((cmw u w).1 = (cmw u w).2)
def cntw (b : Bk) (w : List Nat) : Nat := sm (fun i => sm (fun p => one (pfx (sfx b i p) w)) 0 (sz b i - 0)) 0 (b.length - 0)
theorem cmw_le {M : Nat} : ∀ (u w : List Nat), (∀ x ∈ u, x ≤ M) → (∀ x ∈ w, x ≤ M) → (cmw u w).1 ≤ M ∧ (cmw u w).2 ≤ M
  | u, [], _, _ => by rw [cmw_nil]; exact ⟨Nat.zero_le _, Nat.zero_le _⟩
  | [], c :: w, _, h2 => by rw [cmw_nil']; exact ⟨Nat.zero_le _, h2 c List.mem_cons_self⟩
  | a :: u, c :: w, h1, h2 => by
    rw [cmw_cons]
    by_cases e : a = c
    · rw [if_pos e]
      exact cmw_le u w (fun x hx => h1 x (List.mem_cons_of_mem _ hx)) (fun x hx => h2 x (List.mem_cons_of_mem _ hx))
    · rw [if_neg e]
      exact ⟨h1 a List.mem_cons_self, h2 c List.mem_cons_self⟩
theorem mem_getD {w : List Nat} {M : Nat} (h : ∀ k, k < w.length → w.getD k 0 ≤ M) : ∀ x ∈ w, x ≤ M := fun x hx => by
  obtain ⟨k, hk, rfl⟩ := List.getElem_of_mem hx
  have := h k hk
  rw [List.getD_eq_getElem?_getD, List.getElem?_eq_getElem hk] at this
  exact this
theorem pfx_len : ∀ (u w : List Nat), (∀ x ∈ w, 1 ≤ x) → pfx u w = true → w.length ≤ u.length
  | u, [], _, _ => Nat.zero_le _
  | [], c :: w, h, q => by
    unfold pfx at q
    rw [cmw_nil'] at q
    have := h c List.mem_cons_self
    have := of_decide_eq_true q
    omega
  | a :: u, c :: w, h, q => by
    unfold pfx at q
    rw [cmw_cons] at q
    by_cases e : a = c
    · rw [if_pos e] at q
      have := pfx_len u w (fun x hx => h x (List.mem_cons_of_mem _ hx)) q
      simp
      exact this
    · rw [if_neg e] at q
      exact absurd (of_decide_eq_true q) e
theorem nn_sub_0 {x y : Nat} (hx : x < 1000000) (hy : y < 1000000) : (nn x - nn y = nn 0) = (x = y) := by
  refine propext ⟨fun h => ?_, fun h => by rw [h, nn_sub (Nat.le_refl _), Nat.sub_self]⟩
  have h2 := congrArg Int32.toInt h
  rw [Int32.toInt_sub, nn_toInt (by omega), nn_toInt (by omega), nn_toInt (by omega), Int.bmod_eq_of_le (by omega) (by omega)] at h2
  omega
def WD (W : Nat → Int32) (s : Int32) (w : List Nat) : Prop := s = nn w.length ∧ ∀ k, k < w.length → W k = nn (w.getD k 0)
theorem Wf.sfx_le {b : Bk} (hw : Wf b) (i p : Nat) : ∀ x ∈ sfx b i p, x ≤ 122 := mem_getD (fun k hk => by rw [sfx_getD]; exact hw.lt_le i (p + k))
section WORD
variable {F S C A W T : Nat → Int32} {n l : Int32} {b : Bk} {w : List Nat}
theorem s_pfx (hw : Wf b) (hc : CB F S n b) (ht : TXx C l w) (hr : wrd w = true) {i p : Nat} (hi : i < 1000) (hp : p < 500) : ∃ d : Int32, f_X5_compareToWord F S n C l (nn i) (nn p) = some d ∧ ((d = nn 0) = (pfx (sfx b i p) w = true)) := by
  have hl := wrd_ltr hr
  have hb := cmw_le (M := 122) (sfx b i p) w (hw.sfx_le i p) (mem_getD fun k hk => (hl.2.2 k hk).2)
  refine ⟨_, s_cmw hw hc ht (fun k hk => by have := hl.2.2 k hk; omega) hi hp, ?_⟩
  rw [nn_sub_0 (by omega) (by omega)]
  unfold pfx
  rw [decide_eq_true_iff]
theorem s_cntw_L2 (hw : Wf b) (hc : CB F S n b) (ht : TXx C l w) (hr : wrd w = true) {i : Nat} (hi : i < 1000) (kk : Int32 → Int32 → Option Int32) : ∀ (fuel k a : Nat), k ≤ sz b i → sz b i < fuel + k → f_X5_countWord_L15 (nn i) F S n C l fuel (nn a) (nn k) kk = kk (nn (a + sm (fun p => one (pfx (sfx b i p) w)) k (sz b i - k))) (nn (sz b i)) := by
  intro fuel
  have h10 := hw.sz_le i
  induction fuel with
  | zero => intro k a h1 h2; omega
  | succ fuel ih =>
    intro k a h1 h2
    rw [f_X5_countWord_L15, s_size hw hc (by omega)]
    simp (disch := omega) only [nn_add, nn_mul, nn_sub, nn_le, nn_lt, nn_eq, nn_div, ldi_nn, ldc_nn, sti_nn, Option.bind_some, if_true, if_false, not_true_eq_false, not_false_eq_true, Nat.add_zero, nl0, nl1, nl2, nl3, nl4, nl5, nl6, nl7, nl8, nl9, nl10, nl11, nl12, nl13, nl14, nl15, nl16, nl17, nl18, nl19, nl20, nl21, nl22, nl23, nl24, nl25, nl26, nl27, nl28, nl29, nl30, nl31, nl32, nl33, nl34, nl35, nl36, nl37, nl38, nl39, nl40, nl41, nl42, nl43, nl44, nl45, nl46, nl47, nl48, nl49, nl50, nl51, nl52, nl53, nl54, nl55, nl56, nl57, nl58, nl59, nl60, nl61, nl62, nl63, nl64, nl65, nl66, nl67, nl68, nl69, nl70, nl71, nl72, nl73, nl74, nl75, nl76, nl77, nl78, nl79, nl80, nl81, nl82, nl83, nl84, nl85, nl86, nl87, nl88, nl89, nl90, nl91, nl92, nl93, nl94, nl95, nl96, nl97, nl98, nl99, nl100, nl101, nl102, nl103, nl104, nl105, nl106, nl107, nl108, nl109, nl110, nl111, nl112, nl113, nl114, nl115, nl116, nl117, nl118, nl119, nl120, nl121, nl122, nl123, nl124, nl125, nl126, nl127, nl979, nl244, nl1000]
    by_cases hk : sz b i ≤ k
    · rw [if_pos hk, sm_end _ hk, show k = sz b i by omega]
      rfl
    · obtain ⟨d, e1, e2⟩ := s_pfx hw hc ht hr hi (p := k) (by omega)
      rw [if_neg hk, e1, sm_go _ (by omega), Option.bind_some]
      by_cases h : pfx (sfx b i k) w = true
      · rw [if_neg (fun z => z (e2.mpr h)), one_t h, ih (k + 1) (a + 1) (by omega) (by omega), Nat.add_assoc]
      · rw [if_pos (fun z => h (e2.mp z)), one_f h, ih (k + 1) a (by omega) (by omega), Nat.zero_add]
theorem s_cntw_L1 (hw : Wf b) (hc : CB F S n b) (ht : TXx C l w) (hr : wrd w = true) (kk : Int32 → Int32 → Option Int32) : ∀ (fuel x a : Nat), x ≤ b.length → b.length < fuel + x → f_X5_countWord_L4 F S n C l fuel (nn a) (nn x) kk = kk (nn (a + sm (fun i => sm (fun p => one (pfx (sfx b i p) w)) 0 (sz b i - 0)) x (b.length - x))) (nn b.length) := by
  intro fuel
  have h8 := hw.1
  induction fuel with
  | zero => intro k a h1 h2; omega
  | succ fuel ih =>
    intro x a h1 h2
    have h10 := hw.sz_le x
    rw [f_X5_countWord_L4, s_lines hc]
    simp (disch := omega) only [nn_add, nn_mul, nn_sub, nn_le, nn_lt, nn_eq, nn_div, ldi_nn, ldc_nn, sti_nn, Option.bind_some, if_true, if_false, not_true_eq_false, not_false_eq_true, Nat.add_zero, nl0, nl1, nl2, nl3, nl4, nl5, nl6, nl7, nl8, nl9, nl10, nl11, nl12, nl13, nl14, nl15, nl16, nl17, nl18, nl19, nl20, nl21, nl22, nl23, nl24, nl25, nl26, nl27, nl28, nl29, nl30, nl31, nl32, nl33, nl34, nl35, nl36, nl37, nl38, nl39, nl40, nl41, nl42, nl43, nl44, nl45, nl46, nl47, nl48, nl49, nl50, nl51, nl52, nl53, nl54, nl55, nl56, nl57, nl58, nl59, nl60, nl61, nl62, nl63, nl64, nl65, nl66, nl67, nl68, nl69, nl70, nl71, nl72, nl73, nl74, nl75, nl76, nl77, nl78, nl79, nl80, nl81, nl82, nl83, nl84, nl85, nl86, nl87, nl88, nl89, nl90, nl91, nl92, nl93, nl94, nl95, nl96, nl97, nl98, nl99, nl100, nl101, nl102, nl103, nl104, nl105, nl106, nl107, nl108, nl109, nl110, nl111, nl112, nl113, nl114, nl115, nl116, nl117, nl118, nl119, nl120, nl121, nl122, nl123, nl124, nl125, nl126, nl127, nl979, nl244, nl1000]
    by_cases hk : b.length ≤ x
    · rw [if_pos hk, sm_end _ hk, show x = b.length by omega]
      rfl
    · rw [if_neg hk, s_cntw_L2 hw hc ht hr (by omega) _ 1000 0 a (by omega) (by omega), ih (x + 1) _ (by omega) (by omega), sm_go (k := x) _ (by omega), Nat.add_assoc]
theorem s_cntw (hw : Wf b) (hc : CB F S n b) (ht : TXx C l w) (hr : wrd w = true) : f_X5_countWord F S n C l = some (nn (cntw b w)) := by
  unfold f_X5_countWord
  have h8 := hw.1
  have h := s_cntw_L1 hw hc ht hr (fun x _ => some x) 1000 0 0 (by omega) (by omega)
  rw [Nat.zero_add] at h
  exact h
def wln (b : Bk) (w : List Nat) (i : Nat) : Bool := decide (sz b i = w.length) && pfx (sfx b i 0) w
theorem s_wln_L (hw : Wf b) (hc : CB F S n b) (ht : TXx C l w) (hr : wrd w = true) : ∀ (fuel k : Nat), k ≤ b.length → b.length < fuel + k → f_X5_isWordALine_L2 F S n C l fuel (nn k) (fun _ => some 0) = some (if lst (wln b w) k (b.length - k) < b.length then nn 1 else nn 0) := by
  intro fuel
  have h8 := hw.1
  have h60 := ht.2.1
  induction fuel with
  | zero => intro k h1 h2; omega
  | succ fuel ih =>
    intro k h1 h2
    have h10 := hw.sz_le k
    rw [f_X5_isWordALine_L2, s_lines hc]
    simp (disch := omega) only [nn_add, nn_mul, nn_sub, nn_le, nn_lt, nn_eq, nn_div, ldi_nn, ldc_nn, sti_nn, Option.bind_some, if_true, if_false, not_true_eq_false, not_false_eq_true, Nat.add_zero, nl0, nl1, nl2, nl3, nl4, nl5, nl6, nl7, nl8, nl9, nl10, nl11, nl12, nl13, nl14, nl15, nl16, nl17, nl18, nl19, nl20, nl21, nl22, nl23, nl24, nl25, nl26, nl27, nl28, nl29, nl30, nl31, nl32, nl33, nl34, nl35, nl36, nl37, nl38, nl39, nl40, nl41, nl42, nl43, nl44, nl45, nl46, nl47, nl48, nl49, nl50, nl51, nl52, nl53, nl54, nl55, nl56, nl57, nl58, nl59, nl60, nl61, nl62, nl63, nl64, nl65, nl66, nl67, nl68, nl69, nl70, nl71, nl72, nl73, nl74, nl75, nl76, nl77, nl78, nl79, nl80, nl81, nl82, nl83, nl84, nl85, nl86, nl87, nl88, nl89, nl90, nl91, nl92, nl93, nl94, nl95, nl96, nl97, nl98, nl99, nl100, nl101, nl102, nl103, nl104, nl105, nl106, nl107, nl108, nl109, nl110, nl111, nl112, nl113, nl114, nl115, nl116, nl117, nl118, nl119, nl120, nl121, nl122, nl123, nl124, nl125, nl126, nl127, nl979, nl244, nl1000]
    by_cases hk : b.length ≤ k
    · rw [if_pos hk, lst_end _ hk, if_neg (by omega)]
    · have e := ih (k + 1) (by omega) (by omega)
      rw [nl0] at e
      rw [if_neg hk, s_size hw hc (by omega), lst_go _ (by omega), Option.bind_some, s_length ht, Option.bind_some]
      simp (disch := omega) only [nn_add, nn_mul, nn_sub, nn_le, nn_lt, nn_eq, nn_div, ldi_nn, ldc_nn, sti_nn, Option.bind_some, if_true, if_false, not_true_eq_false, not_false_eq_true, Nat.add_zero, nl0, nl1, nl2, nl3, nl4, nl5, nl6, nl7, nl8, nl9, nl10, nl11, nl12, nl13, nl14, nl15, nl16, nl17, nl18, nl19, nl20, nl21, nl22, nl23, nl24, nl25, nl26, nl27, nl28, nl29, nl30, nl31, nl32, nl33, nl34, nl35, nl36, nl37, nl38, nl39, nl40, nl41, nl42, nl43, nl44, nl45, nl46, nl47, nl48, nl49, nl50, nl51, nl52, nl53, nl54, nl55, nl56, nl57, nl58, nl59, nl60, nl61, nl62, nl63, nl64, nl65, nl66, nl67, nl68, nl69, nl70, nl71, nl72, nl73, nl74, nl75, nl76, nl77, nl78, nl79, nl80, nl81, nl82, nl83, nl84, nl85, nl86, nl87, nl88, nl89, nl90, nl91, nl92, nl93, nl94, nl95, nl96, nl97, nl98, nl99, nl100, nl101, nl102, nl103, nl104, nl105, nl106, nl107, nl108, nl109, nl110, nl111, nl112, nl113, nl114, nl115, nl116, nl117, nl118, nl119, nl120, nl121, nl122, nl123, nl124, nl125, nl126, nl127, nl979, nl244, nl1000]
      by_cases hs : sz b k = w.length
      · obtain ⟨d, e1, e2⟩ := s_pfx hw hc ht hr (i := k) (p := 0) (by omega) (by omega)
        rw [if_neg (fun z => z hs), e1, Option.bind_some]
        by_cases h : pfx (sfx b k 0) w = true
        · rw [if_neg (fun z => z (e2.mpr h)), if_pos (show wln b w k = true by unfold wln; rw [h, decide_eq_true hs]; rfl), if_pos (by omega)]
        · rw [if_pos (fun z => h (e2.mp z)), e, if_neg (show ¬ wln b w k = true by unfold wln; simp [h])]
      · rw [if_pos hs, e, if_neg (show ¬ wln b w k = true by unfold wln; simp [hs])]
theorem s_wln (hw : Wf b) (hc : CB F S n b) (ht : TXx C l w) (hr : wrd w = true) : f_X5_isWordALine F S n C l = some (if lst (wln b w) 0 (b.length - 0) < b.length then nn 1 else nn 0) := by
  unfold f_X5_isWordALine
  have h8 := hw.1
  exact s_wln_L hw hc ht hr 1000 0 (by omega) (by omega)
end WORD

