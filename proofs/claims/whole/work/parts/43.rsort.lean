/-! THE REFERENCE SORTS THE ENDINGS -/
def RO (O : Nat → Int32) (l : List En) : Prop := ∀ (k : Nat) (e : En), l[k]? = some e → O k = nn (10 * e.1 + e.2)
section RSORT
variable {A O : Nat → Int32} {b : Bk} {l : List En}
theorem r_shift (hw : Wf b) (hr : RB A 0 b) (hl : l.length < 80) (ho : RO O l) (hs : Srt b l) {i p : Nat} (he : vld b (i, p)) (hv : ∀ x ∈ l, vld b x ∧ x ≠ (i, p)) (kk : Int32 → (Nat → Int32) → Option ((Nat → Int32) × Int32)) : ∀ (fuel j : Nat) (OO : Nat → Int32), pos b l (i, p) ≤ j → j ≤ l.length → j < fuel → (∀ k, k < j → OO k = O k) → (∀ k, j < k → k ≤ l.length → OO k = O (k - 1)) → ∃ O', f_X9_orders_L39 (nn (10 * i + p)) A fuel (nn j) OO kk = kk (nn (pos b l (i, p))) O' ∧ (∀ k, k < pos b l (i, p) → O' k = O k) ∧ (∀ k, pos b l (i, p) < k → k ≤ l.length → O' k = O (k - 1)) := by
  intro fuel
  have hi := sz_in he
  have hp : p < sz b i := he
  induction fuel with
  | zero => intro j OO h1 h2 h3; omega
  | succ fuel ih =>
    intro j OO h1 h2 h3 h4 h5
    rw [f_X9_orders_L39]
    simp (disch := omega) only [nn_add, nn_mul, nn_sub, nn_le, nn_lt, nn_eq, nn_div, ldi_nn, ldc_nn, sti_nn, Option.bind_some, if_true, if_false, not_true_eq_false, not_false_eq_true, Nat.add_zero, nl0, nl1, nl2, nl3, nl4, nl5, nl6, nl7, nl8, nl9, nl10, nl11, nl12, nl13, nl14, nl15, nl16, nl17, nl18, nl19, nl20, nl21, nl22, nl23, nl24, nl25, nl26, nl27, nl28, nl29, nl30, nl31, nl32, nl33, nl34, nl35, nl36, nl37, nl38, nl39, nl40, nl41, nl42, nl43, nl44, nl45, nl46, nl47, nl48, nl49, nl50, nl51, nl52, nl53, nl54, nl55, nl56, nl57, nl58, nl59, nl60, nl61, nl62, nl63, nl64, nl65, nl66, nl67, nl68, nl69, nl70, nl71, nl72, nl73, nl74, nl75, nl76, nl77, nl78, nl79, nl80, nl81, nl82, nl83, nl84, nl85, nl86, nl87, nl88, nl89, nl90, nl91, nl92, nl93, nl94, nl95, nl96, nl97, nl98, nl99, nl100, nl101, nl102, nl103, nl104, nl105, nl106, nl107, nl108, nl109, nl110, nl111, nl112, nl113, nl114, nl115, nl116, nl117, nl118, nl119, nl120, nl121, nl122, nl123, nl124, nl125, nl126, nl127, nl979, nl244, nl1000]
    by_cases h0 : j ≤ 0
    · rw [if_pos h0, show j = pos b l (i, p) by omega]
      exact ⟨OO, rfl, fun k q => h4 k (by omega), fun k q1 q2 => h5 k (by omega) q2⟩
    · have hm : j - 1 < l.length := by omega
      have hg : l[j - 1]? = some l[j - 1] := List.getElem?_eq_getElem hm
      have hva := (hv _ (List.getElem_mem hm)).1
      have hva1 := sz_in hva
      have hva3 : l[j - 1].2 < sz b l[j - 1].1 := hva
      have sp := split_at he hs hv hm
      rw [if_neg h0]
      simp (disch := omega) only [nn_add, nn_mul, nn_sub, nn_le, nn_lt, nn_eq, nn_div, ldi_nn, ldc_nn, sti_nn, Option.bind_some, if_true, if_false, not_true_eq_false, not_false_eq_true, Nat.add_zero, nl0, nl1, nl2, nl3, nl4, nl5, nl6, nl7, nl8, nl9, nl10, nl11, nl12, nl13, nl14, nl15, nl16, nl17, nl18, nl19, nl20, nl21, nl22, nl23, nl24, nl25, nl26, nl27, nl28, nl29, nl30, nl31, nl32, nl33, nl34, nl35, nl36, nl37, nl38, nl39, nl40, nl41, nl42, nl43, nl44, nl45, nl46, nl47, nl48, nl49, nl50, nl51, nl52, nl53, nl54, nl55, nl56, nl57, nl58, nl59, nl60, nl61, nl62, nl63, nl64, nl65, nl66, nl67, nl68, nl69, nl70, nl71, nl72, nl73, nl74, nl75, nl76, nl77, nl78, nl79, nl80, nl81, nl82, nl83, nl84, nl85, nl86, nl87, nl88, nl89, nl90, nl91, nl92, nl93, nl94, nl95, nl96, nl97, nl98, nl99, nl100, nl101, nl102, nl103, nl104, nl105, nl106, nl107, nl108, nl109, nl110, nl111, nl112, nl113, nl114, nl115, nl116, nl117, nl118, nl119, nl120, nl121, nl122, nl123, nl124, nl125, nl126, nl127, nl979, nl244, nl1000, nn_pred]
      rw [h4 (j - 1) (by omega), ho _ _ hg, r_ahead hw hr hi hva1 hp hva3, Option.bind_some]
      have hB : (bef b i p l[j - 1].1 l[j - 1].2 = true) ↔ pos b l (i, p) ≤ j - 1 := by
        constructor
        · intro q
          by_cases z : pos b l (i, p) ≤ j - 1
          · exact z
          · exact absurd q (Bf_asy (sp.1 (by omega)))
        · exact sp.2
      by_cases h : bef b i p l[j - 1].1 l[j - 1].2 = true
      · have h6 := hB.mp h
        rw [if_pos h, if_neg (by decide)]
        refine ih (j - 1) _ h6 (by omega) (by omega) (fun k q => ?_) (fun k q1 q2 => ?_)
        · rw [upd_ne (by omega)]
          exact h4 k (by omega)
        · by_cases z : k = j
          · rw [z, upd_eq, ← ho _ _ hg]
          · rw [upd_ne z]
            exact h5 k (by omega) q2
      · have h6 : ¬ pos b l (i, p) ≤ j - 1 := fun z => h (hB.mpr z)
        rw [if_neg h, if_pos rfl, show j = pos b l (i, p) by omega]
        exact ⟨OO, rfl, fun k q => h4 k (by omega), fun k q1 q2 => h5 k (by omega) q2⟩
theorem r_ins {O' : Nat → Int32} (hl : l.length < 80) (ho : RO O l) (i p : Nat) (e2 : ∀ k, k < pos b l (i, p) → O' k = O k) (e3 : ∀ k, pos b l (i, p) < k → k ≤ l.length → O' k = O (k - 1)) : RO (upd O' (pos b l (i, p)) (nn (10 * i + p))) (ins b l (i, p)) := by
  intro k e he
  rw [ins_get] at he
  by_cases h1 : k < pos b l (i, p)
  · rw [if_pos h1] at he
    rw [upd_ne (by omega), e2 k h1]
    exact ho k e he
  · rw [if_neg h1] at he
    by_cases h2 : k = pos b l (i, p)
    · rw [if_pos h2] at he
      cases he
      rw [h2, upd_eq]
    · rw [if_neg h2] at he
      have hk := (List.getElem?_eq_some_iff.mp he).1
      rw [upd_ne h2, e3 k (by omega) (by omega)]
      exact ho (k - 1) e he
theorem r_ord_L2 (hw : Wf b) (hr : RB A 0 b) {x : Nat} (hx : x < b.length) (kk : Int32 → (Nat → Int32) → Int32 → Option ((Nat → Int32) × Int32)) : ∀ (fuel k : Nat) (O : Nat → Int32) (l : List En), RO O l → Gd b x k l → k ≤ sz b x → sz b x < fuel + k → ∃ O', f_X9_orders_L17 (nn x) A fuel (nn k) O (nn l.length) kk = kk (nn (sz b x)) O' (nn (li b x k (sz b x - k) l).length) ∧ RO O' (li b x k (sz b x - k) l) := by
  have h8 := hw.1
  have h10 := hw.sz_le x
  intro fuel
  induction fuel with
  | zero => intro k O l h0 h1 h2 h3; omega
  | succ fuel ih =>
    intro k O l ho hg h2 h3
    rw [f_X9_orders_L17, r_size hw hr hx]
    simp (disch := omega) only [nn_add, nn_mul, nn_sub, nn_le, nn_lt, nn_eq, nn_div, ldi_nn, ldc_nn, sti_nn, Option.bind_some, if_true, if_false, not_true_eq_false, not_false_eq_true, Nat.add_zero, nl0, nl1, nl2, nl3, nl4, nl5, nl6, nl7, nl8, nl9, nl10, nl11, nl12, nl13, nl14, nl15, nl16, nl17, nl18, nl19, nl20, nl21, nl22, nl23, nl24, nl25, nl26, nl27, nl28, nl29, nl30, nl31, nl32, nl33, nl34, nl35, nl36, nl37, nl38, nl39, nl40, nl41, nl42, nl43, nl44, nl45, nl46, nl47, nl48, nl49, nl50, nl51, nl52, nl53, nl54, nl55, nl56, nl57, nl58, nl59, nl60, nl61, nl62, nl63, nl64, nl65, nl66, nl67, nl68, nl69, nl70, nl71, nl72, nl73, nl74, nl75, nl76, nl77, nl78, nl79, nl80, nl81, nl82, nl83, nl84, nl85, nl86, nl87, nl88, nl89, nl90, nl91, nl92, nl93, nl94, nl95, nl96, nl97, nl98, nl99, nl100, nl101, nl102, nl103, nl104, nl105, nl106, nl107, nl108, nl109, nl110, nl111, nl112, nl113, nl114, nl115, nl116, nl117, nl118, nl119, nl120, nl121, nl122, nl123, nl124, nl125, nl126, nl127, nl979, nl244, nl1000]
    by_cases hk : sz b x ≤ k
    · rw [if_pos hk, li_end _ _ _ hk, show k = sz b x by omega]
      exact ⟨O, rfl, ho⟩
    · have hlen := hg.2.2
      have hp := pos_le b l (x, k)
      have he : vld b (x, k) := by unfold vld; show k < sz b x; omega
      have hv : ∀ y ∈ l, vld b y ∧ y ≠ (x, k) := fun y hy => by
        have := (hg.2.1 y).mp hy
        refine ⟨this.1, fun q => ?_⟩
        rw [q] at this
        rcases this.2 with q | q
        · exact absurd q (Nat.lt_irrefl _)
        · exact absurd q.2 (Nat.lt_irrefl _)
      obtain ⟨O', e1, e2, e3⟩ := r_shift hw hr (by omega) ho hg.1 he hv (fun x4 q => (sti q 80 x4 (nn (10 * x + k))).bind fun g90 => f_X9_orders_L17 (nn x) A fuel (nn (k + 1)) g90 (nn (l.length + 1)) kk) 1000 l.length O hp (Nat.le_refl _) (by omega) (fun k _ => rfl) (fun k q1 q2 => by omega)
      rw [if_neg hk, e1, li_go _ _ _ (by omega), sti_nn (by omega) (by omega), Option.bind_some]
      have hl := ins_len b l (x, k)
      rw [← hl]
      exact ih (k + 1) _ (ins b l (x, k)) (r_ins (by omega) ho x k e2 e3) (hg.step he) (by omega) (by omega)
theorem r_ord_L1 (hw : Wf b) (hr : RB A 0 b) (kk : Int32 → (Nat → Int32) → Int32 → Option ((Nat → Int32) × Int32)) : ∀ (fuel x : Nat) (O : Nat → Int32) (l : List En), RO O l → Gd b x 0 l → x ≤ b.length → b.length < fuel + x → ∃ O', f_X9_orders_L7 A fuel (nn x) O (nn l.length) kk = kk (nn b.length) O' (nn (lo b x (b.length - x) l).length) ∧ RO O' (lo b x (b.length - x) l) := by
  have h8 := hw.1
  intro fuel
  induction fuel with
  | zero => intro k O l h0 h1 h2 h3; omega
  | succ fuel ih =>
    intro x O l ho hg h2 h3
    have h10 := hw.sz_le x
    rw [f_X9_orders_L7, r_many hr]
    simp (disch := omega) only [nn_add, nn_mul, nn_sub, nn_le, nn_lt, nn_eq, nn_div, ldi_nn, ldc_nn, sti_nn, Option.bind_some, if_true, if_false, not_true_eq_false, not_false_eq_true, Nat.add_zero, nl0, nl1, nl2, nl3, nl4, nl5, nl6, nl7, nl8, nl9, nl10, nl11, nl12, nl13, nl14, nl15, nl16, nl17, nl18, nl19, nl20, nl21, nl22, nl23, nl24, nl25, nl26, nl27, nl28, nl29, nl30, nl31, nl32, nl33, nl34, nl35, nl36, nl37, nl38, nl39, nl40, nl41, nl42, nl43, nl44, nl45, nl46, nl47, nl48, nl49, nl50, nl51, nl52, nl53, nl54, nl55, nl56, nl57, nl58, nl59, nl60, nl61, nl62, nl63, nl64, nl65, nl66, nl67, nl68, nl69, nl70, nl71, nl72, nl73, nl74, nl75, nl76, nl77, nl78, nl79, nl80, nl81, nl82, nl83, nl84, nl85, nl86, nl87, nl88, nl89, nl90, nl91, nl92, nl93, nl94, nl95, nl96, nl97, nl98, nl99, nl100, nl101, nl102, nl103, nl104, nl105, nl106, nl107, nl108, nl109, nl110, nl111, nl112, nl113, nl114, nl115, nl116, nl117, nl118, nl119, nl120, nl121, nl122, nl123, nl124, nl125, nl126, nl127, nl979, nl244, nl1000]
    by_cases hk : b.length ≤ x
    · rw [if_pos hk, lo_end _ _ hk, show x = b.length by omega]
      exact ⟨O, rfl, ho⟩
    · obtain ⟨O', e1, e2⟩ := r_ord_L2 hw hr (x := x) (by omega) (fun _ q1 q2 => f_X9_orders_L7 A fuel (nn (x + 1)) q1 q2 kk) 1000 0 O l ho hg (by omega) (by omega)
      rw [if_neg hk, e1, lo_go _ _ (by omega)]
      exact ih (x + 1) O' _ e2 (Gd.next hw (Gd.line (sz b x - 0) 0 (by omega) hg)) (by omega) (by omega)
theorem r_orders (hw : Wf b) (hr : RB A 0 b) (O : Nat → Int32) : ∃ O', f_X9_orders A O = some (O', nn (ord b).length) ∧ RO O' (ord b) := by
  have h8 := hw.1
  unfold f_X9_orders
  obtain ⟨O', e1, e2⟩ := r_ord_L1 hw hr (fun _ q1 q2 => some (q1, q2)) 1000 0 O [] (fun k e h => by simp at h) (Gd.nil b) (by omega) (by omega)
  exact ⟨O', e1, e2⟩
end RSORT
