/-! THE READER'S ORDER OF ENDINGS -/
def llt : List Nat → List Nat → Bool
  | [], [] => false
  | [], _ :: _ => true
  | _ :: _, [] => false
  | a :: u, c :: v => if a = c then llt u v else decide (a < c)
theorem llt_irr : ∀ u : List Nat, llt u u = false
  | [] => rfl
  | a :: u => by rw [llt, if_pos rfl]; exact llt_irr u
theorem llt_trans : ∀ {u v w : List Nat}, llt u v = true → llt v w = true → llt u w = true
  | [], [], _, h, _ => by cases h
  | [], _ :: _, [], _, h => by cases h
  | [], _ :: _, _ :: _, _, _ => rfl
  | _ :: _, [], _, h, _ => by cases h
  | _ :: _, _ :: _, [], _, h => by cases h
  | a :: u, c :: v, d :: w, h1, h2 => by
    rw [llt] at h1 h2 ⊢
    by_cases e1 : a = c
    · rw [if_pos e1] at h1
      by_cases e2 : c = d
      · rw [if_pos e2] at h2
        rw [if_pos (e1.trans e2)]
        exact llt_trans h1 h2
      · rw [if_neg e2] at h2
        rw [if_neg (by omega)]
        have := of_decide_eq_true h2
        exact decide_eq_true (by omega)
    · rw [if_neg e1] at h1
      have g1 := of_decide_eq_true h1
      by_cases e2 : c = d
      · rw [if_neg (by omega)]
        exact decide_eq_true (by omega)
      · rw [if_neg e2] at h2
        have g2 := of_decide_eq_true h2
        rw [if_neg (by omega)]
        exact decide_eq_true (by omega)
theorem llt_tri : ∀ u v : List Nat, llt u v = true ∨ u = v ∨ llt v u = true
  | [], [] => Or.inr (Or.inl rfl)
  | [], _ :: _ => Or.inl rfl
  | _ :: _, [] => Or.inr (Or.inr rfl)
  | a :: u, c :: v => by
    rw [llt, llt]
    by_cases e : a = c
    · rw [if_pos e, if_pos e.symm, e]
      rcases llt_tri u v with h | h | h
      · exact Or.inl h
      · exact Or.inr (Or.inl (by rw [h]))
      · exact Or.inr (Or.inr h)
    · rw [if_neg e, if_neg (fun q => e q.symm)]
      rcases Nat.lt_or_gt_of_ne e with h | h
      · exact Or.inl (decide_eq_true h)
      · exact Or.inr (Or.inr (decide_eq_true h))
def befL (i j : Nat) (u v : List Nat) : Bool := llt u v || (decide (u = v) && decide (i < j))
def bef (b : Bk) (i p j q : Nat) : Bool := befL i j (sfx b i p) (sfx b j q)
theorem befL_iff {i j : Nat} {u v : List Nat} : befL i j u v = true ↔ llt u v = true ∨ (u = v ∧ i < j) := by unfold befL; simp
theorem bef_irr (b : Bk) (i p : Nat) : bef b i p i p = false := by
  unfold bef befL
  rw [llt_irr]
  simp
theorem bef_trans {b : Bk} {i p j q k r : Nat} (h1 : bef b i p j q = true) (h2 : bef b j q k r = true) : bef b i p k r = true := by
  unfold bef at h1 h2 ⊢
  rw [befL_iff] at h1 h2 ⊢
  rcases h1 with h1 | ⟨e1, l1⟩ <;> rcases h2 with h2 | ⟨e2, l2⟩
  · exact Or.inl (llt_trans h1 h2)
  · exact Or.inl (e2 ▸ h1)
  · exact Or.inl (e1 ▸ h2)
  · exact Or.inr ⟨e1.trans e2, by omega⟩
theorem bef_tri {b : Bk} {i p j q : Nat} (hp : p < sz b i) (hq : q < sz b j) : bef b i p j q = true ∨ (i = j ∧ p = q) ∨ bef b j q i p = true := by
  unfold bef
  rw [befL_iff, befL_iff]
  rcases llt_tri (sfx b i p) (sfx b j q) with h | h | h
  · exact Or.inl (Or.inl h)
  · rcases Nat.lt_trichotomy i j with l | l | l
    · exact Or.inl (Or.inr ⟨h, l⟩)
    · subst l
      have e := congrArg List.length h
      rw [sfx_len, sfx_len] at e
      exact Or.inr (Or.inl ⟨rfl, by omega⟩)
    · exact Or.inr (Or.inr (Or.inr ⟨h.symm, l⟩))
  · exact Or.inr (Or.inr (Or.inl h))
theorem bef_asy {b : Bk} {i p j q : Nat} (h1 : bef b i p j q = true) : bef b j q i p = false := by
  cases h : bef b j q i p with
  | false => rfl
  | true => have := bef_trans h1 h; rw [bef_irr] at this; cases this
theorem llt_cons (a c : Nat) (u v : List Nat) : llt (a :: u) (c :: v) = if a = c then llt u v else decide (a < c) := rfl
section CMP
variable {F S : Nat → Int32} {n : Int32} {b : Bk}
theorem s_comes_L (hw : Wf b) (hc : CB F S n b) {i p j q : Nat} (hi : i < 1000) (hp : p < 1000) (hj : j < 1000) (hq : q < 1000) : ∀ (fuel k : Nat), k ≤ 10 → 10 < fuel + k → f_X0_comesBefore_L3 (nn i) (nn p) (nn j) (nn q) F S n fuel (nn k) (fun _ => if nn j ≤ nn i then (some (nn 0)) else (some (nn 1))) = some (if befL i j (sfx b i (p + k)) (sfx b j (q + k)) = true then nn 1 else nn 0) := by
  intro fuel
  induction fuel with
  | zero => intro k h1 h2; omega
  | succ fuel ih =>
    intro k h1 h2
    have h10 := hw.sz_le i
    have h11 := hw.sz_le j
    rw [f_X0_comesBefore_L3]
    simp (disch := omega) only [nn_add, nn_mul, nn_sub, nn_le, nn_lt, nn_eq, nn_div, ldi_nn, ldc_nn, sti_nn, Option.bind_some, if_true, if_false, not_true_eq_false, not_false_eq_true, Nat.add_zero, nl0, nl1, nl2, nl3, nl4, nl5, nl6, nl7, nl8, nl9, nl10, nl11, nl12, nl13, nl14, nl15, nl16, nl17, nl18, nl19, nl20, nl21, nl22, nl23, nl24, nl25, nl26, nl27, nl28, nl29, nl30, nl31, nl32, nl33, nl34, nl35, nl36, nl37, nl38, nl39, nl40, nl41, nl42, nl43, nl44, nl45, nl46, nl47, nl48, nl49, nl50, nl51, nl52, nl53, nl54, nl55, nl56, nl57, nl58, nl59, nl60, nl61, nl62, nl63, nl64, nl65, nl66, nl67, nl68, nl69, nl70, nl71, nl72, nl73, nl74, nl75, nl76, nl77, nl78, nl79, nl80, nl81, nl82, nl83, nl84, nl85, nl86, nl87, nl88, nl89, nl90, nl91, nl92, nl93, nl94, nl95, nl96, nl97, nl98, nl99, nl100, nl101, nl102, nl103, nl104, nl105, nl106, nl107, nl108, nl109, nl110, nl111, nl112, nl113, nl114, nl115, nl116, nl117, nl118, nl119, nl120, nl121, nl122, nl123, nl124, nl125, nl126, nl127, nl979, nl244, nl1000]
    by_cases hk : 10 ≤ k
    · rw [if_pos hk, sfx_nil (by omega), sfx_nil (by omega)]
      unfold befL
      by_cases e : j ≤ i
      · rw [if_pos e, if_neg]
        simp [llt]
        omega
      · rw [if_neg e, if_pos]
        simp [llt]
        omega
    · rw [if_neg hk, s_letterAt hw hc (by omega) (by omega)]
      have l1 := hw.lt_le i (p + k)
      have l2 := hw.lt_le j (q + k)
      simp (disch := omega) only [nn_add, nn_mul, nn_sub, nn_le, nn_lt, nn_eq, nn_div, ldi_nn, ldc_nn, sti_nn, Option.bind_some, if_true, if_false, not_true_eq_false, not_false_eq_true, Nat.add_zero, nl0, nl1, nl2, nl3, nl4, nl5, nl6, nl7, nl8, nl9, nl10, nl11, nl12, nl13, nl14, nl15, nl16, nl17, nl18, nl19, nl20, nl21, nl22, nl23, nl24, nl25, nl26, nl27, nl28, nl29, nl30, nl31, nl32, nl33, nl34, nl35, nl36, nl37, nl38, nl39, nl40, nl41, nl42, nl43, nl44, nl45, nl46, nl47, nl48, nl49, nl50, nl51, nl52, nl53, nl54, nl55, nl56, nl57, nl58, nl59, nl60, nl61, nl62, nl63, nl64, nl65, nl66, nl67, nl68, nl69, nl70, nl71, nl72, nl73, nl74, nl75, nl76, nl77, nl78, nl79, nl80, nl81, nl82, nl83, nl84, nl85, nl86, nl87, nl88, nl89, nl90, nl91, nl92, nl93, nl94, nl95, nl96, nl97, nl98, nl99, nl100, nl101, nl102, nl103, nl104, nl105, nl106, nl107, nl108, nl109, nl110, nl111, nl112, nl113, nl114, nl115, nl116, nl117, nl118, nl119, nl120, nl121, nl122, nl123, nl124, nl125, nl126, nl127, nl979, nl244, nl1000]
      rw [s_letterAt hw hc (by omega) (by omega)]
      simp (disch := omega) only [nn_add, nn_mul, nn_sub, nn_le, nn_lt, nn_eq, nn_div, ldi_nn, ldc_nn, sti_nn, Option.bind_some, if_true, if_false, not_true_eq_false, not_false_eq_true, Nat.add_zero, nl0, nl1, nl2, nl3, nl4, nl5, nl6, nl7, nl8, nl9, nl10, nl11, nl12, nl13, nl14, nl15, nl16, nl17, nl18, nl19, nl20, nl21, nl22, nl23, nl24, nl25, nl26, nl27, nl28, nl29, nl30, nl31, nl32, nl33, nl34, nl35, nl36, nl37, nl38, nl39, nl40, nl41, nl42, nl43, nl44, nl45, nl46, nl47, nl48, nl49, nl50, nl51, nl52, nl53, nl54, nl55, nl56, nl57, nl58, nl59, nl60, nl61, nl62, nl63, nl64, nl65, nl66, nl67, nl68, nl69, nl70, nl71, nl72, nl73, nl74, nl75, nl76, nl77, nl78, nl79, nl80, nl81, nl82, nl83, nl84, nl85, nl86, nl87, nl88, nl89, nl90, nl91, nl92, nl93, nl94, nl95, nl96, nl97, nl98, nl99, nl100, nl101, nl102, nl103, nl104, nl105, nl106, nl107, nl108, nl109, nl110, nl111, nl112, nl113, nl114, nl115, nl116, nl117, nl118, nl119, nl120, nl121, nl122, nl123, nl124, nl125, nl126, nl127, nl979, nl244, nl1000]
      have hih := ih (k + 1) (by omega) (by omega)
      simp (disch := omega) only [nn_add, nn_mul, nn_sub, nn_le, nn_lt, nn_eq, nn_div, ldi_nn, ldc_nn, sti_nn, Option.bind_some, if_true, if_false, not_true_eq_false, not_false_eq_true, Nat.add_zero, nl0, nl1, nl2, nl3, nl4, nl5, nl6, nl7, nl8, nl9, nl10, nl11, nl12, nl13, nl14, nl15, nl16, nl17, nl18, nl19, nl20, nl21, nl22, nl23, nl24, nl25, nl26, nl27, nl28, nl29, nl30, nl31, nl32, nl33, nl34, nl35, nl36, nl37, nl38, nl39, nl40, nl41, nl42, nl43, nl44, nl45, nl46, nl47, nl48, nl49, nl50, nl51, nl52, nl53, nl54, nl55, nl56, nl57, nl58, nl59, nl60, nl61, nl62, nl63, nl64, nl65, nl66, nl67, nl68, nl69, nl70, nl71, nl72, nl73, nl74, nl75, nl76, nl77, nl78, nl79, nl80, nl81, nl82, nl83, nl84, nl85, nl86, nl87, nl88, nl89, nl90, nl91, nl92, nl93, nl94, nl95, nl96, nl97, nl98, nl99, nl100, nl101, nl102, nl103, nl104, nl105, nl106, nl107, nl108, nl109, nl110, nl111, nl112, nl113, nl114, nl115, nl116, nl117, nl118, nl119, nl120, nl121, nl122, nl123, nl124, nl125, nl126, nl127, nl979, nl244, nl1000] at hih
      rw [show p + (k + 1) = p + k + 1 by omega, show q + (k + 1) = q + k + 1 by omega] at hih
      by_cases e1 : p + k < sz b i
      · have g1 := hw.lt_ge e1
        by_cases e2 : q + k < sz b j
        · rw [sfx_cons e1, sfx_cons e2]
          by_cases e : lt b i (p + k) = lt b j (q + k)
          · rw [if_pos e, hih, e]
            congr 1
            unfold befL
            rw [llt_cons, if_pos rfl]
            simp
          · rw [if_neg e]
            unfold befL
            rw [llt_cons, if_neg e]
            by_cases f : lt b j (q + k) ≤ lt b i (p + k)
            · rw [if_pos f, if_neg]
              simp [e]
              omega
            · rw [if_neg f, if_pos]
              simp
              omega
        · rw [sfx_cons e1, sfx_nil e2, lt_out e2, if_neg (by omega), if_pos (by omega), if_neg]
          simp [befL, llt]
      · by_cases e2 : q + k < sz b j
        · have g2 := hw.lt_ge e2
          rw [sfx_nil e1, sfx_cons e2, lt_out e1, if_neg (by omega), if_neg (by omega), if_pos]
          simp [befL, llt]
        · rw [lt_out e1, lt_out e2, if_pos rfl, hih, sfx_nil e1, sfx_nil e2, sfx_nil (by omega), sfx_nil (by omega)]
theorem s_comes (hw : Wf b) (hc : CB F S n b) {i p j q : Nat} (hi : i < 1000) (hp : p < 1000) (hj : j < 1000) (hq : q < 1000) : f_X0_comesBefore F S n (nn i) (nn p) (nn j) (nn q) = some (if bef b i p j q = true then nn 1 else nn 0) := by
  unfold f_X0_comesBefore
  exact s_comes_L hw hc hi hp hj hq 1000 0 (by omega) (by omega)
end CMP

