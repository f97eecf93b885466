/-! WORDS BY HALVING -/
theorem lle_cons {a d : Nat} {u v : List Nat} (h : lle (a :: u) (d :: v)) : a < d ∨ (a = d ∧ lle u v) := by
  rcases h with h | h
  · rw [llt_cons] at h
    by_cases q : a = d
    · rw [if_pos q] at h
      exact Or.inr ⟨q, Or.inl h⟩
    · rw [if_neg q] at h
      exact Or.inl (of_decide_eq_true h)
  · exact Or.inr ⟨(List.cons.inj h).1, Or.inr (List.cons.inj h).2⟩
theorem cmw_mono : ∀ (u v w : List Nat), (∀ x ∈ w, 1 ≤ x) → lle u v → ((cmw u w).2 ≤ (cmw u w).1 → (cmw v w).2 ≤ (cmw v w).1) ∧ ((cmw u w).2 < (cmw u w).1 → (cmw v w).2 < (cmw v w).1)
  | u, v, [], _, _ => by rw [cmw_nil, cmw_nil]; exact ⟨fun h => h, fun h => h⟩
  | [], v, c :: w, hz, _ => by
    rw [cmw_nil']
    have := hz c List.mem_cons_self
    exact ⟨fun h => by have h : c ≤ 0 := h; omega, fun h => by have h : c < 0 := h; omega⟩
  | a :: u, [], c :: w, _, h => by rcases h with h | h <;> cases h
  | a :: u, d :: v, c :: w, hz, h => by
    rw [cmw_cons, cmw_cons]
    rcases lle_cons h with h | ⟨h, h2⟩
    · by_cases e1 : a = c
      · rw [if_pos e1, if_neg (show ¬ d = c by omega)]
        exact ⟨fun _ => by show c ≤ d; omega, fun _ => by show c < d; omega⟩
      · rw [if_neg e1]
        by_cases e2 : d = c
        · rw [if_pos e2]
          exact ⟨fun q => by have q : c ≤ a := q; omega, fun q => by have q : c < a := q; omega⟩
        · rw [if_neg e2]
          exact ⟨fun q => by have q : c ≤ a := q; show c ≤ d; omega, fun q => by have q : c < a := q; show c < d; omega⟩
    · have ih := cmw_mono u v w (fun x hx => hz x (List.mem_cons_of_mem _ hx)) h2
      by_cases e1 : a = c
      · rw [if_pos e1, if_pos (show d = c by omega)]
        exact ih
      · rw [if_neg e1, if_neg (show ¬ d = c by omega)]
        exact ⟨fun q => by have q : c ≤ a := q; show c ≤ d; omega, fun q => by have q : c < a := q; show c < d; omega⟩
/-- a question that stays true in a list, once it is: how many are ahead of it -/
theorem mono_cnt {α : Type} {Q : α → Bool} : ∀ {l : List α}, l.Pairwise (fun x y => Q x = true → Q y = true) → ∀ k (hk : k < l.length), (Q l[k] = true ↔ l.countP (fun x => !Q x) ≤ k)
  | [], _, k, hk => by simp at hk
  | y :: l, h, k, hk => by
    have h2 := List.pairwise_cons.mp h
    by_cases q : Q y = true
    · have all : ∀ x ∈ y :: l, Q x = true := fun x hx => by
        rcases List.mem_cons.mp hx with rfl | hx
        · exact q
        · exact h2.1 x hx q
      have e : (y :: l).countP (fun x => !Q x) = 0 := List.countP_eq_zero.mpr (fun x hx => by simp [all x hx])
      rw [e]
      exact ⟨fun _ => Nat.zero_le _, fun _ => all _ (List.getElem_mem hk)⟩
    · have e : (y :: l).countP (fun x => !Q x) = l.countP (fun x => !Q x) + 1 := List.countP_cons_of_pos (by simpa using q)
      rw [e]
      cases k with
      | zero => exact ⟨fun z => absurd z q, fun z => by omega⟩
      | succ k =>
        have ih := mono_cnt h2.2 k (by simpa using hk)
        rw [List.getElem_cons_succ, ih]
        omega
theorem nn_sub_le {x y : Nat} (hx : x < 1000000) (hy : y < 1000000) : (nn x - nn y ≤ -nn 1) = (x < y) ∧ (nn x - nn y ≤ nn 0) = (x ≤ y) := by
  have e : (nn x - nn y).toInt = (x : Int) - y := by
    rw [Int32.toInt_sub, nn_toInt (by omega), nn_toInt (by omega), Int.bmod_eq_of_le (by omega) (by omega)]
  have h1 : (-nn 1 : Int32).toInt = -1 := by decide
  have h0 : (nn 0 : Int32).toInt = 0 := by decide
  rw [Int32.le_iff_toInt_le, Int32.le_iff_toInt_le, e, h1, h0]
  exact ⟨propext (by omega), propext (by omega)⟩
section HALVE
variable {F S L P C : Nat → Int32} {n en l : Int32} {b : Bk} {w : List Nat}
theorem s_halve_L (hw : Wf b) (hc : CB F S n b) (ho : OR L P en (ord b)) (ht : TX C l w) (hr : wrd w = true) (bd : Int32) (Q : En → Bool) (hQ : ∀ e : En, vld b e → ((nn (cmw (sx b e) w).1 - nn (cmw (sx b e) w).2 ≤ bd) = (Q e = false))) (hmono : (ord b).Pairwise (fun x y => Q x = true → Q y = true)) : ∀ (fuel lo hi c : Nat), lo ≤ (ord b).countP (fun x => !Q x) → (ord b).countP (fun x => !Q x) ≤ hi → hi ≤ (ord b).length → c + (hi - lo) ≤ 90 → hi - lo < fuel → f_X3_firstRankAbove_L12 bd L P en F S n C l fuel (nn lo) (nn hi) (nn c) (fun x _ _ => some x) = some (nn ((ord b).countP (fun x => !Q x))) := by
  have hg := ord_good hw
  have h8 := hw.1
  have hl := wrd_ltr hr
  intro fuel
  induction fuel with
  | zero => intro lo hi c h1 h2 h3 h4 h5; omega
  | succ fuel ih =>
    intro lo hi c h1 h2 h3 h4 h5
    rw [f_X3_firstRankAbove_L12]
    simp (disch := omega) only [nn_add, nn_mul, nn_sub, nn_le, nn_lt, nn_eq, nn_div, ldi_nn, ldc_nn, sti_nn, Option.bind_some, if_true, if_false, not_true_eq_false, not_false_eq_true, Nat.add_zero, nl0, nl1, nl2, nl3, nl4, nl5, nl6, nl7, nl8, nl9, nl10, nl11, nl12, nl13, nl14, nl15, nl16, nl17, nl18, nl19, nl20, nl21, nl22, nl23, nl24, nl25, nl26, nl27, nl28, nl29, nl30, nl31, nl32, nl33, nl34, nl35, nl36, nl37, nl38, nl39, nl40, nl41, nl42, nl43, nl44, nl45, nl46, nl47, nl48, nl49, nl50, nl51, nl52, nl53, nl54, nl55, nl56, nl57, nl58, nl59, nl60, nl61, nl62, nl63, nl64, nl65, nl66, nl67, nl68, nl69, nl70, nl71, nl72, nl73, nl74, nl75, nl76, nl77, nl78, nl79, nl80, nl81, nl82, nl83, nl84, nl85, nl86, nl87, nl88, nl89, nl90, nl91, nl92, nl93, nl94, nl95, nl96, nl97, nl98, nl99, nl100, nl101, nl102, nl103, nl104, nl105, nl106, nl107, nl108, nl109, nl110, nl111, nl112, nl113, nl114, nl115, nl116, nl117, nl118, nl119, nl120, nl121, nl122, nl123, nl124, nl125, nl126, nl127, nl979, nl244, nl1000]
    rw [if_neg (by omega)]
    by_cases hk : hi ≤ lo
    · rw [if_pos hk, show lo = (ord b).countP (fun x => !Q x) by omega]
    · have hm : (lo + hi) / 2 < (ord b).length := by omega
      have gk : (ord b)[(lo + hi) / 2]? = some (ord b)[(lo + hi) / 2] := List.getElem?_eq_getElem hm
      have hv : (ord b)[(lo + hi) / 2].2 < sz b (ord b)[(lo + hi) / 2].1 := (hg.2.1 _).mp (List.getElem_mem hm)
      have hv1 := sz_in hv
      have hv2 := hw.sz_le (ord b)[(lo + hi) / 2].1
      have hq := hQ _ ((hg.2.1 _).mp (List.getElem_mem hm))
      have hcnt := mono_cnt hmono _ hm
      unfold sx at hq
      rw [if_neg hk, s_lineAt hg.2.2 ho gk, Option.bind_some, s_placeAt hg.2.2 ho gk, Option.bind_some, s_cmw hw hc ht (fun k hk => by have := hl.2.2 k hk; omega) (by omega) (by omega), Option.bind_some]
      by_cases h : Q (ord b)[(lo + hi) / 2] = true
      · have h6 := hcnt.mp h
        rw [if_neg (by rw [hq, h]; decide)]
        exact ih _ _ _ h1 h6 (by omega) (by omega) (by omega)
      · have h6 : ¬ (ord b).countP (fun x => !Q x) ≤ (lo + hi) / 2 := fun z => h (hcnt.mpr z)
        rw [if_pos (by rw [hq]; simpa using h)]
        exact ih _ _ _ (by omega) h2 h3 (by omega) (by omega)
end HALVE
