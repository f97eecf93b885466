/-! WORDS BY HALVING -/
theorem lle_cons {a d : Nat} {u v : List Nat} (h : lle (a :: u) (d :: v)) : a < d ∨ (a = d ∧ lle u v) := by
  rcases h with h | h
  · rw [llt_cons] at h
    by_cases q : a = d
    · rw [if_pos q] at h
      exact Or.inr ⟨q, Or.inl h⟩
    · rw [if_neg q] at h
      exact Or.inl (of_decide_eq_true h)
  · exact Or.inr ⟨(List.cons.inj h).1, Or.inr (List.cons.inj h).2⟩
theorem cmw_mono : ∀ (u v w : List Nat), (∀ x ∈ w, 1 ≤ x) → lle u v → ((cmw u w).2 ≤ (cmw u w).1 → (cmw v w).2 ≤ (cmw v w).1) ∧ ((cmw u w).2 < (cmw u w).1 → (cmw v w).2 < (cmw v w).1)
  | u, v, [], _, _ => by rw [cmw_nil, cmw_nil]; exact ⟨fun h => h, fun h => h⟩
  | [], v, c :: w, hz, _ => by
    rw [cmw_nil']
    have := hz c List.mem_cons_self
    exact ⟨fun h => by have h : c ≤ 0 := h; omega, fun h => by have h : c < 0 := h; omega⟩
  | a :: u, [], c :: w, _, h => by rcases h with h | h <;> cases h
  | a :: u, d :: v, c :: w, hz, h => by
    rw [cmw_cons, cmw_cons]
    rcases lle_cons h with h | ⟨h, h2⟩
    · by_cases e1 : a = c
      · rw [if_pos e1, if_neg (show ¬ d = c by omega)]
        exact ⟨fun _ => by show c ≤ d; omega, fun _ => by show c < d; omega⟩
      · rw [if_neg e1]
        by_cases e2 : d = c
        · rw [if_pos e2]
          exact ⟨fun q => by have q : c ≤ a := q; omega, fun q => by have q : c < a := q; omega⟩
        · rw [if_neg e2]
          exact ⟨fun q => by have q : c ≤ a := q; show c ≤ d; omega, fun q => by have q : c < a := q; show c < d; omega⟩
    · have ih := cmw_mono u v w (fun x hx => hz x (List.mem_cons_of_mem _ hx)) h2
      by_cases e1 : a = c
      · rw [if_pos e1, if_pos (show d = c by omega)]
        exact ih
      · rw [if_neg e1, if_neg (show ¬ d = c by omega)]
        exact ⟨fun q => by have q : c ≤ a := q; show c ≤ d; omega, fun q => by have q : c < a := q; show c < d; omega⟩
/-- a question that stays true in a list, once it is: how many are ahead of it -/
theorem mono_cnt {α : Type} {Q : α → Bool} : ∀ {l : List α}, l.Pairwise (fun x y => Q x = true → Q y = true) → ∀ k (hk : k < l.length), (Q l[k] = true ↔ l.countP (fun x => !Q x) ≤ k)
  | [], _, k, hk => by simp at hk
  | y :: l, h, k, hk => by
    have h2 := List.pairwise_cons.mp h
    by_cases q : Q y = true
    · have all : ∀ x ∈ y :: l, Q x = true := fun x hx => by
        rcases List.mem_cons.mp hx with rfl | hx
        · exact q
        · exact h2.1 x hx q
      have e : (y :: l).countP (fun x => !Q x) = 0 := List.countP_eq_zero.mpr (fun x hx => by simp [all x hx])
      rw [e]
      exact ⟨fun _ => Nat.zero_le _, fun _ => all _ (List.getElem_mem hk)⟩
    · have e : (y :: l).countP (fun x => !Q x) = l.countP (fun x => !Q x) + 1 := List.countP_cons_of_pos (by simpa using q)
      rw [e]
      cases k with
      | zero => exact ⟨fun z => absurd z q, fun z => by omega⟩
      | succ k =>
        have ih := mono_cnt h2.2 k (by simpa using hk)
        rw [List.getElem_cons_succ, ih]
        omega
theorem nn_sub_le {x y : Nat} (hx : x < 1000000) (hy : y < 1000000) : (nn x - nn y ≤ -nn 1) = (x < y) ∧ (nn x - nn y ≤ nn 0) = (x ≤ y) := by
  have e : (nn x - nn y).toInt = (x : Int) - y := by
    rw [Int32.toInt_sub, nn_toInt (by omega), nn_toInt (by omega), Int.bmod_eq_of_le (by omega) (by omega)]
  have h1 : (-nn 1 : Int32).toInt = -1 := by decide
  have h0 : (nn 0 : Int32).toInt = 0 := by decide
  rw [Int32.le_iff_toInt_le, Int32.le_iff_toInt_le, e, h1, h0]
  exact ⟨propext (by omega), propext (by omega)⟩
section HALVE
variable {F S L P C : Nat → Int32} {n en l : Int32} {b : Bk} {w : List Nat}
theorem s_halve_L (hw : Wf b) (hc : CB F S n b) (ho : OR L P en (ord b)) (ht : TXx C l w) (hr : wrd w = true) (bd : Int32) (Q : En → Bool) (hQ : ∀ e : En, vld b e → ((nn (cmw (sx b e) w).1 - nn (cmw (sx b e) w).2 ≤ bd) = (Q e = false))) (hmono : (ord b).Pairwise (fun x y => Q x = true → Q y = true)) : ∀ (fuel lo hi c : Nat), lo ≤ (ord b).countP (fun x => !Q x) → (ord b).countP (fun x => !Q x) ≤ hi → hi ≤ (ord b).length → c + (hi - lo) ≤ 90 → hi - lo < fuel → f_X3_firstRankAbove_L12 bd L P en F S n C l fuel (nn lo) (nn hi) (nn c) (fun x _ _ => some x) = some (nn ((ord b).countP (fun x => !Q x))) := by
  have hg := ord_good hw
  have h8 := hw.1
  have hl := wrd_ltr hr
  intro fuel
  induction fuel with
  | zero => intro lo hi c h1 h2 h3 h4 h5; omega
  | succ fuel ih =>
    intro lo hi c h1 h2 h3 h4 h5
    rw [f_X3_firstRankAbove_L12]
    simp (disch := omega) only [nn_add, nn_mul, nn_sub, nn_le, nn_lt, nn_eq, nn_div, ldi_nn, ldc_nn, sti_nn, Option.bind_some, if_true, if_false, not_true_eq_false, not_false_eq_true, Nat.add_zero, nl0, nl1, nl2, nl3, nl4, nl5, nl6, nl7, nl8, nl9, nl10, nl11, nl12, nl13, nl14, nl15, nl16, nl17, nl18, nl19, nl20, nl21, nl22, nl23, nl24, nl25, nl26, nl27, nl28, nl29, nl30, nl31, nl32, nl33, nl34, nl35, nl36, nl37, nl38, nl39, nl40, nl41, nl42, nl43, nl44, nl45, nl46, nl47, nl48, nl49, nl50, nl51, nl52, nl53, nl54, nl55, nl56, nl57, nl58, nl59, nl60, nl61, nl62, nl63, nl64, nl65, nl66, nl67, nl68, nl69, nl70, nl71, nl72, nl73, nl74, nl75, nl76, nl77, nl78, nl79, nl80, nl81, nl82, nl83, nl84, nl85, nl86, nl87, nl88, nl89, nl90, nl91, nl92, nl93, nl94, nl95, nl96, nl97, nl98, nl99, nl100, nl101, nl102, nl103, nl104, nl105, nl106, nl107, nl108, nl109, nl110, nl111, nl112, nl113, nl114, nl115, nl116, nl117, nl118, nl119, nl120, nl121, nl122, nl123, nl124, nl125, nl126, nl127, nl979, nl244, nl1000]
    rw [if_neg (by omega)]
    by_cases hk : hi ≤ lo
    · rw [if_pos hk, show lo = (ord b).countP (fun x => !Q x) by omega]
    · have hm : (lo + hi) / 2 < (ord b).length := by omega
      have gk : (ord b)[(lo + hi) / 2]? = some (ord b)[(lo + hi) / 2] := List.getElem?_eq_getElem hm
      have hv : (ord b)[(lo + hi) / 2].2 < sz b (ord b)[(lo + hi) / 2].1 := (hg.2.1 _).mp (List.getElem_mem hm)
      have hv1 := sz_in hv
      have hv2 := hw.sz_le (ord b)[(lo + hi) / 2].1
      have hq := hQ _ ((hg.2.1 _).mp (List.getElem_mem hm))
      have hcnt := mono_cnt hmono _ hm
      unfold sx at hq
      rw [if_neg hk, s_lineAt hg.2.2 ho gk, Option.bind_some, s_placeAt hg.2.2 ho gk, Option.bind_some, s_cmw hw hc ht (fun k hk => by have := hl.2.2 k hk; omega) (by omega) (by omega), Option.bind_some]
      by_cases h : Q (ord b)[(lo + hi) / 2] = true
      · have h6 := hcnt.mp h
        rw [if_neg (by rw [hq, h]; decide)]
        exact ih _ _ _ h1 h6 (by omega) (by omega) (by omega)
      · have h6 : ¬ (ord b).countP (fun x => !Q x) ≤ (lo + hi) / 2 := fun z => h (hcnt.mpr z)
        rw [if_pos (by rw [hq]; simpa using h)]
        exact ih _ _ _ (by omega) h2 h3 (by omega) (by omega)
def qlo (b : Bk) (w : List Nat) (e : En) : Bool := decide ((cmw (sx b e) w).2 ≤ (cmw (sx b e) w).1)
def qhi (b : Bk) (w : List Nat) (e : En) : Bool := decide ((cmw (sx b e) w).2 < (cmw (sx b e) w).1)
def wlo (b : Bk) (w : List Nat) : Nat := (ord b).countP (fun e => !qlo b w e)
def whi (b : Bk) (w : List Nat) : Nat := (ord b).countP (fun e => !qhi b w e)
theorem cmw_bd {b : Bk} (hw : Wf b) (hr : wrd w = true) (e : En) : (cmw (sx b e) w).1 ≤ 122 ∧ (cmw (sx b e) w).2 ≤ 122 := cmw_le (M := 122) (sx b e) w (hw.sfx_le e.1 e.2) (mem_getD fun k hk => ((wrd_ltr hr).2.2 k hk).2)
theorem wrd_one (hr : wrd w = true) : ∀ x ∈ w, 1 ≤ x := fun x hx => by
  obtain ⟨k, hk, rfl⟩ := List.getElem_of_mem hx
  have := ((wrd_ltr hr).2.2 k hk).1
  rw [List.getD_eq_getElem?_getD, List.getElem?_eq_getElem hk] at this
  have : 97 ≤ w[k] := this
  omega
theorem s_notBefore (hw : Wf b) (hc : CB F S n b) (ho : OR L P en (ord b)) (ht : TXx C l w) (hr : wrd w = true) : f_X3_firstRankNotBefore L P en F S n C l = some (nn (wlo b w)) := by
  have hg := ord_good hw
  have e := s_halve_L hw hc ho ht hr (-nn 1) (qlo b w) (fun e he => by
    have hb := cmw_bd (w := w) hw hr e
    rw [(nn_sub_le (by omega) (by omega)).1]
    unfold qlo
    rw [decide_eq_false_iff_not]
    exact propext (by omega)) (hg.1.imp (fun {x y} h => by
      unfold qlo
      rw [decide_eq_true_iff, decide_eq_true_iff]
      exact (cmw_mono _ _ w (wrd_one hr) (Bf_lle h)).1)) 1000 0 (ord b).length 0 (Nat.zero_le _) List.countP_le_length (Nat.le_refl _) (by omega) (by omega)
  unfold f_X3_firstRankNotBefore f_X3_firstRankAbove
  rw [← ho.1] at e
  have e' : f_X3_firstRankAbove_L12 (-1) L P en F S n C l 1000 0 en 0 (fun x _ _ => some x) = some (nn (wlo b w)) := e
  rw [e']
  rfl
theorem s_behind (hw : Wf b) (hc : CB F S n b) (ho : OR L P en (ord b)) (ht : TXx C l w) (hr : wrd w = true) : f_X3_firstRankBehind L P en F S n C l = some (nn (whi b w)) := by
  have hg := ord_good hw
  have e := s_halve_L hw hc ho ht hr (nn 0) (qhi b w) (fun e he => by
    have hb := cmw_bd (w := w) hw hr e
    rw [(nn_sub_le (by omega) (by omega)).2]
    unfold qhi
    rw [decide_eq_false_iff_not]
    exact propext (by omega)) (hg.1.imp (fun {x y} h => by
      unfold qhi
      rw [decide_eq_true_iff, decide_eq_true_iff]
      exact (cmw_mono _ _ w (wrd_one hr) (Bf_lle h)).2)) 1000 0 (ord b).length 0 (Nat.zero_le _) List.countP_le_length (Nat.le_refl _) (by omega) (by omega)
  unfold f_X3_firstRankBehind f_X3_firstRankAbove
  rw [← ho.1] at e
  have e' : f_X3_firstRankAbove_L12 0 L P en F S n C l 1000 0 en 0 (fun x _ _ => some x) = some (nn (whi b w)) := e
  rw [e']
  rfl
theorem cnt_add {α : Type} {p q r : α → Bool} (h : ∀ x, one (p x) = one (q x) + one (r x)) : ∀ l : List α, l.countP p = l.countP q + l.countP r
  | [] => rfl
  | x :: l => by
    have ih := cnt_add h l
    have hx := h x
    unfold one at hx
    rw [List.countP_cons, List.countP_cons, List.countP_cons, ih]
    omega
theorem whi_eq (b : Bk) (w : List Nat) : whi b w = wlo b w + cntw b w := by
  have h1 := cnt_add (p := fun e => !qhi b w e) (q := fun e => !qlo b w e) (r := fun e : En => pfx (sx b e) w) (fun e => by
    unfold qhi qlo pfx one
    rcases Nat.lt_trichotomy (cmw (sx b e) w).1 (cmw (sx b e) w).2 with h | h | h
    · simp [show ¬ (cmw (sx b e) w).2 < (cmw (sx b e) w).1 by omega, show ¬ (cmw (sx b e) w).2 ≤ (cmw (sx b e) w).1 by omega, show ¬ (cmw (sx b e) w).1 = (cmw (sx b e) w).2 by omega]
    · simp [h]
    · simp [show (cmw (sx b e) w).2 < (cmw (sx b e) w).1 by omega, show (cmw (sx b e) w).2 ≤ (cmw (sx b e) w).1 by omega, show ¬ (cmw (sx b e) w).1 = (cmw (sx b e) w).2 by omega]) (ord b)
  have h2 := cnt_ord (fun e => pfx (sx b e) w) b
  unfold whi wlo cntw
  rw [h1, h2]
  rfl
theorem finds_nn (b : Bk) (w : List Nat) : nn (whi b w) - nn (wlo b w) = nn (cntw b w) := by
  rw [nn_sub (by rw [whi_eq]; omega), whi_eq, Nat.add_sub_cancel_left]
end HALVE

