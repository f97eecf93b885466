/-! THE CLASS SORTS THE ENDINGS -/
def OR (L P : Nat → Int32) (en : Int32) (l : List En) : Prop := en = nn l.length ∧ ∀ (k : Nat) (e : En), l[k]? = some e → L k = nn e.1 ∧ P k = nn e.2
theorem nn_pred {a : Nat} (h : 1 ≤ a) : nn a + -nn 1 = nn (a - 1) := by
  rw [← Int32.sub_eq_add_neg, nn_sub h]
section CSORT
variable {F S L P : Nat → Int32} {n en : Int32} {b : Bk} {l : List En}
theorem s_hasRank (hl : l.length ≤ 80) (ho : OR L P en l) {k : Nat} (hk : k < 1000) : f_X3_hasRank en (nn k) = some (if k < l.length then nn 1 else nn 0) := by
  unfold f_X3_hasRank
  rw [ho.1]
  simp (disch := omega) only [nn_add, nn_mul, nn_sub, nn_le, nn_lt, nn_eq, nn_div, ldi_nn, ldc_nn, sti_nn, Option.bind_some, if_true, if_false, not_true_eq_false, not_false_eq_true, Nat.add_zero, nl0, nl1, nl2, nl3, nl4, nl5, nl6, nl7, nl8, nl9, nl10, nl11, nl12, nl13, nl14, nl15, nl16, nl17, nl18, nl19, nl20, nl21, nl22, nl23, nl24, nl25, nl26, nl27, nl28, nl29, nl30, nl31, nl32, nl33, nl34, nl35, nl36, nl37, nl38, nl39, nl40, nl41, nl42, nl43, nl44, nl45, nl46, nl47, nl48, nl49, nl50, nl51, nl52, nl53, nl54, nl55, nl56, nl57, nl58, nl59, nl60, nl61, nl62, nl63, nl64, nl65, nl66, nl67, nl68, nl69, nl70, nl71, nl72, nl73, nl74, nl75, nl76, nl77, nl78, nl79, nl80, nl81, nl82, nl83, nl84, nl85, nl86, nl87, nl88, nl89, nl90, nl91, nl92, nl93, nl94, nl95, nl96, nl97, nl98, nl99, nl100, nl101, nl102, nl103, nl104, nl105, nl106, nl107, nl108, nl109, nl110, nl111, nl112, nl113, nl114, nl115, nl116, nl117, nl118, nl119, nl120, nl121, nl122, nl123, nl124, nl125, nl126, nl127, nl979, nl244, nl1000]
  rw [if_neg (by omega)]
  by_cases h : k < l.length
  · rw [if_neg (by omega), if_pos h]
  · rw [if_pos (by omega), if_neg h]
theorem s_lineAt (hl : l.length ≤ 80) (ho : OR L P en l) {k : Nat} {e : En} (he : l[k]? = some e) : f_X3_lineAt L en (nn k) = some (nn e.1) := by
  have hk := (List.getElem?_eq_some_iff.mp he).1
  unfold f_X3_lineAt
  rw [s_hasRank hl ho (by omega), if_pos hk, Option.bind_some, if_neg (by decide), ldi_nn (by omega) (by omega), (ho.2 k e he).1]
  rfl
theorem s_placeAt (hl : l.length ≤ 80) (ho : OR L P en l) {k : Nat} {e : En} (he : l[k]? = some e) : f_X3_placeAt P en (nn k) = some (nn e.2) := by
  have hk := (List.getElem?_eq_some_iff.mp he).1
  unfold f_X3_placeAt
  rw [s_hasRank hl ho (by omega), if_pos hk, Option.bind_some, if_neg (by decide), ldi_nn (by omega) (by omega), (ho.2 k e he).2]
  rfl
theorem s_take_L (hw : Wf b) (hc : CB F S n b) (hl : l.length ≤ 80) (ho : OR L P en l) (hs : Srt b l) {i p : Nat} (he : vld b (i, p)) (hv : ∀ x ∈ l, vld b x ∧ x ≠ (i, p)) : ∀ (fuel lo hi c : Nat), lo ≤ pos b l (i, p) → pos b l (i, p) ≤ hi → hi ≤ l.length → c + (hi - lo) ≤ 90 → hi - lo < fuel → f_X3_rankToTake_L12 (nn i) (nn p) L P en F S n fuel (nn lo) (nn hi) (nn c) (fun x _ _ => some x) = some (nn (pos b l (i, p))) := by
  have h8 := hw.1
  have hi8 := sz_in he
  have hp10 := hw.sz_le i
  have hp : p < sz b i := he
  intro fuel
  induction fuel with
  | zero => intro lo hi c h1 h2 h3 h4 h5; omega
  | succ fuel ih =>
    intro lo hi c h1 h2 h3 h4 h5
    rw [f_X3_rankToTake_L12]
    simp (disch := omega) only [nn_add, nn_mul, nn_sub, nn_le, nn_lt, nn_eq, nn_div, ldi_nn, ldc_nn, sti_nn, Option.bind_some, if_true, if_false, not_true_eq_false, not_false_eq_true, Nat.add_zero, nl0, nl1, nl2, nl3, nl4, nl5, nl6, nl7, nl8, nl9, nl10, nl11, nl12, nl13, nl14, nl15, nl16, nl17, nl18, nl19, nl20, nl21, nl22, nl23, nl24, nl25, nl26, nl27, nl28, nl29, nl30, nl31, nl32, nl33, nl34, nl35, nl36, nl37, nl38, nl39, nl40, nl41, nl42, nl43, nl44, nl45, nl46, nl47, nl48, nl49, nl50, nl51, nl52, nl53, nl54, nl55, nl56, nl57, nl58, nl59, nl60, nl61, nl62, nl63, nl64, nl65, nl66, nl67, nl68, nl69, nl70, nl71, nl72, nl73, nl74, nl75, nl76, nl77, nl78, nl79, nl80, nl81, nl82, nl83, nl84, nl85, nl86, nl87, nl88, nl89, nl90, nl91, nl92, nl93, nl94, nl95, nl96, nl97, nl98, nl99, nl100, nl101, nl102, nl103, nl104, nl105, nl106, nl107, nl108, nl109, nl110, nl111, nl112, nl113, nl114, nl115, nl116, nl117, nl118, nl119, nl120, nl121, nl122, nl123, nl124, nl125, nl126, nl127, nl979, nl244, nl1000]
    rw [if_neg (by omega)]
    by_cases hk : hi ≤ lo
    · rw [if_pos hk, show lo = pos b l (i, p) by omega]
    · have hm : (lo + hi) / 2 < l.length := by omega
      have hg : l[(lo + hi) / 2]? = some l[(lo + hi) / 2] := List.getElem?_eq_getElem hm
      have hva := (hv _ (List.getElem_mem hm)).1
      have hva1 := sz_in hva
      have hva2 := hw.sz_le l[(lo + hi) / 2].1
      have hva3 : l[(lo + hi) / 2].2 < sz b l[(lo + hi) / 2].1 := hva
      have sp := split_at he hs hv hm
      rw [if_neg hk, s_lineAt hl ho hg, Option.bind_some, s_placeAt hl ho hg, Option.bind_some, s_comes hw hc (by omega) (by omega) (by omega) (by omega), Option.bind_some]
      have hB : (bef b l[(lo + hi) / 2].1 l[(lo + hi) / 2].2 i p = true) ↔ (lo + hi) / 2 < pos b l (i, p) := by
        constructor
        · intro q
          by_cases z : (lo + hi) / 2 < pos b l (i, p)
          · exact z
          · exact absurd q (Bf_asy (sp.2 (by omega)))
        · exact sp.1
      by_cases h : bef b l[(lo + hi) / 2].1 l[(lo + hi) / 2].2 i p = true
      · have h6 := hB.mp h
        rw [if_pos h, if_neg (by decide)]
        exact ih _ _ _ (by omega) h2 h3 (by omega) (by omega)
      · have h6 : ¬ (lo + hi) / 2 < pos b l (i, p) := fun z => h (hB.mpr z)
        rw [if_neg h, if_pos rfl]
        exact ih _ _ _ h1 (by omega) (by omega) (by omega) (by omega)
theorem s_take (hw : Wf b) (hc : CB F S n b) (hl : l.length ≤ 80) (ho : OR L P en l) (hs : Srt b l) {i p : Nat} (he : vld b (i, p)) (hv : ∀ x ∈ l, vld b x ∧ x ≠ (i, p)) : f_X3_rankToTake L P en F S n (nn i) (nn p) = some (nn (pos b l (i, p))) := by
  unfold f_X3_rankToTake
  have hp := pos_le b l (i, p)
  have e := s_take_L hw hc hl ho hs he hv 1000 0 l.length 0 (by omega) hp (by omega) (by omega) (by omega)
  rw [← ho.1] at e
  exact e
theorem s_shift_L {r len : Nat} (hl : len < 80) (kk : Int32 → (Nat → Int32) → (Nat → Int32) → Option ((Nat → Int32) × (Nat → Int32) × Int32)) : ∀ (fuel j : Nat) (LL PP : Nat → Int32), r ≤ j → j ≤ len → j < fuel + r → (∀ k, k ≤ j → LL k = L k ∧ PP k = P k ∨ (k = j ∧ j < len)) → (∀ k, k < j → LL k = L k ∧ PP k = P k) → (∀ k, j < k → k ≤ len → LL k = L (k - 1) ∧ PP k = P (k - 1)) → ∃ L' P', f_X3_insert_L27 (nn r) fuel (nn j) LL PP kk = kk (nn r) L' P' ∧ (∀ k, k < r → L' k = L k ∧ P' k = P k) ∧ (∀ k, r < k → k ≤ len → L' k = L (k - 1) ∧ P' k = P (k - 1)) := by
  intro fuel
  induction fuel with
  | zero => intro j LL PP h1 h2 h3; omega
  | succ fuel ih =>
    intro j LL PP h1 h2 h3 h4 h5 h6
    rw [f_X3_insert_L27]
    simp (disch := omega) only [nn_add, nn_mul, nn_sub, nn_le, nn_lt, nn_eq, nn_div, ldi_nn, ldc_nn, sti_nn, Option.bind_some, if_true, if_false, not_true_eq_false, not_false_eq_true, Nat.add_zero, nl0, nl1, nl2, nl3, nl4, nl5, nl6, nl7, nl8, nl9, nl10, nl11, nl12, nl13, nl14, nl15, nl16, nl17, nl18, nl19, nl20, nl21, nl22, nl23, nl24, nl25, nl26, nl27, nl28, nl29, nl30, nl31, nl32, nl33, nl34, nl35, nl36, nl37, nl38, nl39, nl40, nl41, nl42, nl43, nl44, nl45, nl46, nl47, nl48, nl49, nl50, nl51, nl52, nl53, nl54, nl55, nl56, nl57, nl58, nl59, nl60, nl61, nl62, nl63, nl64, nl65, nl66, nl67, nl68, nl69, nl70, nl71, nl72, nl73, nl74, nl75, nl76, nl77, nl78, nl79, nl80, nl81, nl82, nl83, nl84, nl85, nl86, nl87, nl88, nl89, nl90, nl91, nl92, nl93, nl94, nl95, nl96, nl97, nl98, nl99, nl100, nl101, nl102, nl103, nl104, nl105, nl106, nl107, nl108, nl109, nl110, nl111, nl112, nl113, nl114, nl115, nl116, nl117, nl118, nl119, nl120, nl121, nl122, nl123, nl124, nl125, nl126, nl127, nl979, nl244, nl1000]
    by_cases hk : j ≤ r
    · rw [if_pos hk, show j = r by omega]
      refine ⟨LL, PP, rfl, fun k q => h5 k (by omega), fun k q1 q2 => h6 k (by omega) q2⟩
    · rw [if_neg hk]
      simp (disch := omega) only [nn_add, nn_mul, nn_sub, nn_le, nn_lt, nn_eq, nn_div, ldi_nn, ldc_nn, sti_nn, Option.bind_some, if_true, if_false, not_true_eq_false, not_false_eq_true, Nat.add_zero, nl0, nl1, nl2, nl3, nl4, nl5, nl6, nl7, nl8, nl9, nl10, nl11, nl12, nl13, nl14, nl15, nl16, nl17, nl18, nl19, nl20, nl21, nl22, nl23, nl24, nl25, nl26, nl27, nl28, nl29, nl30, nl31, nl32, nl33, nl34, nl35, nl36, nl37, nl38, nl39, nl40, nl41, nl42, nl43, nl44, nl45, nl46, nl47, nl48, nl49, nl50, nl51, nl52, nl53, nl54, nl55, nl56, nl57, nl58, nl59, nl60, nl61, nl62, nl63, nl64, nl65, nl66, nl67, nl68, nl69, nl70, nl71, nl72, nl73, nl74, nl75, nl76, nl77, nl78, nl79, nl80, nl81, nl82, nl83, nl84, nl85, nl86, nl87, nl88, nl89, nl90, nl91, nl92, nl93, nl94, nl95, nl96, nl97, nl98, nl99, nl100, nl101, nl102, nl103, nl104, nl105, nl106, nl107, nl108, nl109, nl110, nl111, nl112, nl113, nl114, nl115, nl116, nl117, nl118, nl119, nl120, nl121, nl122, nl123, nl124, nl125, nl126, nl127, nl979, nl244, nl1000, nn_pred]
      refine ih (j - 1) _ _ (by omega) (by omega) (by omega) (fun k q => ?_) (fun k q => ?_) (fun k q1 q2 => ?_)
      · rw [upd_ne (by omega), upd_ne (by omega)]
        exact Or.inl (h5 k (by omega))
      · rw [upd_ne (by omega), upd_ne (by omega)]
        exact h5 k (by omega)
      · by_cases z : k = j
        · rw [z, upd_eq, upd_eq]
          exact h5 (j - 1) (by omega)
        · rw [upd_ne z, upd_ne z]
          exact h6 k (by omega) q2
theorem s_insert (hl : l.length < 80) (ho : OR L P en l) (i p : Nat) : ∃ L' P', f_X3_insert L P en (nn (pos b l (i, p))) (nn i) (nn p) = some (L', P', nn (l.length + 1)) ∧ OR L' P' (nn (l.length + 1)) (ins b l (i, p)) := by
  have hp := pos_le b l (i, p)
  unfold f_X3_insert
  rw [ho.1]
  simp (disch := omega) only [nn_add, nn_mul, nn_sub, nn_le, nn_lt, nn_eq, nn_div, ldi_nn, ldc_nn, sti_nn, Option.bind_some, if_true, if_false, not_true_eq_false, not_false_eq_true, Nat.add_zero, nl0, nl1, nl2, nl3, nl4, nl5, nl6, nl7, nl8, nl9, nl10, nl11, nl12, nl13, nl14, nl15, nl16, nl17, nl18, nl19, nl20, nl21, nl22, nl23, nl24, nl25, nl26, nl27, nl28, nl29, nl30, nl31, nl32, nl33, nl34, nl35, nl36, nl37, nl38, nl39, nl40, nl41, nl42, nl43, nl44, nl45, nl46, nl47, nl48, nl49, nl50, nl51, nl52, nl53, nl54, nl55, nl56, nl57, nl58, nl59, nl60, nl61, nl62, nl63, nl64, nl65, nl66, nl67, nl68, nl69, nl70, nl71, nl72, nl73, nl74, nl75, nl76, nl77, nl78, nl79, nl80, nl81, nl82, nl83, nl84, nl85, nl86, nl87, nl88, nl89, nl90, nl91, nl92, nl93, nl94, nl95, nl96, nl97, nl98, nl99, nl100, nl101, nl102, nl103, nl104, nl105, nl106, nl107, nl108, nl109, nl110, nl111, nl112, nl113, nl114, nl115, nl116, nl117, nl118, nl119, nl120, nl121, nl122, nl123, nl124, nl125, nl126, nl127, nl979, nl244, nl1000]
  rw [if_neg (by omega), if_neg (by omega), if_neg (by omega)]
  obtain ⟨L', P', e1, e2, e3⟩ := s_shift_L (L := L) (P := P) (r := pos b l (i, p)) hl (fun x4 q1 q2 => (sti q1 80 (nn (pos b l (i, p))) (nn i)).bind fun g77 => (sti q2 80 (nn (pos b l (i, p))) (nn p)).bind fun g84 => some (g77, g84, nn (l.length + 1))) 1000 l.length L P hp (Nat.le_refl _) (by omega) (fun k _ => Or.inl ⟨rfl, rfl⟩) (fun k _ => ⟨rfl, rfl⟩) (fun k q1 q2 => by omega)
  have e4 : sti L' 80 (nn (pos b l (i, p))) (nn i) = some (upd L' (pos b l (i, p)) (nn i)) := sti_nn (by omega) (by omega)
  have e5 : sti P' 80 (nn (pos b l (i, p))) (nn p) = some (upd P' (pos b l (i, p)) (nn p)) := sti_nn (by omega) (by omega)
  refine ⟨upd L' (pos b l (i, p)) (nn i), upd P' (pos b l (i, p)) (nn p), ?_, ?_, fun k e he => ?_⟩
  · simp (disch := omega) only [nn_add, nn_mul, nn_sub, nn_le, nn_lt, nn_eq, nn_div, ldi_nn, ldc_nn, sti_nn, Option.bind_some, if_true, if_false, not_true_eq_false, not_false_eq_true, Nat.add_zero, nl0, nl1, nl2, nl3, nl4, nl5, nl6, nl7, nl8, nl9, nl10, nl11, nl12, nl13, nl14, nl15, nl16, nl17, nl18, nl19, nl20, nl21, nl22, nl23, nl24, nl25, nl26, nl27, nl28, nl29, nl30, nl31, nl32, nl33, nl34, nl35, nl36, nl37, nl38, nl39, nl40, nl41, nl42, nl43, nl44, nl45, nl46, nl47, nl48, nl49, nl50, nl51, nl52, nl53, nl54, nl55, nl56, nl57, nl58, nl59, nl60, nl61, nl62, nl63, nl64, nl65, nl66, nl67, nl68, nl69, nl70, nl71, nl72, nl73, nl74, nl75, nl76, nl77, nl78, nl79, nl80, nl81, nl82, nl83, nl84, nl85, nl86, nl87, nl88, nl89, nl90, nl91, nl92, nl93, nl94, nl95, nl96, nl97, nl98, nl99, nl100, nl101, nl102, nl103, nl104, nl105, nl106, nl107, nl108, nl109, nl110, nl111, nl112, nl113, nl114, nl115, nl116, nl117, nl118, nl119, nl120, nl121, nl122, nl123, nl124, nl125, nl126, nl127, nl979, nl244, nl1000] at e1 ⊢
    rw [e1]
  · rw [ins_len]
  · rw [ins_get] at he
    by_cases h1 : k < pos b l (i, p)
    · rw [if_pos h1] at he
      rw [upd_ne (by omega), upd_ne (by omega), (e2 k h1).1, (e2 k h1).2]
      exact ho.2 k e he
    · rw [if_neg h1] at he
      by_cases h2 : k = pos b l (i, p)
      · rw [if_pos h2] at he
        cases he
        rw [h2, upd_eq, upd_eq]
        exact ⟨rfl, rfl⟩
      · rw [if_neg h2] at he
        have hk := (List.getElem?_eq_some_iff.mp he).1
        rw [upd_ne h2, upd_ne h2, (e3 k (by omega) (by omega)).1, (e3 k (by omega) (by omega)).2]
        exact ho.2 (k - 1) e he
theorem s_sort_L2 (hw : Wf b) (hc : CB F S n b) {x : Nat} (hx : x < b.length) (kk : Int32 → (Nat → Int32) → (Nat → Int32) → Int32 → Option ((Nat → Int32) × (Nat → Int32) × (Nat → Int32) × Int32)) : ∀ (fuel k : Nat) (L P : Nat → Int32) (l : List En), OR L P (nn l.length) l → Gd b x k l → k ≤ sz b x → sz b x < fuel + k → ∃ L' P', f_X3_sort_L17 (nn x) F S n fuel (nn k) L P (nn l.length) kk = kk (nn (sz b x)) L' P' (nn (li b x k (sz b x - k) l).length) ∧ OR L' P' (nn (li b x k (sz b x - k) l).length) (li b x k (sz b x - k) l) := by
  have h8 := hw.1
  have h10 := hw.sz_le x
  intro fuel
  induction fuel with
  | zero => intro k L P l h0 h1 h2 h3; omega
  | succ fuel ih =>
    intro k L P l ho hg h2 h3
    rw [f_X3_sort_L17, s_size hw hc (by omega)]
    simp (disch := omega) only [nn_add, nn_mul, nn_sub, nn_le, nn_lt, nn_eq, nn_div, ldi_nn, ldc_nn, sti_nn, Option.bind_some, if_true, if_false, not_true_eq_false, not_false_eq_true, Nat.add_zero, nl0, nl1, nl2, nl3, nl4, nl5, nl6, nl7, nl8, nl9, nl10, nl11, nl12, nl13, nl14, nl15, nl16, nl17, nl18, nl19, nl20, nl21, nl22, nl23, nl24, nl25, nl26, nl27, nl28, nl29, nl30, nl31, nl32, nl33, nl34, nl35, nl36, nl37, nl38, nl39, nl40, nl41, nl42, nl43, nl44, nl45, nl46, nl47, nl48, nl49, nl50, nl51, nl52, nl53, nl54, nl55, nl56, nl57, nl58, nl59, nl60, nl61, nl62, nl63, nl64, nl65, nl66, nl67, nl68, nl69, nl70, nl71, nl72, nl73, nl74, nl75, nl76, nl77, nl78, nl79, nl80, nl81, nl82, nl83, nl84, nl85, nl86, nl87, nl88, nl89, nl90, nl91, nl92, nl93, nl94, nl95, nl96, nl97, nl98, nl99, nl100, nl101, nl102, nl103, nl104, nl105, nl106, nl107, nl108, nl109, nl110, nl111, nl112, nl113, nl114, nl115, nl116, nl117, nl118, nl119, nl120, nl121, nl122, nl123, nl124, nl125, nl126, nl127, nl979, nl244, nl1000]
    by_cases hk : sz b x ≤ k
    · rw [if_pos hk, li_end _ _ _ hk, show k = sz b x by omega]
      exact ⟨L, P, rfl, ho⟩
    · have hlen := hg.2.2
      have he : vld b (x, k) := by unfold vld; show k < sz b x; omega
      have hv : ∀ y ∈ l, vld b y ∧ y ≠ (x, k) := fun y hy => by
        have := (hg.2.1 y).mp hy
        refine ⟨this.1, fun q => ?_⟩
        rw [q] at this
        rcases this.2 with q | q
        · exact absurd q (Nat.lt_irrefl _)
        · exact absurd q.2 (Nat.lt_irrefl _)
      obtain ⟨L', P', e1, e2⟩ := s_insert (b := b) (by omega) ho x k
      rw [if_neg hk, s_take hw hc (by omega) ho hg.1 he hv, Option.bind_some, e1, Option.bind_some, li_go _ _ _ (by omega)]
      have hl := ins_len b l (x, k)
      rw [← hl] at e2 ⊢
      exact ih (k + 1) L' P' (ins b l (x, k)) e2 (hg.step he) (by omega) (by omega)
theorem s_sort_L1 (hw : Wf b) (hc : CB F S n b) (kk : Int32 → (Nat → Int32) → (Nat → Int32) → Int32 → Option ((Nat → Int32) × (Nat → Int32) × (Nat → Int32) × Int32)) : ∀ (fuel x : Nat) (L P : Nat → Int32) (l : List En), OR L P (nn l.length) l → Gd b x 0 l → x ≤ b.length → b.length < fuel + x → ∃ L' P', f_X3_sort_L7 F S n fuel (nn x) L P (nn l.length) kk = kk (nn b.length) L' P' (nn (lo b x (b.length - x) l).length) ∧ OR L' P' (nn (lo b x (b.length - x) l).length) (lo b x (b.length - x) l) := by
  have h8 := hw.1
  intro fuel
  induction fuel with
  | zero => intro k L P l h0 h1 h2 h3; omega
  | succ fuel ih =>
    intro x L P l ho hg h2 h3
    have h10 := hw.sz_le x
    rw [f_X3_sort_L7, s_lines hc]
    simp (disch := omega) only [nn_add, nn_mul, nn_sub, nn_le, nn_lt, nn_eq, nn_div, ldi_nn, ldc_nn, sti_nn, Option.bind_some, if_true, if_false, not_true_eq_false, not_false_eq_true, Nat.add_zero, nl0, nl1, nl2, nl3, nl4, nl5, nl6, nl7, nl8, nl9, nl10, nl11, nl12, nl13, nl14, nl15, nl16, nl17, nl18, nl19, nl20, nl21, nl22, nl23, nl24, nl25, nl26, nl27, nl28, nl29, nl30, nl31, nl32, nl33, nl34, nl35, nl36, nl37, nl38, nl39, nl40, nl41, nl42, nl43, nl44, nl45, nl46, nl47, nl48, nl49, nl50, nl51, nl52, nl53, nl54, nl55, nl56, nl57, nl58, nl59, nl60, nl61, nl62, nl63, nl64, nl65, nl66, nl67, nl68, nl69, nl70, nl71, nl72, nl73, nl74, nl75, nl76, nl77, nl78, nl79, nl80, nl81, nl82, nl83, nl84, nl85, nl86, nl87, nl88, nl89, nl90, nl91, nl92, nl93, nl94, nl95, nl96, nl97, nl98, nl99, nl100, nl101, nl102, nl103, nl104, nl105, nl106, nl107, nl108, nl109, nl110, nl111, nl112, nl113, nl114, nl115, nl116, nl117, nl118, nl119, nl120, nl121, nl122, nl123, nl124, nl125, nl126, nl127, nl979, nl244, nl1000]
    by_cases hk : b.length ≤ x
    · rw [if_pos hk, lo_end _ _ hk, show x = b.length by omega]
      exact ⟨L, P, rfl, ho⟩
    · obtain ⟨L', P', e1, e2⟩ := s_sort_L2 hw hc (x := x) (by omega) (fun _ q1 q2 q3 => f_X3_sort_L7 F S n fuel (nn (x + 1)) q1 q2 q3 kk) 1000 0 L P l ho hg (by omega) (by omega)
      rw [if_neg hk, e1, lo_go _ _ (by omega)]
      exact ih (x + 1) L' P' _ e2 (Gd.next hw (Gd.line (sz b x - 0) 0 (by omega) hg)) (by omega) (by omega)
/-- what neighbours in the order have in common -/
def cmn (b : Bk) (l : List En) (k : Nat) : Nat := match l[k - 1]?, l[k]? with
  | some e, some f => cpl (sfx b e.1 e.2) (sfx b f.1 f.2)
  | _, _ => 0
theorem cmn_at {b : Bk} {l : List En} {k : Nat} {e f : En} (h1 : l[k - 1]? = some e) (h2 : l[k]? = some f) : cmn b l k = cpl (sfx b e.1 e.2) (sfx b f.1 f.2) := by unfold cmn; rw [h1, h2]
theorem cmn_le {b : Bk} (hw : Wf b) (l : List En) (k : Nat) : cmn b l k ≤ 10 := by
  unfold cmn
  split
  · rename_i e f _ _
    have := cpl_le (sfx b e.1 e.2) (sfx b f.1 f.2)
    rw [sfx_len] at this
    have := hw.sz_le e.1
    omega
  · omega
def CM (M : Nat → Int32) (b : Bk) (l : List En) : Prop := ∀ k, 1 ≤ k → k < l.length → M k = nn (cmn b l k)
theorem s_com_L (hw : Wf b) (hc : CB F S n b) (hl : l.length ≤ 80) (ho : OR L P en l) (hv : ∀ x ∈ l, vld b x) : ∀ (fuel k : Nat) (M : Nat → Int32), 1 ≤ k → k ≤ l.length + 1 → l.length + 1 < fuel + k → (∀ j, 1 ≤ j → j < k → j < l.length → M j = nn (cmn b l j)) → ∃ M', f_X3_sort_L53 L P en F S n fuel (nn k) M (fun _ q => some (L, P, q, en)) = some (L, P, M', en) ∧ CM M' b l ∧ M' 0 = M 0 := by
  have h8 := hw.1
  intro fuel
  induction fuel with
  | zero => intro k M h0 h1 h2 h3; omega
  | succ fuel ih =>
    intro k M h0 h1 h2 h3
    rw [f_X3_sort_L53]
    by_cases hk : l.length ≤ k
    · rw [if_pos (by rw [ho.1, nn_le (by omega) (by omega)]; exact hk)]
      exact ⟨M, rfl, fun j q1 q2 => h3 j q1 (by omega) q2, rfl⟩
    · rw [if_neg (by rw [ho.1, nn_le (by omega) (by omega)]; exact hk)]
      have g1 : l[k - 1]? = some (l[k - 1]'(by omega)) := List.getElem?_eq_getElem (by omega)
      have g2 : l[k]? = some (l[k]'(by omega)) := List.getElem?_eq_getElem (by omega)
      have v1 : (l[k - 1]'(by omega)).2 < sz b (l[k - 1]'(by omega)).1 := hv _ (List.getElem_mem _)
      have v2 : (l[k]'(by omega)).2 < sz b (l[k]'(by omega)).1 := hv _ (List.getElem_mem _)
      have w1 := sz_in v1
      have w2 := sz_in v2
      have w3 := hw.sz_le (l[k - 1]'(by omega)).1
      have w4 := hw.sz_le (l[k]'(by omega)).1
      simp (disch := omega) only [nn_add, nn_mul, nn_sub, nn_le, nn_lt, nn_eq, nn_div, ldi_nn, ldc_nn, sti_nn, Option.bind_some, if_true, if_false, not_true_eq_false, not_false_eq_true, Nat.add_zero, nl0, nl1, nl2, nl3, nl4, nl5, nl6, nl7, nl8, nl9, nl10, nl11, nl12, nl13, nl14, nl15, nl16, nl17, nl18, nl19, nl20, nl21, nl22, nl23, nl24, nl25, nl26, nl27, nl28, nl29, nl30, nl31, nl32, nl33, nl34, nl35, nl36, nl37, nl38, nl39, nl40, nl41, nl42, nl43, nl44, nl45, nl46, nl47, nl48, nl49, nl50, nl51, nl52, nl53, nl54, nl55, nl56, nl57, nl58, nl59, nl60, nl61, nl62, nl63, nl64, nl65, nl66, nl67, nl68, nl69, nl70, nl71, nl72, nl73, nl74, nl75, nl76, nl77, nl78, nl79, nl80, nl81, nl82, nl83, nl84, nl85, nl86, nl87, nl88, nl89, nl90, nl91, nl92, nl93, nl94, nl95, nl96, nl97, nl98, nl99, nl100, nl101, nl102, nl103, nl104, nl105, nl106, nl107, nl108, nl109, nl110, nl111, nl112, nl113, nl114, nl115, nl116, nl117, nl118, nl119, nl120, nl121, nl122, nl123, nl124, nl125, nl126, nl127, nl979, nl244, nl1000]
      rw [(ho.2 _ _ g1).1, (ho.2 _ _ g1).2, (ho.2 _ _ g2).1, (ho.2 _ _ g2).2, s_same hw hc (by omega) (by omega) (by omega) (by omega), Option.bind_some]
      first
      | simp (disch := omega) only [nn_add, nn_mul, nn_sub, nn_le, nn_lt, nn_eq, nn_div, ldi_nn, ldc_nn, sti_nn, Option.bind_some, if_true, if_false, not_true_eq_false, not_false_eq_true, Nat.add_zero, nl0, nl1, nl2, nl3, nl4, nl5, nl6, nl7, nl8, nl9, nl10, nl11, nl12, nl13, nl14, nl15, nl16, nl17, nl18, nl19, nl20, nl21, nl22, nl23, nl24, nl25, nl26, nl27, nl28, nl29, nl30, nl31, nl32, nl33, nl34, nl35, nl36, nl37, nl38, nl39, nl40, nl41, nl42, nl43, nl44, nl45, nl46, nl47, nl48, nl49, nl50, nl51, nl52, nl53, nl54, nl55, nl56, nl57, nl58, nl59, nl60, nl61, nl62, nl63, nl64, nl65, nl66, nl67, nl68, nl69, nl70, nl71, nl72, nl73, nl74, nl75, nl76, nl77, nl78, nl79, nl80, nl81, nl82, nl83, nl84, nl85, nl86, nl87, nl88, nl89, nl90, nl91, nl92, nl93, nl94, nl95, nl96, nl97, nl98, nl99, nl100, nl101, nl102, nl103, nl104, nl105, nl106, nl107, nl108, nl109, nl110, nl111, nl112, nl113, nl114, nl115, nl116, nl117, nl118, nl119, nl120, nl121, nl122, nl123, nl124, nl125, nl126, nl127, nl979, nl244, nl1000]
      | skip
      have g9 : ∀ x : Int32, x = nn (cmn b l k) → ∃ M', f_X3_sort_L53 L P en F S n fuel (nn (k + 1)) (upd M k x) (fun _ q => some (L, P, q, en)) = some (L, P, M', en) ∧ CM M' b l ∧ M' 0 = M 0 := by
        intro x hx
        obtain ⟨M', a1, a2, a3⟩ := ih (k + 1) (upd M k x) (by omega) (by omega) (by omega) (fun j q1 q2 q3 => by
          by_cases z : j = k
          · subst z
            rw [upd_eq, hx]
          · rw [upd_ne z]
            exact h3 j q1 (by omega) q3)
        exact ⟨M', a1, a2, by rw [a3, upd_ne (by omega)]⟩
      exact g9 _ (by rw [cmn_at g1 g2])
theorem s_sort (hw : Wf b) (hc : CB F S n b) (L P M : Nat → Int32) : ∃ L' P' M', f_X3_sort L P M F S n = some (L', P', M', nn (ord b).length) ∧ OR L' P' (nn (ord b).length) (ord b) ∧ CM M' b (ord b) ∧ M' 0 = M 0 := by
  have hg := ord_good hw
  have h8 := hw.1
  unfold f_X3_sort
  obtain ⟨L', P', e1, e2⟩ := s_sort_L1 hw hc (fun _ q1 q2 q3 => f_X3_sort_L53 q1 q2 q3 F S n 1000 (nn 1) M (fun _ q4 => some (q1, q2, q4, q3))) 1000 0 L P [] ⟨rfl, fun k e h => by simp at h⟩ (Gd.nil b) (by omega) (by omega)
  obtain ⟨M', e3, e4⟩ := s_com_L hw hc hg.2.2 e2 (fun x hx => (hg.2.1 x).mp hx) 1000 1 M (by omega) (by omega) (by omega) (fun j q1 q2 => by omega)
  refine ⟨L', P', M', ?_, e2, e4⟩
  rw [nl1, nl0]
  refine Eq.trans ?_ (e1.trans e3)
  rfl
end CSORT

