/-! THE CLASS ADDS A WORD, JOINS TWO LINES, TURNS ONE -/
section COPS2
variable {F S G T C R D : Nat → Int32} {n l c : Int32} {b : Bk} {w : List Nat} {N i j p q s : Nat}
/-- the letters of a text from a place on -/
def sub (w : List Nat) (st m : Nat) : List Nat := (w.drop st).take m
theorem sub_len {st m : Nat} (h : st + m ≤ w.length) : (sub w st m).length = m := by
  unfold sub
  rw [List.length_take, List.length_drop]
  omega
theorem sub_get {st m p : Nat} (hp : p < m) (h : st + m ≤ w.length) : (sub w st m).getD p 0 = w.getD (st + p) 0 := by
  unfold sub
  rw [List.getD_eq_getElem?_getD, List.getD_eq_getElem?_getD, List.getElem?_take, if_pos hp, List.getElem?_drop]
theorem s_addW_L (ht : TXx C l w) (hN : N < 8) {st m : Nat} (hm : m ≤ 10) (hst : st + m ≤ w.length) (kk : Int32 → (Nat → Int32) → (Nat → Int32) → Option (Int32 × (Nat → Int32) × (Nat → Int32) × Int32 × (Nat → Int32) × (Nat → Int32) × Int32)) : ∀ (fuel k : Nat) (G T : Nat → Int32), k ≤ m → m < fuel + k → T N = nn k → (∀ q, q ≠ N → T q = S q) → (∀ q, q < k → G (10 * N + q) = nn (w.getD (st + q) 0)) → (∀ a, ¬ (10 * N ≤ a ∧ a < 10 * N + k) → G a = F a) → ∃ G' T', f_X1_addWord_L29 (nn N) (nn (N + 1)) (nn (st + m)) C l fuel (nn (st + k)) G T kk = kk (nn (st + m)) G' T' ∧ T' N = nn m ∧ (∀ q, q ≠ N → T' q = S q) ∧ (∀ q, q < m → G' (10 * N + q) = nn (w.getD (st + q) 0)) ∧ (∀ a, ¬ (10 * N ≤ a ∧ a < 10 * N + m) → G' a = F a) := by
  intro fuel
  have h60 := ht.2.1
  induction fuel with
  | zero => intro k G T h0 h1; omega
  | succ fuel ih =>
    intro k G T h0 h1 h2 h3 h4 h5
    rw [f_X1_addWord_L29]
    simp (disch := omega) only [nn_add, nn_mul, nn_sub, nn_le, nn_lt, nn_eq, nn_div, ldi_nn, ldc_nn, sti_nn, Option.bind_some, if_true, if_false, not_true_eq_false, not_false_eq_true, Nat.add_zero, nl0, nl1, nl2, nl3, nl4, nl5, nl6, nl7, nl8, nl9, nl10, nl11, nl12, nl13, nl14, nl15, nl16, nl17, nl18, nl19, nl20, nl21, nl22, nl23, nl24, nl25, nl26, nl27, nl28, nl29, nl30, nl31, nl32, nl33, nl34, nl35, nl36, nl37, nl38, nl39, nl40, nl41, nl42, nl43, nl44, nl45, nl46, nl47, nl48, nl49, nl50, nl51, nl52, nl53, nl54, nl55, nl56, nl57, nl58, nl59, nl60, nl61, nl62, nl63, nl64, nl65, nl66, nl67, nl68, nl69, nl70, nl71, nl72, nl73, nl74, nl75, nl76, nl77, nl78, nl79, nl80, nl81, nl82, nl83, nl84, nl85, nl86, nl87, nl88, nl89, nl90, nl91, nl92, nl93, nl94, nl95, nl96, nl97, nl98, nl99, nl100, nl101, nl102, nl103, nl104, nl105, nl106, nl107, nl108, nl109, nl110, nl111, nl112, nl113, nl114, nl115, nl116, nl117, nl118, nl119, nl120, nl121, nl122, nl123, nl124, nl125, nl126, nl127, nl979, nl244, nl1000]
    by_cases hk : st + m ≤ st + k
    · rw [if_pos hk]
      have : k = m := by omega
      subst this
      exact ⟨G, T, rfl, h2, h3, h4, h5⟩
    · rw [if_neg hk, s_charAt ht (by omega), Option.bind_some]
      have hx := (ht.2.2 (st + k) (by omega)).2
      rw [raw_putL (by omega) (by omega) h2 (by omega) (ch_nn hx), Option.bind_some]
      rw [show st + k + 1 = st + (k + 1) by omega]
      refine ih (k + 1) _ _ (by omega) (by omega) (upd_eq _ _ _) (fun q hq => ?_) (fun q hq => ?_) (fun a ha => ?_)
      · show upd T N (nn (k + 1)) q = S q
        rw [upd_ne hq]
        exact h3 q hq
      · show upd G (10 * N + k) (nn (w.getD (st + k) 0)) (10 * N + q) = _
        by_cases z : q = k
        · rw [z, upd_eq]
        · rw [upd_ne (by omega)]
          exact h4 q (by omega)
      · show upd G (10 * N + k) (nn (w.getD (st + k) 0)) a = F a
        rw [upd_ne (by omega)]
        exact h5 a (by omega)
theorem s_addWord (hw : Wf b) (hc : CB F S n b) (ht : TXx C l w) {st m : Nat} (hg : GL (sub w st m)) (hst : st + m ≤ w.length) (h8 : b.length < 8) : ∃ F' S', f_X1_addWord F S n R D c C l (nn st) (nn (st + m)) = some (1, F', S', nn (b.length + 1), R, D, c) ∧ CB F' S' (nn (b.length + 1)) (b ++ [sub w st m]) := by
  have hm : m ≤ 10 := by have := hg.2.1; rw [sub_len hst] at this; exact this
  obtain ⟨G, T, e, g1, g2, g3, g4⟩ := s_addW_L (F := F) (S := S) ht h8 hm hst (fun _ q1 q2 => some (1, q1, q2, nn (b.length + 1), R, D, c)) 1000 0 F (upd S b.length (nn 0)) (by omega) (by omega) (upd_eq _ _ _) (fun q hq => upd_ne hq) (fun q hq => by omega) (fun a _ => rfl)
  refine ⟨G, T, ?_, CB.mk' (by rw [len_app]) (fun k hk => ?_) (fun k hk => ?_)⟩
  · unfold f_X1_addWord f_X0_lines f_X0_openLine
    rw [hc.1]
    simp (disch := omega) only [nn_add, nn_mul, nn_sub, nn_le, nn_lt, nn_eq, nn_div, ldi_nn, ldc_nn, sti_nn, Option.bind_some, if_true, if_false, not_true_eq_false, not_false_eq_true, Nat.add_zero, nl0, nl1, nl2, nl3, nl4, nl5, nl6, nl7, nl8, nl9, nl10, nl11, nl12, nl13, nl14, nl15, nl16, nl17, nl18, nl19, nl20, nl21, nl22, nl23, nl24, nl25, nl26, nl27, nl28, nl29, nl30, nl31, nl32, nl33, nl34, nl35, nl36, nl37, nl38, nl39, nl40, nl41, nl42, nl43, nl44, nl45, nl46, nl47, nl48, nl49, nl50, nl51, nl52, nl53, nl54, nl55, nl56, nl57, nl58, nl59, nl60, nl61, nl62, nl63, nl64, nl65, nl66, nl67, nl68, nl69, nl70, nl71, nl72, nl73, nl74, nl75, nl76, nl77, nl78, nl79, nl80, nl81, nl82, nl83, nl84, nl85, nl86, nl87, nl88, nl89, nl90, nl91, nl92, nl93, nl94, nl95, nl96, nl97, nl98, nl99, nl100, nl101, nl102, nl103, nl104, nl105, nl106, nl107, nl108, nl109, nl110, nl111, nl112, nl113, nl114, nl115, nl116, nl117, nl118, nl119, nl120, nl121, nl122, nl123, nl124, nl125, nl126, nl127, nl979, nl244, nl1000] at e ⊢
    rw [if_pos h8, if_neg (by omega)]
    simp (disch := omega) only [nn_add, nn_mul, nn_sub, nn_le, nn_lt, nn_eq, nn_div, ldi_nn, ldc_nn, sti_nn, Option.bind_some, if_true, if_false, not_true_eq_false, not_false_eq_true, Nat.add_zero, nl0, nl1, nl2, nl3, nl4, nl5, nl6, nl7, nl8, nl9, nl10, nl11, nl12, nl13, nl14, nl15, nl16, nl17, nl18, nl19, nl20, nl21, nl22, nl23, nl24, nl25, nl26, nl27, nl28, nl29, nl30, nl31, nl32, nl33, nl34, nl35, nl36, nl37, nl38, nl39, nl40, nl41, nl42, nl43, nl44, nl45, nl46, nl47, nl48, nl49, nl50, nl51, nl52, nl53, nl54, nl55, nl56, nl57, nl58, nl59, nl60, nl61, nl62, nl63, nl64, nl65, nl66, nl67, nl68, nl69, nl70, nl71, nl72, nl73, nl74, nl75, nl76, nl77, nl78, nl79, nl80, nl81, nl82, nl83, nl84, nl85, nl86, nl87, nl88, nl89, nl90, nl91, nl92, nl93, nl94, nl95, nl96, nl97, nl98, nl99, nl100, nl101, nl102, nl103, nl104, nl105, nl106, nl107, nl108, nl109, nl110, nl111, nl112, nl113, nl114, nl115, nl116, nl117, nl118, nl119, nl120, nl121, nl122, nl123, nl124, nl125, nl126, nl127, nl979, nl244, nl1000] at e ⊢
    exact e
  · rw [len_app] at hk
    rw [ln_app]
    by_cases z : k = b.length
    · rw [if_pos z, z]
      refine ⟨by rw [g1, sub_len hst], fun p hp => ?_⟩
      rw [sub_len hst] at hp
      rw [g3 p hp, sub_get hp hst]
    · rw [if_neg z]
      have hk' : k < b.length := by omega
      have hl := hw.len hk'
      refine ⟨by rw [g2 k z]; exact (hc.line hk').1, fun p hp => ?_⟩
      rw [g4 _ (by omega)]
      exact (hc.line hk').2 p hp
  · by_cases z : 10 * b.length ≤ k ∧ k < 10 * b.length + m
    · have := g3 (k - 10 * b.length) (by omega)
      rw [show 10 * b.length + (k - 10 * b.length) = k by omega] at this
      rw [this]
      exact ch_nn (ht.2.2 _ (by omega)).2
    · rw [g4 k z]
      exact hc.2.2.2 k hk
theorem s_addFull (hc : CB F S n b) (h8 : b.length = 8) (p3 p4 : Int32) : f_X1_addWord F S n R D c C l p3 p4 = some (0, F, S, n, upd R 0 (nn 1), upd D 0 (nn 8), nn 1) := by
  unfold f_X1_addWord f_X0_lines
  rw [hc.1, h8, Option.bind_some, if_neg (by decide), s_keep]
  rfl
theorem s_join_L (hN : N ≤ 8) (hi : i < N) (hj : j < N) (hij : i ≠ j) {a m : Nat} (ham : a + m ≤ 10) (hS : S j = nn m) (hch : ∀ k, k < 80 → ch (F k)) (kk : Int32 → (Nat → Int32) → (Nat → Int32) → Option (Int32 × (Nat → Int32) × (Nat → Int32) × Int32 × (Nat → Int32) × (Nat → Int32) × Int32)) : ∀ (fuel k : Nat) (G T : Nat → Int32), k ≤ m → m < fuel + k → T i = nn (a + k) → (∀ q, q ≠ i → T q = S q) → (∀ q, q < k → G (10 * i + a + q) = F (10 * j + q)) → (∀ z, ¬ (10 * i + a ≤ z ∧ z < 10 * i + a + k) → G z = F z) → ∃ G' T', f_X1_joinLines_L56 (nn N) (nn i) (nn j) fuel (nn k) G T kk = kk (nn m) G' T' ∧ T' i = nn (a + m) ∧ (∀ q, q ≠ i → T' q = S q) ∧ (∀ q, q < m → G' (10 * i + a + q) = F (10 * j + q)) ∧ (∀ z, ¬ (10 * i + a ≤ z ∧ z < 10 * i + a + m) → G' z = F z) := by
  intro fuel
  induction fuel with
  | zero => intro k G T h0 h1; omega
  | succ fuel ih =>
    intro k G T h0 h1 h2 h3 h4 h5
    have hTj : T j = nn m := (h3 j (fun z => hij z.symm)).trans hS
    rw [f_X1_joinLines_L56, raw_size hN hj, Option.bind_some, hTj]
    simp (disch := omega) only [nn_add, nn_mul, nn_sub, nn_le, nn_lt, nn_eq, nn_div, ldi_nn, ldc_nn, sti_nn, Option.bind_some, if_true, if_false, not_true_eq_false, not_false_eq_true, Nat.add_zero, nl0, nl1, nl2, nl3, nl4, nl5, nl6, nl7, nl8, nl9, nl10, nl11, nl12, nl13, nl14, nl15, nl16, nl17, nl18, nl19, nl20, nl21, nl22, nl23, nl24, nl25, nl26, nl27, nl28, nl29, nl30, nl31, nl32, nl33, nl34, nl35, nl36, nl37, nl38, nl39, nl40, nl41, nl42, nl43, nl44, nl45, nl46, nl47, nl48, nl49, nl50, nl51, nl52, nl53, nl54, nl55, nl56, nl57, nl58, nl59, nl60, nl61, nl62, nl63, nl64, nl65, nl66, nl67, nl68, nl69, nl70, nl71, nl72, nl73, nl74, nl75, nl76, nl77, nl78, nl79, nl80, nl81, nl82, nl83, nl84, nl85, nl86, nl87, nl88, nl89, nl90, nl91, nl92, nl93, nl94, nl95, nl96, nl97, nl98, nl99, nl100, nl101, nl102, nl103, nl104, nl105, nl106, nl107, nl108, nl109, nl110, nl111, nl112, nl113, nl114, nl115, nl116, nl117, nl118, nl119, nl120, nl121, nl122, nl123, nl124, nl125, nl126, nl127, nl979, nl244, nl1000]
    by_cases hk : m ≤ k
    · rw [if_pos hk]
      have : k = m := by omega
      subst this
      exact ⟨G, T, rfl, h2, h3, h4, h5⟩
    · have eg : G (10 * j + k) = F (10 * j + k) := h5 _ (by omega)
      rw [if_neg hk, raw_letter hN hj hTj (by omega) (by omega) (by rw [eg]; exact hch _ (by omega)), Option.bind_some, eg, raw_putL hN hi h2 (by omega) (hch _ (by omega)), Option.bind_some]
      refine ih (k + 1) _ _ (by omega) (by omega) (upd_eq _ _ _) (fun q hq => ?_) (fun q hq => ?_) (fun z hz => ?_)
      · show upd T i (nn (a + k + 1)) q = S q
        rw [upd_ne hq]
        exact h3 q hq
      · show upd G (10 * i + (a + k)) (F (10 * j + k)) (10 * i + a + q) = _
        by_cases z : q = k
        · rw [z, show 10 * i + a + k = 10 * i + (a + k) by omega, upd_eq]
        · rw [upd_ne (by omega)]
          exact h4 q (by omega)
      · show upd G (10 * i + (a + k)) (F (10 * j + k)) z = F z
        rw [upd_ne (by omega)]
        exact h5 z (by omega)
theorem getD_app {u v : List Nat} {p : Nat} : (u ++ v).getD p 0 = if p < u.length then u.getD p 0 else v.getD (p - u.length) 0 := by
  rw [List.getD_eq_getElem?_getD, List.getD_eq_getElem?_getD, List.getD_eq_getElem?_getD]
  by_cases h : p < u.length
  · rw [if_pos h, List.getElem?_append_left h]
  · rw [if_neg h, List.getElem?_append_right (by omega)]
theorem GL.app {u v : List Nat} (hu : GL u) (hv : GL v) (h : u.length + v.length ≤ 10) : GL (u ++ v) := by
  have h1 := hu.1
  refine ⟨by rw [List.length_append]; omega, by rw [List.length_append]; omega, fun p hp => ?_⟩
  rw [List.length_append] at hp
  rw [getD_app]
  by_cases z : p < u.length
  · rw [if_pos z]; exact hu.2.2 p z
  · rw [if_neg z]; exact hv.2.2 _ (by omega)
theorem s_joinB (hw : Wf b) (hc : CB F S n b) (hi : i < b.length) (hj : j < b.length) (hij : i ≠ j) (h10 : sz b i + sz b j ≤ 10) : ∃ F' S', f_X1_joinLines_L56 n (nn i) (nn j) 1000 (nn 0) F S (fun _ q1 q2 => (f_X0_removeLine q1 q2 n (nn j)).bind fun r => some (1, r.1, r.2.1, r.2.2, R, D, c)) = some (1, F', S', nn (b.length - 1), R, D, c) ∧ CB F' S' (nn (b.length - 1)) ((b.set i (ln b i ++ ln b j)).eraseIdx j) := by
  have h8 := hw.1
  obtain ⟨G, T, e, g1, g2, g3, g4⟩ := s_join_L (F := F) (S := S) h8 hi hj hij h10 (hc.2.1 j hj) hc.2.2.2 (fun _ q1 q2 => (f_X0_removeLine q1 q2 (nn b.length) (nn j)).bind fun r => some (1, r.1, r.2.1, r.2.2, R, D, c)) 1000 0 F S (by omega) (by omega) (hc.2.1 i hi) (fun q _ => rfl) (fun q hq => by omega) (fun a _ => rfl)
  have hg : GL (ln b i ++ ln b j) := (hw.gl hi).app (hw.gl hj) h10
  have hw' := hw.set hi hg
  have hlen : (b.set i (ln b i ++ ln b j)).length = b.length := List.length_set ..
  have hc' : CB G T n (b.set i (ln b i ++ ln b j)) := by
    refine CB.mk' (by rw [hlen]; exact hc.1) (fun k hk => ?_) (fun k hk => ?_)
    · rw [hlen] at hk
      rw [ln_set hi]
      by_cases z : k = i
      · rw [if_pos z, z]
        refine ⟨by rw [g1, List.length_append]; rfl, fun p hp => ?_⟩
        rw [List.length_append] at hp
        rw [getD_app]
        by_cases y : p < (ln b i).length
        · rw [if_pos y, g4 _ (by unfold sz; omega)]
          exact (hc.line hi).2 p y
        · rw [if_neg y]
          have := g3 (p - (ln b i).length) (by unfold sz; omega)
          unfold sz at this
          rw [show 10 * i + (ln b i).length + (p - (ln b i).length) = 10 * i + p by omega] at this
          rw [this]
          exact (hc.line hj).2 _ (by omega)
      · rw [if_neg z]
        have hl := hw.len hk
        refine ⟨by rw [g2 k z]; exact (hc.line hk).1, fun p hp => ?_⟩
        rw [g4 _ (by omega)]
        exact (hc.line hk).2 p hp
    · by_cases z : 10 * i + sz b i ≤ k ∧ k < 10 * i + sz b i + sz b j
      · have := g3 (k - (10 * i + sz b i)) (by omega)
        rw [show 10 * i + sz b i + (k - (10 * i + sz b i)) = k by omega] at this
        rw [this]
        exact hc.2.2.2 _ (by omega)
      · rw [g4 k z]
        exact hc.2.2.2 k hk
  obtain ⟨F', S', e2, hc2⟩ := s_remove hw' hc' (i := j) (by rw [hlen]; exact hj)
  rw [hlen] at e2 hc2
  refine ⟨F', S', ?_, hc2⟩
  rw [hc.1] at e2 ⊢
  rw [e, e2]
  rfl
theorem G_letter (hw : Wf b) (hc : CB F S n b) {i p : Nat} (hp : p < sz b i) (hch : ch (G (10 * i + p))) : f_X0_letterAt G S n (nn i) (nn p) = some (G (10 * i + p)) := by
  rw [hc.1]
  exact raw_letter hw.1 (sz_in hp) (hc.2.1 i (sz_in hp)) (hw.sz_le i) hp hch
theorem G_setL (hw : Wf b) (hc : CB F S n b) {i p : Nat} (hp : p < sz b i) {x : Int32} (hx : ch x) : f_X0_setLetter G S n (nn i) (nn p) x = some (upd G (10 * i + p) x) := by
  rw [hc.1]
  exact raw_setL hw.1 (sz_in hp) (hc.2.1 i (sz_in hp)) (hw.sz_le i) hp hx
theorem s_rev_L (hw : Wf b) (hc : CB F S n b) {m : Nat} (hm : sz b i = m + 1) (kk : Int32 → (Nat → Int32) → Option (Nat → Int32)) : ∀ (fuel k : Nat) (G : Nat → Int32), 2 * k ≤ m + 1 → m < fuel + k → (∀ q, q ≤ m → (q < k ∨ m - k < q) → G (10 * i + q) = F (10 * i + (m - q))) → (∀ z, ¬ (∃ q, q ≤ m ∧ (q < k ∨ m - k < q) ∧ z = 10 * i + q) → G z = F z) → ∃ x G', f_X0_reverseLine_L10 (nn m) (nn i) S n fuel (nn k) G kk = kk x G' ∧ (∀ q, q ≤ m → G' (10 * i + q) = F (10 * i + (m - q))) ∧ (∀ z, ¬ (10 * i ≤ z ∧ z ≤ 10 * i + m) → G' z = F z) := by
  intro fuel
  have h10 := hw.sz_le i
  have hi : i < b.length := sz_in (p := 0) (by omega)
  have h8 := hw.1
  induction fuel with
  | zero => intro k G h0 h1; omega
  | succ fuel ih =>
    intro k G h0 h1 h2 h3
    rw [f_X0_reverseLine_L10]
    by_cases hk0 : m < k
    · omega
    simp (disch := omega) only [nn_add, nn_mul, nn_sub, nn_le, nn_lt, nn_eq, nn_div, ldi_nn, ldc_nn, sti_nn, Option.bind_some, if_true, if_false, not_true_eq_false, not_false_eq_true, Nat.add_zero, nl0, nl1, nl2, nl3, nl4, nl5, nl6, nl7, nl8, nl9, nl10, nl11, nl12, nl13, nl14, nl15, nl16, nl17, nl18, nl19, nl20, nl21, nl22, nl23, nl24, nl25, nl26, nl27, nl28, nl29, nl30, nl31, nl32, nl33, nl34, nl35, nl36, nl37, nl38, nl39, nl40, nl41, nl42, nl43, nl44, nl45, nl46, nl47, nl48, nl49, nl50, nl51, nl52, nl53, nl54, nl55, nl56, nl57, nl58, nl59, nl60, nl61, nl62, nl63, nl64, nl65, nl66, nl67, nl68, nl69, nl70, nl71, nl72, nl73, nl74, nl75, nl76, nl77, nl78, nl79, nl80, nl81, nl82, nl83, nl84, nl85, nl86, nl87, nl88, nl89, nl90, nl91, nl92, nl93, nl94, nl95, nl96, nl97, nl98, nl99, nl100, nl101, nl102, nl103, nl104, nl105, nl106, nl107, nl108, nl109, nl110, nl111, nl112, nl113, nl114, nl115, nl116, nl117, nl118, nl119, nl120, nl121, nl122, nl123, nl124, nl125, nl126, nl127, nl979, nl244, nl1000]
    by_cases hk : m - k ≤ k
    · rw [if_pos hk]
      refine ⟨_, G, rfl, fun q hq => ?_, fun z hz => h3 z ?_⟩
      · by_cases y : q < k ∨ m - k < q
        · exact h2 q hq y
        · rw [h3]
          · congr 1
            omega
          · rintro ⟨q', a1, a2, a3⟩
            have : q' = q := by omega
            subst this
            exact y a2
      · rintro ⟨q, a1, a2, a3⟩
        exact hz (by omega)
    · rw [if_neg hk]
      have e1 : G (10 * i + k) = F (10 * i + k) := h3 _ (by rintro ⟨q, a1, a2, a3⟩; omega)
      have e2 : G (10 * i + (m - k)) = F (10 * i + (m - k)) := h3 _ (by rintro ⟨q, a1, a2, a3⟩; omega)
      have c1 : ch (F (10 * i + k)) := hc.2.2.2 _ (by omega)
      have c2 : ch (F (10 * i + (m - k))) := hc.2.2.2 _ (by omega)
      rw [G_letter hw hc (by omega) (by rw [e1]; exact c1), Option.bind_some, G_letter hw hc (by omega) (by rw [e2]; exact c2), Option.bind_some, e1, e2, G_setL hw hc (by omega) c2, Option.bind_some, G_setL hw hc (by omega) c1, Option.bind_some]
      refine ih (k + 1) _ (by omega) (by omega) (fun q hq y => ?_) (fun z hz => ?_)
      · by_cases y1 : q = m - k
        · rw [y1, upd_eq, show m - (m - k) = k by omega]
        · rw [upd_ne (by omega)]
          by_cases y2 : q = k
          · rw [y2, upd_eq]
          · rw [upd_ne (by omega)]
            exact h2 q hq (by omega)
      · rw [upd_ne (fun y => hz ⟨m - k, by omega, by omega, y⟩), upd_ne (fun y => hz ⟨k, by omega, by omega, y⟩)]
        exact h3 z (fun ⟨q, a1, a2, a3⟩ => hz ⟨q, a1, by omega, a3⟩)
theorem getD_rev {u : List Nat} {p : Nat} (h : p < u.length) : u.reverse.getD p 0 = u.getD (u.length - 1 - p) 0 := by
  rw [List.getD_eq_getElem?_getD, List.getD_eq_getElem?_getD, List.getElem?_reverse h]
theorem GL.rev {u : List Nat} (hu : GL u) : GL u.reverse := by
  have h1 := hu.1
  refine ⟨by rw [List.length_reverse]; exact hu.1, by rw [List.length_reverse]; exact hu.2.1, fun p hp => ?_⟩
  rw [List.length_reverse] at hp
  rw [getD_rev hp]
  exact hu.2.2 _ (by omega)
theorem s_reverse (hw : Wf b) (hc : CB F S n b) (hi : i < b.length) : ∃ F', f_X0_reverseLine F S n (nn i) = some F' ∧ CB F' S n (b.set i (ln b i).reverse) := by
  have h8 := hw.1
  have hl := hw.gl hi
  have h1 : 1 ≤ sz b i := hl.1
  have h10 := hw.sz_le i
  obtain ⟨x, G, e, g1, g2⟩ := s_rev_L (i := i) hw hc (m := sz b i - 1) (by omega) (fun _ q1 => some q1) 1000 0 F (by omega) (by omega) (fun q h1 h2 => by omega) (fun z _ => rfl)
  refine ⟨G, ?_, CB.mk' (by rw [List.length_set]; exact hc.1) (fun k hk => ?_) (fun k hk => ?_)⟩
  · unfold f_X0_reverseLine
    rw [s_size hw hc (by omega), Option.bind_some]
    simp (disch := omega) only [nn_add, nn_mul, nn_sub, nn_le, nn_lt, nn_eq, nn_div, ldi_nn, ldc_nn, sti_nn, Option.bind_some, if_true, if_false, not_true_eq_false, not_false_eq_true, Nat.add_zero, nl0, nl1, nl2, nl3, nl4, nl5, nl6, nl7, nl8, nl9, nl10, nl11, nl12, nl13, nl14, nl15, nl16, nl17, nl18, nl19, nl20, nl21, nl22, nl23, nl24, nl25, nl26, nl27, nl28, nl29, nl30, nl31, nl32, nl33, nl34, nl35, nl36, nl37, nl38, nl39, nl40, nl41, nl42, nl43, nl44, nl45, nl46, nl47, nl48, nl49, nl50, nl51, nl52, nl53, nl54, nl55, nl56, nl57, nl58, nl59, nl60, nl61, nl62, nl63, nl64, nl65, nl66, nl67, nl68, nl69, nl70, nl71, nl72, nl73, nl74, nl75, nl76, nl77, nl78, nl79, nl80, nl81, nl82, nl83, nl84, nl85, nl86, nl87, nl88, nl89, nl90, nl91, nl92, nl93, nl94, nl95, nl96, nl97, nl98, nl99, nl100, nl101, nl102, nl103, nl104, nl105, nl106, nl107, nl108, nl109, nl110, nl111, nl112, nl113, nl114, nl115, nl116, nl117, nl118, nl119, nl120, nl121, nl122, nl123, nl124, nl125, nl126, nl127, nl979, nl244, nl1000] at e ⊢
    exact e
  · rw [List.length_set] at hk
    rw [ln_set hi]
    by_cases z : k = i
    · rw [if_pos z, z]
      refine ⟨by rw [List.length_reverse]; exact hc.2.1 i hi, fun p hp => ?_⟩
      rw [List.length_reverse] at hp
      rw [getD_rev hp, g1 p (by unfold sz; omega)]
      have := (hc.line hi).2 ((ln b i).length - 1 - p) (by omega)
      exact this
    · rw [if_neg z]
      have hl' := hw.len hk
      refine ⟨hc.2.1 k hk, fun p hp => ?_⟩
      rw [g2 _ (by omega)]
      exact (hc.line hk).2 p hp
  · by_cases z : 10 * i ≤ k ∧ k ≤ 10 * i + (sz b i - 1)
    · have := g1 (k - 10 * i) (by omega)
      rw [show 10 * i + (k - 10 * i) = k by omega] at this
      rw [this]
      exact hc.2.2.2 _ (by omega)
    · rw [g2 k z]
      exact hc.2.2.2 k hk
theorem GL.set {u : List Nat} (hu : GL u) {p x : Nat} (h1 : 97 ≤ x) (h2 : x ≤ 122) : GL (u.set p x) := by
  refine ⟨by rw [List.length_set]; exact hu.1, by rw [List.length_set]; exact hu.2.1, fun q hq => ?_⟩
  rw [List.length_set] at hq
  rw [List.getD_eq_getElem?_getD, List.getElem?_set]
  by_cases z : p = q
  · rw [if_pos z]
    by_cases y : p < u.length
    · rw [if_pos y]; exact ⟨h1, h2⟩
    · omega
  · rw [if_neg z, ← List.getD_eq_getElem?_getD]
    exact hu.2.2 q hq
theorem getD_set {u : List Nat} {p x q : Nat} (hp : p < u.length) : (u.set p x).getD q 0 = if q = p then x else u.getD q 0 := by
  rw [List.getD_eq_getElem?_getD, List.getElem?_set, List.getD_eq_getElem?_getD]
  by_cases z : p = q
  · rw [if_pos z, if_pos hp, if_pos z.symm]
    rfl
  · rw [if_neg z, if_neg (fun y => z y.symm)]
theorem s_setB (hw : Wf b) (hc : CB F S n b) (hp : p < sz b i) {x : Nat} (hx : x < 65536) : f_X0_setLetter F S n (nn i) (nn p) (nn x) = some (upd F (10 * i + p) (nn x)) ∧ CB (upd F (10 * i + p) (nn x)) S n (b.set i ((ln b i).set p x)) := by
  have hi := sz_in hp
  have h10 := hw.sz_le i
  have h8 := hw.1
  refine ⟨G_setL hw hc hp (ch_nn hx), CB.mk' (by rw [List.length_set]; exact hc.1) (fun k hk => ?_) (ch_upd hc.2.2.2 (ch_nn hx))⟩
  rw [List.length_set] at hk
  rw [ln_set hi]
  have hl' := hw.len hk
  by_cases z : k = i
  · rw [if_pos z, z]
    refine ⟨by rw [List.length_set]; exact hc.2.1 i hi, fun q hq => ?_⟩
    rw [List.length_set] at hq
    rw [getD_set hp]
    by_cases y : q = p
    · rw [if_pos y, y, upd_eq]
    · rw [if_neg y, upd_ne (by omega)]
      exact (hc.line hi).2 q hq
  · rw [if_neg z]
    refine ⟨hc.2.1 k hk, fun q hq => ?_⟩
    rw [upd_ne (by omega)]
    exact (hc.line hk).2 q hq
end COPS2

