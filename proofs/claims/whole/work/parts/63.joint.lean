/-! ONE CHANGE, IN THE CLASS AND IN THE REFERENCE -/
def OKB (b' : Bk) (F' S' : Nat → Int32) (n' : Int32) (A A' : Nat → Int32) : Prop := Wf b' ∧ CB F' S' n' b' ∧ RB A' 0 b' ∧ ∀ z, 89 ≤ z → A' z = A z
section JOINT
variable {F S G T C R D A W M O : Nat → Int32} {n l c : Int32} {b : Bk} {w : List Nat} {N i j p q s : Nat}
theorem s_miss_in (hw : Wf b) (hc : CB F S n b) (hi : i < b.length) : f_X1_isMissing n R D c (nn i) = some (0, R, D, c) := by
  unfold f_X1_isMissing
  rw [s_hasLine_in hw hc hi, Option.bind_some, if_neg (by first | decide | exact d_a | exact d_b)]
theorem s_miss_out (hw : Wf b) (hc : CB F S n b) {x : Int32} (h : outR b.length x) : f_X1_isMissing n R D c x = some (1, upd R 0 (nn 2), upd D 0 x, nn 1) := by
  unfold f_X1_isMissing
  rw [s_hasLine_out hw hc h, Option.bind_some, if_pos (by first | decide | exact d_a | exact d_b), nl2, s_keep, Option.bind_some]
theorem r_noL_in (hw : Wf b) (hr : RB A 0 b) (hi : i < b.length) : f_X9_isNoLine A M (nn i) = some (0, M) := by
  unfold f_X9_isNoLine
  rw [r_line_in hw hr hi, Option.bind_some, if_pos (by first | decide | exact d_a | exact d_b), nl0, r_refuses_0]
  rfl
theorem r_noL_out (hw : Wf b) (hr : RB A 0 b) {x : Int32} (h : outR b.length x) : f_X9_isNoLine A M x = some (1, rfM M (nn 2) x) := by
  unfold f_X9_isNoLine
  rw [r_line_out hw hr h, Option.bind_some, if_neg (by first | decide | exact d_a | exact d_b), nl1, nl2, r_refuses_1]
  rfl
theorem j_cut (hw : Wf b) (hc : CB F S n b) (hr : RB A 0 b) (x r : Int32) : (∃ i F' S' A', i < b.length ∧ x = nn i ∧ f_X1_cutLine F S n R D c x = some (1, F', S', nn (b.length - 1), R, D, c) ∧ f_X9_cuts A M r x = some (1, A', M, nn (b.length - 1)) ∧ OKB (b.eraseIdx i) F' S' (nn (b.length - 1)) A A') ∨ (∃ R' D' c' M', f_X1_cutLine F S n R D c x = some (0, F, S, n, R', D', c') ∧ f_X9_cuts A M r x = some (0, A, M', r) ∧ RFS R' D' c' M') := by
  have h8 := hw.1
  rcases arg (m := b.length) (by omega) x with ⟨i, hi, rfl⟩ | h
  · obtain ⟨F', S', e1, hc'⟩ := s_remove hw hc hi
    obtain ⟨A', e2, hr', g⟩ := r_goes hw hr hi
    refine Or.inl ⟨i, F', S', A', hi, rfl, ?_, ?_, hw.del hi, hc', hr', g⟩
    · unfold f_X1_cutLine
      rw [s_miss_in hw hc hi, Option.bind_some, if_pos rfl, e1]
      rfl
    · unfold f_X9_cuts
      rw [r_noL_in hw hr hi, Option.bind_some, if_pos rfl, e2, Option.bind_some, r_many hr', len_del hi]
      rfl
  · refine Or.inr ⟨_, _, _, _, ?_, ?_, RFS.kept (R := R) (D := D) (M := M) (x := nn 2) (y := x) (by first | decide | exact d_a | exact d_b)⟩
    · unfold f_X1_cutLine
      rw [s_miss_out hw hc h, Option.bind_some, if_neg (by first | decide | exact d_a | exact d_b)]
    · unfold f_X9_cuts
      rw [r_noL_out hw hr h, Option.bind_some, if_neg (by first | decide | exact d_a | exact d_b)]
theorem j_change (hw : Wf b) (hc : CB F S n b) (hr : RB A 0 b) (x y r om : Int32) {v : Nat} (hv : v < 65536) : (∃ i p F' A' O' om', p < sz b i ∧ x = nn i ∧ y = nn p ∧ f_X1_changeLetter F S n R D c x y (nn v) = some (1, F', R, D, c) ∧ f_X9_sets A M O r om x y (nn v) = some (1, A', M, O', nn (rk (b.set i ((ln b i).set p v)) i p), om') ∧ OKB (b.set i ((ln b i).set p v)) F' S n A A') ∨ (∃ R' D' c' M', f_X1_changeLetter F S n R D c x y (nn v) = some (0, F, R', D', c') ∧ f_X9_sets A M O r om x y (nn v) = some (0, A, M', O, r, om) ∧ RFS R' D' c' M') := by
  have h8 := hw.1
  rcases arg (m := b.length) (by omega) x with ⟨i, hi, rfl⟩ | h
  · have h10 := hw.sz_le i
    rcases arg (m := sz b i) (by omega) y with ⟨p, hp, rfl⟩ | h
    · by_cases hl : ltr v = true
      · have hl' : 97 ≤ v ∧ v ≤ 122 := by unfold ltr at hl; simpa using hl
        by_cases he : lt b i p = v
        · refine Or.inr ⟨_, _, _, _, ?_, ?_, RFS.kept (R := R) (D := D) (M := M) (x := nn 5) (y := nn p) (by first | decide | exact d_a | exact d_b)⟩
          · unfold f_X1_changeLetter
            rw [s_miss_in hw hc hi, Option.bind_some, if_pos rfl, s_place_in hw hc hp, Option.bind_some, if_pos (by first | decide | exact d_a | exact d_b), s_small (by omega), if_pos hl, Option.bind_some, if_pos (by first | decide | exact d_a | exact d_b), s_letterAt hw hc (by omega) (by omega), Option.bind_some, he, if_neg (fun z => z rfl), nl5, s_keep]
            rfl
          · unfold f_X9_sets
            rw [r_noL_in hw hr hi, Option.bind_some, if_neg (by first | decide | exact d_a | exact d_b), r_place_in hw hr hp, Option.bind_some, if_pos (by first | decide | exact d_a | exact d_b)]
            unfold f_X9_sets_J23
            rw [nl0, r_refuses_0, Option.bind_some, if_neg (by first | decide | exact d_a | exact d_b), nl97, nl122, r_in (by omega) (by omega) (by omega), if_pos hl', Option.bind_some, if_pos (by first | decide | exact d_a | exact d_b)]
            unfold f_X9_sets_J48
            rw [nl0, r_refuses_0, Option.bind_some, if_neg (by first | decide | exact d_a | exact d_b), r_at hw hr hi hp, Option.bind_some, he, if_neg (fun z => z rfl)]
            unfold f_X9_sets_J72
            rw [nl1, nl5, r_refuses_1, Option.bind_some, if_neg (by first | decide | exact d_a | exact d_b)]
            rfl
        · obtain ⟨e1, hc'⟩ := s_setB hw hc hp hv
          obtain ⟨e2, hr'⟩ := r_setB hw hr hp v
          have hw' := hw.set hi ((hw.gl hi).set (p := p) hl'.1 hl'.2)
          have hz : sz (b.set i ((ln b i).set p v)) i = sz b i := by unfold sz; rw [ln_set hi, if_pos rfl, List.length_set]
          obtain ⟨O', e3⟩ := r_rankOf hw' hr' O (i := i) (p := p) (by rw [hz]; exact hp)
          have l1 := hw.lt_le i p
          refine Or.inl ⟨i, p, _, _, O', nn (ord (b.set i ((ln b i).set p v))).length, hp, rfl, rfl, ?_, ?_, hw', hc', hr', fun z hz => upd_ne (by omega)⟩
          · unfold f_X1_changeLetter
            rw [s_miss_in hw hc hi, Option.bind_some, if_pos rfl, s_place_in hw hc hp, Option.bind_some, if_pos (by first | decide | exact d_a | exact d_b), s_small (by omega), if_pos hl, Option.bind_some, if_pos (by first | decide | exact d_a | exact d_b), s_letterAt hw hc (by omega) (by omega), Option.bind_some, if_pos (by rw [nn_eq (by omega) (by omega)]; exact he), e1]
            rfl
          · unfold f_X9_sets
            rw [r_noL_in hw hr hi, Option.bind_some, if_neg (by first | decide | exact d_a | exact d_b), r_place_in hw hr hp, Option.bind_some, if_pos (by first | decide | exact d_a | exact d_b)]
            unfold f_X9_sets_J23
            rw [nl0, r_refuses_0, Option.bind_some, if_neg (by first | decide | exact d_a | exact d_b), nl97, nl122, r_in (by omega) (by omega) (by omega), if_pos hl', Option.bind_some, if_pos (by first | decide | exact d_a | exact d_b)]
            unfold f_X9_sets_J48
            rw [nl0, r_refuses_0, Option.bind_some, if_neg (by first | decide | exact d_a | exact d_b), r_at hw hr hi hp, Option.bind_some, if_pos (by rw [nn_eq (by omega) (by omega)]; exact he)]
            unfold f_X9_sets_J72
            rw [nl0, r_refuses_0, Option.bind_some, if_pos rfl, e2, Option.bind_some, e3]
            rfl
      · have hl' : ¬ (97 ≤ v ∧ v ≤ 122) := by unfold ltr at hl; simpa using hl
        refine Or.inr ⟨_, _, _, _, ?_, ?_, RFS.kept (R := R) (D := D) (M := M) (x := nn 4) (y := nn v) (by first | decide | exact d_a | exact d_b)⟩
        · unfold f_X1_changeLetter
          rw [s_miss_in hw hc hi, Option.bind_some, if_pos rfl, s_place_in hw hc hp, Option.bind_some, if_pos (by first | decide | exact d_a | exact d_b), s_small (by omega), if_neg hl, Option.bind_some, if_neg (by first | decide | exact d_a | exact d_b), nl4, s_keep]
          rfl
        · unfold f_X9_sets
          rw [r_noL_in hw hr hi, Option.bind_some, if_neg (by first | decide | exact d_a | exact d_b), r_place_in hw hr hp, Option.bind_some, if_pos (by first | decide | exact d_a | exact d_b)]
          unfold f_X9_sets_J23
          rw [nl0, r_refuses_0, Option.bind_some, if_neg (by first | decide | exact d_a | exact d_b), nl97, nl122, r_in (by omega) (by omega) (by omega), if_neg hl', Option.bind_some, if_neg (by first | decide | exact d_a | exact d_b)]
          unfold f_X9_sets_J48
          rw [nl1, nl4, r_refuses_1, Option.bind_some, if_pos (by first | decide | exact d_a | exact d_b)]
          rfl
    · refine Or.inr ⟨_, _, _, _, ?_, ?_, RFS.kept (R := R) (D := D) (M := M) (x := nn 3) (y := y) (by first | decide | exact d_a | exact d_b)⟩
      · unfold f_X1_changeLetter
        rw [s_miss_in hw hc hi, Option.bind_some, if_pos rfl, s_place_outP hw hc hi h, Option.bind_some, if_neg (by first | decide | exact d_a | exact d_b), nl3, s_keep]
        rfl
      · unfold f_X9_sets
        rw [r_noL_in hw hr hi, Option.bind_some, if_neg (by first | decide | exact d_a | exact d_b), r_place_outP hw hr hi h, Option.bind_some, if_neg (by first | decide | exact d_a | exact d_b)]
        unfold f_X9_sets_J23
        rw [nl1, nl3, r_refuses_1, Option.bind_some, if_pos (by first | decide | exact d_a | exact d_b)]
  · refine Or.inr ⟨_, _, _, _, ?_, ?_, RFS.kept (R := R) (D := D) (M := M) (x := nn 2) (y := x) (by first | decide | exact d_a | exact d_b)⟩
    · unfold f_X1_changeLetter
      rw [s_miss_out hw hc h, Option.bind_some, if_neg (by first | decide | exact d_a | exact d_b)]
    · unfold f_X9_sets
      rw [r_noL_out hw hr h, Option.bind_some, if_pos (by first | decide | exact d_a | exact d_b)]
theorem j_pair (hw : Wf b) (hc : CB F S n b) (hr : RB A 0 b) (x y : Int32) : (∃ i j, i < b.length ∧ j < b.length ∧ i ≠ j ∧ x = nn i ∧ y = nn j ∧ f_X1_isNoPair n R D c x y = some (0, R, D, c) ∧ f_X9_areOne A M x y = some (0, M)) ∨ (∃ R' D' c' M', f_X1_isNoPair n R D c x y = some (1, R', D', c') ∧ f_X9_areOne A M x y = some (1, M') ∧ RFS R' D' c' M') := by
  have h8 := hw.1
  rcases arg (m := b.length) (by omega) x with ⟨i, hi, rfl⟩ | h
  · rcases arg (m := b.length) (by omega) y with ⟨j, hj, rfl⟩ | h
    · by_cases e : i = j
      · subst e
        refine Or.inr ⟨_, _, _, _, ?_, ?_, RFS.kept (R := R) (D := D) (M := M) (x := nn 6) (y := nn i) (by first | decide | exact d_a | exact d_b)⟩
        · unfold f_X1_isNoPair
          rw [s_miss_in hw hc hi, Option.bind_some, if_neg (by first | decide | exact d_a | exact d_b), s_miss_in hw hc hi, Option.bind_some, if_pos rfl, if_neg (fun z => z rfl), nl6, s_keep]
          rfl
        · unfold f_X9_areOne
          rw [r_noL_in hw hr hi, Option.bind_some, if_neg (by first | decide | exact d_a | exact d_b), r_noL_in hw hr hi, Option.bind_some, if_neg (by first | decide | exact d_a | exact d_b), if_neg (fun z => z rfl)]
          unfold f_X9_areOne_J27
          rw [nl1, nl6, r_refuses_1, Option.bind_some, if_neg (by first | decide | exact d_a | exact d_b)]
      · refine Or.inl ⟨i, j, hi, hj, e, rfl, rfl, ?_, ?_⟩
        · unfold f_X1_isNoPair
          rw [s_miss_in hw hc hi, Option.bind_some, if_neg (by first | decide | exact d_a | exact d_b), s_miss_in hw hc hj, Option.bind_some, if_pos rfl, if_pos (by rw [nn_eq (by omega) (by omega)]; exact e)]
        · unfold f_X9_areOne
          rw [r_noL_in hw hr hi, Option.bind_some, if_neg (by first | decide | exact d_a | exact d_b), r_noL_in hw hr hj, Option.bind_some, if_neg (by first | decide | exact d_a | exact d_b), if_pos (by rw [nn_eq (by omega) (by omega)]; exact e)]
          unfold f_X9_areOne_J27
          rw [nl0, r_refuses_0, Option.bind_some, if_pos rfl]
    · refine Or.inr ⟨_, _, _, _, ?_, ?_, RFS.kept (R := R) (D := D) (M := M) (x := nn 2) (y := y) (by first | decide | exact d_a | exact d_b)⟩
      · unfold f_X1_isNoPair
        rw [s_miss_in hw hc hi, Option.bind_some, if_neg (by first | decide | exact d_a | exact d_b), s_miss_out hw hc h, Option.bind_some, if_neg (by first | decide | exact d_a | exact d_b)]
      · unfold f_X9_areOne
        rw [r_noL_in hw hr hi, Option.bind_some, if_neg (by first | decide | exact d_a | exact d_b), r_noL_out hw hr h, Option.bind_some, if_pos (by first | decide | exact d_a | exact d_b)]
  · refine Or.inr ⟨_, _, _, _, ?_, ?_, RFS.kept (R := R) (D := D) (M := M) (x := nn 2) (y := x) (by first | decide | exact d_a | exact d_b)⟩
    · unfold f_X1_isNoPair
      rw [s_miss_out hw hc h, Option.bind_some, if_pos (by first | decide | exact d_a | exact d_b)]
    · unfold f_X9_areOne
      rw [r_noL_out hw hr h, Option.bind_some, if_pos (by first | decide | exact d_a | exact d_b)]
theorem j_swap (hw : Wf b) (hc : CB F S n b) (hr : RB A 0 b) (x y r : Int32) : (∃ i j F' S' A', i < b.length ∧ j < b.length ∧ x = nn i ∧ y = nn j ∧ f_X1_swapLines F S n R D c x y = some (1, F', S', R, D, c) ∧ f_X9_swaps A M r x y = some (1, A', M, nn (max (sz b j) (sz b i))) ∧ OKB ((b.set i (ln b j)).set j (ln b i)) F' S' n A A') ∨ (∃ R' D' c' M', f_X1_swapLines F S n R D c x y = some (0, F, S, R', D', c') ∧ f_X9_swaps A M r x y = some (0, A, M', r) ∧ RFS R' D' c' M') := by
  have h8 := hw.1
  rcases j_pair (R := R) (D := D) (c := c) (M := M) hw hc hr x y with ⟨i, j, hi, hj, hij, rfl, rfl, q1, q2⟩ | ⟨R', D', c', M', q1, q2, q3⟩
  · obtain ⟨F', S', e1, m1, m2, m3, hch⟩ := s_exch (i := i) (j := j) h8 hi hj S hc.2.2.2
    have hc' : CB F' S' n ((b.set i (ln b j)).set j (ln b i)) := by
      refine CB.mk' (by rw [len_swap]; exact hc.1) (fun k hk => ?_) hch
      rw [len_swap] at hk
      rw [ln_swap hi hj]
      by_cases z : k = j
      · rw [if_pos z, z]
        exact m2.line (hw.len hi) (hc.line hi)
      · rw [if_neg z]
        by_cases y : k = i
        · rw [if_pos y, y]
          exact m1.line (hw.len hj) (hc.line hj)
        · rw [if_neg y]
          exact (m3 k y z).line (hw.len hk) (hc.line hk)
    obtain ⟨A', e2, g1, g2, g3⟩ := r_swap_L (A := A) (i := i) (j := j) (by omega) (by omega) (fun _ q => (f_X9_size q (nn i)).bind fun r56_10 => (f_X9_size q (nn j)).bind fun r61_11 => if r56_10 ≤ r61_11 then ((f_X9_size q (nn j)).bind fun r77_13 => some ((1 : Int32), q, M, r77_13)) else ((f_X9_size q (nn i)).bind fun r69_14 => some ((1 : Int32), q, M, r69_14))) 1000 0 A (by omega) (by omega) (fun q hq => by omega) (fun z _ _ => rfl)
    have hr' := hr.swap hw hi hj g1 g2 g3
    refine Or.inl ⟨i, j, F', S', A', hi, hj, rfl, rfl, ?_, ?_, hw.swap hi hj, hc', hr', fun z hz => g3 z (by omega) (by omega)⟩
    · unfold f_X1_swapLines
      rw [q1, Option.bind_some, if_pos rfl]
      rw [hc.1, e1]
      rfl
    · have s1 : f_X9_size A' (nn i) = some (nn (sz b j)) := by
        rw [raw_rsize (by omega), g1 10 (by omega)]
        exact congrArg some (hr.line hj).1
      have s2 : f_X9_size A' (nn j) = some (nn (sz b i)) := by
        rw [raw_rsize (by omega), g2 10 (by omega)]
        exact congrArg some (hr.line hi).1
      have z1 := hw.sz_le i
      have z2 := hw.sz_le j
      unfold f_X9_swaps
      rw [q2, Option.bind_some, if_pos rfl]
      rw [s1, Option.bind_some, s2, Option.bind_some, Option.bind_some, Option.bind_some] at e2
      refine e2.trans ?_
      by_cases z : sz b j ≤ sz b i
      · rw [if_pos (by rw [nn_le (by omega) (by omega)]; exact z), Nat.max_eq_right z]
      · rw [if_neg (by rw [nn_le (by omega) (by omega)]; exact z), Nat.max_eq_left (by omega)]
  · refine Or.inr ⟨R', D', c', M', ?_, ?_, q3⟩
    · unfold f_X1_swapLines
      rw [q1, Option.bind_some, if_neg (by first | decide | exact d_a | exact d_b)]
    · unfold f_X9_swaps
      rw [q2, Option.bind_some, if_neg (by first | decide | exact d_a | exact d_b)]
theorem RFS.cause (R D M : Nat → Int32) (x y x' y' : Int32) (hx : ¬ x = nn 0) (hx' : ¬ x' = nn 0) : RFS (upd (upd R 0 x) 1 x') (upd (upd D 0 y) 1 y') (nn 2) (upd (upd (rfM M x y) 2 x') 3 y') := by
  refine ⟨2, by omega, rfl, fun d hd => ?_, fun d h1 h2 => ?_⟩
  · unfold rfM
    by_cases h : d = 0
    · subst h
      refine ⟨?_, ?_, ?_⟩
      · rw [upd_ne (by omega), upd_ne (by omega), upd_ne (by omega), upd_ne (by omega), upd_ne (by omega), upd_eq, upd_ne (by omega), upd_eq]
      · rw [upd_ne (by omega), upd_ne (by omega), upd_ne (by omega), upd_ne (by omega), upd_eq, upd_ne (by omega), upd_eq]
      · rw [upd_ne (by omega), upd_eq]; exact hx
    · have : d = 1 := by omega
      subst this
      refine ⟨?_, ?_, ?_⟩
      · rw [upd_ne (by omega), upd_eq, upd_eq]
      · rw [upd_eq, upd_eq]
      · rw [upd_eq]; exact hx'
  · have : d = 2 := by omega
    subst this
    unfold rfM
    rw [upd_ne (by omega), upd_ne (by omega), upd_eq]
theorem j_join (hw : Wf b) (hc : CB F S n b) (hr : RB A 0 b) (x y r : Int32) : (∃ i j F' S' A', i < b.length ∧ j < b.length ∧ i ≠ j ∧ x = nn i ∧ y = nn j ∧ f_X1_joinLines F S n R D c x y = some (1, F', S', nn (b.length - 1), R, D, c) ∧ f_X9_joins A M r x y = some (1, A', M, if x ≤ y then x else x - 1) ∧ OKB ((b.set i (ln b i ++ ln b j)).eraseIdx j) F' S' (nn (b.length - 1)) A A') ∨ (∃ R' D' c' M', f_X1_joinLines F S n R D c x y = some (0, F, S, n, R', D', c') ∧ f_X9_joins A M r x y = some (0, A, M', r) ∧ RFS R' D' c' M') := by
  have h8 := hw.1
  rcases j_pair (R := R) (D := D) (c := c) (M := M) hw hc hr x y with ⟨i, j, hi, hj, hij, rfl, rfl, q1, q2⟩ | ⟨R', D', c', M', q1, q2, q3⟩
  · have z1 := hw.sz_le i
    have z2 := hw.sz_le j
    by_cases h10 : sz b i + sz b j ≤ 10
    · obtain ⟨F', S', e1, hc'⟩ := s_joinB (R := R) (D := D) (c := c) hw hc hi hj hij h10
      have hg : GL (ln b i ++ ln b j) := (hw.gl hi).app (hw.gl hj) h10
      have hw' := hw.set hi hg
      have hlen : (b.set i (ln b i ++ ln b j)).length = b.length := List.length_set ..
      obtain ⟨A1, e2, g1, g2⟩ := r_join_L (A := A) (i := i) (j := j) (by omega) (by omega) hij h10 (fun _ q => (f_X9_set q (nn i) (nn 10) (nn (sz b i + sz b j))).bind fun r109_13 => (f_X9_goes r109_13 (nn j)).bind fun r114_14 => if nn i ≤ nn j then (some ((1 : Int32), r114_14, M, nn i)) else (some ((1 : Int32), r114_14, M, nn i - nn 1))) 1000 0 A (by omega) (by omega) (fun q hq => by omega) (fun z _ => rfl)
      have hr1 := hr.join hw hi hj h10 g1 g2
      obtain ⟨A', e3, hr', g3⟩ := r_goes hw' hr1 (i := j) (by rw [hlen]; exact hj)
      refine Or.inl ⟨i, j, F', S', A', hi, hj, hij, rfl, rfl, ?_, ?_, hw'.del (by rw [hlen]; exact hj), hc', hr', fun z hz => ?_⟩
      · unfold f_X1_joinLines
        rw [q1, Option.bind_some, if_pos rfl, s_size hw hc (by omega), Option.bind_some, s_size hw hc (by omega), Option.bind_some, nl10, nn_add, if_pos (by rw [nn_le (by omega) (by omega)]; exact h10)]
        exact e1
      · unfold f_X9_joins
        rw [q2, Option.bind_some, if_pos rfl, r_size hw hr hi, Option.bind_some, r_size hw hr hj, Option.bind_some, nl10, nn_add, if_pos (by rw [nn_le (by omega) (by omega)]; exact h10)]
        unfold f_X9_joins_J39
        rw [nl0, r_refuses_0, Option.bind_some, if_pos rfl]
        rw [raw_set (by omega) (by omega), Option.bind_some, e3, Option.bind_some] at e2
        rw [nn_add]
        refine e2.trans ?_
        rw [nl1]
        by_cases z : nn i ≤ nn j
        · rw [if_pos z, if_pos z]
        · rw [if_neg z, if_neg z]
      · rw [g3 z hz, upd_ne (by omega)]
        exact g2 z (by omega)
    · refine Or.inr ⟨_, _, _, _, ?_, ?_, RFS.cause R D M (nn 7) (nn (sz b i + sz b j)) (nn 11) (nn (sz b j)) (by first | decide | exact d_a | exact d_b) (by first | decide | exact d_a | exact d_b)⟩
      · unfold f_X1_joinLines
        rw [q1, Option.bind_some, if_pos rfl, s_size hw hc (by omega), Option.bind_some, s_size hw hc (by omega), Option.bind_some, nl10, nn_add, if_neg (by rw [nn_le (by omega) (by omega)]; exact h10), nl7, s_keep, Option.bind_some, Option.bind_some, nl11, s_cause]
        rfl
      · unfold f_X9_joins
        rw [q2, Option.bind_some, if_pos rfl, r_size hw hr hi, Option.bind_some, r_size hw hr hj, Option.bind_some, nl10, nn_add, if_neg (by rw [nn_le (by omega) (by omega)]; exact h10)]
        unfold f_X9_joins_J39
        rw [nl1, nl7, r_refuses_1, Option.bind_some, if_neg (by first | decide | exact d_a | exact d_b), nn_add, nl2, sti_nn (by omega) (by omega), Option.bind_some, nl3, sti_nn (by omega) (by omega)]
        rfl
  · refine Or.inr ⟨R', D', c', M', ?_, ?_, q3⟩
    · unfold f_X1_joinLines
      rw [q1, Option.bind_some, if_neg (by first | decide | exact d_a | exact d_b)]
    · unfold f_X9_joins
      rw [q2, Option.bind_some, if_neg (by first | decide | exact d_a | exact d_b)]
theorem j_turn (hw : Wf b) (hc : CB F S n b) (hr : RB A 0 b) (x r om : Int32) : (∃ i F' A' O' om', i < b.length ∧ x = nn i ∧ f_X1_turnLine F S n R D c x = some (1, F', R, D, c) ∧ f_X9_turns A M O r om x = some (1, A', M, O', nn (rk (b.set i (ln b i).reverse) i 0), om') ∧ OKB (b.set i (ln b i).reverse) F' S n A A') ∨ (∃ R' D' c' M', f_X1_turnLine F S n R D c x = some (0, F, R', D', c') ∧ f_X9_turns A M O r om x = some (0, A, M', O, r, om) ∧ RFS R' D' c' M') := by
  have h8 := hw.1
  rcases arg (m := b.length) (by omega) x with ⟨i, hi, rfl⟩ | h
  · have h1 : 1 ≤ sz b i := (hw.gl hi).1
    have h10 := hw.sz_le i
    by_cases e : rvs b i i = true
    · refine Or.inr ⟨_, _, _, _, ?_, ?_, RFS.kept (R := R) (D := D) (M := M) (x := nn 8) (y := nn i) (by first | decide | exact d_a | exact d_b)⟩
      · unfold f_X1_turnLine
        rw [s_miss_in hw hc hi, Option.bind_some, if_pos rfl, s_isReverse hw hc (by omega) (by omega), if_pos e, Option.bind_some, if_neg (by first | decide | exact d_a | exact d_b), nl8, s_keep]
        rfl
      · unfold f_X9_turns
        rw [r_noL_in hw hr hi, Option.bind_some, if_neg (by first | decide | exact d_a | exact d_b), r_isBack hw hr hi hi, if_pos e, Option.bind_some, nl8, r_refuses_1, Option.bind_some, if_neg (by first | decide | exact d_a | exact d_b)]
    · obtain ⟨F', e1, hc'⟩ := s_reverse hw hc hi
      have hw' := hw.set hi (hw.gl hi).rev
      obtain ⟨xx, A', e2, g1, g2⟩ := r_turn_L (A := A) (i := i) (m := sz b i - 1) (by omega) (by omega) (fun _ q => (f_X9_rankOf q O (nn i) (nn 0)).bind fun r89_14 => some ((1 : Int32), q, M, r89_14.2.1, r89_14.1, r89_14.2.2)) 1000 0 A (by omega) (by omega) (fun q q1 q2 => by omega) (fun z _ => rfl)
      have hr' := hr.turn hw hi g1 g2
      have hz : sz (b.set i (ln b i).reverse) i = sz b i := by unfold sz; rw [ln_set hi, if_pos rfl, List.length_reverse]
      obtain ⟨O', e3⟩ := r_rankOf hw' hr' O (i := i) (p := 0) (by rw [hz]; omega)
      refine Or.inl ⟨i, F', A', O', nn (ord (b.set i (ln b i).reverse)).length, hi, rfl, ?_, ?_, hw', hc', hr', fun z hz => g2 z (by omega)⟩
      · unfold f_X1_turnLine
        rw [s_miss_in hw hc hi, Option.bind_some, if_pos rfl, s_isReverse hw hc (by omega) (by omega), if_neg e, Option.bind_some, if_pos (by first | decide | exact d_a | exact d_b), e1]
        rfl
      · unfold f_X9_turns
        rw [r_noL_in hw hr hi, Option.bind_some, if_neg (by first | decide | exact d_a | exact d_b), r_isBack hw hr hi hi, if_neg e, Option.bind_some, r_refuses_0, Option.bind_some, if_pos d_c, r_size hw hr hi, Option.bind_some]
        rw [show sz b i - 1 + 1 = sz b i by omega, e3] at e2
        exact e2
  · refine Or.inr ⟨_, _, _, _, ?_, ?_, RFS.kept (R := R) (D := D) (M := M) (x := nn 2) (y := x) (by first | decide | exact d_a | exact d_b)⟩
    · unfold f_X1_turnLine
      rw [s_miss_out hw hc h, Option.bind_some, if_neg (by first | decide | exact d_a | exact d_b)]
    · unfold f_X9_turns
      rw [r_noL_out hw hr h, Option.bind_some, if_pos (by first | decide | exact d_a | exact d_b)]
theorem j_adds (hw : Wf b) (hc : CB F S n b) (hr : RB A 0 b) (ht : TX C l w) {st m : Nat} (hg : GL (sub w st m)) (hst : st + m ≤ w.length) (hd : ∀ q, q < m → W q = nn (w.getD (st + q) 0)) (r : Int32) : (∃ F' S' A', f_X1_addWord F S n R D c C l (nn st) (nn (st + m)) = some (1, F', S', nn (b.length + 1), R, D, c) ∧ f_X9_adds A M W r (nn m) = some (1, A', M, nn b.length) ∧ OKB (b ++ [sub w st m]) F' S' (nn (b.length + 1)) A A') ∨ (∃ R' D' c' M', f_X1_addWord F S n R D c C l (nn st) (nn (st + m)) = some (0, F, S, n, R', D', c') ∧ f_X9_adds A M W r (nn m) = some (0, A, M', r) ∧ RFS R' D' c' M') := by
  have h8 := hw.1
  by_cases h : b.length < 8
  · obtain ⟨F', S', e1, hc'⟩ := s_addWord (R := R) (D := D) (c := c) hw hc ht hg hst h
    obtain ⟨A', e2, hr', g⟩ := r_adds (A := A) (W := W) (M := M) hw hr hg (fun q hq => by rw [sub_len hst] at hq; rw [sub_get hq hst]; exact hd q hq) h r
    rw [sub_len hst] at e2
    exact Or.inl ⟨F', S', A', e1, e2, hw.app h hg, hc', hr', g⟩
  · have h' : b.length = 8 := by omega
    exact Or.inr ⟨_, _, _, _, s_addFull hc h' _ _, r_addsFull hr h' _ _, RFS.kept (R := R) (D := D) (M := M) (x := nn 1) (y := nn 8) (by first | decide | exact d_a | exact d_b)⟩
end JOINT
