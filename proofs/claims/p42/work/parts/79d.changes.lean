/-! WHAT THE LAW'S CHANGES DO -/
theorem cpl_self : ∀ u : List Nat, cpl u u = u.length
  | [] => rfl
  | a :: u => by rw [cpl_cons, if_pos rfl, cpl_self u]; rfl
theorem lsha_same {b : Bk} (i : Nat) : lsha b i i = sz b i := by
  apply Nat.le_antisymm
  · refine mx_leR _ _ (fun p _ hp => Nat.le_trans (mil_le' _ _ _ _) (by omega))
  · by_cases h : 0 < sz b i
    · refine Nat.le_trans ?_ (le_mx (f := fun p => mil b i p i (sz b i)) (sz b i - 0) 0 0 (by omega) (by omega))
      refine Nat.le_trans ?_ (le_mx (f := fun q => cpl (sfx b i 0) (sfx b i q)) (sz b i - 0) 0 0 (by omega) (by omega))
      show _ ≤ cpl (sfx b i 0) (sfx b i 0)
      rw [cpl_self, sfx_len]
      omega
    · omega
theorem al_of {P : Nat → Bool} : ∀ (m k : Nat), (∀ x, k ≤ x → x < k + m → P x = true) → al P k m = true
  | 0, k, h => rfl
  | m + 1, k, h => by
    show (if P k = true then al P (k + 1) m else false) = true
    rw [if_pos (h k (by omega) (by omega))]
    exact al_of m (k + 1) (fun x h1 h2 => h x (by omega) (by omega))
theorem LT_wrd {u : List Nat} (hu : LT u) (h1 : 1 ≤ u.length) : wrd u = true := by
  have a1 := hu.1
  unfold wrd
  rw [Bool.and_eq_true, Bool.and_eq_true, decide_eq_true_iff, decide_eq_true_iff]
  refine ⟨h1, a1, al_of _ _ (fun x _ hx => ?_)⟩
  have b1 := hu.at x
  have b2 := hu.at_ge (a := x) (by omega)
  unfold ltr
  rw [Bool.and_eq_true, decide_eq_true_iff, decide_eq_true_iff]
  exact ⟨b2, b1⟩
section CHGL
variable {F S TC L P M C : Nat → Int32} {n tl en l o hz : Int32} {b : Bk} {w : List Nat} {i j p q k : Nat} {HL HZ : Nat → Nat → Int32} {HN : Nat → Int32}
theorem ln_swap (hi : i < b.length) (hj : j < b.length) (k : Nat) : ln ((b.set i (ln b j)).set j (ln b i)) k = if k = j then ln b i else if k = i then ln b j else ln b k := by
  rw [ln_set (by rw [List.length_set]; exact hj), ln_set hi]
theorem len_swap (b : Bk) (i j : Nat) (u v : List Nat) : ((b.set i u).set j v).length = b.length := by rw [List.length_set, List.length_set]
theorem Wf.swap (hw : Wf b) (hi : i < b.length) (hj : j < b.length) : Wf ((b.set i (ln b j)).set j (ln b i)) := (hw.set hi (hw.gl hj)).set (by rw [List.length_set]; exact hj) (hw.gl hi)
theorem sub_all (w : List Nat) : sub w 0 w.length = w := by unfold sub; rw [List.drop_zero, List.take_length]
def RC (c : Int32) : Prop := c = nn 1 ∨ c = nn 2
theorem x_reason (R D : Nat → Int32) {c : Int32} (h : RC c) : f_X8_reason R D c 0 0 = some (.inl (R 0)) := by
  have h1 : ldi R 3 0 = some (R 0) := ldi_nn (a := 0) (by omega) (by omega)
  unfold f_X8_reason f_X6_reasonCount f_X6_reasonAt
  rcases h with rfl | rfl
  · rw [if_neg (by decide), if_pos (by decide), Option.bind_some, if_pos (by decide), if_pos rfl, if_neg (by decide), if_neg (by decide), h1]
    rfl
  · rw [if_neg (by decide), if_pos (by decide), Option.bind_some, if_pos (by decide), if_pos rfl, if_neg (by decide), if_neg (by decide), h1]
    rfl
theorem m_cause (R D : Nat → Int32) (x y : Int32) : f_X6_keepCause R D (nn 1) x y = some (upd R 1 x, upd D 1 y, nn 2) := by
  have h1 : sti R 3 (nn 1) x = some (upd R 1 x) := sti_nn (by omega) (by omega)
  have h2 : sti D 3 (nn 1) y = some (upd D 1 y) := sti_nn (by omega) (by omega)
  unfold f_X6_keepCause
  rw [if_neg (by decide), h1, Option.bind_some, h2, Option.bind_some]
  rfl
theorem m_cut (hw : Wf b) (hc : CB F S n b) (R D : Nat → Int32) (c x : Int32) : (∃ b' F' S' n', f_X1_cutLine F S n R D c x = some (1, F', S', n', R, D, c) ∧ Wf b' ∧ CB F' S' n' b') ∨ (∃ R' D' c', f_X1_cutLine F S n R D c x = some (0, F, S, n, R', D', c') ∧ RC c') := by
  have h8 := hw.1
  rcases arg (m := b.length) (by omega) x with ⟨i, hi, rfl⟩ | h
  · obtain ⟨F', S', e1, hc'⟩ := s_remove hw hc hi
    refine Or.inl ⟨_, F', S', _, ?_, hw.del hi, by rw [← len_del hi] at hc'; exact hc'⟩
    unfold f_X1_cutLine
    rw [s_miss_in hw hc hi, Option.bind_some, if_pos rfl, e1, len_del hi]
    rfl
  · refine Or.inr ⟨upd R 0 (nn 2), upd D 0 (x), nn 1, ?_, Or.inl rfl⟩
    unfold f_X1_cutLine
    rw [s_miss_out hw hc h, Option.bind_some, if_neg (by first | decide | exact d_a | exact d_b)]
theorem m_change (hw : Wf b) (hc : CB F S n b) (R D : Nat → Int32) (c x y : Int32) {v : Nat} (hv : v < 65536) : (∃ b' i p F', x = nn i ∧ y = nn p ∧ f_X1_changeLetter F S n R D c x y (nn v) = some (1, F', R, D, c) ∧ Wf b' ∧ CB F' S n b' ∧ p < sz b' i) ∨ (∃ R' D' c', f_X1_changeLetter F S n R D c x y (nn v) = some (0, F, R', D', c') ∧ RC c') := by
  have h8 := hw.1
  rcases arg (m := b.length) (by omega) x with ⟨i, hi, rfl⟩ | h
  · have h10 := hw.sz_le i
    rcases arg (m := sz b i) (by omega) y with ⟨p, hp, rfl⟩ | h
    · by_cases hl : ltr v = true
      · have hl' : 97 ≤ v ∧ v ≤ 122 := by unfold ltr at hl; simpa using hl
        by_cases he : lt b i p = v
        · refine Or.inr ⟨upd R 0 (nn 5), upd D 0 (nn p), nn 1, ?_, Or.inl rfl⟩
          unfold f_X1_changeLetter
          rw [s_miss_in hw hc hi, Option.bind_some, if_pos rfl, s_place_in hw hc hp, Option.bind_some, if_pos (by first | decide | exact d_a | exact d_b), s_small (by omega), if_pos hl, Option.bind_some, if_pos (by first | decide | exact d_a | exact d_b), s_letterAt hw hc (by omega) (by omega), Option.bind_some, he, if_neg (fun z => z rfl), nl5, s_keep]
          rfl
        · obtain ⟨e1, hc'⟩ := s_setB hw hc hp hv
          have hw' := hw.set hi ((hw.gl hi).set (p := p) hl'.1 hl'.2)
          have hz : sz (b.set i ((ln b i).set p v)) i = sz b i := by unfold sz; rw [ln_set hi, if_pos rfl, List.length_set]
          have l1 := hw.lt_le i p
          refine Or.inl ⟨_, i, p, _, rfl, rfl, ?_, hw', hc', by rw [hz]; exact hp⟩
          unfold f_X1_changeLetter
          rw [s_miss_in hw hc hi, Option.bind_some, if_pos rfl, s_place_in hw hc hp, Option.bind_some, if_pos (by first | decide | exact d_a | exact d_b), s_small (by omega), if_pos hl, Option.bind_some, if_pos (by first | decide | exact d_a | exact d_b), s_letterAt hw hc (by omega) (by omega), Option.bind_some, if_pos (by rw [nn_eq (by omega) (by omega)]; exact he), e1]
          rfl
      · refine Or.inr ⟨upd R 0 (nn 4), upd D 0 (nn v), nn 1, ?_, Or.inl rfl⟩
        unfold f_X1_changeLetter
        rw [s_miss_in hw hc hi, Option.bind_some, if_pos rfl, s_place_in hw hc hp, Option.bind_some, if_pos (by first | decide | exact d_a | exact d_b), s_small (by omega), if_neg hl, Option.bind_some, if_neg (by first | decide | exact d_a | exact d_b), nl4, s_keep]
        rfl
    · refine Or.inr ⟨upd R 0 (nn 3), upd D 0 (y), nn 1, ?_, Or.inl rfl⟩
      unfold f_X1_changeLetter
      rw [s_miss_in hw hc hi, Option.bind_some, if_pos rfl, s_place_outP hw hc hi h, Option.bind_some, if_neg (by first | decide | exact d_a | exact d_b), nl3, s_keep]
      rfl
  · refine Or.inr ⟨upd R 0 (nn 2), upd D 0 (x), nn 1, ?_, Or.inl rfl⟩
    unfold f_X1_changeLetter
    rw [s_miss_out hw hc h, Option.bind_some, if_neg (by first | decide | exact d_a | exact d_b)]
theorem m_pair (hw : Wf b) (hc : CB F S n b) (R D : Nat → Int32) (c x y : Int32) : (∃ i j, i < b.length ∧ j < b.length ∧ i ≠ j ∧ x = nn i ∧ y = nn j ∧ f_X1_isNoPair n R D c x y = some (0, R, D, c)) ∨ (∃ R' D' c', f_X1_isNoPair n R D c x y = some (1, R', D', c') ∧ RC c') := by
  have h8 := hw.1
  rcases arg (m := b.length) (by omega) x with ⟨i, hi, rfl⟩ | h
  · rcases arg (m := b.length) (by omega) y with ⟨j, hj, rfl⟩ | h
    · by_cases e : i = j
      · subst e
        refine Or.inr ⟨upd R 0 (nn 6), upd D 0 (nn i), nn 1, ?_, Or.inl rfl⟩
        unfold f_X1_isNoPair
        rw [s_miss_in hw hc hi, Option.bind_some, if_neg (by first | decide | exact d_a | exact d_b), s_miss_in hw hc hi, Option.bind_some, if_pos rfl, if_neg (fun z => z rfl), nl6, s_keep]
        rfl
      · refine Or.inl ⟨i, j, hi, hj, e, rfl, rfl, ?_⟩
        unfold f_X1_isNoPair
        rw [s_miss_in hw hc hi, Option.bind_some, if_neg (by first | decide | exact d_a | exact d_b), s_miss_in hw hc hj, Option.bind_some, if_pos rfl, if_pos (by rw [nn_eq (by omega) (by omega)]; exact e)]
    · refine Or.inr ⟨upd R 0 (nn 2), upd D 0 (y), nn 1, ?_, Or.inl rfl⟩
      unfold f_X1_isNoPair
      rw [s_miss_in hw hc hi, Option.bind_some, if_neg (by first | decide | exact d_a | exact d_b), s_miss_out hw hc h, Option.bind_some, if_neg (by first | decide | exact d_a | exact d_b)]
  · refine Or.inr ⟨upd R 0 (nn 2), upd D 0 (x), nn 1, ?_, Or.inl rfl⟩
    unfold f_X1_isNoPair
    rw [s_miss_out hw hc h, Option.bind_some, if_pos (by first | decide | exact d_a | exact d_b)]
theorem m_swap (hw : Wf b) (hc : CB F S n b) (R D : Nat → Int32) (c x y : Int32) : (∃ b' i j F' S', x = nn i ∧ y = nn j ∧ i < 8 ∧ j < 8 ∧ f_X1_swapLines F S n R D c x y = some (1, F', S', R, D, c) ∧ Wf b' ∧ CB F' S' n b') ∨ (∃ R' D' c', f_X1_swapLines F S n R D c x y = some (0, F, S, R', D', c') ∧ RC c') := by
  have h8 := hw.1
  rcases m_pair hw hc R D c x y with ⟨i, j, hi, hj, hij, rfl, rfl, q1⟩ | ⟨R', D', c', q1, q3⟩
  · obtain ⟨F', S', e1, m1, m2, m3, hch⟩ := s_exch (i := i) (j := j) h8 hi hj S hc.2.2.2
    have hc' : CB F' S' n ((b.set i (ln b j)).set j (ln b i)) := by
      refine CB.mk' (by rw [len_swap]; exact hc.1) (fun k hk => ?_) hch
      rw [len_swap] at hk
      rw [ln_swap hi hj]
      by_cases z : k = j
      · rw [if_pos z, z]
        exact m2.line (hw.len hi) (hc.line hi)
      · rw [if_neg z]
        by_cases y : k = i
        · rw [if_pos y, y]
          exact m1.line (hw.len hj) (hc.line hj)
        · rw [if_neg y]
          exact (m3 k y z).line (hw.len hk) (hc.line hk)
    refine Or.inl ⟨_, i, j, F', S', rfl, rfl, by omega, by omega, ?_, hw.swap hi hj, hc'⟩
    unfold f_X1_swapLines
    rw [q1, Option.bind_some, if_pos rfl]
    rw [hc.1, e1]
    rfl
  · refine Or.inr ⟨R', D', c', ?_, q3⟩
    unfold f_X1_swapLines
    rw [q1, Option.bind_some, if_neg (by first | decide | exact d_a | exact d_b)]
theorem m_join (hw : Wf b) (hc : CB F S n b) (R D : Nat → Int32) (c x y : Int32) : (∃ b' F' S' n', f_X1_joinLines F S n R D c x y = some (1, F', S', n', R, D, c) ∧ Wf b' ∧ CB F' S' n' b') ∨ (∃ R' D' c', f_X1_joinLines F S n R D c x y = some (0, F, S, n, R', D', c') ∧ RC c') := by
  have h8 := hw.1
  rcases m_pair hw hc R D c x y with ⟨i, j, hi, hj, hij, rfl, rfl, q1⟩ | ⟨R', D', c', q1, q3⟩
  · have z1 := hw.sz_le i
    have z2 := hw.sz_le j
    by_cases h10 : sz b i + sz b j ≤ 10
    · obtain ⟨F', S', e1, hc'⟩ := s_joinB (R := R) (D := D) (c := c) hw hc hi hj hij h10
      have hg : GL (ln b i ++ ln b j) := (hw.gl hi).app (hw.gl hj) h10
      have hw' := hw.set hi hg
      have hlen : (b.set i (ln b i ++ ln b j)).length = b.length := List.length_set ..
      refine Or.inl ⟨_, F', S', _, ?_, hw'.del (by rw [hlen]; exact hj), hc'⟩
      unfold f_X1_joinLines
      rw [q1, Option.bind_some, if_pos rfl, s_size hw hc (by omega), Option.bind_some, s_size hw hc (by omega), Option.bind_some, nl10, nn_add, if_pos (by rw [nn_le (by omega) (by omega)]; exact h10)]
      exact e1
    · refine Or.inr ⟨upd (upd R 0 (nn 7)) 1 (nn 11), upd (upd D 0 (nn (sz b i + sz b j))) 1 (nn (sz b j)), nn 2, ?_, Or.inr rfl⟩
      unfold f_X1_joinLines
      rw [q1, Option.bind_some, if_pos rfl, s_size hw hc (by omega), Option.bind_some, s_size hw hc (by omega), Option.bind_some, nl10, nn_add, if_neg (by rw [nn_le (by omega) (by omega)]; exact h10), nl7, s_keep, Option.bind_some, Option.bind_some, nl11, m_cause]
      rfl
  · refine Or.inr ⟨R', D', c', ?_, q3⟩
    unfold f_X1_joinLines
    rw [q1, Option.bind_some, if_neg (by first | decide | exact d_a | exact d_b)]
theorem m_turn (hw : Wf b) (hc : CB F S n b) (R D : Nat → Int32) (c x : Int32) : (∃ b' i F', x = nn i ∧ f_X1_turnLine F S n R D c x = some (1, F', R, D, c) ∧ Wf b' ∧ CB F' S n b' ∧ 0 < sz b' i) ∨ (∃ R' D' c', f_X1_turnLine F S n R D c x = some (0, F, R', D', c') ∧ RC c') := by
  have h8 := hw.1
  rcases arg (m := b.length) (by omega) x with ⟨i, hi, rfl⟩ | h
  · have h1 : 1 ≤ sz b i := (hw.gl hi).1
    have h10 := hw.sz_le i
    by_cases e : rvs b i i = true
    · refine Or.inr ⟨upd R 0 (nn 8), upd D 0 (nn i), nn 1, ?_, Or.inl rfl⟩
      unfold f_X1_turnLine
      rw [s_miss_in hw hc hi, Option.bind_some, if_pos rfl, s_isReverse hw hc (by omega) (by omega), if_pos e, Option.bind_some, if_neg (by first | decide | exact d_a | exact d_b), nl8, s_keep]
      rfl
    · obtain ⟨F', e1, hc'⟩ := s_reverse hw hc hi
      have hw' := hw.set hi (hw.gl hi).rev
      have hz : sz (b.set i (ln b i).reverse) i = sz b i := by unfold sz; rw [ln_set hi, if_pos rfl, List.length_reverse]
      refine Or.inl ⟨_, i, F', rfl, ?_, hw', hc', by rw [hz]; exact h1⟩
      unfold f_X1_turnLine
      rw [s_miss_in hw hc hi, Option.bind_some, if_pos rfl, s_isReverse hw hc (by omega) (by omega), if_neg e, Option.bind_some, if_pos (by first | decide | exact d_a | exact d_b), e1]
      rfl
  · refine Or.inr ⟨upd R 0 (nn 2), upd D 0 (x), nn 1, ?_, Or.inl rfl⟩
    unfold f_X1_turnLine
    rw [s_miss_out hw hc h, Option.bind_some, if_neg (by first | decide | exact d_a | exact d_b)]
theorem m_add (hw : Wf b) (hc : CB F S n b) (ht : TXx C l w) (hr : wrd w = true) (R D : Nat → Int32) (c : Int32) : (∃ b' F' S' n', f_X1_addText F S n R D c C l = some (1, F', S', n', R, D, c) ∧ Wf b' ∧ CB F' S' n' b') ∨ (∃ R' D' c', f_X1_addText F S n R D c C l = some (0, F, S, n, R', D', c') ∧ RC c') := by
  have h8 := hw.1
  have hg : GL (sub w 0 w.length) := by rw [sub_all]; exact wrd_ltr hr
  by_cases h : b.length < 8
  · obtain ⟨F', S', e1, hc'⟩ := s_addWord (R := R) (D := D) (c := c) hw hc ht hg (by omega) h
    rw [Nat.zero_add] at e1
    refine Or.inl ⟨_, F', S', _, ?_, hw.app h hg, by rw [← len_app b (sub w 0 w.length)] at hc'; exact hc'⟩
    unfold f_X1_addText
    rw [s_isWord ht, if_pos hr, Option.bind_some, if_pos (by decide), s_length ht, Option.bind_some, nl0, e1, Option.bind_some, len_app]
    rfl
  · have h' : b.length = 8 := by omega
    refine Or.inr ⟨upd R 0 (nn 1), upd D 0 (nn 8), nn 1, ?_, Or.inl rfl⟩
    unfold f_X1_addText
    rw [s_isWord ht, if_pos hr, Option.bind_some, if_pos (by decide), s_length ht, Option.bind_some, s_addFull hc h', Option.bind_some]
    rfl
/-- what the law's points know of the class -/
def CI (F S : Nat → Int32) (n : Int32) (TC : Nat → Int32) (tl : Int32) (HL HZ : Nat → Nat → Int32) (HN : Nat → Int32) (o hz : Int32) (L P M : Nat → Int32) (en : Int32) : Prop := ∃ b H, Wf b ∧ CB F S n b ∧ HC HL HZ HN o hz H ∧ TXx TC tl [] ∧ OR L P en (ord b) ∧ CM M b (ord b) ∧ M 0 = nn 0
theorem k_cut (hI : CI F S n TC tl HL HZ HN o hz L P M en) (BF BS R D : Nat → Int32) (c : Int32) (x : Int32) : ∃ z F' S' n' BF' BS' Bn' R' D' c' HL' HZ' HN' o' hz' L' P' M' en', f_L_cut F S n BF BS R D c HL HZ HN o hz L P M en x = some (z, F', S', n', BF', BS', Bn', R', D', c', HL', HZ', HN', o', hz', L', P', M', en') ∧ CI F' S' n' TC tl HL' HZ' HN' o' hz' L' P' M' en' := by
  obtain ⟨b, H, hw, hc, hh, ht, ho, hm, h0⟩ := hI
  obtain ⟨pF, pS, g1, g2⟩ := s_copyFrom hc BF BS hw
  unfold f_L_cut f_X8_cut
  rcases m_cut hw hc R D c x with ⟨b', F', S', n', e1, hw', hc'⟩ | ⟨R', D', c', e1, hr⟩
  · obtain ⟨HL', HZ', HN', o', hz', L', P', M', en', q1, q2, q3, q4, q5⟩ := s_fin_ok hh hw g2 hw' hc' L P M en h0
    simp only [g1, e1, xb, q1, f_X0_lines, Option.bind_some, Sum.elim_inl]
    exact ⟨_, _, _, _, _, _, _, _, _, _, _, _, _, _, _, _, _, _, _, rfl, b', _, hw', hc', q2, ht, q3, q4, q5⟩
  · have er := x_reason R' D' hr
    simp only [g1, e1, xb, s_fin_no, er, f_X7_clear, Option.bind_some, Sum.elim_inr, Sum.elim_inl, if_true]
    exact ⟨_, _, _, _, _, _, _, _, _, _, _, _, _, _, _, _, _, _, _, rfl, b, H, hw, hc, hh, ht, ho, hm, h0⟩
theorem k_change (hI : CI F S n TC tl HL HZ HN o hz L P M en) (BF BS R D : Nat → Int32) (c : Int32) (x y : Int32) {v : Nat} (hv : v < 65536) : ∃ z F' BF' BS' Bn' R' D' c' HL' HZ' HN' o' hz' L' P' M' en', f_L_change F S n BF BS R D c HL HZ HN o hz L P M en x y (nn v) = some (z, F', BF', BS', Bn', R', D', c', HL', HZ', HN', o', hz', L', P', M', en') ∧ CI F' S n TC tl HL' HZ' HN' o' hz' L' P' M' en' := by
  obtain ⟨b, H, hw, hc, hh, ht, ho, hm, h0⟩ := hI
  obtain ⟨pF, pS, g1, g2⟩ := s_copyFrom hc BF BS hw
  unfold f_L_change f_X8_change
  rcases m_change hw hc R D c x y hv with ⟨b', i, p, F', rfl, rfl, e1, hw', hc', hp⟩ | ⟨R', D', c', e1, hr⟩
  · obtain ⟨HL', HZ', HN', o', hz', L', P', M', en', q1, q2, q3, q4, q5⟩ := s_fin_ok hh hw g2 hw' hc' L P M en h0
    have q6 := s_rankOf hw' q3 hp
    simp only [g1, e1, xb, q1, q6, Option.bind_some, Sum.elim_inl]
    exact ⟨_, _, _, _, _, _, _, _, _, _, _, _, _, _, _, _, _, rfl, b', _, hw', hc', q2, ht, q3, q4, q5⟩
  · have er := x_reason R' D' hr
    simp only [g1, e1, xb, s_fin_no, er, f_X7_clear, Option.bind_some, Sum.elim_inr, Sum.elim_inl, if_true]
    exact ⟨_, _, _, _, _, _, _, _, _, _, _, _, _, _, _, _, _, rfl, b, H, hw, hc, hh, ht, ho, hm, h0⟩
theorem k_swap (hI : CI F S n TC tl HL HZ HN o hz L P M en) (BF BS R D : Nat → Int32) (c : Int32) (x y : Int32) : ∃ z F' S' BF' BS' Bn' R' D' c' HL' HZ' HN' o' hz' L' P' M' en', f_L_swap F S n BF BS R D c HL HZ HN o hz L P M en x y = some (z, F', S', BF', BS', Bn', R', D', c', HL', HZ', HN', o', hz', L', P', M', en') ∧ CI F' S' n TC tl HL' HZ' HN' o' hz' L' P' M' en' := by
  obtain ⟨b, H, hw, hc, hh, ht, ho, hm, h0⟩ := hI
  obtain ⟨pF, pS, g1, g2⟩ := s_copyFrom hc BF BS hw
  unfold f_L_swap f_X8_swap
  rcases m_swap hw hc R D c x y with ⟨b', i, j, F', S', rfl, rfl, hi, hj, e1, hw', hc'⟩ | ⟨R', D', c', e1, hr⟩
  · obtain ⟨HL', HZ', HN', o', hz', L', P', M', en', q1, q2, q3, q4, q5⟩ := s_fin_ok hh hw g2 hw' hc' L P M en h0
    have q6 := s_size hw' hc' (i := i) (by omega)
    have q7 := s_size hw' hc' (i := j) (by omega)
    simp only [g1, e1, xb, q1, q6, q7, Option.bind_some, Sum.elim_inl]
    exact ⟨_, _, _, _, _, _, _, _, _, _, _, _, _, _, _, _, _, _, rfl, b', _, hw', hc', q2, ht, q3, q4, q5⟩
  · have er := x_reason R' D' hr
    simp only [g1, e1, xb, s_fin_no, er, f_X7_clear, Option.bind_some, Sum.elim_inr, Sum.elim_inl, if_true]
    exact ⟨_, _, _, _, _, _, _, _, _, _, _, _, _, _, _, _, _, _, rfl, b, H, hw, hc, hh, ht, ho, hm, h0⟩
theorem k_join (hI : CI F S n TC tl HL HZ HN o hz L P M en) (BF BS R D : Nat → Int32) (c : Int32) (x y : Int32) : ∃ z F' S' n' BF' BS' Bn' R' D' c' HL' HZ' HN' o' hz' L' P' M' en', f_L_join F S n BF BS R D c HL HZ HN o hz L P M en x y = some (z, F', S', n', BF', BS', Bn', R', D', c', HL', HZ', HN', o', hz', L', P', M', en') ∧ CI F' S' n' TC tl HL' HZ' HN' o' hz' L' P' M' en' := by
  obtain ⟨b, H, hw, hc, hh, ht, ho, hm, h0⟩ := hI
  obtain ⟨pF, pS, g1, g2⟩ := s_copyFrom hc BF BS hw
  unfold f_L_join f_X8_join
  rcases m_join hw hc R D c x y with ⟨b', F', S', n', e1, hw', hc'⟩ | ⟨R', D', c', e1, hr⟩
  · obtain ⟨HL', HZ', HN', o', hz', L', P', M', en', q1, q2, q3, q4, q5⟩ := s_fin_ok hh hw g2 hw' hc' L P M en h0
    by_cases hle : x ≤ y
    · simp only [g1, e1, xb, q1, if_pos hle, Option.bind_some, Sum.elim_inl]
      exact ⟨_, _, _, _, _, _, _, _, _, _, _, _, _, _, _, _, _, _, _, rfl, b', _, hw', hc', q2, ht, q3, q4, q5⟩
    · simp only [g1, e1, xb, q1, if_neg hle, Option.bind_some, Sum.elim_inl]
      exact ⟨_, _, _, _, _, _, _, _, _, _, _, _, _, _, _, _, _, _, _, rfl, b', _, hw', hc', q2, ht, q3, q4, q5⟩
  · have er := x_reason R' D' hr
    simp only [g1, e1, xb, s_fin_no, er, f_X7_clear, Option.bind_some, Sum.elim_inr, Sum.elim_inl, if_true]
    exact ⟨_, _, _, _, _, _, _, _, _, _, _, _, _, _, _, _, _, _, _, rfl, b, H, hw, hc, hh, ht, ho, hm, h0⟩
theorem k_turn (hI : CI F S n TC tl HL HZ HN o hz L P M en) (BF BS R D : Nat → Int32) (c : Int32) (x : Int32) : ∃ z F' BF' BS' Bn' R' D' c' HL' HZ' HN' o' hz' L' P' M' en', f_L_turn F S n BF BS R D c HL HZ HN o hz L P M en x = some (z, F', BF', BS', Bn', R', D', c', HL', HZ', HN', o', hz', L', P', M', en') ∧ CI F' S n TC tl HL' HZ' HN' o' hz' L' P' M' en' := by
  obtain ⟨b, H, hw, hc, hh, ht, ho, hm, h0⟩ := hI
  obtain ⟨pF, pS, g1, g2⟩ := s_copyFrom hc BF BS hw
  unfold f_L_turn f_X8_turn
  rcases m_turn hw hc R D c x with ⟨b', i, F', rfl, e1, hw', hc', hp⟩ | ⟨R', D', c', e1, hr⟩
  · obtain ⟨HL', HZ', HN', o', hz', L', P', M', en', q1, q2, q3, q4, q5⟩ := s_fin_ok hh hw g2 hw' hc' L P M en h0
    have q6 := s_rankOf hw' q3 hp
    rw [← nl0] at q6
    simp only [g1, e1, xb, q1, q6, Option.bind_some, Sum.elim_inl]
    exact ⟨_, _, _, _, _, _, _, _, _, _, _, _, _, _, _, _, _, rfl, b', _, hw', hc', q2, ht, q3, q4, q5⟩
  · have er := x_reason R' D' hr
    simp only [g1, e1, xb, s_fin_no, er, f_X7_clear, Option.bind_some, Sum.elim_inr, Sum.elim_inl, if_true]
    exact ⟨_, _, _, _, _, _, _, _, _, _, _, _, _, _, _, _, _, rfl, b, H, hw, hc, hh, ht, ho, hm, h0⟩
theorem k_add (hI : CI F S n TC tl HL HZ HN o hz L P M en) (BF BS R D : Nat → Int32) (c : Int32) {u : List Nat} (hu : LT u) (h1 : 1 ≤ u.length) : ∃ z F' S' n' BF' BS' Bn' TC' tl' R' D' c' HL' HZ' HN' o' hz' L' P' M' en', f_L_add F S n BF BS TC tl R D c HL HZ HN o hz L P M en (tx u) = some (z, F', S', n', BF', BS', Bn', TC', tl', R', D', c', HL', HZ', HN', o', hz', L', P', M', en') ∧ CI F' S' n' TC' tl' HL' HZ' HN' o' hz' L' P' M' en' := by
  obtain ⟨b, H, hw, hc, hh, ht, ho, hm, h0⟩ := hI
  obtain ⟨pF, pS, g1, g2⟩ := s_copyFrom hc BF BS hw
  obtain ⟨C', l', t1, t2⟩ := l_type hu ht (by have := hu.1; simp only [List.length_nil]; omega)
  rw [List.nil_append] at t2
  have hr : wrd u = true := LT_wrd hu h1
  unfold f_L_add f_X8_add
  rcases m_add hw hc t2 hr R D c with ⟨b', F', S', n', e1, hw', hc'⟩ | ⟨R', D', c', e1, hr⟩
  · obtain ⟨HL', HZ', HN', o', hz', L', P', M', en', q1, q2, q3, q4, q5⟩ := s_fin_ok hh hw g2 hw' hc' L P M en h0
    simp only [t1, g1, e1, xb, q1, f_X7_clear, f_X0_lines, Option.bind_some, Sum.elim_inl]
    exact ⟨_, _, _, _, _, _, _, _, _, _, _, _, _, _, _, _, _, _, _, _, _, rfl, b', _, hw', hc', q2, TXx.nil _, q3, q4, q5⟩
  · have er := x_reason R' D' hr
    simp only [t1, g1, e1, xb, s_fin_no, er, f_X7_clear, Option.bind_some, Sum.elim_inr, Sum.elim_inl, if_true]
    exact ⟨_, _, _, _, _, _, _, _, _, _, _, _, _, _, _, _, _, _, _, _, _, rfl, b, H, hw, hc, hh, TXx.nil _, ho, hm, h0⟩
end CHGL
