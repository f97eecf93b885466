/-! WHAT IS ASKED OF BOTH, 2 -/
theorem n1 : (-nn 1 : Int32) = -1 := rfl
section ASK2
variable {F S L P M C T A O W R D Q mC : Nat → Int32} {n en l l' c : Int32} {b : Bk} {w : List Nat}
theorem flr_le (hw : Wf b) : flr b - 1 < 1000 := by
  have hl := (ord_good hw).2.2
  have := (lst_le (fun k => decide (cc b k = lc b)) ((ord b).length - 1) 1).2
  unfold flr
  omega
theorem q_longest (hw : Wf b) (hr : RB A 0 b) (ho : OR L P en (ord b)) (hm : CM M b (ord b)) (O : Nat → Int32) : ∃ r O' om, f_X8_longest M en = some r ∧ f_X9_longest A O = some (r, O', 0, om) := by
  obtain ⟨O', _, o1, _⟩ := r_commons hw hr O
  refine ⟨nn (lc b), O', nn (ord b).length, ?_, ?_⟩
  · unfold f_X8_longest
    rw [s_longest hw ho hm, Option.bind_some]
  · unfold f_X9_longest
    rw [o1, Option.bind_some]
theorem q_pieces (hw : Wf b) (hc : CB F S n b) (hr : RB A 0 b) (ho : OR L P en (ord b)) (hm : CM M b (ord b)) (h0 : M 0 = nn 0) (O : Nat → Int32) : ∃ r O' om, f_X8_pieces S n L P M en = some r ∧ f_X9_pieces A O = some (r, O', nn 0, om) := by
  obtain ⟨O', o1⟩ := r_pieces hw hr O
  refine ⟨nn (cnew b), O', _, ?_, o1⟩
  unfold f_X8_pieces
  rw [s_pcs hw hc ho hm h0, Option.bind_some]
theorem q_piecesAgain (hw : Wf b) (hc : CB F S n b) (hr : RB A 0 b) (O : Nat → Int32) : ∃ r O' om, f_X8_piecesAgain F S n = some r ∧ f_X9_piecesAgain A O = some (r, O', nn 0, om) := by
  obtain ⟨O', o1⟩ := r_pieces hw hr O
  refine ⟨nn (cnew b), O', nn (ord b).length, ?_, ?_⟩
  · unfold f_X8_piecesAgain
    rw [s_cnew hw hc, Option.bind_some]
  · unfold f_X9_piecesAgain
    rw [o1, Option.bind_some]
theorem q_kinds (hw : Wf b) (hc : CB F S n b) (hr : RB A 0 b) : ∃ r, f_X8_kinds F S n = some r ∧ f_X9_kinds A = some (r, nn 0) := by
  refine ⟨nn (kin b), ?_, r_kinds hw hr⟩
  unfold f_X8_kinds
  rw [s_kinds hw hc, Option.bind_some]
theorem q_longestRank (hw : Wf b) (hr : RB A 0 b) (ho : OR L P en (ord b)) (hm : CM M b (ord b)) (X : Nat → Int64) (O : Nat → Int32) : ∃ k X' r O' om, f_L_longestRank X M en = some (k, X') ∧ f_X9_longestRank A O = some (r, O', k, om) ∧ (k = 0 → X' 0 = r.toInt64) := by
  obtain ⟨O', _, _, o1, _⟩ := r_commons hw hr O
  have hl := lc_le hw
  have hf := flr_le hw
  by_cases h : lc b = 0
  · rw [if_pos h] at o1
    refine ⟨1, X, 0, O', nn (ord b).length, ?_, ?_, fun z => absurd z (by decide)⟩
    · unfold f_L_longestRank f_X8_longestRank
      have e : f_X8_checkRepeat M en = some (.inr "java/util/NoSuchElementException") := by
        unfold f_X8_checkRepeat
        rw [s_longest hw ho hm, Option.bind_some, h, if_neg (fun z => z rfl)]
      rw [xb_r _ _ _ e rfl, bR, if_pos rfl]
    · unfold f_X9_longestRank
      rw [o1, Option.bind_some, if_neg (fun z => z rfl)]
      unfold f_X9_longestRank_J17
      rw [if_pos (by decide)]
  · rw [if_neg h] at o1
    refine ⟨0, vp_updL X 0 (nn (flr b - 1)).toInt64, nn (flr b - 1), O', nn (ord b).length, ?_, ?_, fun z => rfl⟩
    · unfold f_L_longestRank f_X8_longestRank
      have e : f_X8_checkRepeat M en = some (.inl 0) := by
        unfold f_X8_checkRepeat
        rw [s_longest hw ho hm, Option.bind_some, if_pos (by rw [nl0, nn_eq (by omega) (by omega)]; exact h)]
      rw [xb_l _ _ _ e rfl, s_fl hw ho hm, Option.bind_some, bL]
    · unfold f_X9_longestRank
      rw [o1, Option.bind_some, if_pos (show ¬ nn (flr b - 1) = -1 from nn_ng' (by omega))]
      unfold f_X9_longestRank_J17
      rw [if_neg (fun z => z rfl)]
theorem ckW_in (ht : TX C l w) (h : wrd w = true) : f_X8_checkWord C l = some (.inl 0) := by
  unfold f_X8_checkWord
  rw [s_isWord ht, if_pos h, Option.bind_some, if_pos (by decide)]
theorem ckW_out (ht : TX C l w) (h : ¬ wrd w = true) : f_X8_checkWord C l = some (.inr "java/lang/IllegalArgumentException") := by
  unfold f_X8_checkWord
  rw [s_isWord ht, if_neg h, Option.bind_some, if_neg (by decide)]
theorem cnt_le (hw : Wf b) (w : List Nat) : wlo b w ≤ 80 ∧ whi b w ≤ 80 ∧ cntw b w ≤ 80 := by
  have hl := (ord_good hw).2.2
  have h1 : wlo b w ≤ (ord b).length := List.countP_le_length
  have h2 : whi b w ≤ (ord b).length := List.countP_le_length
  have h3 := whi_eq b w
  omega
theorem q_finds (hw : Wf b) (hc : CB F S n b) (hr : RB A 0 b) (ho : OR L P en (ord b)) (ht : TX C l w) (ht' : TX T l' w) (X : Nat → Int64) (W O : Nat → Int32) (om : Int32) : ∃ k X' r W' O' ws om', f_L_finds X F S n C l L P en = some (k, X') ∧ f_X9_finds A T W O l' om = some (r, W', O', k, ws, om') ∧ (k = 0 → X' 0 = r.toInt64) := by
  obtain ⟨W', g1, g2⟩ := r_hold ht' W
  by_cases h : wrd w = true
  · obtain ⟨f1, f2⟩ := g1 h
    obtain ⟨O', _, o1⟩ := r_finds1 hw hr f2 h O
    refine ⟨0, vp_updL X 0 (nn (cntw b w)).toInt64, nn (cntw b w), W', O', nn w.length, nn (ord b).length, ?_, ?_, fun z => rfl⟩
    · unfold f_L_finds f_X8_finds
      rw [xb_l _ _ _ (ckW_in ht h) rfl, s_behind hw hc ho ht h, Option.bind_some, s_notBefore hw hc ho ht h, Option.bind_some, finds_nn, bL]
    · unfold f_X9_finds
      rw [f1, Option.bind_some, if_neg (by first | decide | exact d_a | exact d_b | exact d_c)]
      unfold f_X9_finds_J13
      rw [if_neg (fun z => z rfl), o1, Option.bind_some]
  · have f1 := g2 h
    refine ⟨1, X, 0, W', O, nn 0, om, ?_, ?_, fun z => absurd z (by decide)⟩
    · unfold f_L_finds f_X8_finds
      rw [xb_r _ _ _ (ckW_out ht h) rfl, bR, if_pos rfl]
    · unfold f_X9_finds
      rw [f1, Option.bind_some, if_pos (by first | decide | exact d_a | exact d_b | exact d_c)]
      unfold f_X9_finds_J13
      rw [if_pos (by decide)]
theorem q_findsAgain (hw : Wf b) (hc : CB F S n b) (hr : RB A 0 b) (ht : TX C l w) (ht' : TX T l' w) (X : Nat → Int64) (W O : Nat → Int32) (om : Int32) : ∃ k X' r W' O' ws om', f_L_findsAgain X F S n C l = some (k, X') ∧ f_X9_findsAgain A T W O l' om = some (r, W', O', k, ws, om') ∧ (k = 0 → X' 0 = r.toInt64) := by
  obtain ⟨W', g1, g2⟩ := r_hold ht' W
  by_cases h : wrd w = true
  · obtain ⟨f1, f2⟩ := g1 h
    obtain ⟨O', _, o1⟩ := r_finds1 hw hr f2 h O
    refine ⟨0, vp_updL X 0 (nn (cntw b w)).toInt64, nn (cntw b w), W', O', nn w.length, nn (ord b).length, ?_, ?_, fun z => rfl⟩
    · unfold f_L_findsAgain f_X8_findsAgain
      rw [xb_l _ _ _ (ckW_in ht h) rfl, s_cntw hw hc ht h, Option.bind_some, bL]
    · unfold f_X9_findsAgain f_X9_finds
      rw [f1, Option.bind_some, if_neg (by first | decide | exact d_a | exact d_b | exact d_c)]
      unfold f_X9_finds_J13
      rw [if_neg (fun z => z rfl), o1, Option.bind_some, Option.bind_some]
  · have f1 := g2 h
    refine ⟨1, X, 0, W', O, nn 0, om, ?_, ?_, fun z => absurd z (by decide)⟩
    · unfold f_L_findsAgain f_X8_findsAgain
      rw [xb_r _ _ _ (ckW_out ht h) rfl, bR, if_pos rfl]
    · unfold f_X9_findsAgain f_X9_finds
      rw [f1, Option.bind_some, if_pos (by first | decide | exact d_a | exact d_b | exact d_c)]
      unfold f_X9_finds_J13
      rw [if_pos (by decide), Option.bind_some]
theorem q_firstFind (hw : Wf b) (hc : CB F S n b) (hr : RB A 0 b) (ho : OR L P en (ord b)) (ht : TX C l w) (ht' : TX T l' w) (X : Nat → Int64) (W O : Nat → Int32) (om : Int32) : ∃ k X' r W' O' ws om', f_L_firstFind X F S n C l L P en = some (k, X') ∧ f_X9_firstFind A T W O l' om = some (r, W', O', k, ws, om') ∧ (k = 0 → X' 0 = r.toInt64) := by
  obtain ⟨W', g1, g2⟩ := r_hold ht' W
  by_cases h : wrd w = true
  · obtain ⟨f1, f2⟩ := g1 h
    obtain ⟨O', o2, o1⟩ := r_finds1 hw hr f2 h O
    obtain ⟨b1, b2, b3⟩ := cnt_le hw w
    have heq := whi_eq b w
    by_cases hz : cntw b w = 0
    · refine ⟨2, X, 0, W', O', nn w.length, nn (ord b).length, ?_, ?_, fun z => absurd z (by decide)⟩
      · unfold f_L_firstFind f_X8_firstFind
        rw [xb_l _ _ _ (ckW_in ht h) rfl, s_notBefore hw hc ho ht h, Option.bind_some, s_behind hw hc ho ht h, Option.bind_some, show whi b w = wlo b w by omega, if_neg (fun z => z rfl), bR, if_neg (by decide), if_pos rfl]
      · unfold f_X9_firstFind
        rw [f1, Option.bind_some, if_pos (by first | decide | exact d_a | exact d_b | exact d_c), o1, Option.bind_some, hz, if_neg (by first | decide | exact d_a | exact d_b | exact d_c)]
        unfold f_X9_firstFind_J24
        rw [if_neg (by decide)]
    · refine ⟨0, vp_updL X 0 (nn (wlo b w)).toInt64, nn (wlo b w), W', O', nn w.length, nn (ord b).length, ?_, ?_, fun z => rfl⟩
      · unfold f_L_firstFind f_X8_firstFind
        rw [xb_l _ _ _ (ckW_in ht h) rfl, s_notBefore hw hc ho ht h, Option.bind_some, s_behind hw hc ho ht h, Option.bind_some, if_pos (by rw [nn_eq (by omega) (by omega)]; omega), bL]
      · unfold f_X9_firstFind
        rw [f1, Option.bind_some, if_pos (by first | decide | exact d_a | exact d_b | exact d_c), o1, Option.bind_some, if_pos (show ¬ nn (cntw b w) = 0 by rw [nl0, nn_eq (by omega) (by omega)]; exact hz)]
        unfold f_X9_firstFind_J24
        rw [if_pos rfl]
        exact r_first_L hw hr o2 f2 h hz _ 1000 0 (Nat.zero_le _) (by omega)
  · have f1 := g2 h
    refine ⟨1, X, 0, W', O, nn 0, om, ?_, ?_, fun z => absurd z (by decide)⟩
    · unfold f_L_firstFind f_X8_firstFind
      rw [xb_r _ _ _ (ckW_out ht h) rfl, bR, if_pos rfl]
    · unfold f_X9_firstFind
      rw [f1, Option.bind_some, if_neg (by first | decide | exact d_a | exact d_b | exact d_c)]
      unfold f_X9_firstFind_J24
      rw [if_neg (by decide)]
theorem r_isLine_L (hw : Wf b) (hr : RB A 0 b) (hd : WD W (nn w.length) w) (hwr : wrd w = true) : ∀ (fuel k : Nat), k ≤ b.length → b.length < fuel + k → f_X9_isLine_L18 W (nn 0) (nn w.length) A fuel (nn k) (fun _ => some (nn 0, W, nn 0, nn w.length)) = some (if lst (wln b w) k (b.length - k) < b.length then nn 1 else nn 0, W, nn 0, nn w.length) := by
  intro fuel
  have h8 := hw.1
  have hl := (wrd_ltr hwr).2.1
  induction fuel with
  | zero => intro k h1 h2; omega
  | succ fuel ih =>
    intro k h1 h2
    rw [f_X9_isLine_L18, r_many hr, Option.bind_some]
    by_cases hk : b.length ≤ k
    · rw [if_pos (by rw [nn_le (by omega) (by omega)]; exact hk), lst_end _ hk, if_neg (by omega)]
    · have h10 := hw.sz_le k
      have hg : 1 ≤ sz b k := (hw.gl (by omega)).1
      rw [if_neg (by rw [nn_le (by omega) (by omega)]; exact hk), if_neg (fun z => z rfl), r_size hw hr (by omega), Option.bind_some, lst_go _ (by omega), show nn k + 1 = nn (k + 1) from nn_add k 1]
      by_cases e : sz b k = w.length
      · rw [if_neg (by rw [nn_eq (by omega) (by omega)]; exact fun z => z e), show (10 : Int32) * nn k = nn (10 * k + 0) from nn_mul 10 k, r_begins hw hr hd hwr (by omega) (by omega), Option.bind_some]
        by_cases q : pfx (sfx b k 0) w = true
        · rw [if_pos q, if_neg (by first | decide | exact d_a | exact d_b | exact d_c), if_pos (show wln b w k = true by unfold wln; rw [decide_eq_true e, q]; rfl), if_pos (by omega)]
          rfl
        · rw [if_neg q, if_pos (by first | decide | exact d_a | exact d_b | exact d_c), if_neg (show ¬ wln b w k = true by unfold wln; rw [decide_eq_true e]; exact q)]
          exact ih (k + 1) (by omega) (by omega)
      · rw [if_pos (by rw [nn_eq (by omega) (by omega)]; exact e), if_neg (show ¬ wln b w k = true by unfold wln; rw [decide_eq_false e]; exact fun z => by cases z)]
        exact ih (k + 1) (by omega) (by omega)
theorem q_isLine (hw : Wf b) (hc : CB F S n b) (hr : RB A 0 b) (ht : TX C l w) (ht' : TX T l' w) (X : Nat → Int64) (W : Nat → Int32) : ∃ k X' r W' ws, f_L_isLine X F S n C l = some (k, X') ∧ f_X9_isLine A T W l' = some (r, W', k, ws) ∧ (k = 0 → X' 0 = if r = 0 then 0 else 1) := by
  obtain ⟨W', g1, g2⟩ := r_hold ht' W
  by_cases h : wrd w = true
  · obtain ⟨f1, f2⟩ := g1 h
    have e9 : f_X9_isLine A T W l' = some (if lst (wln b w) 0 (b.length - 0) < b.length then nn 1 else nn 0, W', nn 0, nn w.length) := by
      unfold f_X9_isLine
      rw [f1, Option.bind_some, if_neg (by first | decide | exact d_a | exact d_b | exact d_c)]
      unfold f_X9_isLine_J13
      exact r_isLine_L hw hr f2 h 1000 0 (Nat.zero_le _) (by have := hw.1; omega)
    have e8 : f_X8_isLine F S n C l = some (.inl (if lst (wln b w) 0 (b.length - 0) < b.length then nn 1 else nn 0)) := by
      unfold f_X8_isLine
      rw [xb_l _ _ _ (ckW_in ht h) rfl, s_wln hw hc ht h, Option.bind_some]
      by_cases q : lst (wln b w) 0 (b.length - 0) < b.length
      · rw [if_pos q]; rfl
      · rw [if_neg q]; rfl
    rw [e9]
    unfold f_L_isLine
    rw [e8, bL]
    by_cases q : lst (wln b w) 0 (b.length - 0) < b.length
    · rw [if_pos q, if_neg (by decide)]
      exact ⟨0, vp_updL X 0 1, nn 1, W', nn w.length, rfl, rfl, fun _ => rfl⟩
    · rw [if_neg q, if_pos (by decide)]
      exact ⟨0, vp_updL X 0 0, nn 0, W', nn w.length, rfl, rfl, fun _ => rfl⟩
  · have f1 := g2 h
    refine ⟨1, X, 0, W', nn 0, ?_, ?_, fun z => absurd z (by decide)⟩
    · unfold f_L_isLine f_X8_isLine
      rw [xb_r _ _ _ (ckW_out ht h) rfl, bR, if_pos rfl]
    · unfold f_X9_isLine
      rw [f1, Option.bind_some, if_pos (by first | decide | exact d_a | exact d_b | exact d_c)]
      unfold f_X9_isLine_J13
      have : f_X9_isLine_L18 W' 1 (nn 0) A (999 + 1) 0 (fun x1_18_10 => some (0, W', 1, nn 0)) = some (0, W', 1, nn 0) := by
        rw [f_X9_isLine_L18, r_many hr, Option.bind_some]
        by_cases q : nn b.length ≤ 0
        · rw [if_pos q]
        · rw [if_neg q, if_pos (by decide)]
      exact this
theorem q_shared (hw : Wf b) (hc : CB F S n b) (hr : RB A 0 b) (X : Nat → Int64) (x y : Int32) : ∃ k X' r, f_L_shared X F S n x y = some (k, X') ∧ f_X9_shared A x y = some (r, k) ∧ (k = 0 → X' 0 = r.toInt64) := by
  have h8 := hw.1
  rcases line hw hc hr x with ⟨i, hi, rfl, e1, e2⟩ | ⟨e1, e2⟩
  · rcases line hw hc hr y with ⟨j, hj, rfl, e3, e4⟩ | ⟨e3, e4⟩
    · refine ⟨0, vp_updL X 0 (nn (lsha b i j)).toInt64, nn (lsha b i j), ?_, ?_, fun _ => rfl⟩
      · unfold f_L_shared f_X8_shared
        rw [xb_l _ _ _ e1 rfl, xb_l _ _ _ e3 rfl, s_lsha hw hc (by omega) (by omega), Option.bind_some, bL]
      · unfold f_X9_shared
        rw [e2, Option.bind_some, if_neg (by first | decide | exact d_a | exact d_b | exact d_c), e4, Option.bind_some, if_neg (by first | decide | exact d_a | exact d_b | exact d_c)]
        unfold f_X9_shared_J22
        rw [if_pos rfl]
        by_cases e : i = j
        · subst e
          rw [if_neg (fun z => z rfl), r_size hw hr hi, Option.bind_some, lsha_same]
        · rw [if_pos (by rw [nn_eq (by omega) (by omega)]; exact e), r_lof hw hr hi hj, Option.bind_some, lof_ne e]
    · refine ⟨1, X, 0, ?_, ?_, fun z => absurd z (by decide)⟩
      · unfold f_L_shared f_X8_shared
        rw [xb_l _ _ _ e1 rfl, xb_r _ _ _ e3 rfl, bR, if_pos rfl]
      · unfold f_X9_shared
        rw [e2, Option.bind_some, if_neg (by first | decide | exact d_a | exact d_b | exact d_c), e4, Option.bind_some, if_pos (by first | decide | exact d_a | exact d_b | exact d_c)]
        unfold f_X9_shared_J21 f_X9_shared_J22
        rw [if_neg (by decide)]
  · refine ⟨1, X, 0, ?_, ?_, fun z => absurd z (by decide)⟩
    · unfold f_L_shared f_X8_shared
      rw [xb_r _ _ _ e1 rfl, bR, if_pos rfl]
    · unfold f_X9_shared
      rw [e2, Option.bind_some, if_pos (by first | decide | exact d_a | exact d_b | exact d_c)]
      unfold f_X9_shared_J21 f_X9_shared_J22
      rw [if_neg (by decide)]
theorem r_asked (hw : Wf b) (hr : RB A 0 b) {i : Nat} (hi : i < b.length) (z : Int32) : f_X9_aloneAsked A (nn i) z = if sal b i = 11 then some (0, 2) else some (if z = 0 then nn (sal b i) else nn (lst (fun p => decide (saa b i p = sal b i)) 0 (sz b i - 0)), 0) := by
  have h10 := hw.sz_le i
  have hs : sal b i ≤ 11 := mnn_le _ _ _ _
  have hp := (lst_le (fun p => decide (saa b i p = sal b i)) (sz b i - 0) 0).2
  unfold f_X9_aloneAsked
  rw [r_line_in hw hr hi, Option.bind_some, if_pos (by first | decide | exact d_a | exact d_b | exact d_c), r_aloneOf hw hr hi, Option.bind_some]
  unfold gm ga
  by_cases h : sal b i = 11
  · rw [if_pos h, if_pos h, if_pos h]
    have : (if z = 0 then -nn 1 else -nn 1) = (-1 : Int32) := by split <;> rfl
    rw [this, if_neg (fun z => z rfl)]
    unfold f_X9_aloneAsked_J28
    rw [if_pos (by decide)]
  · rw [if_neg h, if_neg h, if_neg h]
    rw [if_pos]
    · unfold f_X9_aloneAsked_J28
      rw [if_neg (fun z => z rfl), r_aloneOf hw hr hi, Option.bind_some]
      unfold gm ga
      rw [if_neg h, if_neg h]
    · by_cases q : z = 0
      · rw [if_pos q]; exact nn_ng' (by omega)
      · rw [if_neg q]; exact nn_ng' (by omega)
theorem q_alone (hw : Wf b) (hc : CB F S n b) (hr : RB A 0 b) (X : Nat → Int64) (x : Int32) : ∃ k X' r, f_L_alone X F S n x = some (k, X') ∧ f_X9_alone A x = some (r, k) ∧ (k = 0 → X' 0 = r.toInt64) := by
  have h8 := hw.1
  rcases line hw hc hr x with ⟨i, hi, rfl, e1, e2⟩ | ⟨e1, e2⟩
  · have hs : sal b i ≤ 11 := mnn_le _ _ _ _
    unfold f_X9_alone
    rw [r_asked hw hr hi]
    by_cases h : sal b i = 11
    · rw [if_pos h, Option.bind_some]
      refine ⟨2, X, 0, ?_, rfl, fun z => absurd z (by decide)⟩
      unfold f_L_alone f_X8_alone
      have e3 : f_X8_checkAlone (nn (sal b i)) = some (.inr "java/util/NoSuchElementException") := by
        unfold f_X8_checkAlone
        rw [h, if_neg (by decide)]
      rw [xb_l _ _ _ e1 rfl, s_sal hw hc (by omega), Option.bind_some, xb_r _ _ _ e3 rfl, bR, if_neg (by decide), if_pos rfl]
    · rw [if_neg h, Option.bind_some]
      refine ⟨0, vp_updL X 0 (nn (sal b i)).toInt64, nn (sal b i), ?_, rfl, fun z => rfl⟩
      unfold f_L_alone f_X8_alone
      have e3 : f_X8_checkAlone (nn (sal b i)) = some (.inl 0) := by
        unfold f_X8_checkAlone
        rw [if_pos (by rw [nl10, nn_le (by omega) (by omega)]; omega)]
      rw [xb_l _ _ _ e1 rfl, s_sal hw hc (by omega), Option.bind_some, xb_l _ _ _ e3 rfl, bL]
  · refine ⟨1, X, 0, ?_, ?_, fun z => absurd z (by decide)⟩
    · unfold f_L_alone f_X8_alone
      rw [xb_r _ _ _ e1 rfl, bR, if_pos rfl]
    · unfold f_X9_alone f_X9_aloneAsked
      rw [e2, Option.bind_some, if_neg (by first | decide | exact d_a | exact d_b | exact d_c)]
      unfold f_X9_aloneAsked_J28
      rw [if_pos (by decide), Option.bind_some]
theorem q_alonePlace (hw : Wf b) (hc : CB F S n b) (hr : RB A 0 b) (X : Nat → Int64) (x : Int32) : ∃ k X' r, f_L_alonePlace X F S n x = some (k, X') ∧ f_X9_alonePlace A x = some (r, k) ∧ (k = 0 → X' 0 = r.toInt64) := by
  have h8 := hw.1
  rcases line hw hc hr x with ⟨i, hi, rfl, e1, e2⟩ | ⟨e1, e2⟩
  · have hs : sal b i ≤ 11 := mnn_le _ _ _ _
    unfold f_X9_alonePlace
    rw [r_asked hw hr hi]
    by_cases h : sal b i = 11
    · rw [if_pos h, Option.bind_some]
      refine ⟨2, X, 0, ?_, rfl, fun z => absurd z (by decide)⟩
      unfold f_L_alonePlace f_X8_alonePlace
      have e3 : f_X8_checkAlone (nn (sal b i)) = some (.inr "java/util/NoSuchElementException") := by
        unfold f_X8_checkAlone
        rw [h, if_neg (by decide)]
      rw [xb_l _ _ _ e1 rfl, s_sal hw hc (by omega), Option.bind_some, xb_r _ _ _ e3 rfl, bR, if_neg (by decide), if_pos rfl]
    · rw [if_neg h, Option.bind_some, if_neg (show ¬ (1 : Int32) = 0 by decide)]
      refine ⟨0, vp_updL X 0 (nn (lst (fun p => decide (saa b i p = sal b i)) 0 (sz b i - 0))).toInt64, nn (lst (fun p => decide (saa b i p = sal b i)) 0 (sz b i - 0)), ?_, rfl, fun z => rfl⟩
      unfold f_L_alonePlace f_X8_alonePlace
      have e3 : f_X8_checkAlone (nn (sal b i)) = some (.inl 0) := by
        unfold f_X8_checkAlone
        rw [if_pos (by rw [nl10, nn_le (by omega) (by omega)]; omega)]
      rw [xb_l _ _ _ e1 rfl, s_sal hw hc (by omega), Option.bind_some, xb_l _ _ _ e3 rfl, s_fap hw hc (by omega) (by omega), Option.bind_some, bL]
  · refine ⟨1, X, 0, ?_, ?_, fun z => absurd z (by decide)⟩
    · unfold f_L_alonePlace f_X8_alonePlace
      rw [xb_r _ _ _ e1 rfl, bR, if_pos rfl]
    · unfold f_X9_alonePlace f_X9_aloneAsked
      rw [e2, Option.bind_some, if_neg (by first | decide | exact d_a | exact d_b | exact d_c)]
      unfold f_X9_aloneAsked_J28
      rw [if_pos (by decide), Option.bind_some]
theorem q_isTurned (hw : Wf b) (hc : CB F S n b) (hr : RB A 0 b) (X : Nat → Int64) (x y : Int32) : ∃ k X' r, f_L_isTurned X F S n x y = some (k, X') ∧ f_X9_isTurned A x y = some (r, k) ∧ (k = 0 → X' 0 = if r = 0 then 0 else 1) := by
  have h8 := hw.1
  rcases line hw hc hr x with ⟨i, hi, rfl, e1, e2⟩ | ⟨e1, e2⟩
  · rcases line hw hc hr y with ⟨j, hj, rfl, e3, e4⟩ | ⟨e3, e4⟩
    · have e8 : f_X8_isTurned F S n (nn i) (nn j) = some (.inl (if rvs b i j = true then nn 1 else nn 0)) := by
        unfold f_X8_isTurned
        rw [xb_l _ _ _ e1 rfl, xb_l _ _ _ e3 rfl, s_isReverse hw hc (by omega) (by omega), Option.bind_some]
        by_cases q : rvs b i j = true
        · rw [if_pos q]; rfl
        · rw [if_neg q]; rfl
      unfold f_L_isTurned f_X9_isTurned
      rw [e8, bL, e2, Option.bind_some, if_neg (show ¬ nn 1 = 0 by decide), e4, Option.bind_some, if_neg (show ¬ nn 1 = 0 by decide)]
      unfold f_X9_isTurned_J22
      rw [if_neg (show ¬ ¬ (0 : Int32) = 0 from fun z => z rfl), r_isBack hw hr hi hj, Option.bind_some]
      by_cases q : rvs b i j = true
      · rw [if_pos q, if_neg (by decide), if_neg (by decide)]
        exact ⟨0, vp_updL X 0 1, 1, rfl, rfl, fun _ => rfl⟩
      · rw [if_neg q, if_pos (by decide), if_pos (by decide)]
        exact ⟨0, vp_updL X 0 0, 0, rfl, rfl, fun _ => rfl⟩
    · refine ⟨1, X, 0, ?_, ?_, fun z => absurd z (by decide)⟩
      · unfold f_L_isTurned f_X8_isTurned
        rw [xb_l _ _ _ e1 rfl, xb_r _ _ _ e3 rfl, bR, if_pos rfl]
      · unfold f_X9_isTurned
        rw [e2, Option.bind_some, if_neg (by first | decide | exact d_a | exact d_b | exact d_c), e4, Option.bind_some, if_pos (by first | decide | exact d_a | exact d_b | exact d_c)]
        unfold f_X9_isTurned_J21 f_X9_isTurned_J22
        rw [if_pos (by decide)]
  · refine ⟨1, X, 0, ?_, ?_, fun z => absurd z (by decide)⟩
    · unfold f_L_isTurned f_X8_isTurned
      rw [xb_r _ _ _ e1 rfl, bR, if_pos rfl]
    · unfold f_X9_isTurned
      rw [e2, Option.bind_some, if_pos (by first | decide | exact d_a | exact d_b | exact d_c)]
      unfold f_X9_isTurned_J21 f_X9_isTurned_J22
      rw [if_pos (by decide)]
end ASK2
