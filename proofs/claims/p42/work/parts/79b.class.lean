/-! WHAT THE CLASS ANSWERS, reading by reading -/
section CLS
variable {F S L P M C : Nat → Int32} {n en l hs : Int32} {b : Bk} {w v : List Nat} {i j p q k : Nat}
theorem x_letter (hw : Wf b) (hc : CB F S n b) (hp : p < sz b i) : f_X8_letter F S n (nn i) (nn p) = some (.inl (nn (lt b i p))) := by
  have hi := sz_in hp
  have h8 := hw.1
  have h10 := hw.sz_le i
  have hl := hw.lt_le i p
  unfold f_X8_letter
  rw [xb_l _ _ _ (ckP_in hw hc hp) rfl, s_letterAt hw hc (by omega) (by omega), Option.bind_some, rc_of (ch_nn (by omega)), Option.bind_some]
theorem x_size (hw : Wf b) (hc : CB F S n b) (hi : i < b.length) : f_X8_lineOf F S n (nn i) 0 = some (.inl (nn (sz b i))) := by
  have h8 := hw.1
  unfold f_X8_lineOf
  rw [xb_l _ _ _ (ckL_in hw hc hi) rfl, if_neg (by decide), if_pos (by decide), s_size hw hc (by omega)]
  rfl
theorem x_dif (hw : Wf b) (hc : CB F S n b) (hi : i < b.length) : f_X8_lineOf F S n (nn i) 1 = some (.inl (nn (dfl b i (i + 1)))) := by
  have h8 := hw.1
  obtain ⟨v, g1, g2⟩ := s_dif1 hw hc hi
  unfold f_X8_lineOf
  rw [xb_l _ _ _ (ckL_in hw hc hi) rfl, if_neg (by decide), if_neg (by decide), if_pos (by decide), g1, Option.bind_some, g2]
  rfl
theorem x_like (hw : Wf b) (hc : CB F S n b) (hi : i < b.length) : f_X8_lineOf F S n (nn i) 2 = some (.inl (nn (like b i))) := by
  have h8 := hw.1
  unfold f_X8_lineOf
  rw [xb_l _ _ _ (ckL_in hw hc hi) rfl, if_neg (by decide), if_neg (by decide), if_neg (by decide), if_pos (by decide), s_like hw hc (by omega)]
  rfl
theorem x_per (hw : Wf b) (hc : CB F S n b) (hi : i < b.length) : f_X8_lineOf F S n (nn i) 3 = some (.inl (nn (per b i))) := by
  have h8 := hw.1
  unfold f_X8_lineOf
  rw [xb_l _ _ _ (ckL_in hw hc hi) rfl, if_neg (by decide), if_neg (by decide), if_neg (by decide), if_neg (by decide), if_pos (by decide), s_period hw hc hi]
  rfl
theorem x_lrep (hw : Wf b) (hc : CB F S n b) (hi : i < b.length) : f_X8_lineOf F S n (nn i) 4 = some (.inl (nn (lrep b i))) := by
  have h8 := hw.1
  unfold f_X8_lineOf
  rw [xb_l _ _ _ (ckL_in hw hc hi) rfl, if_neg (by decide), if_neg (by decide), if_neg (by decide), if_neg (by decide), if_neg (by decide), if_pos (by decide), s_lrep hw hc (by omega)]
  rfl
theorem ckR_in (hw : Wf b) (ho : OR L P en (ord b)) (hk : k < (ord b).length) : f_X8_checkRank en (nn k) = some (.inl 0) := by
  have hl := (ord_good hw).2.2
  unfold f_X8_checkRank
  rw [s_hasRank hl ho (by omega), if_pos hk, Option.bind_some, if_pos (by first | decide | exact d_a | exact d_b)]
theorem ckR_out (hw : Wf b) (ho : OR L P en (ord b)) (hk : ¬ k < (ord b).length) (h1 : k < 1000) : f_X8_checkRank en (nn k) = some (.inr "java/util/NoSuchElementException") := by
  have hl := (ord_good hw).2.2
  unfold f_X8_checkRank
  rw [s_hasRank hl ho (by omega), if_neg hk, Option.bind_some, if_neg (by first | decide | exact d_a | exact d_b)]
theorem x_end0 (hw : Wf b) (ho : OR L P en (ord b)) {e : En} (he : (ord b)[k]? = some e) : f_X8_ending L P en (nn k) 0 = some (.inl (nn e.1)) := by
  have hl := (ord_good hw).2.2
  have hk := (List.getElem?_eq_some_iff.mp he).1
  unfold f_X8_ending
  rw [xb_l _ _ _ (ckR_in hw ho hk) rfl, s_lineAt hl ho he, if_pos rfl]
  rfl
theorem x_end1 (hw : Wf b) (ho : OR L P en (ord b)) {e : En} (he : (ord b)[k]? = some e) : f_X8_ending L P en (nn k) 1 = some (.inl (nn e.2)) := by
  have hl := (ord_good hw).2.2
  have hk := (List.getElem?_eq_some_iff.mp he).1
  unfold f_X8_ending
  rw [xb_l _ _ _ (ckR_in hw ho hk) rfl, s_placeAt hl ho he, if_neg (by decide)]
  rfl
theorem y_ending (hw : Wf b) (ho : OR L P en (ord b)) {e : En} (he : (ord b)[k]? = some e) : f_L_ending L P en (nn k) = some (nn (10 * e.1 + e.2)) := by
  unfold f_L_ending
  rw [x_end0 hw ho he, bL, x_end1 hw ho he, bL, nl10, nn_mul, nn_add]
theorem y_ending_out (hw : Wf b) (ho : OR L P en (ord b)) : f_L_ending L P en (nn (ord b).length) = some (-2000) := by
  have hl := (ord_good hw).2.2
  unfold f_L_ending f_X8_ending
  rw [xb_r _ _ _ (ckR_out hw ho (Nat.lt_irrefl _) (by omega)) rfl, bR, if_pos rfl]
theorem x_rank (hw : Wf b) (hc : CB F S n b) (ho : OR L P en (ord b)) (hp : p < sz b i) : f_X8_rank S n L P en (nn i) (nn p) = some (.inl (nn (rk b i p))) := by
  unfold f_X8_rank
  rw [xb_l _ _ _ (ckP_in hw hc hp) rfl, s_rankOf hw ho hp, Option.bind_some]
theorem x_rankAgain (hw : Wf b) (hc : CB F S n b) (hp : p < sz b i) : f_X8_rankAgain F S n (nn i) (nn p) = some (.inl (nn (rk b i p))) := by
  have hi := sz_in hp
  have h8 := hw.1
  have h10 := hw.sz_le i
  unfold f_X8_rankAgain
  rw [xb_l _ _ _ (ckP_in hw hc hp) rfl, s_rankAgain hw hc (by omega) (by omega), Option.bind_some]
theorem y_common (hw : Wf b) (ho : OR L P en (ord b)) (hm : CM M b (ord b)) (hk : k < (ord b).length) (h0 : k ≠ 0) : f_L_common M en (nn k) = some (nn (cc b k)) := by
  have hl := (ord_good hw).2.2
  have hcc : M k = nn (cc b k) := hm k (by omega) hk
  unfold f_L_common f_X8_common f_X3_commonAt
  rw [xb_l _ _ _ (ckR_in hw ho hk) rfl, if_pos (by rw [nl0, nn_eq (by omega) (by omega)]; exact h0), s_hasRank hl ho (by omega), if_pos hk, Option.bind_some, if_neg (by decide), ldi_nn (by omega) (by omega), hcc, Option.bind_some, Option.bind_some, bL]
theorem y_common0 (hw : Wf b) (ho : OR L P en (ord b)) (hk : 0 < (ord b).length) : f_L_common M en (nn 0) = some (-2000) := by
  unfold f_L_common f_X8_common
  rw [xb_l _ _ _ (ckR_in hw ho hk) rfl, if_neg (fun z => z rfl), bR, if_pos rfl]
theorem y_common_out (hw : Wf b) (ho : OR L P en (ord b)) : f_L_common M en (nn (ord b).length) = some (-2000) := by
  have hl := (ord_good hw).2.2
  unfold f_L_common f_X8_common
  rw [xb_r _ _ _ (ckR_out hw ho (Nat.lt_irrefl _) (by omega)) rfl, bR, if_pos rfl]
theorem x_commonOf (hw : Wf b) (hc : CB F S n b) (hp : p < sz b i) (hq : q < sz b j) : f_X8_commonOf F S n (nn i) (nn p) (nn j) (nn q) = some (.inl (nn (cpl (sfx b i p) (sfx b j q)))) := by
  have h8 := hw.1
  have hi := sz_in hp
  have hj := sz_in hq
  have h10 := hw.sz_le i
  have h11 := hw.sz_le j
  unfold f_X8_commonOf
  rw [xb_l _ _ _ (ckP_in hw hc hp) rfl, xb_l _ _ _ (ckP_in hw hc hq) rfl, s_same hw hc (by omega) (by omega) (by omega) (by omega), Option.bind_some]
theorem x_longest (hw : Wf b) (ho : OR L P en (ord b)) (hm : CM M b (ord b)) : f_X8_longest M en = some (nn (lc b)) := by
  unfold f_X8_longest
  rw [s_longest hw ho hm, Option.bind_some]
theorem ckF_out (hw : Wf b) (ho : OR L P en (ord b)) (hm : CM M b (ord b)) (h : lc b = 0) : f_X8_checkRepeat M en = some (.inr "java/util/NoSuchElementException") := by
  unfold f_X8_checkRepeat
  rw [s_longest hw ho hm, Option.bind_some, h, if_neg (fun z => z rfl)]
theorem ckF_in (hw : Wf b) (ho : OR L P en (ord b)) (hm : CM M b (ord b)) (h : lc b ≠ 0) : f_X8_checkRepeat M en = some (.inl 0) := by
  have := lc_le hw
  unfold f_X8_checkRepeat
  rw [s_longest hw ho hm, Option.bind_some, if_pos (by rw [nl0, nn_eq (by omega) (by omega)]; exact h)]
theorem y_longestRank (hw : Wf b) (ho : OR L P en (ord b)) (hm : CM M b (ord b)) : f_L_longestRank M en = some (if lc b = 0 then -2000 else nn (flr b - 1)) := by
  unfold f_L_longestRank f_X8_longestRank
  by_cases h : lc b = 0
  · rw [xb_r _ _ _ (ckF_out hw ho hm h) rfl, bR, if_pos rfl, if_pos h]
  · rw [xb_l _ _ _ (ckF_in hw ho hm h) rfl, s_fl hw ho hm, Option.bind_some, bL, if_neg h]
theorem x_pieces (hw : Wf b) (hc : CB F S n b) (ho : OR L P en (ord b)) (hm : CM M b (ord b)) (h0 : M 0 = nn 0) : f_X8_pieces S n L P M en = some (nn (cnew b)) := by
  unfold f_X8_pieces
  rw [s_pcs hw hc ho hm h0, Option.bind_some]
theorem x_piecesAgain (hw : Wf b) (hc : CB F S n b) : f_X8_piecesAgain F S n = some (nn (cnew b)) := by
  unfold f_X8_piecesAgain
  rw [s_cnew hw hc, Option.bind_some]
theorem x_kinds (hw : Wf b) (hc : CB F S n b) : f_X8_kinds F S n = some (nn (kin b)) := by
  unfold f_X8_kinds
  rw [s_kinds hw hc, Option.bind_some]
theorem y_finds (hw : Wf b) (hc : CB F S n b) (ho : OR L P en (ord b)) (ht : TXx C l w) (h : wrd w = true) : f_L_finds F S n C l L P en 0 = some (nn (cntw b w)) ∧ f_L_finds F S n C l L P en 1 = some (nn (cntw b w)) := by
  unfold f_L_finds f_X8_finds f_X8_findsAgain
  constructor
  · rw [if_pos rfl, xb_l _ _ _ (ckW_in ht h) rfl, s_behind hw hc ho ht h, Option.bind_some, s_notBefore hw hc ho ht h, Option.bind_some, finds_nn, bL]
  · rw [if_neg (by decide), xb_l _ _ _ (ckW_in ht h) rfl, s_cntw hw hc ht h, Option.bind_some, bL]
theorem y_firstFind (hw : Wf b) (hc : CB F S n b) (ho : OR L P en (ord b)) (ht : TXx C l w) (h : wrd w = true) : f_L_firstFind F S n C l L P en = some (if cntw b w = 0 then -2000 else nn (wlo b w)) := by
  obtain ⟨b1, b2, b3⟩ := cnt_le hw w
  have heq := whi_eq b w
  unfold f_L_firstFind f_X8_firstFind
  rw [xb_l _ _ _ (ckW_in ht h) rfl, s_notBefore hw hc ho ht h, Option.bind_some, s_behind hw hc ho ht h, Option.bind_some]
  by_cases hz : cntw b w = 0
  · rw [show whi b w = wlo b w by omega, if_neg (fun z => z rfl), bR, if_neg (by decide), if_pos rfl, if_pos hz]
  · rw [if_pos (by rw [nn_eq (by omega) (by omega)]; omega), bL, if_neg hz]
theorem x_isLine (hw : Wf b) (hc : CB F S n b) (ht : TXx C l w) (h : wrd w = true) : f_X8_isLine F S n C l = some (.inl (if lst (wln b w) 0 (b.length - 0) < b.length then nn 1 else nn 0)) := by
  unfold f_X8_isLine
  rw [xb_l _ _ _ (ckW_in ht h) rfl, s_wln hw hc ht h, Option.bind_some]
  by_cases q : lst (wln b w) 0 (b.length - 0) < b.length
  · rw [if_pos q]; rfl
  · rw [if_neg q]; rfl
theorem x_shared (hw : Wf b) (hc : CB F S n b) (hi : i < b.length) (hj : j < b.length) : f_X8_shared F S n (nn i) (nn j) = some (.inl (nn (lsha b i j))) := by
  have h8 := hw.1
  unfold f_X8_shared
  rw [xb_l _ _ _ (ckL_in hw hc hi) rfl, xb_l _ _ _ (ckL_in hw hc hj) rfl, s_lsha hw hc (by omega) (by omega), Option.bind_some]
theorem x_turned (hw : Wf b) (hc : CB F S n b) (hi : i < b.length) (hj : j < b.length) : f_X8_isTurned F S n (nn i) (nn j) = some (.inl (if rvs b i j = true then 1 else 0)) := by
  have h8 := hw.1
  unfold f_X8_isTurned
  rw [xb_l _ _ _ (ckL_in hw hc hi) rfl, xb_l _ _ _ (ckL_in hw hc hj) rfl, s_isReverse hw hc (by omega) (by omega), Option.bind_some]
  by_cases h : rvs b i j = true
  · rw [if_pos h, if_pos h]; rfl
  · rw [if_neg h, if_neg h]; rfl
theorem y_alone (hw : Wf b) (hc : CB F S n b) (hi : i < b.length) (hs : sal b i ≤ 11) : f_L_alone F S n (nn i) = some (if sal b i = 11 then -2000 else nn (sal b i)) ∧ f_L_alonePlace F S n (nn i) = some (if sal b i = 11 then -2000 else nn (lst (fun p => decide (saa b i p = sal b i)) 0 (sz b i - 0))) := by
  have h8 := hw.1
  unfold f_L_alone f_X8_alone f_L_alonePlace f_X8_alonePlace
  rw [xb_l _ _ _ (ckL_in hw hc hi) rfl, xb_l _ _ _ (ckL_in hw hc hi) rfl, s_sal hw hc (by omega), Option.bind_some, Option.bind_some]
  by_cases h : sal b i = 11
  · have e3 : f_X8_checkAlone (nn (sal b i)) = some (.inr "java/util/NoSuchElementException") := by
      unfold f_X8_checkAlone
      rw [h, if_neg (by decide)]
    rw [xb_r _ _ _ e3 rfl, xb_r _ _ _ e3 rfl, bR, if_pos rfl, if_pos h, if_pos h]
    exact ⟨rfl, rfl⟩
  · have e3 : f_X8_checkAlone (nn (sal b i)) = some (.inl 0) := by
      unfold f_X8_checkAlone
      rw [if_pos (by rw [nl10, nn_le (by omega) (by omega)]; omega)]
    rw [xb_l _ _ _ e3 rfl, xb_l _ _ _ e3 rfl, if_neg h, if_neg h]
    constructor
    · rfl
    · rw [s_fap hw hc (by omega) (by omega), Option.bind_some, bL]
theorem x_acc0 (hc : CB F S n b) : f_X8_account F S n l hs M en 0 = some (.inl (nn b.length)) := by
  unfold f_X8_account f_X0_lines
  rw [if_neg (by decide), if_pos (by decide), hc.1]
  rfl
theorem x_acc1 (ho : OR L P en (ord b)) : f_X8_account F S n l hs M en 1 = some (.inl (nn (ord b).length)) := by
  unfold f_X8_account f_X3_endings
  rw [if_neg (by decide), if_neg (by decide), if_pos (by decide), ho.1]
  rfl
theorem x_acc2 (hw : Wf b) (hc : CB F S n b) : f_X8_account F S n l hs M en 2 = some (.inl (nn (dfl b 0 b.length))) := by
  obtain ⟨v, g1, g2⟩ := s_difA hw hc
  unfold f_X8_account
  rw [if_neg (by decide), if_neg (by decide), if_neg (by decide), if_pos (by decide), g1, Option.bind_some, g2]
  rfl
theorem x_acc3 (hw : Wf b) (ho : OR L P en (ord b)) (hm : CM M b (ord b)) : f_X8_account F S n l hs M en 3 = some (.inl (nn (sc b))) := by
  unfold f_X8_account
  rw [if_neg (by decide), if_neg (by decide), if_neg (by decide), if_neg (by decide), if_pos (by decide), s_sc hw ho hm]
  rfl
theorem x_acc4 (hw : Wf b) (hc : CB F S n b) : f_X8_account F S n l hs M en 4 = some (.inl (nn (pal b))) := by
  unfold f_X8_account
  rw [if_neg (by decide), if_neg (by decide), if_neg (by decide), if_neg (by decide), if_neg (by decide), if_pos (by decide), s_pal hw hc]
  rfl
theorem x_acc6 (ht : TXx C l w) : f_X8_account F S n l hs M en 6 = some (.inl (nn w.length)) := by
  unfold f_X8_account
  rw [if_neg (by decide), if_neg (by decide), if_neg (by decide), if_neg (by decide), if_neg (by decide), if_neg (by decide), if_neg (by decide), if_pos (by decide), s_length ht]
  rfl
theorem x_mean (hw : Wf b) (hc : CB F S n b) (ho : OR L P en (ord b)) (h : b.length ≠ 0) : f_X8_meanLetters n en = some (.inl (FP.fdiv (FP.i2f (nn (ord b).length)) (FP.i2f (nn b.length)))) := by
  rcases ckE hw hc ho with ⟨h', _⟩ | ⟨_, e⟩
  · exact absurd h' h
  · have a1 := fdv_ex (a := (ord b).length) (c := b.length) (ord_good hw).2.2 hw.1 h
    unfold f_X8_meanLetters f_X3_endings f_X0_lines
    unfold xb
    rw [e, hc.1, ho.1]
    show ((fdv (FP.i2f (nn (ord b).length)) (FP.i2f (nn b.length))).bind fun v20_5 => some (Sum.inl v20_5 : UInt32 ⊕ String)) = _
    rw [a1.1]
    rfl
theorem x_share (hw : Wf b) (hc : CB F S n b) (ho : OR L P en (ord b)) (hm : CM M b (ord b)) (h : b.length ≠ 0) : f_X8_repeatShare n M en = some (.inl (FP.ddiv (FP.i2d (nn (rc1 b))) (FP.i2d (nn (ord b).length)))) := by
  rcases ckE hw hc ho with ⟨h', _⟩ | ⟨_, e⟩
  · exact absurd h' h
  · have a1 := ddv_ex (a := rc1 b) (c := (ord b).length) (rc1_le hw) (ord_good hw).2.2 (ord_ne hw h)
    unfold f_X8_repeatShare f_X3_endings
    unfold xb
    rw [e, s_rc hw ho hm, ho.1]
    show ((ddv (FP.i2d (nn (rc1 b))) (FP.i2d (nn (ord b).length))).bind fun v20_5 => some (Sum.inl v20_5 : UInt64 ⊕ String)) = _
    rw [a1.1]
    rfl
theorem x_char (ht : TXx C l w) (hq : q < w.length) : f_X8_character C l (nn q) = some (.inl (nn (w.getD q 0))) := by
  have h60 := ht.2.1
  have hv := (ht.2.2 q hq).2
  unfold f_X8_character
  rw [if_neg (show ¬ nn q < 0 from nn_nlt0 (by omega)), s_length ht, Option.bind_some, if_pos (by rw [nn_lt (by omega) (by omega)]; exact hq), s_charAt ht (by omega), Option.bind_some, rc_of (ch_nn hv), Option.bind_some]
theorem x_write (hw : Wf b) (hc : CB F S n b) (ho : OR L P en (ord b)) (C : Nat → Int32) (l : Int32) {e : En} (he : (ord b)[k]? = some e) : ∃ C', f_X8_write F S n L P en C l (nn k) = some (.inl (nn (4 + (sz b e.1 - e.2))), C', nn (4 + (sz b e.1 - e.2))) ∧ TXx C' (nn (4 + (sz b e.1 - e.2))) ([48 + e.1, 47, 48 + e.2, 58] ++ sfx b e.1 e.2) := by
  have h8 := hw.1
  have hl := (ord_good hw).2.2
  have hkl := (List.getElem?_eq_some_iff.mp he).1
  have hv : e.2 < sz b e.1 := ((ord_good hw).2.1 e).mp (List.mem_of_getElem? he)
  have hi := sz_in hv
  have h10 := hw.sz_le e.1
  obtain ⟨C1, l1, p1, t1⟩ := s_putD (TXx.nil C) (by decide) (d := e.1) (by omega)
  obtain ⟨C2, l2, p2, t2⟩ := s_putT t1 (by show 1 < 60; omega) (x := 47) (by omega)
  obtain ⟨C3, l3, p3, t3⟩ := s_putD t2 (by show 2 < 60; omega) (d := e.2) (by omega)
  obtain ⟨C4, l4, p4, t4⟩ := s_putT t3 (by show 3 < 60; omega) (x := 58) (by omega)
  obtain ⟨C5, l5, p5, t5⟩ := s_putLs hw hc hi (p := e.2) (m := sz b e.1 - e.2) (by omega) (by show 4 ≤ 20; omega) t4
  have ht : (sfx b e.1 e.2).take (sz b e.1 - e.2) = sfx b e.1 e.2 := List.take_of_length_le (by rw [sfx_len]; omega)
  rw [ht] at t5
  have hl5 : l5 = nn (4 + (sz b e.1 - e.2)) := by
    rw [t5.1, List.length_append, sfx_len]
    rfl
  subst hl5
  refine ⟨C5, ?_, t5⟩
  unfold f_X8_write f_X7_clear
  rw [xb_l _ _ _ (ckR_in hw ho hkl) rfl, s_lineAt hl ho he, Option.bind_some, s_placeAt hl ho he, Option.bind_some, Option.bind_some, show (0 : Int32) = nn 0 from rfl, p1, Option.bind_some]
  have p2' : f_X7_put C1 l1 47 = some (C2, l2) := p2
  rw [p2', Option.bind_some, p3, Option.bind_some]
  have p4' : f_X7_put C3 l3 58 = some (C4, l4) := p4
  rw [p4', Option.bind_some, s_size hw hc (by omega), Option.bind_some, nn_sub (by omega), p5, Option.bind_some]
  unfold f_X7_length
  rfl
theorem y_writeLongest (hw : Wf b) (hc : CB F S n b) (ho : OR L P en (ord b)) (hm : CM M b (ord b)) (C : Nat → Int32) (l : Int32) : (lc b = 0 → f_L_writeLongest F S n L P M en C l = some (-2000, C, l)) ∧ (lc b ≠ 0 → ∀ e, (ord b)[flr b - 1]? = some e → ∃ C' l', f_L_writeLongest F S n L P M en C l = some (nn (lc b), C', l') ∧ TXx C' l' ((sfx b e.1 e.2).take (lc b)) ∧ ((sfx b e.1 e.2).take (lc b)).length = lc b) := by
  have h8 := hw.1
  have hl := (ord_good hw).2.2
  have hlc := lc_le hw
  refine ⟨fun h => ?_, fun h e he => ?_⟩
  · unfold f_L_writeLongest f_X8_writeLongest
    rw [xb_r _ _ _ (ckF_out hw ho hm h) rfl]
    show (if "java/util/NoSuchElementException" = "java/util/NoSuchElementException" then some ((-2000 : Int32), C, l) else none) = _
    exact if_pos rfl
  · obtain ⟨g1, g2, g3⟩ := flr_at hw h
    have hf : (ord b)[flr b]? = some (ord b)[flr b] := List.getElem?_eq_getElem (by omega)
    generalize (ord b)[flr b] = f at hf
    have hv : e.2 < sz b e.1 := ((ord_good hw).2.1 e).mp (List.mem_of_getElem? he)
    have hi := sz_in hv
    have h10 := hw.sz_le e.1
    have hcc : cc b (flr b) = cpl (sfx b e.1 e.2) (sfx b f.1 f.2) := cmn_at he hf
    have hle := cpl_le (sfx b e.1 e.2) (sfx b f.1 f.2)
    rw [sfx_len, ← hcc, g3] at hle
    obtain ⟨C5, l5, p5, t5⟩ := s_putLs hw hc hi (p := e.2) (m := lc b) (by omega) (by show 0 ≤ 20; omega) (TXx.nil C)
    rw [List.nil_append] at t5
    have hlen : ((sfx b e.1 e.2).take (lc b)).length = lc b := by rw [List.length_take, sfx_len]; omega
    refine ⟨C5, l5, ?_, t5, hlen⟩
    unfold f_L_writeLongest f_X8_writeLongest f_X7_clear
    rw [xb_l _ _ _ (ckF_in hw ho hm h) rfl, s_fl hw ho hm, Option.bind_some, Option.bind_some, s_lineAt hl ho he, Option.bind_some, s_placeAt hl ho he, Option.bind_some, s_longest hw ho hm, Option.bind_some, nl0, p5, Option.bind_some]
    unfold f_X7_length
    rw [Option.bind_some, t5.1, hlen]
    rfl
theorem x_append (ht : TXx C l w) (hl : w.length < 60) {x : Nat} (hx : x < 65536) : ∃ C' l', f_X8_append C l (nn x) = some (.inl (nn (w.length + 1)), C', l') ∧ TXx C' l' (w ++ [x]) := by
  obtain rfl := ht.1
  refine ⟨upd C w.length (nn x), nn (w.length + 1), ?_, ht.app hl hx⟩
  unfold f_X8_append
  rw [s_isFull (by omega), if_pos hl, Option.bind_some, if_pos d_c, s_put hl hx, Option.bind_some]
  unfold f_X7_length
  rfl
end CLS
