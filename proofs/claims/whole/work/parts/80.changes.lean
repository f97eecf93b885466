/-! THE CASES THAT CHANGE -/
theorem c16 (x : Int32) : ∃ v, v < 65536 ∧ (x.toUInt32 % 65536).toInt32 = nn v := by
  refine ⟨x.toUInt32.toNat % 65536, Nat.mod_lt _ (by decide), ?_⟩
  apply Int32.toBitVec_inj.mp
  show (x.toUInt32 % 65536).toBitVec = BitVec.ofNat 32 (x.toUInt32.toNat % 65536)
  apply BitVec.eq_of_toNat_eq
  rw [BitVec.toNat_ofNat]
  show (x.toUInt32 % 65536).toNat = _
  rw [UInt32.toNat_mod]
  show x.toUInt32.toNat % 65536 = _
  omega
theorem vu0 (F : Nat → Int64) (x : Int64) : vp_updL F 0 x 0 = x := rfl
theorem lcv_self (x : Int64) : lcv x x = 0 := lcv_eq rfl
theorem i10 : ((1 : Int32) = 0) = False := by decide
theorem i20 : ((2 : Int32) = 0) = False := by decide
theorem sub_all (w : List Nat) : sub w 0 w.length = w := by unfold sub; rw [List.drop_zero, List.take_length]
theorem GL.word {w : List Nat} (h : wrd w = true) : GL w := wrd_ltr h
theorem okc0 : OKC0 InvP := by
  intro S N x5 t_book_lettersF t_book_sizesF t_book_lines t_before_lettersF t_before_sizesF t_before_lines t_snapshot_lettersF t_snapshot_sizesF t_snapshot_lines t_text_charactersF t_text_length t_reader_startsF t_reader_count t_reader_shape t_reader_step t_refusal_reasonsF t_refusal_detailsF t_refusal_count t_history_HL t_history_HZ t_history_HN t_history_oldest t_history_size t_order_linesF t_order_placesF t_order_commonsF t_order_endings t_written_charactersF t_written_length t_fault t_isSaved m_allF m_reasonsF m_textF m_wordF m_orderF m_rowsF m_writtenF m_thrown m_changes m_isSaved m_result m_texted m_wordSize m_orderMany m_here m_fault m_faultAt m_commandMany m_writtenSize F G v1 v2 v3 v4 h1 h2 h3 h4 hI K hK
  obtain ⟨b, bs, H, w, v, hw, hc, hr, hH, hR, hs, ht, ht', hf, ho, hm, hm0, hfa, hv⟩ := id hI
  obtain ⟨x, hx, ex⟩ := c16 v1
  unfold f_LC0 f_L_append f_X8_append
  have h60 := ht.2.1
  by_cases hl : w.length < 60
  · obtain ⟨C', l', e1, t1⟩ := s_putT ht hl hx
    have e2 := r_append (T := m_textF) hl hx
    have t2 : TX (upd m_textF w.length (nn x)) (nn (w.length + 1)) (w ++ [x]) := TX.app ⟨rfl, h60, ht'.2.2⟩ hl hx
    have e3 : f_X7_isFull t_text_length = some 0 := by
      rw [ht.1, s_isFull h60, if_pos hl]
      rfl
    rw [← ht'.1] at e2
    have e4 : l' = nn (w.length + 1) := by rw [t1.1, List.length_append]; rfl
    simp only [h1, Option.bind_some, ex, e1, e2, e3, f_X7_length, Sum.elim_inl, f_X9_thrown, vu0, e4, lcv_self, if_true, not_true_eq_false, if_false, show nn 0 = (0 : Int32) from rfl]
    rw [e4] at t1
    exact hK _ _ _ _ _ _ ⟨b, bs, H, w ++ [x], v, hw, hc, hr, hH, hR, hs, t1, t2, hf, ho, hm, hm0, hfa, hv⟩
  · have hl' : w.length = 60 := by omega
    have e3 : f_X7_isFull t_text_length = some 1 := by
      rw [ht.1, s_isFull h60, if_neg hl]
      rfl
    have e2 := r_append_full (T := m_textF) (nn x)
    have e5 : m_texted = nn 60 := by rw [ht'.1, hl']
    rw [← e5] at e2
    simp only [h1, Option.bind_some, ex, e2, e3, Sum.elim_inr, f_X9_thrown, i10, if_true, not_false_eq_true, if_false, show nn 1 = (1 : Int32) from rfl]
    exact hK _ _ _ _ _ _ ⟨b, bs, H, w, v, hw, hc, hr, hH, hR, hs, ht, ht', hf, ho, hm, hm0, hfa, hv⟩
theorem okc2 : OKC2 InvP := by
  intro S N x5 t_book_lettersF t_book_sizesF t_book_lines t_before_lettersF t_before_sizesF t_before_lines t_snapshot_lettersF t_snapshot_sizesF t_snapshot_lines t_text_charactersF t_text_length t_reader_startsF t_reader_count t_reader_shape t_reader_step t_refusal_reasonsF t_refusal_detailsF t_refusal_count t_history_HL t_history_HZ t_history_HN t_history_oldest t_history_size t_order_linesF t_order_placesF t_order_commonsF t_order_endings t_written_charactersF t_written_length t_fault t_isSaved m_allF m_reasonsF m_textF m_wordF m_orderF m_rowsF m_writtenF m_thrown m_changes m_isSaved m_result m_texted m_wordSize m_orderMany m_here m_fault m_faultAt m_commandMany m_writtenSize F G v1 v2 v3 v4 h1 h2 h3 h4 hI K hK
  obtain ⟨b, bs, H, w, v, hw, hc, hr, hH, hR, hs, ht, ht', hf, ho, hm, hm0, hfa, hv⟩ := id hI
  obtain ⟨pF, pS, g1, g2⟩ := s_copyFrom hc t_before_lettersF t_before_sizesF hw
  obtain ⟨A1, a1, a2, a3⟩ := r_begin m_allF
  have hr1 : RB A1 0 b := RB.cong (p := 0) hw hr (fun z _ z2 => a3 z (by omega))
  unfold f_LC2 f_L_cut f_X8_cut f_X9_cut
  rcases j_cut (R := t_refusal_reasonsF) (D := t_refusal_detailsF) (c := t_refusal_count) (M := m_reasonsF) hw hc hr1 v1 m_result with ⟨i, F', S', A2, _, _, p1, p2, p3, p4, p5, p6⟩ | ⟨R', D', c', M', p1, p2, p3⟩
  · obtain ⟨HL', HZ', HN', ho', hs', L', P', M', en', q1, q2, q3, q4, q5⟩ := s_fin_ok hH hw g2 p3 p4 t_order_linesF t_order_placesF t_order_commonsF t_order_endings hm0
    obtain ⟨A3, cg', r1, r2, r3, r4⟩ := ref_ok hw hr hR hH.len hH.wf a2 a3 p3 p5 p6 (nn (b.length - 1)) 1
    simp only [h1, Option.bind_some, g1, p1, xb, q1, f_X0_lines, a1, p2, r1, Sum.elim_inl, f_X9_thrown, vu0, lcv_self, if_true, not_true_eq_false, if_false]
    exact hK _ _ _ _ _ _ _ _ _ _ _ _ _ _ _ _ _ _ _ _ _ _ _ _ ⟨_, bs, _, w, v, p3, p4, r3, q2, r2, hs.cong r4, ht, ht', hf, q3, q4, q5, hfa, hv⟩
  · obtain ⟨A3, r1, r2⟩ := ref_no (A2 := A1) a2 a3 (fun z _ => rfl) m_changes m_result 1
    simp only [h1, Option.bind_some, g1, p1, xb, s_fin_no, a1, p2, r1, Sum.elim_inr, f_X9_thrown, i10, i20, if_true, if_false, not_false_eq_true, not_true_eq_false]
    exact hK _ _ _ _ _ _ _ _ _ _ _ _ _ _ _ _ _ _ _ _ _ _ _ _ ⟨b, bs, H, w, v, hw, hc, RB.cong (p := 0) hw hr (fun z _ z2 => r2 z (by omega)), hH, hR.cong hH.len hH.wf (fun z _ z2 => r2 z (by omega)), hs.cong (fun z _ z2 => r2 z z2), ht, ht', p3, ho, hm, hm0, hfa, hv⟩
theorem okc3 : OKC3 InvP := by
  intro S N x5 t_book_lettersF t_book_sizesF t_book_lines t_before_lettersF t_before_sizesF t_before_lines t_snapshot_lettersF t_snapshot_sizesF t_snapshot_lines t_text_charactersF t_text_length t_reader_startsF t_reader_count t_reader_shape t_reader_step t_refusal_reasonsF t_refusal_detailsF t_refusal_count t_history_HL t_history_HZ t_history_HN t_history_oldest t_history_size t_order_linesF t_order_placesF t_order_commonsF t_order_endings t_written_charactersF t_written_length t_fault t_isSaved m_allF m_reasonsF m_textF m_wordF m_orderF m_rowsF m_writtenF m_thrown m_changes m_isSaved m_result m_texted m_wordSize m_orderMany m_here m_fault m_faultAt m_commandMany m_writtenSize F G v1 v2 v3 v4 h1 h2 h3 h4 hI K hK
  obtain ⟨b, bs, H, w, v, hw, hc, hr, hH, hR, hs, ht, ht', hf, ho, hm, hm0, hfa, hv⟩ := id hI
  obtain ⟨pF, pS, g1, g2⟩ := s_copyFrom hc t_before_lettersF t_before_sizesF hw
  obtain ⟨A1, a1, a2, a3⟩ := r_begin m_allF
  obtain ⟨x, hx, ex⟩ := c16 v3
  have hr1 : RB A1 0 b := RB.cong (p := 0) hw hr (fun z _ z2 => a3 z (by omega))
  unfold f_LC3 f_L_change f_X8_change f_X9_change
  rcases j_change (R := t_refusal_reasonsF) (D := t_refusal_detailsF) (c := t_refusal_count) (M := m_reasonsF) (O := m_orderF) hw hc hr1 v1 v2 m_result m_orderMany hx with ⟨i, p, F', A2, O', om', hp, rfl, rfl, p1, p2, p3, p4, p5, p6⟩ | ⟨R', D', c', M', p1, p2, p3⟩
  · obtain ⟨HL', HZ', HN', ho', hs', L', P', M', en', q1, q2, q3, q4, q5⟩ := s_fin_ok hH hw g2 p3 p4 t_order_linesF t_order_placesF t_order_commonsF t_order_endings hm0
    obtain ⟨A3, cg', r1, r2, r3, r4⟩ := ref_ok hw hr hR hH.len hH.wf a2 a3 p3 p5 p6 (nn (rk (b.set i ((ln b i).set p x)) i p)) 1
    have hz : sz (b.set i ((ln b i).set p x)) i = sz b i := by unfold sz; rw [ln_set (sz_in hp), if_pos rfl, List.length_set]
    have q6 := s_rankOf p3 q3 (i := i) (p := p) (by rw [hz]; exact hp)
    simp only [h1, h2, h3, ex, Option.bind_some, g1, p1, xb, q1, q6, a1, p2, r1, Sum.elim_inl, f_X9_thrown, vu0, lcv_self, if_true, not_true_eq_false, if_false]
    exact hK _ _ _ _ _ _ _ _ _ _ _ _ _ _ _ _ _ _ _ _ _ _ _ _ ⟨_, bs, _, w, v, p3, p4, r3, q2, r2, hs.cong r4, ht, ht', hf, q3, q4, q5, hfa, hv⟩
  · obtain ⟨A3, r1, r2⟩ := ref_no (A2 := A1) a2 a3 (fun z _ => rfl) m_changes m_result 1
    simp only [h1, h2, h3, ex, Option.bind_some, g1, p1, xb, s_fin_no, a1, p2, r1, Sum.elim_inr, f_X9_thrown, i10, i20, if_true, if_false, not_false_eq_true, not_true_eq_false]
    exact hK _ _ _ _ _ _ _ _ _ _ _ _ _ _ _ _ _ _ _ _ _ _ _ _ ⟨b, bs, H, w, v, hw, hc, RB.cong (p := 0) hw hr (fun z _ z2 => r2 z (by omega)), hH, hR.cong hH.len hH.wf (fun z _ z2 => r2 z (by omega)), hs.cong (fun z _ z2 => r2 z z2), ht, ht', p3, ho, hm, hm0, hfa, hv⟩
theorem okc4 : OKC4 InvP := by
  intro S N x5 t_book_lettersF t_book_sizesF t_book_lines t_before_lettersF t_before_sizesF t_before_lines t_snapshot_lettersF t_snapshot_sizesF t_snapshot_lines t_text_charactersF t_text_length t_reader_startsF t_reader_count t_reader_shape t_reader_step t_refusal_reasonsF t_refusal_detailsF t_refusal_count t_history_HL t_history_HZ t_history_HN t_history_oldest t_history_size t_order_linesF t_order_placesF t_order_commonsF t_order_endings t_written_charactersF t_written_length t_fault t_isSaved m_allF m_reasonsF m_textF m_wordF m_orderF m_rowsF m_writtenF m_thrown m_changes m_isSaved m_result m_texted m_wordSize m_orderMany m_here m_fault m_faultAt m_commandMany m_writtenSize F G v1 v2 v3 v4 h1 h2 h3 h4 hI K hK
  obtain ⟨b, bs, H, w, v, hw, hc, hr, hH, hR, hs, ht, ht', hf, ho, hm, hm0, hfa, hv⟩ := id hI
  obtain ⟨pF, pS, g1, g2⟩ := s_copyFrom hc t_before_lettersF t_before_sizesF hw
  obtain ⟨A1, a1, a2, a3⟩ := r_begin m_allF
  have h8 := hw.1
  have hr1 : RB A1 0 b := RB.cong (p := 0) hw hr (fun z _ z2 => a3 z (by omega))
  unfold f_LC4 f_L_swap f_X8_swap f_X9_swap
  rcases j_swap (R := t_refusal_reasonsF) (D := t_refusal_detailsF) (c := t_refusal_count) (M := m_reasonsF) hw hc hr1 v1 v2 m_result with ⟨i, j, F', S', A2, hi, hj, rfl, rfl, p1, p2, p3, p4, p5, p6⟩ | ⟨R', D', c', M', p1, p2, p3⟩
  · obtain ⟨HL', HZ', HN', ho', hs', L', P', M', en', q1, q2, q3, q4, q5⟩ := s_fin_ok hH hw g2 p3 p4 t_order_linesF t_order_placesF t_order_commonsF t_order_endings hm0
    obtain ⟨A3, cg', r1, r2, r3, r4⟩ := ref_ok hw hr hR hH.len hH.wf a2 a3 p3 p5 p6 (nn (max (sz b j) (sz b i))) 1
    have z1 := hw.sz_le i
    have z2 := hw.sz_le j
    have q6 : f_X0_size S' t_book_lines (nn i) = some (nn (sz b j)) := by
      rw [s_size p3 p4 (by omega)]
      unfold sz
      rw [ln_swap hi hj]
      by_cases e : i = j
      · rw [if_pos e, e]
      · rw [if_neg e, if_pos rfl]
    have q7 : f_X0_size S' t_book_lines (nn j) = some (nn (sz b i)) := by
      rw [s_size p3 p4 (by omega)]
      unfold sz
      rw [ln_swap hi hj, if_pos rfl]
    have q8 : (if nn (sz b j) < nn (sz b i) then nn (sz b i) else nn (sz b j)) = nn (max (sz b j) (sz b i)) := by
      rw [← ite_max]
      by_cases e : sz b j < sz b i
      · rw [if_pos (by rw [nn_lt (by omega) (by omega)]; exact e), if_pos e]
      · rw [if_neg (by rw [nn_lt (by omega) (by omega)]; exact e), if_neg e]
    simp only [h1, h2, Option.bind_some, g1, p1, xb, q1, q6, q7, q8, a1, p2, r1, Sum.elim_inl, f_X9_thrown, vu0, lcv_self, if_true, not_true_eq_false, if_false]
    exact hK _ _ _ _ _ _ _ _ _ _ _ _ _ _ _ _ _ _ _ _ _ _ _ ⟨_, bs, _, w, v, p3, p4, r3, q2, r2, hs.cong r4, ht, ht', hf, q3, q4, q5, hfa, hv⟩
  · obtain ⟨A3, r1, r2⟩ := ref_no (A2 := A1) a2 a3 (fun z _ => rfl) m_changes m_result 1
    simp only [h1, h2, Option.bind_some, g1, p1, xb, s_fin_no, a1, p2, r1, Sum.elim_inr, f_X9_thrown, i10, i20, if_true, if_false, not_false_eq_true, not_true_eq_false]
    exact hK _ _ _ _ _ _ _ _ _ _ _ _ _ _ _ _ _ _ _ _ _ _ _ ⟨b, bs, H, w, v, hw, hc, RB.cong (p := 0) hw hr (fun z _ z2 => r2 z (by omega)), hH, hR.cong hH.len hH.wf (fun z _ z2 => r2 z (by omega)), hs.cong (fun z _ z2 => r2 z z2), ht, ht', p3, ho, hm, hm0, hfa, hv⟩
theorem okc5 : OKC5 InvP := by
  intro S N x5 t_book_lettersF t_book_sizesF t_book_lines t_before_lettersF t_before_sizesF t_before_lines t_snapshot_lettersF t_snapshot_sizesF t_snapshot_lines t_text_charactersF t_text_length t_reader_startsF t_reader_count t_reader_shape t_reader_step t_refusal_reasonsF t_refusal_detailsF t_refusal_count t_history_HL t_history_HZ t_history_HN t_history_oldest t_history_size t_order_linesF t_order_placesF t_order_commonsF t_order_endings t_written_charactersF t_written_length t_fault t_isSaved m_allF m_reasonsF m_textF m_wordF m_orderF m_rowsF m_writtenF m_thrown m_changes m_isSaved m_result m_texted m_wordSize m_orderMany m_here m_fault m_faultAt m_commandMany m_writtenSize F G v1 v2 v3 v4 h1 h2 h3 h4 hI K hK
  obtain ⟨b, bs, H, w, v, hw, hc, hr, hH, hR, hs, ht, ht', hf, ho, hm, hm0, hfa, hv⟩ := id hI
  obtain ⟨pF, pS, g1, g2⟩ := s_copyFrom hc t_before_lettersF t_before_sizesF hw
  obtain ⟨A1, a1, a2, a3⟩ := r_begin m_allF
  have hr1 : RB A1 0 b := RB.cong (p := 0) hw hr (fun z _ z2 => a3 z (by omega))
  unfold f_LC5 f_L_join f_X8_join f_X9_join
  rcases j_join (R := t_refusal_reasonsF) (D := t_refusal_detailsF) (c := t_refusal_count) (M := m_reasonsF) hw hc hr1 v1 v2 m_result with ⟨i, j, F', S', A2, _, _, _, _, _, p1, p2, p3, p4, p5, p6⟩ | ⟨R', D', c', M', p1, p2, p3⟩
  · obtain ⟨HL', HZ', HN', ho', hs', L', P', M', en', q1, q2, q3, q4, q5⟩ := s_fin_ok hH hw g2 p3 p4 t_order_linesF t_order_placesF t_order_commonsF t_order_endings hm0
    obtain ⟨A3, cg', r1, r2, r3, r4⟩ := ref_ok hw hr hR hH.len hH.wf a2 a3 p3 p5 p6 (if v1 ≤ v2 then v1 else v1 - 1) 1
    by_cases z : v1 ≤ v2
    · rw [if_pos z] at p2 r1
      simp only [h1, h2, Option.bind_some, g1, p1, xb, q1, if_pos z, a1, p2, r1, Sum.elim_inl, f_X9_thrown, vu0, lcv_self, if_true, not_true_eq_false, if_false]
      exact hK _ _ _ _ _ _ _ _ _ _ _ _ _ _ _ _ _ _ _ _ _ _ _ _ ⟨_, bs, _, w, v, p3, p4, r3, q2, r2, hs.cong r4, ht, ht', hf, q3, q4, q5, hfa, hv⟩
    · rw [if_neg z] at p2 r1
      simp only [h1, h2, Option.bind_some, g1, p1, xb, q1, if_neg z, a1, p2, r1, Sum.elim_inl, f_X9_thrown, vu0, lcv_self, if_true, not_true_eq_false, if_false]
      exact hK _ _ _ _ _ _ _ _ _ _ _ _ _ _ _ _ _ _ _ _ _ _ _ _ ⟨_, bs, _, w, v, p3, p4, r3, q2, r2, hs.cong r4, ht, ht', hf, q3, q4, q5, hfa, hv⟩
  · obtain ⟨A3, r1, r2⟩ := ref_no (A2 := A1) a2 a3 (fun z _ => rfl) m_changes m_result 1
    simp only [h1, h2, Option.bind_some, g1, p1, xb, s_fin_no, a1, p2, r1, Sum.elim_inr, f_X9_thrown, i10, i20, if_true, if_false, not_false_eq_true, not_true_eq_false]
    exact hK _ _ _ _ _ _ _ _ _ _ _ _ _ _ _ _ _ _ _ _ _ _ _ _ ⟨b, bs, H, w, v, hw, hc, RB.cong (p := 0) hw hr (fun z _ z2 => r2 z (by omega)), hH, hR.cong hH.len hH.wf (fun z _ z2 => r2 z (by omega)), hs.cong (fun z _ z2 => r2 z z2), ht, ht', p3, ho, hm, hm0, hfa, hv⟩
theorem okc6 : OKC6 InvP := by
  intro S N x5 t_book_lettersF t_book_sizesF t_book_lines t_before_lettersF t_before_sizesF t_before_lines t_snapshot_lettersF t_snapshot_sizesF t_snapshot_lines t_text_charactersF t_text_length t_reader_startsF t_reader_count t_reader_shape t_reader_step t_refusal_reasonsF t_refusal_detailsF t_refusal_count t_history_HL t_history_HZ t_history_HN t_history_oldest t_history_size t_order_linesF t_order_placesF t_order_commonsF t_order_endings t_written_charactersF t_written_length t_fault t_isSaved m_allF m_reasonsF m_textF m_wordF m_orderF m_rowsF m_writtenF m_thrown m_changes m_isSaved m_result m_texted m_wordSize m_orderMany m_here m_fault m_faultAt m_commandMany m_writtenSize F G v1 v2 v3 v4 h1 h2 h3 h4 hI K hK
  obtain ⟨b, bs, H, w, v, hw, hc, hr, hH, hR, hs, ht, ht', hf, ho, hm, hm0, hfa, hv⟩ := id hI
  obtain ⟨pF, pS, g1, g2⟩ := s_copyFrom hc t_before_lettersF t_before_sizesF hw
  obtain ⟨A1, a1, a2, a3⟩ := r_begin m_allF
  have hr1 : RB A1 0 b := RB.cong (p := 0) hw hr (fun z _ z2 => a3 z (by omega))
  unfold f_LC6 f_L_turn f_X8_turn f_X9_turn
  rcases j_turn (R := t_refusal_reasonsF) (D := t_refusal_detailsF) (c := t_refusal_count) (M := m_reasonsF) (O := m_orderF) hw hc hr1 v1 m_result m_orderMany with ⟨i, F', A2, O', om', hi, rfl, p1, p2, p3, p4, p5, p6⟩ | ⟨R', D', c', M', p1, p2, p3⟩
  · obtain ⟨HL', HZ', HN', ho', hs', L', P', M', en', q1, q2, q3, q4, q5⟩ := s_fin_ok hH hw g2 p3 p4 t_order_linesF t_order_placesF t_order_commonsF t_order_endings hm0
    obtain ⟨A3, cg', r1, r2, r3, r4⟩ := ref_ok hw hr hR hH.len hH.wf a2 a3 p3 p5 p6 (nn (rk (b.set i (ln b i).reverse) i 0)) 1
    have hz : sz (b.set i (ln b i).reverse) i = sz b i := by unfold sz; rw [ln_set hi, if_pos rfl, List.length_reverse]
    have hg1 : 1 ≤ sz b i := (hw.gl hi).1
    have q6 : f_X3_rankOf L' P' en' (nn i) 0 = some (nn (rk (b.set i (ln b i).reverse) i 0)) := s_rankOf p3 q3 (i := i) (p := 0) (by rw [hz]; omega)
    simp only [h1, Option.bind_some, g1, p1, xb, q1, q6, a1, p2, r1, Sum.elim_inl, f_X9_thrown, vu0, lcv_self, if_true, not_true_eq_false, if_false]
    exact hK _ _ _ _ _ _ _ _ _ _ _ _ _ _ _ _ _ _ _ _ _ _ _ _ ⟨_, bs, _, w, v, p3, p4, r3, q2, r2, hs.cong r4, ht, ht', hf, q3, q4, q5, hfa, hv⟩
  · obtain ⟨A3, r1, r2⟩ := ref_no (A2 := A1) a2 a3 (fun z _ => rfl) m_changes m_result 1
    simp only [h1, Option.bind_some, g1, p1, xb, s_fin_no, a1, p2, r1, Sum.elim_inr, f_X9_thrown, i10, i20, if_true, if_false, not_false_eq_true, not_true_eq_false]
    exact hK _ _ _ _ _ _ _ _ _ _ _ _ _ _ _ _ _ _ _ _ _ _ _ _ ⟨b, bs, H, w, v, hw, hc, RB.cong (p := 0) hw hr (fun z _ z2 => r2 z (by omega)), hH, hR.cong hH.len hH.wf (fun z _ z2 => r2 z (by omega)), hs.cong (fun z _ z2 => r2 z z2), ht, ht', p3, ho, hm, hm0, hfa, hv⟩
