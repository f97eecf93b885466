/-! THE CASES OF ADD, UNDO, SAVE AND RESTORE -/
theorem okc1 : OKC1 InvP := by
  intro S N x5 t_book_lettersF t_book_sizesF t_book_lines t_before_lettersF t_before_sizesF t_before_lines t_snapshot_lettersF t_snapshot_sizesF t_snapshot_lines t_text_charactersF t_text_length t_reader_startsF t_reader_count t_reader_shape t_reader_step t_refusal_reasonsF t_refusal_detailsF t_refusal_count t_history_HL t_history_HZ t_history_HN t_history_oldest t_history_size t_order_linesF t_order_placesF t_order_commonsF t_order_endings t_written_charactersF t_written_length t_fault t_isSaved m_allF m_reasonsF m_textF m_wordF m_orderF m_rowsF m_writtenF m_thrown m_changes m_isSaved m_result m_texted m_wordSize m_orderMany m_here m_fault m_faultAt m_commandMany m_writtenSize F G v1 v2 v3 v4 h1 h2 h3 h4 hI K hK
  obtain ⟨b, bs, H, w, v, hw, hc, hr, hH, hR, hs, ht, ht', hf, ho, hm, hm0, hfa, hv⟩ := id hI
  have h60 := ht.2.1
  obtain ⟨pF, pS, g1, g2⟩ := s_copyFrom hc t_before_lettersF t_before_sizesF hw
  obtain ⟨A1, a1, a2, a3⟩ := r_begin m_allF
  have hr1 : RB A1 0 b := RB.cong (p := 0) hw hr (fun z _ z2 => a3 z (by omega))
  obtain ⟨W', w1, w2⟩ := r_hold ht' m_wordF
  unfold f_LC1 f_L_add f_X8_add f_X9_add f_X1_addText
  by_cases hwd : wrd w = true
  · obtain ⟨w3, w4⟩ := w1 hwd
    have hsa := sub_all w
    have d1 : f_X7_isWord t_text_charactersF t_text_length = some 1 := by rw [s_isWord ht, if_pos hwd]; rfl
    have w3' : f_X9_holdsWord m_textF m_wordF m_texted = some (1, W', nn w.length) := w3
    rcases j_adds (W := W') (R := t_refusal_reasonsF) (D := t_refusal_detailsF) (c := t_refusal_count) (M := m_reasonsF) hw hc hr1 ht (st := 0) (m := w.length) (by rw [hsa]; exact GL.word hwd) (by omega) (fun q hq => by rw [Nat.zero_add]; exact w4.2 q hq) m_result with ⟨F', S', A2, p1, p2, p3, p4, p5, p6⟩ | ⟨R', D', c', M', p1, p2, p3⟩
    · rw [Nat.zero_add] at p1
      rw [hsa] at p3 p4 p5
      have p1' : f_X1_addWord t_book_lettersF t_book_sizesF t_book_lines t_refusal_reasonsF t_refusal_detailsF t_refusal_count t_text_charactersF t_text_length 0 (nn w.length) = _ := p1
      obtain ⟨HL', HZ', HN', ho', hs', L', P', M', en', q1, q2, q3, q4, q5⟩ := s_fin_ok hH hw g2 p3 p4 t_order_linesF t_order_placesF t_order_commonsF t_order_endings hm0
      obtain ⟨A3, cg', r1, r2, r3, r4⟩ := ref_ok hw hr hR hH.len hH.wf a2 a3 p3 p5 p6 (nn b.length) 1
      have e9 : nn (b.length + 1) - 1 = nn b.length := nn_sub (a := b.length + 1) (b := 1) (by omega)
      have f0 : f_X9_refuses m_reasonsF 0 9 m_texted = some (0, m_reasonsF) := rfl
      simp only [Option.bind_some, g1, d1, s_length ht, p1', rz_1, f_X7_clear, xb, q1, f_X0_lines, e9, w3', a1, i10, not_false_eq_true, if_true, f_X9_add_J30, f0, not_true_eq_false, if_false, p2, r1, Sum.elim_inl, f_X9_thrown, vu0, lcv_self, if_true, not_true_eq_false, if_false]
      exact hK _ _ _ _ _ _ _ _ _ _ _ _ _ _ _ _ _ _ _ _ _ _ _ _ _ _ _ _ ⟨_, bs, _, [], v, p3, p4, r3, q2, r2, hs.cong r4, TX.nil _, TX.nil _, hf, q3, q4, q5, hfa, hv⟩
    · rw [Nat.zero_add] at p1
      have p1' : f_X1_addWord t_book_lettersF t_book_sizesF t_book_lines t_refusal_reasonsF t_refusal_detailsF t_refusal_count t_text_charactersF t_text_length 0 (nn w.length) = _ := p1
      obtain ⟨A3, r1, r2⟩ := ref_no (A2 := A1) a2 a3 (fun z _ => rfl) m_changes m_result 1
      have f0 : f_X9_refuses m_reasonsF 0 9 m_texted = some (0, m_reasonsF) := rfl
      simp only [Option.bind_some, g1, d1, s_length ht, p1', rz_0, f_X7_clear, xb, s_fin_no, w3', a1, i10, not_false_eq_true, if_true, f_X9_add_J30, f0, not_true_eq_false, if_false, p2, r1, Sum.elim_inr, f_X9_thrown, i10, i20, if_true, if_false, not_false_eq_true, not_true_eq_false]
      exact hK _ _ _ _ _ _ _ _ _ _ _ _ _ _ _ _ _ _ _ _ _ _ _ _ _ _ _ _ ⟨b, bs, H, [], v, hw, hc, RB.cong (p := 0) hw hr (fun z _ z2 => r2 z (by omega)), hH, hR.cong hH.len hH.wf (fun z _ z2 => r2 z (by omega)), hs.cong (fun z _ z2 => r2 z z2), TX.nil _, TX.nil _, p3, ho, hm, hm0, hfa, hv⟩
  · have w3' : f_X9_holdsWord m_textF m_wordF m_texted = some (0, W', nn 0) := w2 hwd
    have d1 : f_X7_isWord t_text_charactersF t_text_length = some 0 := by rw [s_isWord ht, if_neg hwd]; rfl
    obtain ⟨A3, r1, r2⟩ := ref_no (A2 := A1) a2 a3 (fun z _ => rfl) m_changes m_result 1
    have f0 : f_X9_refuses m_reasonsF 1 9 m_texted = some (1, rfM m_reasonsF 9 m_texted) := r_refuses_1 m_reasonsF 9 m_texted
    have p3 : RFS (upd t_refusal_reasonsF 0 9) (upd t_refusal_detailsF 0 (nn w.length)) (nn 1) (rfM m_reasonsF 9 m_texted) := by
      rw [ht'.1]
      exact RFS.kept (R := t_refusal_reasonsF) (D := t_refusal_detailsF) (M := m_reasonsF) (x := nn 9) (y := nn w.length) (by decide)
    simp only [Option.bind_some, g1, d1, s_length ht, s_keep, f_X7_clear, xb, s_fin_no, w3', a1, f_X9_add_J30, f0, r1, Sum.elim_inr, f_X9_thrown, i10, i20, if_true, if_false, not_false_eq_true, not_true_eq_false]
    exact hK _ _ _ _ _ _ _ _ _ _ _ _ _ _ _ _ _ _ _ _ _ _ _ _ _ _ _ _ ⟨b, bs, H, [], v, hw, hc, RB.cong (p := 0) hw hr (fun z _ z2 => r2 z (by omega)), hH, hR.cong hH.len hH.wf (fun z _ z2 => r2 z (by omega)), hs.cong (fun z _ z2 => r2 z z2), TX.nil _, TX.nil _, p3, ho, hm, hm0, hfa, hv⟩
theorem okc36 : OKC36 InvP := by
  intro S N x5 t_book_lettersF t_book_sizesF t_book_lines t_before_lettersF t_before_sizesF t_before_lines t_snapshot_lettersF t_snapshot_sizesF t_snapshot_lines t_text_charactersF t_text_length t_reader_startsF t_reader_count t_reader_shape t_reader_step t_refusal_reasonsF t_refusal_detailsF t_refusal_count t_history_HL t_history_HZ t_history_HN t_history_oldest t_history_size t_order_linesF t_order_placesF t_order_commonsF t_order_endings t_written_charactersF t_written_length t_fault t_isSaved m_allF m_reasonsF m_textF m_wordF m_orderF m_rowsF m_writtenF m_thrown m_changes m_isSaved m_result m_texted m_wordSize m_orderMany m_here m_fault m_faultAt m_commandMany m_writtenSize F G v1 v2 v3 v4 h1 h2 h3 h4 hI K hK
  obtain ⟨b, bs, H, w, v, hw, hc, hr, hH, hR, hs, ht, ht', hf, ho, hm, hm0, hfa, hv⟩ := id hI
  unfold f_LC36 f_L_undo f_X8_undo f_X9_undo f_X4_size
  have h8 := hH.len
  by_cases h0 : H.length = 0
  · have e1 : t_history_size = 0 := by rw [hH.1, h0]; rfl
    have e2 : m_changes = 0 := by rw [hR.1, h0]; rfl
    have hn : H = [] := List.length_eq_zero_iff.mp h0
    simp only [Option.bind_some, e1, e2, f_X9_undo_J13, Sum.elim_inr, f_X9_thrown, i10, i20, if_true, if_false, not_false_eq_true, not_true_eq_false]
    exact hK _ _ _ _ _ _ _ _ _ _ _ _ ⟨b, bs, H, w, v, hw, hc, hr, by rw [← e1]; exact hH, by rw [← e2]; exact hR, hs, ht, ht', hf, ho, hm, hm0, hfa, hv⟩
  · obtain ⟨h, F', S', n', hl, k1, k2, k3, k4⟩ := s_take_H hH (by omega) t_book_lettersF t_book_sizesF t_book_lines
    obtain ⟨L', P', M', e3, e4, e5, e6⟩ := s_sort k1 k3 t_order_linesF t_order_placesF t_order_commonsF
    have e1 : ¬ t_history_size = 0 := by rw [hH.1, nl0, nn_eq (by omega) (by omega)]; exact h0
    have e2 : ¬ m_changes = 0 := by rw [hR.1, nl0, nn_eq (by omega) (by omega)]; exact h0
    obtain ⟨A', c1, c2, c3⟩ := r_copies m_allF (p := H.length) (q := 0) (by omega) (by omega) (by omega)
    have c1' : f_X9_copies m_allF m_changes 0 = some A' := by rw [hR.1]; exact c1
    have e9 : m_changes - 1 = nn (H.length - 1) := by rw [hR.1]; exact nn_sub (b := 1) (by omega)
    have hrh : RB m_allF (89 * H.length) h := by
      have := hR.2 (H.length - 1) h hl
      rw [show H.length - 1 + 1 = H.length by omega] at this
      exact this
    have n1 : RB A' 0 h := RB.copied (p := H.length) (q := 0) k1 hrh c2
    have n2 : HR A' (nn (H.length - 1)) (H.take (H.length - 1)) := by
      refine ⟨by rw [List.length_take, Nat.min_eq_left (by omega)], fun j q hjq => ?_⟩
      have hjl := (List.getElem?_eq_some_iff.mp hjq).1
      rw [List.length_take] at hjl
      rw [List.getElem?_take, if_pos (by omega)] at hjq
      exact (hR.2 j q hjq).cong (hH.wf j q hjq) (fun z z1 z2 => c3 z (by omega))
    simp only [Option.bind_some, e1, e2, k2, e3, c1', e9, f_X9_undo_J13, not_false_eq_true, Sum.elim_inl, f_X9_thrown, vu0, lcv_self, if_true, not_true_eq_false, if_false]
    exact hK _ _ _ _ _ _ _ _ _ _ _ _ ⟨h, bs, H.take (H.length - 1), w, v, k1, k3, n1, k4, n2, hs.cong (fun z z1 z2 => c3 z (by omega)), ht, ht', hf, e4, e5, e6.trans hm0, hfa, hv⟩
theorem okc37 : OKC37 InvP := by
  intro S N x5 t_book_lettersF t_book_sizesF t_book_lines t_before_lettersF t_before_sizesF t_before_lines t_snapshot_lettersF t_snapshot_sizesF t_snapshot_lines t_text_charactersF t_text_length t_reader_startsF t_reader_count t_reader_shape t_reader_step t_refusal_reasonsF t_refusal_detailsF t_refusal_count t_history_HL t_history_HZ t_history_HN t_history_oldest t_history_size t_order_linesF t_order_placesF t_order_commonsF t_order_endings t_written_charactersF t_written_length t_fault t_isSaved m_allF m_reasonsF m_textF m_wordF m_orderF m_rowsF m_writtenF m_thrown m_changes m_isSaved m_result m_texted m_wordSize m_orderMany m_here m_fault m_faultAt m_commandMany m_writtenSize F G v1 v2 v3 v4 h1 h2 h3 h4 hI K hK
  obtain ⟨b, bs, H, w, v, hw, hc, hr, hH, hR, hs, ht, ht', hf, ho, hm, hm0, hfa, hv⟩ := id hI
  unfold f_LC37 f_X8_save f_X9_save f_X0_lines
  obtain ⟨pF, pS, g1, g2⟩ := s_copyFrom hc t_snapshot_lettersF t_snapshot_sizesF hw
  obtain ⟨A', c1, c2, c3⟩ := r_copies m_allF (p := 0) (q := 9) (by omega) (by omega) (by omega)
  have c1' : f_X9_copies m_allF 0 9 = some A' := c1
  have n1 : RB A' 0 b := RB.cong (p := 0) hw hr (fun z _ z2 => c3 z (by omega))
  have n2 : RB A' (89 * 9) b := RB.copied (p := 0) (q := 9) hw hr c2
  have e1 : f_X9_many A' = some t_book_lines := by rw [r_many n1, hc.1]
  simp only [Option.bind_some, g1, c1', e1, if_true]
  exact hK _ _ _ _ _ _ _ ⟨b, b, H, w, v, hw, hc, n1, hH, hR.cong hH.len hH.wf (fun z z1 z2 => c3 z (by omega)), Or.inr ⟨rfl, rfl, hw, g2, n2⟩, ht, ht', hf, ho, hm, hm0, hfa, hv⟩
theorem okc38 : OKC38 InvP := by
  intro S N x5 t_book_lettersF t_book_sizesF t_book_lines t_before_lettersF t_before_sizesF t_before_lines t_snapshot_lettersF t_snapshot_sizesF t_snapshot_lines t_text_charactersF t_text_length t_reader_startsF t_reader_count t_reader_shape t_reader_step t_refusal_reasonsF t_refusal_detailsF t_refusal_count t_history_HL t_history_HZ t_history_HN t_history_oldest t_history_size t_order_linesF t_order_placesF t_order_commonsF t_order_endings t_written_charactersF t_written_length t_fault t_isSaved m_allF m_reasonsF m_textF m_wordF m_orderF m_rowsF m_writtenF m_thrown m_changes m_isSaved m_result m_texted m_wordSize m_orderMany m_here m_fault m_faultAt m_commandMany m_writtenSize F G v1 v2 v3 v4 h1 h2 h3 h4 hI K hK
  obtain ⟨b, bs, H, w, v, hw, hc, hr, hH, hR, hs, ht, ht', hf, ho, hm, hm0, hfa, hv⟩ := id hI
  unfold f_LC38 f_L_restore f_X8_restore f_X9_restore f_X0_lines f_X4_clear
  rcases hs with ⟨s1, s2⟩ | ⟨s1, s2, s3, s4, s5⟩
  · simp only [Option.bind_some, s1, s2, f_X9_restore_J13, Sum.elim_inr, f_X9_thrown, i10, i20, if_true, if_false, not_false_eq_true, not_true_eq_false]
    exact hK _ _ _ _ _ _ _ _ _ _ _ _ hI
  · obtain ⟨pF, pS, g1, g2⟩ := s_copyFrom s4 t_book_lettersF t_book_sizesF s3
    obtain ⟨L', P', M', e3, e4, e5, e6⟩ := s_sort s3 g2 t_order_linesF t_order_placesF t_order_commonsF
    obtain ⟨A', c1, c2, c3⟩ := r_copies m_allF (p := 9) (q := 0) (by omega) (by omega) (by omega)
    have c1' : f_X9_copies m_allF 9 0 = some A' := c1
    have n1 : RB A' 0 bs := RB.copied (p := 9) (q := 0) s3 s5 c2
    have n2 : RB A' (89 * 9) bs := s5.cong s3 (fun z z1 z2 => c3 z (by omega))
    have e1 : f_X9_many A' = some t_snapshot_lines := by rw [r_many n1, s4.1]
    have n3 : HR A' 0 [] := ⟨rfl, fun j h hjh => by simp at hjh⟩
    simp only [Option.bind_some, s1, s2, i10, g1, e3, c1', e1, f_X9_restore_J13, not_false_eq_true, Sum.elim_inl, f_X9_thrown, vu0, lcv_self, if_true, not_true_eq_false, if_false]
    exact hK _ _ _ _ _ _ _ _ _ _ _ _ ⟨bs, bs, [], w, v, s3, g2, n1, hH.none, n3, Or.inr ⟨s1, s2, s3, s4, n2⟩, ht, ht', hf, e4, e5, e6.trans hm0, hfa, hv⟩
