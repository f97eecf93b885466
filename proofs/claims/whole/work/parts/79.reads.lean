/-! THE CASES THAT READ -/
theorem okc7 : OKC7 InvP := by
  intro S N x5 t_book_lettersF t_book_sizesF t_book_lines t_before_lettersF t_before_sizesF t_before_lines t_snapshot_lettersF t_snapshot_sizesF t_snapshot_lines t_text_charactersF t_text_length t_reader_startsF t_reader_count t_reader_shape t_reader_step t_refusal_reasonsF t_refusal_detailsF t_refusal_count t_history_HL t_history_HZ t_history_HN t_history_oldest t_history_size t_order_linesF t_order_placesF t_order_commonsF t_order_endings t_written_charactersF t_written_length t_fault t_isSaved m_allF m_reasonsF m_textF m_wordF m_orderF m_rowsF m_writtenF m_thrown m_changes m_isSaved m_result m_texted m_wordSize m_orderMany m_here m_fault m_faultAt m_commandMany m_writtenSize F G v1 v2 v3 v4 h1 h2 h3 h4 hI K hK
  obtain ⟨b, bs, H, w, v, hw, hc, hr, hH, hR, hs, ht, ht', hf, ho, hm, hm0, hfa, hv⟩ := id hI
  obtain ⟨k, X', r, e1, e2, e3⟩ := q_lineOf hw hc hr F v1 v2
  unfold f_LC7
  simp only [h1, h2, Option.bind_some, e1, e2]
  exact fin rfl e3 (hK _ _ hI)
theorem okc8 : OKC8 InvP := by
  intro S N x5 t_book_lettersF t_book_sizesF t_book_lines t_before_lettersF t_before_sizesF t_before_lines t_snapshot_lettersF t_snapshot_sizesF t_snapshot_lines t_text_charactersF t_text_length t_reader_startsF t_reader_count t_reader_shape t_reader_step t_refusal_reasonsF t_refusal_detailsF t_refusal_count t_history_HL t_history_HZ t_history_HN t_history_oldest t_history_size t_order_linesF t_order_placesF t_order_commonsF t_order_endings t_written_charactersF t_written_length t_fault t_isSaved m_allF m_reasonsF m_textF m_wordF m_orderF m_rowsF m_writtenF m_thrown m_changes m_isSaved m_result m_texted m_wordSize m_orderMany m_here m_fault m_faultAt m_commandMany m_writtenSize F G v1 v2 v3 v4 h1 h2 h3 h4 hI K hK
  obtain ⟨b, bs, H, w, v, hw, hc, hr, hH, hR, hs, ht, ht', hf, ho, hm, hm0, hfa, hv⟩ := id hI
  obtain ⟨k, X', r, e1, e2, e3⟩ := q_letter hw hc hr F v1 v2
  unfold f_LC8
  simp only [h1, h2, Option.bind_some, e1, e2]
  exact fin rfl e3 (hK _ _ hI)
theorem okc9 : OKC9 InvP := by
  intro S N x5 t_book_lettersF t_book_sizesF t_book_lines t_before_lettersF t_before_sizesF t_before_lines t_snapshot_lettersF t_snapshot_sizesF t_snapshot_lines t_text_charactersF t_text_length t_reader_startsF t_reader_count t_reader_shape t_reader_step t_refusal_reasonsF t_refusal_detailsF t_refusal_count t_history_HL t_history_HZ t_history_HN t_history_oldest t_history_size t_order_linesF t_order_placesF t_order_commonsF t_order_endings t_written_charactersF t_written_length t_fault t_isSaved m_allF m_reasonsF m_textF m_wordF m_orderF m_rowsF m_writtenF m_thrown m_changes m_isSaved m_result m_texted m_wordSize m_orderMany m_here m_fault m_faultAt m_commandMany m_writtenSize F G v1 v2 v3 v4 h1 h2 h3 h4 hI K hK
  obtain ⟨b, bs, H, w, v, hw, hc, hr, hH, hR, hs, ht, ht', hf, ho, hm, hm0, hfa, hv⟩ := id hI
  unfold f_LC9
  by_cases z : v2 = 0
  · obtain ⟨k, X', r, O', om', e1, e2, e3⟩ := q_ending hw hr ho F m_orderF v1 0
    simp only [h1, h2, Option.bind_some, if_pos z, e1, e2]
    exact fin rfl e3 (hK _ _ _ _ hI)
  · obtain ⟨k, X', r, O', om', e1, e2, e3⟩ := q_ending hw hr ho F m_orderF v1 1
    simp only [h1, h2, Option.bind_some, if_neg z, e1, e2]
    exact fin rfl e3 (hK _ _ _ _ hI)
theorem okc10 : OKC10 InvP := by
  intro S N x5 t_book_lettersF t_book_sizesF t_book_lines t_before_lettersF t_before_sizesF t_before_lines t_snapshot_lettersF t_snapshot_sizesF t_snapshot_lines t_text_charactersF t_text_length t_reader_startsF t_reader_count t_reader_shape t_reader_step t_refusal_reasonsF t_refusal_detailsF t_refusal_count t_history_HL t_history_HZ t_history_HN t_history_oldest t_history_size t_order_linesF t_order_placesF t_order_commonsF t_order_endings t_written_charactersF t_written_length t_fault t_isSaved m_allF m_reasonsF m_textF m_wordF m_orderF m_rowsF m_writtenF m_thrown m_changes m_isSaved m_result m_texted m_wordSize m_orderMany m_here m_fault m_faultAt m_commandMany m_writtenSize F G v1 v2 v3 v4 h1 h2 h3 h4 hI K hK
  obtain ⟨b, bs, H, w, v, hw, hc, hr, hH, hR, hs, ht, ht', hf, ho, hm, hm0, hfa, hv⟩ := id hI
  obtain ⟨k, X', r, O', om', e1, e2, e3⟩ := q_rank hw hc hr ho F m_orderF m_orderMany v1 v2
  unfold f_LC10
  simp only [h1, h2, Option.bind_some, e1, e2]
  exact fin rfl e3 (hK _ _ _ _ hI)
theorem okc11 : OKC11 InvP := by
  intro S N x5 t_book_lettersF t_book_sizesF t_book_lines t_before_lettersF t_before_sizesF t_before_lines t_snapshot_lettersF t_snapshot_sizesF t_snapshot_lines t_text_charactersF t_text_length t_reader_startsF t_reader_count t_reader_shape t_reader_step t_refusal_reasonsF t_refusal_detailsF t_refusal_count t_history_HL t_history_HZ t_history_HN t_history_oldest t_history_size t_order_linesF t_order_placesF t_order_commonsF t_order_endings t_written_charactersF t_written_length t_fault t_isSaved m_allF m_reasonsF m_textF m_wordF m_orderF m_rowsF m_writtenF m_thrown m_changes m_isSaved m_result m_texted m_wordSize m_orderMany m_here m_fault m_faultAt m_commandMany m_writtenSize F G v1 v2 v3 v4 h1 h2 h3 h4 hI K hK
  obtain ⟨b, bs, H, w, v, hw, hc, hr, hH, hR, hs, ht, ht', hf, ho, hm, hm0, hfa, hv⟩ := id hI
  obtain ⟨k, X', r, O', om', e1, e2, e3⟩ := q_rankAgain hw hc hr F m_orderF m_orderMany v1 v2
  unfold f_LC11
  simp only [h1, h2, Option.bind_some, e1, e2]
  exact fin rfl e3 (hK _ _ _ _ hI)
theorem okc12 : OKC12 InvP := by
  intro S N x5 t_book_lettersF t_book_sizesF t_book_lines t_before_lettersF t_before_sizesF t_before_lines t_snapshot_lettersF t_snapshot_sizesF t_snapshot_lines t_text_charactersF t_text_length t_reader_startsF t_reader_count t_reader_shape t_reader_step t_refusal_reasonsF t_refusal_detailsF t_refusal_count t_history_HL t_history_HZ t_history_HN t_history_oldest t_history_size t_order_linesF t_order_placesF t_order_commonsF t_order_endings t_written_charactersF t_written_length t_fault t_isSaved m_allF m_reasonsF m_textF m_wordF m_orderF m_rowsF m_writtenF m_thrown m_changes m_isSaved m_result m_texted m_wordSize m_orderMany m_here m_fault m_faultAt m_commandMany m_writtenSize F G v1 v2 v3 v4 h1 h2 h3 h4 hI K hK
  obtain ⟨b, bs, H, w, v, hw, hc, hr, hH, hR, hs, ht, ht', hf, ho, hm, hm0, hfa, hv⟩ := id hI
  obtain ⟨k, X', r, O', om', e1, e2, e3⟩ := q_common hw hr ho hm F m_orderF v1
  unfold f_LC12
  simp only [h1, Option.bind_some, e1, e2]
  exact fin rfl e3 (hK _ _ _ _ hI)
theorem okc13 : OKC13 InvP := by
  intro S N x5 t_book_lettersF t_book_sizesF t_book_lines t_before_lettersF t_before_sizesF t_before_lines t_snapshot_lettersF t_snapshot_sizesF t_snapshot_lines t_text_charactersF t_text_length t_reader_startsF t_reader_count t_reader_shape t_reader_step t_refusal_reasonsF t_refusal_detailsF t_refusal_count t_history_HL t_history_HZ t_history_HN t_history_oldest t_history_size t_order_linesF t_order_placesF t_order_commonsF t_order_endings t_written_charactersF t_written_length t_fault t_isSaved m_allF m_reasonsF m_textF m_wordF m_orderF m_rowsF m_writtenF m_thrown m_changes m_isSaved m_result m_texted m_wordSize m_orderMany m_here m_fault m_faultAt m_commandMany m_writtenSize F G v1 v2 v3 v4 h1 h2 h3 h4 hI K hK
  obtain ⟨b, bs, H, w, v, hw, hc, hr, hH, hR, hs, ht, ht', hf, ho, hm, hm0, hfa, hv⟩ := id hI
  obtain ⟨k, X', r, e1, e2, e3⟩ := q_commonOf hw hc hr F v1 v2 v3 v4
  unfold f_LC13
  simp only [h1, h2, h3, h4, Option.bind_some, e1, e2]
  exact fin rfl e3 (hK _ _ hI)
theorem okc14 : OKC14 InvP := by
  intro S N x5 t_book_lettersF t_book_sizesF t_book_lines t_before_lettersF t_before_sizesF t_before_lines t_snapshot_lettersF t_snapshot_sizesF t_snapshot_lines t_text_charactersF t_text_length t_reader_startsF t_reader_count t_reader_shape t_reader_step t_refusal_reasonsF t_refusal_detailsF t_refusal_count t_history_HL t_history_HZ t_history_HN t_history_oldest t_history_size t_order_linesF t_order_placesF t_order_commonsF t_order_endings t_written_charactersF t_written_length t_fault t_isSaved m_allF m_reasonsF m_textF m_wordF m_orderF m_rowsF m_writtenF m_thrown m_changes m_isSaved m_result m_texted m_wordSize m_orderMany m_here m_fault m_faultAt m_commandMany m_writtenSize F G v1 v2 v3 v4 h1 h2 h3 h4 hI K hK
  obtain ⟨b, bs, H, w, v, hw, hc, hr, hH, hR, hs, ht, ht', hf, ho, hm, hm0, hfa, hv⟩ := id hI
  obtain ⟨r, O', om', e1, e2⟩ := q_longest hw hr ho hm m_orderF
  unfold f_LC14
  rw [e1, Option.bind_some, e2, Option.bind_some, if_pos rfl]
  exact hK _ _ _ hI
theorem okc15 : OKC15 InvP := by
  intro S N x5 t_book_lettersF t_book_sizesF t_book_lines t_before_lettersF t_before_sizesF t_before_lines t_snapshot_lettersF t_snapshot_sizesF t_snapshot_lines t_text_charactersF t_text_length t_reader_startsF t_reader_count t_reader_shape t_reader_step t_refusal_reasonsF t_refusal_detailsF t_refusal_count t_history_HL t_history_HZ t_history_HN t_history_oldest t_history_size t_order_linesF t_order_placesF t_order_commonsF t_order_endings t_written_charactersF t_written_length t_fault t_isSaved m_allF m_reasonsF m_textF m_wordF m_orderF m_rowsF m_writtenF m_thrown m_changes m_isSaved m_result m_texted m_wordSize m_orderMany m_here m_fault m_faultAt m_commandMany m_writtenSize F G v1 v2 v3 v4 h1 h2 h3 h4 hI K hK
  obtain ⟨b, bs, H, w, v, hw, hc, hr, hH, hR, hs, ht, ht', hf, ho, hm, hm0, hfa, hv⟩ := id hI
  obtain ⟨k, X', r, O', om', e1, e2, e3⟩ := q_longestRank hw hr ho hm F m_orderF
  unfold f_LC15
  simp only [Option.bind_some, e1, e2]
  exact fin rfl e3 (hK _ _ _ _ hI)
theorem okc16 : OKC16 InvP := by
  intro S N x5 t_book_lettersF t_book_sizesF t_book_lines t_before_lettersF t_before_sizesF t_before_lines t_snapshot_lettersF t_snapshot_sizesF t_snapshot_lines t_text_charactersF t_text_length t_reader_startsF t_reader_count t_reader_shape t_reader_step t_refusal_reasonsF t_refusal_detailsF t_refusal_count t_history_HL t_history_HZ t_history_HN t_history_oldest t_history_size t_order_linesF t_order_placesF t_order_commonsF t_order_endings t_written_charactersF t_written_length t_fault t_isSaved m_allF m_reasonsF m_textF m_wordF m_orderF m_rowsF m_writtenF m_thrown m_changes m_isSaved m_result m_texted m_wordSize m_orderMany m_here m_fault m_faultAt m_commandMany m_writtenSize F G v1 v2 v3 v4 h1 h2 h3 h4 hI K hK
  obtain ⟨b, bs, H, w, v, hw, hc, hr, hH, hR, hs, ht, ht', hf, ho, hm, hm0, hfa, hv⟩ := id hI
  obtain ⟨r, O', om', e1, e2⟩ := q_pieces hw hc hr ho hm hm0 m_orderF
  unfold f_LC16
  rw [e1, Option.bind_some, e2, Option.bind_some, if_pos rfl]
  exact hK _ _ _ hI
theorem okc17 : OKC17 InvP := by
  intro S N x5 t_book_lettersF t_book_sizesF t_book_lines t_before_lettersF t_before_sizesF t_before_lines t_snapshot_lettersF t_snapshot_sizesF t_snapshot_lines t_text_charactersF t_text_length t_reader_startsF t_reader_count t_reader_shape t_reader_step t_refusal_reasonsF t_refusal_detailsF t_refusal_count t_history_HL t_history_HZ t_history_HN t_history_oldest t_history_size t_order_linesF t_order_placesF t_order_commonsF t_order_endings t_written_charactersF t_written_length t_fault t_isSaved m_allF m_reasonsF m_textF m_wordF m_orderF m_rowsF m_writtenF m_thrown m_changes m_isSaved m_result m_texted m_wordSize m_orderMany m_here m_fault m_faultAt m_commandMany m_writtenSize F G v1 v2 v3 v4 h1 h2 h3 h4 hI K hK
  obtain ⟨b, bs, H, w, v, hw, hc, hr, hH, hR, hs, ht, ht', hf, ho, hm, hm0, hfa, hv⟩ := id hI
  obtain ⟨r, O', om', e1, e2⟩ := q_piecesAgain hw hc hr m_orderF
  unfold f_LC17
  rw [e1, Option.bind_some, e2, Option.bind_some, if_pos rfl]
  exact hK _ _ _ hI
theorem okc18 : OKC18 InvP := by
  intro S N x5 t_book_lettersF t_book_sizesF t_book_lines t_before_lettersF t_before_sizesF t_before_lines t_snapshot_lettersF t_snapshot_sizesF t_snapshot_lines t_text_charactersF t_text_length t_reader_startsF t_reader_count t_reader_shape t_reader_step t_refusal_reasonsF t_refusal_detailsF t_refusal_count t_history_HL t_history_HZ t_history_HN t_history_oldest t_history_size t_order_linesF t_order_placesF t_order_commonsF t_order_endings t_written_charactersF t_written_length t_fault t_isSaved m_allF m_reasonsF m_textF m_wordF m_orderF m_rowsF m_writtenF m_thrown m_changes m_isSaved m_result m_texted m_wordSize m_orderMany m_here m_fault m_faultAt m_commandMany m_writtenSize F G v1 v2 v3 v4 h1 h2 h3 h4 hI K hK
  obtain ⟨b, bs, H, w, v, hw, hc, hr, hH, hR, hs, ht, ht', hf, ho, hm, hm0, hfa, hv⟩ := id hI
  obtain ⟨r, e1, e2⟩ := q_kinds hw hc hr
  unfold f_LC18
  rw [e1, Option.bind_some, e2, Option.bind_some, if_pos rfl]
  exact hK _ hI
theorem okc19 : OKC19 InvP := by
  intro S N x5 t_book_lettersF t_book_sizesF t_book_lines t_before_lettersF t_before_sizesF t_before_lines t_snapshot_lettersF t_snapshot_sizesF t_snapshot_lines t_text_charactersF t_text_length t_reader_startsF t_reader_count t_reader_shape t_reader_step t_refusal_reasonsF t_refusal_detailsF t_refusal_count t_history_HL t_history_HZ t_history_HN t_history_oldest t_history_size t_order_linesF t_order_placesF t_order_commonsF t_order_endings t_written_charactersF t_written_length t_fault t_isSaved m_allF m_reasonsF m_textF m_wordF m_orderF m_rowsF m_writtenF m_thrown m_changes m_isSaved m_result m_texted m_wordSize m_orderMany m_here m_fault m_faultAt m_commandMany m_writtenSize F G v1 v2 v3 v4 h1 h2 h3 h4 hI K hK
  obtain ⟨b, bs, H, w, v, hw, hc, hr, hH, hR, hs, ht, ht', hf, ho, hm, hm0, hfa, hv⟩ := id hI
  obtain ⟨k, X', r, W', O', ws', om', e1, e2, e3⟩ := q_finds hw hc hr ho ht ht' F m_wordF m_orderF m_orderMany
  unfold f_LC19
  simp only [Option.bind_some, e1, e2]
  exact fin rfl e3 (hK _ _ _ _ _ _ hI)
theorem okc20 : OKC20 InvP := by
  intro S N x5 t_book_lettersF t_book_sizesF t_book_lines t_before_lettersF t_before_sizesF t_before_lines t_snapshot_lettersF t_snapshot_sizesF t_snapshot_lines t_text_charactersF t_text_length t_reader_startsF t_reader_count t_reader_shape t_reader_step t_refusal_reasonsF t_refusal_detailsF t_refusal_count t_history_HL t_history_HZ t_history_HN t_history_oldest t_history_size t_order_linesF t_order_placesF t_order_commonsF t_order_endings t_written_charactersF t_written_length t_fault t_isSaved m_allF m_reasonsF m_textF m_wordF m_orderF m_rowsF m_writtenF m_thrown m_changes m_isSaved m_result m_texted m_wordSize m_orderMany m_here m_fault m_faultAt m_commandMany m_writtenSize F G v1 v2 v3 v4 h1 h2 h3 h4 hI K hK
  obtain ⟨b, bs, H, w, v, hw, hc, hr, hH, hR, hs, ht, ht', hf, ho, hm, hm0, hfa, hv⟩ := id hI
  obtain ⟨k, X', r, W', O', ws', om', e1, e2, e3⟩ := q_findsAgain hw hc hr ht ht' F m_wordF m_orderF m_orderMany
  unfold f_LC20
  simp only [Option.bind_some, e1, e2]
  exact fin rfl e3 (hK _ _ _ _ _ _ hI)
theorem okc21 : OKC21 InvP := by
  intro S N x5 t_book_lettersF t_book_sizesF t_book_lines t_before_lettersF t_before_sizesF t_before_lines t_snapshot_lettersF t_snapshot_sizesF t_snapshot_lines t_text_charactersF t_text_length t_reader_startsF t_reader_count t_reader_shape t_reader_step t_refusal_reasonsF t_refusal_detailsF t_refusal_count t_history_HL t_history_HZ t_history_HN t_history_oldest t_history_size t_order_linesF t_order_placesF t_order_commonsF t_order_endings t_written_charactersF t_written_length t_fault t_isSaved m_allF m_reasonsF m_textF m_wordF m_orderF m_rowsF m_writtenF m_thrown m_changes m_isSaved m_result m_texted m_wordSize m_orderMany m_here m_fault m_faultAt m_commandMany m_writtenSize F G v1 v2 v3 v4 h1 h2 h3 h4 hI K hK
  obtain ⟨b, bs, H, w, v, hw, hc, hr, hH, hR, hs, ht, ht', hf, ho, hm, hm0, hfa, hv⟩ := id hI
  obtain ⟨k, X', r, W', O', ws', om', e1, e2, e3⟩ := q_firstFind hw hc hr ho ht ht' F m_wordF m_orderF m_orderMany
  unfold f_LC21
  simp only [Option.bind_some, e1, e2]
  exact fin rfl e3 (hK _ _ _ _ _ _ hI)
theorem okc22 : OKC22 InvP := by
  intro S N x5 t_book_lettersF t_book_sizesF t_book_lines t_before_lettersF t_before_sizesF t_before_lines t_snapshot_lettersF t_snapshot_sizesF t_snapshot_lines t_text_charactersF t_text_length t_reader_startsF t_reader_count t_reader_shape t_reader_step t_refusal_reasonsF t_refusal_detailsF t_refusal_count t_history_HL t_history_HZ t_history_HN t_history_oldest t_history_size t_order_linesF t_order_placesF t_order_commonsF t_order_endings t_written_charactersF t_written_length t_fault t_isSaved m_allF m_reasonsF m_textF m_wordF m_orderF m_rowsF m_writtenF m_thrown m_changes m_isSaved m_result m_texted m_wordSize m_orderMany m_here m_fault m_faultAt m_commandMany m_writtenSize F G v1 v2 v3 v4 h1 h2 h3 h4 hI K hK
  obtain ⟨b, bs, H, w, v, hw, hc, hr, hH, hR, hs, ht, ht', hf, ho, hm, hm0, hfa, hv⟩ := id hI
  obtain ⟨k, X', r, W', ws', e1, e2, e3⟩ := q_isLine hw hc hr ht ht' F m_wordF
  unfold f_LC22
  simp only [Option.bind_some, e1, e2]
  exact finB rfl e3 (hK _ _ _ _ hI)
theorem okc23 : OKC23 InvP := by
  intro S N x5 t_book_lettersF t_book_sizesF t_book_lines t_before_lettersF t_before_sizesF t_before_lines t_snapshot_lettersF t_snapshot_sizesF t_snapshot_lines t_text_charactersF t_text_length t_reader_startsF t_reader_count t_reader_shape t_reader_step t_refusal_reasonsF t_refusal_detailsF t_refusal_count t_history_HL t_history_HZ t_history_HN t_history_oldest t_history_size t_order_linesF t_order_placesF t_order_commonsF t_order_endings t_written_charactersF t_written_length t_fault t_isSaved m_allF m_reasonsF m_textF m_wordF m_orderF m_rowsF m_writtenF m_thrown m_changes m_isSaved m_result m_texted m_wordSize m_orderMany m_here m_fault m_faultAt m_commandMany m_writtenSize F G v1 v2 v3 v4 h1 h2 h3 h4 hI K hK
  obtain ⟨b, bs, H, w, v, hw, hc, hr, hH, hR, hs, ht, ht', hf, ho, hm, hm0, hfa, hv⟩ := id hI
  obtain ⟨k, X', r, e1, e2, e3⟩ := q_shared hw hc hr F v1 v2
  unfold f_LC23
  simp only [h1, h2, Option.bind_some, e1, e2]
  exact fin rfl e3 (hK _ _ hI)
theorem okc24 : OKC24 InvP := by
  intro S N x5 t_book_lettersF t_book_sizesF t_book_lines t_before_lettersF t_before_sizesF t_before_lines t_snapshot_lettersF t_snapshot_sizesF t_snapshot_lines t_text_charactersF t_text_length t_reader_startsF t_reader_count t_reader_shape t_reader_step t_refusal_reasonsF t_refusal_detailsF t_refusal_count t_history_HL t_history_HZ t_history_HN t_history_oldest t_history_size t_order_linesF t_order_placesF t_order_commonsF t_order_endings t_written_charactersF t_written_length t_fault t_isSaved m_allF m_reasonsF m_textF m_wordF m_orderF m_rowsF m_writtenF m_thrown m_changes m_isSaved m_result m_texted m_wordSize m_orderMany m_here m_fault m_faultAt m_commandMany m_writtenSize F G v1 v2 v3 v4 h1 h2 h3 h4 hI K hK
  obtain ⟨b, bs, H, w, v, hw, hc, hr, hH, hR, hs, ht, ht', hf, ho, hm, hm0, hfa, hv⟩ := id hI
  obtain ⟨k, X', r, e1, e2, e3⟩ := q_alone hw hc hr F v1
  unfold f_LC24
  simp only [h1, Option.bind_some, e1, e2]
  exact fin rfl e3 (hK _ _ hI)
theorem okc25 : OKC25 InvP := by
  intro S N x5 t_book_lettersF t_book_sizesF t_book_lines t_before_lettersF t_before_sizesF t_before_lines t_snapshot_lettersF t_snapshot_sizesF t_snapshot_lines t_text_charactersF t_text_length t_reader_startsF t_reader_count t_reader_shape t_reader_step t_refusal_reasonsF t_refusal_detailsF t_refusal_count t_history_HL t_history_HZ t_history_HN t_history_oldest t_history_size t_order_linesF t_order_placesF t_order_commonsF t_order_endings t_written_charactersF t_written_length t_fault t_isSaved m_allF m_reasonsF m_textF m_wordF m_orderF m_rowsF m_writtenF m_thrown m_changes m_isSaved m_result m_texted m_wordSize m_orderMany m_here m_fault m_faultAt m_commandMany m_writtenSize F G v1 v2 v3 v4 h1 h2 h3 h4 hI K hK
  obtain ⟨b, bs, H, w, v, hw, hc, hr, hH, hR, hs, ht, ht', hf, ho, hm, hm0, hfa, hv⟩ := id hI
  obtain ⟨k, X', r, e1, e2, e3⟩ := q_alonePlace hw hc hr F v1
  unfold f_LC25
  simp only [h1, Option.bind_some, e1, e2]
  exact fin rfl e3 (hK _ _ hI)
theorem okc26 : OKC26 InvP := by
  intro S N x5 t_book_lettersF t_book_sizesF t_book_lines t_before_lettersF t_before_sizesF t_before_lines t_snapshot_lettersF t_snapshot_sizesF t_snapshot_lines t_text_charactersF t_text_length t_reader_startsF t_reader_count t_reader_shape t_reader_step t_refusal_reasonsF t_refusal_detailsF t_refusal_count t_history_HL t_history_HZ t_history_HN t_history_oldest t_history_size t_order_linesF t_order_placesF t_order_commonsF t_order_endings t_written_charactersF t_written_length t_fault t_isSaved m_allF m_reasonsF m_textF m_wordF m_orderF m_rowsF m_writtenF m_thrown m_changes m_isSaved m_result m_texted m_wordSize m_orderMany m_here m_fault m_faultAt m_commandMany m_writtenSize F G v1 v2 v3 v4 h1 h2 h3 h4 hI K hK
  obtain ⟨b, bs, H, w, v, hw, hc, hr, hH, hR, hs, ht, ht', hf, ho, hm, hm0, hfa, hv⟩ := id hI
  obtain ⟨k, X', r, e1, e2, e3⟩ := q_isTurned hw hc hr F v1 v2
  unfold f_LC26
  simp only [h1, h2, Option.bind_some, e1, e2]
  exact finB rfl e3 (hK _ _ hI)
theorem okc28 : OKC28 InvP := by
  intro S N x5 t_book_lettersF t_book_sizesF t_book_lines t_before_lettersF t_before_sizesF t_before_lines t_snapshot_lettersF t_snapshot_sizesF t_snapshot_lines t_text_charactersF t_text_length t_reader_startsF t_reader_count t_reader_shape t_reader_step t_refusal_reasonsF t_refusal_detailsF t_refusal_count t_history_HL t_history_HZ t_history_HN t_history_oldest t_history_size t_order_linesF t_order_placesF t_order_commonsF t_order_endings t_written_charactersF t_written_length t_fault t_isSaved m_allF m_reasonsF m_textF m_wordF m_orderF m_rowsF m_writtenF m_thrown m_changes m_isSaved m_result m_texted m_wordSize m_orderMany m_here m_fault m_faultAt m_commandMany m_writtenSize F G v1 v2 v3 v4 h1 h2 h3 h4 hI K hK
  obtain ⟨b, bs, H, w, v, hw, hc, hr, hH, hR, hs, ht, ht', hf, ho, hm, hm0, hfa, hv⟩ := id hI
  unfold f_LC28 f_X8_faultPosition f_X9_faultPosition
  rw [Option.bind_some, Option.bind_some, if_pos hfa]
  exact hK _ hI
theorem okc29 : OKC29 InvP := by
  intro S N x5 t_book_lettersF t_book_sizesF t_book_lines t_before_lettersF t_before_sizesF t_before_lines t_snapshot_lettersF t_snapshot_sizesF t_snapshot_lines t_text_charactersF t_text_length t_reader_startsF t_reader_count t_reader_shape t_reader_step t_refusal_reasonsF t_refusal_detailsF t_refusal_count t_history_HL t_history_HZ t_history_HN t_history_oldest t_history_size t_order_linesF t_order_placesF t_order_commonsF t_order_endings t_written_charactersF t_written_length t_fault t_isSaved m_allF m_reasonsF m_textF m_wordF m_orderF m_rowsF m_writtenF m_thrown m_changes m_isSaved m_result m_texted m_wordSize m_orderMany m_here m_fault m_faultAt m_commandMany m_writtenSize F G v1 v2 v3 v4 h1 h2 h3 h4 hI K hK
  obtain ⟨b, bs, H, w, v, hw, hc, hr, hH, hR, hs, ht, ht', hf, ho, hm, hm0, hfa, hv⟩ := id hI
  unfold f_LC29
  by_cases z : v2 = 0
  · obtain ⟨k, X', r, e1, e2, e3⟩ := q_reason hf F v1 0
    simp only [h1, h2, Option.bind_some, if_pos z, e1, e2]
    exact fin rfl e3 (hK _ _ hI)
  · obtain ⟨k, X', r, e1, e2, e3⟩ := q_reason hf F v1 1
    simp only [h1, h2, Option.bind_some, if_neg z, e1, e2]
    exact fin rfl e3 (hK _ _ hI)
theorem okc30 : OKC30 InvP := by
  intro S N x5 t_book_lettersF t_book_sizesF t_book_lines t_before_lettersF t_before_sizesF t_before_lines t_snapshot_lettersF t_snapshot_sizesF t_snapshot_lines t_text_charactersF t_text_length t_reader_startsF t_reader_count t_reader_shape t_reader_step t_refusal_reasonsF t_refusal_detailsF t_refusal_count t_history_HL t_history_HZ t_history_HN t_history_oldest t_history_size t_order_linesF t_order_placesF t_order_commonsF t_order_endings t_written_charactersF t_written_length t_fault t_isSaved m_allF m_reasonsF m_textF m_wordF m_orderF m_rowsF m_writtenF m_thrown m_changes m_isSaved m_result m_texted m_wordSize m_orderMany m_here m_fault m_faultAt m_commandMany m_writtenSize F G v1 v2 v3 v4 h1 h2 h3 h4 hI K hK
  obtain ⟨b, bs, H, w, v, hw, hc, hr, hH, hR, hs, ht, ht', hf, ho, hm, hm0, hfa, hv⟩ := id hI
  obtain ⟨k, X', C', l', r, O', m', om', s', v', e1, e2, e3, e4⟩ := q_write hw hc hr ho hv F m_orderF v1
  unfold f_LC30
  simp only [h1, Option.bind_some, e1, e2]
  exact fin rfl e3 (hK _ _ _ _ _ _ _ _ ⟨b, bs, H, w, v', hw, hc, hr, hH, hR, hs, ht, ht', hf, ho, hm, hm0, hfa, e4⟩)
theorem okc31 : OKC31 InvP := by
  intro S N x5 t_book_lettersF t_book_sizesF t_book_lines t_before_lettersF t_before_sizesF t_before_lines t_snapshot_lettersF t_snapshot_sizesF t_snapshot_lines t_text_charactersF t_text_length t_reader_startsF t_reader_count t_reader_shape t_reader_step t_refusal_reasonsF t_refusal_detailsF t_refusal_count t_history_HL t_history_HZ t_history_HN t_history_oldest t_history_size t_order_linesF t_order_placesF t_order_commonsF t_order_endings t_written_charactersF t_written_length t_fault t_isSaved m_allF m_reasonsF m_textF m_wordF m_orderF m_rowsF m_writtenF m_thrown m_changes m_isSaved m_result m_texted m_wordSize m_orderMany m_here m_fault m_faultAt m_commandMany m_writtenSize F G v1 v2 v3 v4 h1 h2 h3 h4 hI K hK
  obtain ⟨b, bs, H, w, v, hw, hc, hr, hH, hR, hs, ht, ht', hf, ho, hm, hm0, hfa, hv⟩ := id hI
  obtain ⟨k, X', C', l', r, O', m', om', s', v', e1, e2, e3, e4⟩ := q_writeLongest hw hc hr ho hm hv F m_orderF
  unfold f_LC31
  simp only [Option.bind_some, e1, e2]
  exact fin rfl e3 (hK _ _ _ _ _ _ _ _ ⟨b, bs, H, w, v', hw, hc, hr, hH, hR, hs, ht, ht', hf, ho, hm, hm0, hfa, e4⟩)
theorem okc32 : OKC32 InvP := by
  intro S N x5 t_book_lettersF t_book_sizesF t_book_lines t_before_lettersF t_before_sizesF t_before_lines t_snapshot_lettersF t_snapshot_sizesF t_snapshot_lines t_text_charactersF t_text_length t_reader_startsF t_reader_count t_reader_shape t_reader_step t_refusal_reasonsF t_refusal_detailsF t_refusal_count t_history_HL t_history_HZ t_history_HN t_history_oldest t_history_size t_order_linesF t_order_placesF t_order_commonsF t_order_endings t_written_charactersF t_written_length t_fault t_isSaved m_allF m_reasonsF m_textF m_wordF m_orderF m_rowsF m_writtenF m_thrown m_changes m_isSaved m_result m_texted m_wordSize m_orderMany m_here m_fault m_faultAt m_commandMany m_writtenSize F G v1 v2 v3 v4 h1 h2 h3 h4 hI K hK
  obtain ⟨b, bs, H, w, v, hw, hc, hr, hH, hR, hs, ht, ht', hf, ho, hm, hm0, hfa, hv⟩ := id hI
  obtain ⟨k, X', r, e1, e2, e3⟩ := q_character hv.1 hv.2 F v1
  unfold f_LC32
  simp only [h1, Option.bind_some, e1, e2]
  exact fin rfl e3 (hK _ _ hI)
theorem okc33 : OKC33 InvP := by
  intro S N x5 t_book_lettersF t_book_sizesF t_book_lines t_before_lettersF t_before_sizesF t_before_lines t_snapshot_lettersF t_snapshot_sizesF t_snapshot_lines t_text_charactersF t_text_length t_reader_startsF t_reader_count t_reader_shape t_reader_step t_refusal_reasonsF t_refusal_detailsF t_refusal_count t_history_HL t_history_HZ t_history_HN t_history_oldest t_history_size t_order_linesF t_order_placesF t_order_commonsF t_order_endings t_written_charactersF t_written_length t_fault t_isSaved m_allF m_reasonsF m_textF m_wordF m_orderF m_rowsF m_writtenF m_thrown m_changes m_isSaved m_result m_texted m_wordSize m_orderMany m_here m_fault m_faultAt m_commandMany m_writtenSize F G v1 v2 v3 v4 h1 h2 h3 h4 hI K hK
  obtain ⟨b, bs, H, w, v, hw, hc, hr, hH, hR, hs, ht, ht', hf, ho, hm, hm0, hfa, hv⟩ := id hI
  unfold f_LC33
  rcases q_mean hw hc hr ho G with ⟨z, e1, e2⟩ | ⟨z, y, e1, e2, e3, e4⟩
  · simp only [Option.bind_some, e1, e2]
    unfold f_X9_thrown
    rw [Option.bind_some, if_pos rfl, if_pos (by decide)]
    exact hK _ _ hI
  · simp only [Option.bind_some, e1, e2]
    unfold f_X9_thrown
    rw [Option.bind_some, if_pos rfl, if_neg (by simp), e3, Option.bind_some, if_pos (show Op.cmpValue (FP.dcmp (vf_upd G 0 y 0) y) .l = 0 from e4)]
    exact hK _ _ hI
theorem okc34 : OKC34 InvP := by
  intro S N x5 t_book_lettersF t_book_sizesF t_book_lines t_before_lettersF t_before_sizesF t_before_lines t_snapshot_lettersF t_snapshot_sizesF t_snapshot_lines t_text_charactersF t_text_length t_reader_startsF t_reader_count t_reader_shape t_reader_step t_refusal_reasonsF t_refusal_detailsF t_refusal_count t_history_HL t_history_HZ t_history_HN t_history_oldest t_history_size t_order_linesF t_order_placesF t_order_commonsF t_order_endings t_written_charactersF t_written_length t_fault t_isSaved m_allF m_reasonsF m_textF m_wordF m_orderF m_rowsF m_writtenF m_thrown m_changes m_isSaved m_result m_texted m_wordSize m_orderMany m_here m_fault m_faultAt m_commandMany m_writtenSize F G v1 v2 v3 v4 h1 h2 h3 h4 hI K hK
  obtain ⟨b, bs, H, w, v, hw, hc, hr, hH, hR, hs, ht, ht', hf, ho, hm, hm0, hfa, hv⟩ := id hI
  unfold f_LC34
  rcases q_share hw hc hr ho hm G m_orderF m_orderMany with ⟨z, O', om', e1, e2⟩ | ⟨y, O', om', e1, e2, e4⟩
  · simp only [Option.bind_some, e1, e2]
    unfold f_X9_thrown
    rw [Option.bind_some, if_pos rfl, if_pos (by decide)]
    exact hK _ _ _ _ hI
  · simp only [Option.bind_some, e1, e2]
    unfold f_X9_thrown
    rw [Option.bind_some, if_pos rfl, if_neg (by simp), if_pos (show Op.cmpValue (FP.dcmp (vf_upd G 0 y 0) y) .l = 0 from e4)]
    exact hK _ _ _ _ hI
theorem okc35 : OKC35 InvP := by
  intro S N x5 t_book_lettersF t_book_sizesF t_book_lines t_before_lettersF t_before_sizesF t_before_lines t_snapshot_lettersF t_snapshot_sizesF t_snapshot_lines t_text_charactersF t_text_length t_reader_startsF t_reader_count t_reader_shape t_reader_step t_refusal_reasonsF t_refusal_detailsF t_refusal_count t_history_HL t_history_HZ t_history_HN t_history_oldest t_history_size t_order_linesF t_order_placesF t_order_commonsF t_order_endings t_written_charactersF t_written_length t_fault t_isSaved m_allF m_reasonsF m_textF m_wordF m_orderF m_rowsF m_writtenF m_thrown m_changes m_isSaved m_result m_texted m_wordSize m_orderMany m_here m_fault m_faultAt m_commandMany m_writtenSize F G v1 v2 v3 v4 h1 h2 h3 h4 hI K hK
  obtain ⟨b, bs, H, w, v, hw, hc, hr, hH, hR, hs, ht, ht', hf, ho, hm, hm0, hfa, hv⟩ := id hI
  obtain ⟨k, X', r, O', om', e1, e2, e3⟩ := q_account hw hc hr ho hm ht ht' hH.1 hR.1 F m_orderF m_orderMany v1
  unfold f_LC35
  simp only [h1, Option.bind_some, e1, e2]
  exact fin rfl e3 (hK _ _ _ _ hI)
