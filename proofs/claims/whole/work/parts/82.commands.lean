/-! THE CASE OF COMMANDS -/
theorem neg_lt : ((-1 : Int32) < 0) = True := by decide
theorem neg_eq : ((-1 : Int32) = -1) = True := by decide
set_option maxHeartbeats 4000000 in
theorem okc27 : OKC27 InvP := by
  intro S N x5 t_book_lettersF t_book_sizesF t_book_lines t_before_lettersF t_before_sizesF t_before_lines t_snapshot_lettersF t_snapshot_sizesF t_snapshot_lines t_text_charactersF t_text_length t_reader_startsF t_reader_count t_reader_shape t_reader_step t_refusal_reasonsF t_refusal_detailsF t_refusal_count t_history_HL t_history_HZ t_history_HN t_history_oldest t_history_size t_order_linesF t_order_placesF t_order_commonsF t_order_endings t_written_charactersF t_written_length t_fault t_isSaved m_allF m_reasonsF m_textF m_wordF m_orderF m_rowsF m_writtenF m_thrown m_changes m_isSaved m_result m_texted m_wordSize m_orderMany m_here m_fault m_faultAt m_commandMany m_writtenSize F G v1 v2 v3 v4 h1 h2 h3 h4 hI K hK
  obtain ⟨b, bs, H, w, v, hw, hc, hr, hH, hR, hs, ht, ht', hf, ho, hm, hm0, hfa, hv⟩ := id hI
  have h60 := ht.2.1
  obtain ⟨pF, pS, g1, g2⟩ := s_copyFrom hc t_before_lettersF t_before_sizesF hw
  obtain ⟨c1, c2⟩ := s_read ht t_reader_startsF
  obtain ⟨d1, d2⟩ := r_parse ht' m_rowsF
  unfold f_LC27 f_L_commands f_X8_commands f_X9_commands
  cases hp : (prs w 1000 0).1 with
  | none =>
    obtain ⟨hy, st', c', sh, sp, e1⟩ := c1 hp
    obtain ⟨rows', hh, cm, e2⟩ := d1 hp
    generalize (prs w 1000 0).2 = y at hy e1 e2
    have n1 : (nn y = -1) = False := nn_ng (by omega)
    have n2 : (nn y < 0) = False := by
      have : ¬ nn y < 0 := nn_nlt0 (by omega)
      exact eq_false this
    have n3 : ("java/lang/IllegalArgumentException" = "java/lang/IllegalArgumentException") = True := eq_self _
    simp only [Option.bind_some, e1, e2, g1, n1, n2, not_false_eq_true, f_X8_commands_J60, f_X8_commands_J61, f_X7_clear, Sum.elim_inr, f_X9_thrown, i10, i20, if_true, if_false, not_false_eq_true, not_true_eq_false]
    exact hK _ _ _ _ _ _ _ _ _ _ _ _ _ _ _ _ _ _ _ _ _ _ _ _ _ _ _ _ _ _ _ _ _ _ _ _ _ _ _ _ ⟨b, bs, H, [], v, hw, hc, hr, hH, hR, hs, TX.nil _, TX.nil _, hf, ho, hm, hm0, rfl, hv⟩
  | some Lc =>
    obtain ⟨st', sh, sp, e1, hL, hst⟩ := c2 Lc hp
    obtain ⟨rows', hh, e2, hRW⟩ := d2 Lc hp
    obtain ⟨hch, _⟩ := prs_CH 1000 0 Lc (Nat.zero_le _) hp
    obtain ⟨A1, a1, a2, a3⟩ := r_begin m_allF
    have hr1 : RB A1 0 b := RB.cong (p := 0) hw hr (fun z _ z2 => a3 z (by omega))
    rcases j_all (β := Unit) ht ht' hch hL hst hRW (fun x1 A M W O r ws om => f_X9_commands_J61 x1 A M W O rows' m_changes 0 ws om hh (-1) (-1) (nn Lc.length)) Lc.length 0 1000 1000 b t_book_lettersF t_book_sizesF t_refusal_reasonsF t_refusal_detailsF A1 m_reasonsF m_wordF m_orderF t_book_lines t_refusal_count m_result m_wordSize m_orderMany (by omega) (by omega) (by omega) hw hc hr1 with ⟨b', F', S', n', A2, W', O', r', ws', om', p1, p2, p3, p4, p5, p6⟩ | ⟨q, F', S', n', R1, D1, k1, A2, M', W', O', r', ws', om', hq, p1, p2, p3, p6⟩
    · obtain ⟨HL', HZ', HN', ho', hs', L', P', M', en', q1, q2, q3, q4, q5⟩ := s_fin_ok hH hw g2 p3 p4 t_order_linesF t_order_placesF t_order_commonsF t_order_endings hm0
      obtain ⟨A3, cg', r1, r2, r3, r4⟩ := ref_ok hw hr hR hH.len hH.wf a2 a3 p3 p5 p6 (nn Lc.length) 2
      have p1' : f_X2_carryOut st' (nn Lc.length) t_text_charactersF t_text_length t_book_lettersF t_book_sizesF t_book_lines t_refusal_reasonsF t_refusal_detailsF t_refusal_count = some (1, F', S', n', t_refusal_reasonsF, t_refusal_detailsF, t_refusal_count) := p1
      have p2' : f_X9_commands_L37 rows' (nn Lc.length) m_textF 1000 0 A1 m_reasonsF m_wordF m_orderF m_result m_wordSize m_orderMany (fun x1 A M W O r ws om => f_X9_commands_J61 x1 A M W O rows' m_changes 0 ws om hh (-1) (-1) (nn Lc.length)) = f_X9_commands_J61 (nn Lc.length) A2 m_reasonsF W' O' rows' m_changes 0 ws' om' hh (-1) (-1) (nn Lc.length) := p2
      have j1 : f_X9_commands_J61 (nn Lc.length) A2 m_reasonsF W' O' rows' m_changes 0 ws' om' hh (-1) (-1) (nn Lc.length) = some (nn Lc.length, A3, m_reasonsF, W', O', rows', 0, cg', nn Lc.length, 0, ws', om', hh, -1, -1, nn Lc.length) := by
        unfold f_X9_commands_J61 f_X9_commands_J111
        rw [if_pos (by rw [nn_le (by omega) (by omega)]; exact Nat.le_refl _), if_neg (fun z => z rfl), r1, Option.bind_some]
      have j2 := p2'.trans j1
      simp only [Option.bind_some, e1, e2, g1, neg_lt, neg_eq, not_true_eq_false, if_false, if_true, p1', i10, f_X8_commands_J61, f_X7_clear, not_false_eq_true, f_X8_commands_J103, xb, q1, Sum.elim_inl, f_X2_commandCount, a1]
      simp only [j2, Option.bind_some, Sum.elim_inl, f_X9_thrown, vu0, lcv_self, if_true, not_true_eq_false, if_false]
      exact hK _ _ _ _ _ _ _ _ _ _ _ _ _ _ _ _ _ _ _ _ _ _ _ _ _ _ _ _ _ _ _ _ _ _ _ _ _ _ _ _ ⟨_, bs, _, [], v, p3, p4, r3, q2, r2, hs.cong r4, TX.nil _, TX.nil _, hf, q3, q4, q5, rfl, hv⟩
    · obtain ⟨R', D', k', t1, t2⟩ := p3.top (x := 10) (by decide) (nn q)
      obtain ⟨A3, r1, r2⟩ := ref_no a2 a3 p6 m_changes (nn Lc.length) 2
      obtain ⟨bF, bS, b1, b2⟩ := s_copyFrom g2 F' S' hw
      have p1' : f_X2_carryOut st' (nn Lc.length) t_text_charactersF t_text_length t_book_lettersF t_book_sizesF t_book_lines t_refusal_reasonsF t_refusal_detailsF t_refusal_count = some (0, F', S', n', R', D', k') := by
        refine Eq.trans p1 ?_
        rw [t1, Option.bind_some]
      have p2' : f_X9_commands_L37 rows' (nn Lc.length) m_textF 1000 0 A1 m_reasonsF m_wordF m_orderF m_result m_wordSize m_orderMany (fun x1 A M W O r ws om => f_X9_commands_J61 x1 A M W O rows' m_changes 0 ws om hh (-1) (-1) (nn Lc.length)) = f_X9_commands_J61 (nn q) A2 M' W' O' rows' m_changes 0 ws' om' hh (-1) (-1) (nn Lc.length) := p2
      have j1 : f_X9_commands_J61 (nn q) A2 M' W' O' rows' m_changes 0 ws' om' hh (-1) (-1) (nn Lc.length) = some (0, A3, upd (upd (shM M') 0 10) 1 (nn q), W', O', rows', 2, m_changes, nn Lc.length, 0, ws', om', hh, -1, -1, nn Lc.length) := by
        unfold f_X9_commands_J61
        rw [if_neg (by rw [nn_le (by omega) (by omega)]; omega), L71_all, show (0 : Int32) = nn 0 from rfl, sti_nn (by omega) (by omega), Option.bind_some, show (1 : Int32) = nn 1 from rfl, sti_nn (by omega) (by omega), Option.bind_some]
        unfold f_X9_commands_J111
        rw [if_pos (by rw [nn_eq (by omega) (by omega)]; omega)]
        show (f_X9_ends A2 m_changes (nn Lc.length) 0 2).bind _ = _
        rw [r1, Option.bind_some]
        rfl
      have j2 := p2'.trans j1
      simp only [Option.bind_some, e1, e2, g1, neg_lt, neg_eq, not_true_eq_false, if_false, if_true, p1', f_X8_commands_J60, f_X8_commands_J61, f_X7_clear, b1, f_X8_commands_J103, xb, s_fin_no, Sum.elim_inr, a1]
      simp only [j2, Option.bind_some, Sum.elim_inr, f_X9_thrown, i10, i20, if_true, if_false, not_false_eq_true, not_true_eq_false]
      exact hK _ _ _ _ _ _ _ _ _ _ _ _ _ _ _ _ _ _ _ _ _ _ _ _ _ _ _ _ _ _ _ _ _ _ _ _ _ _ _ _ ⟨b, bs, H, [], v, hw, b2, RB.cong (p := 0) hw hr (fun z _ z2 => r2 z (by omega)), hH, hR.cong hH.len hH.wf (fun z _ z2 => r2 z (by omega)), hs.cong (fun z _ z2 => r2 z z2), TX.nil _, TX.nil _, t2, ho, hm, hm0, rfl, hv⟩
