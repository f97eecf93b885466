/-! WHAT IS ASKED OF BOTH, 2 -/
theorem n1 : (-nn 1 : Int32) = -1 := rfl
section ASK2
variable {F S L P M C T A O W R D Q mC : Nat → Int32} {n en l l' c : Int32} {b : Bk} {w : List Nat}
theorem flr_le (hw : Wf b) : flr b - 1 < 1000 := by
  have hl := (ord_good hw).2.2
  have := (lst_le (fun k => decide (cc b k = lc b)) ((ord b).length - 1) 1).2
  unfold flr
  omega
theorem ckW_in (ht : TXx C l w) (h : wrd w = true) : f_X8_checkWord C l = some (.inl 0) := by
  unfold f_X8_checkWord
  rw [s_isWord ht, if_pos h, Option.bind_some, if_pos (by decide)]
theorem ckW_out (ht : TXx C l w) (h : ¬ wrd w = true) : f_X8_checkWord C l = some (.inr "java/lang/IllegalArgumentException") := by
  unfold f_X8_checkWord
  rw [s_isWord ht, if_neg h, Option.bind_some, if_neg (by decide)]
theorem cnt_le (hw : Wf b) (w : List Nat) : wlo b w ≤ 80 ∧ whi b w ≤ 80 ∧ cntw b w ≤ 80 := by
  have hl := (ord_good hw).2.2
  have h1 : wlo b w ≤ (ord b).length := List.countP_le_length
  have h2 : whi b w ≤ (ord b).length := List.countP_le_length
  have h3 := whi_eq b w
  omega
end ASK2

