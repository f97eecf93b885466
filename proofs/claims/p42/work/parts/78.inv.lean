/-! THE INVARIANT, AND WHAT EVERY CHANGE DOES TO IT -/
section CHG
variable {F S F' S' A A1 A2 : Nat → Int32} {n n' cg : Int32} {b b' bs h0 : Bk} {H : List Bk}
theorem HC.len {HL HZ : Nat → Nat → Int32} {HN : Nat → Int32} {old size : Int32} (hh : HC HL HZ HN old size H) : H.length ≤ 8 := hh.2.1
theorem HC.wf {HL HZ : Nat → Nat → Int32} {HN : Nat → Int32} {old size : Int32} (hh : HC HL HZ HN old size H) : ∀ (j : Nat) (h : Bk), H[j]? = some h → Wf h := by
  obtain ⟨_, _, o, _, _, hj⟩ := hh
  exact fun j h e => (hj j h e).1
theorem s_fin_ok {HL HZ : Nat → Nat → Int32} {HN : Nat → Int32} {old size : Int32} (hh : HC HL HZ HN old size H) (hw0 : Wf h0) (hc0 : CB F S n h0) (hw : Wf b') (hc : CB F' S' n' b') (L P M : Nat → Int32) (en : Int32) (hM : M 0 = nn 0) : ∃ HL' HZ' HN' old' size' L' P' M' en', f_X8_finishChange F' S' n' F S n HL HZ HN old size L P M en 1 = some (.inl 0, HL', HZ', HN', old', size', L', P', M', en') ∧ HC HL' HZ' HN' old' size' (nxt H h0) ∧ OR L' P' en' (ord b') ∧ CM M' b' (ord b') ∧ M' 0 = nn 0 := by
  obtain ⟨HL', HZ', HN', old', size', e1, e2⟩ := s_keep_H hh hw0 hc0
  obtain ⟨L', P', M', e3, e4, e5, e6⟩ := s_sort hw hc L P M
  refine ⟨HL', HZ', HN', old', size', L', P', M', _, ?_, e2, e4, e5, e6.trans hM⟩
  unfold f_X8_finishChange
  rw [if_pos (by decide), e1, Option.bind_some, e3, Option.bind_some]
theorem s_fin_no (HL HZ : Nat → Nat → Int32) (HN : Nat → Int32) (old size : Int32) (F' S' : Nat → Int32) (n' : Int32) (F S : Nat → Int32) (n : Int32) (L P M : Nat → Int32) (en : Int32) : f_X8_finishChange F' S' n' F S n HL HZ HN old size L P M en 0 = some (.inr "java/lang/UnsupportedOperationException", HL, HZ, HN, old, size, L, P, M, en) := by
  unfold f_X8_finishChange
  rw [if_neg (fun z => z rfl)]
end CHG

