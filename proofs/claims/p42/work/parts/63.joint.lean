/-! ONE CHANGE, IN THE CLASS AND IN THE REFERENCE -/
def OKB (b' : Bk) (F' S' : Nat → Int32) (n' : Int32) (A A' : Nat → Int32) : Prop := Wf b' ∧ CB F' S' n' b' ∧ RB A' 0 b' ∧ ∀ z, 89 ≤ z → A' z = A z
section JOINT
variable {F S G T C R D A W M O : Nat → Int32} {n l c : Int32} {b : Bk} {w : List Nat} {N i j p q s : Nat}
theorem s_miss_in (hw : Wf b) (hc : CB F S n b) (hi : i < b.length) : f_X1_isMissing n R D c (nn i) = some (0, R, D, c) := by
  unfold f_X1_isMissing
  rw [s_hasLine_in hw hc hi, Option.bind_some, if_neg (by first | decide | exact d_a | exact d_b)]
theorem s_miss_out (hw : Wf b) (hc : CB F S n b) {x : Int32} (h : outR b.length x) : f_X1_isMissing n R D c x = some (1, upd R 0 (nn 2), upd D 0 x, nn 1) := by
  unfold f_X1_isMissing
  rw [s_hasLine_out hw hc h, Option.bind_some, if_pos (by first | decide | exact d_a | exact d_b), nl2, s_keep, Option.bind_some]
end JOINT


