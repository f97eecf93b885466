/-! THE REFERENCE'S FINDS -/
theorem cnt_idx {α : Type} (Q : α → Bool) (d : α) (l : List α) : ∀ (m k : Nat), k + m = l.length → (l.drop k).countP Q = sm (fun k => one (Q (l.getD k d))) k m
  | 0, k, e => by rw [List.drop_eq_nil_of_le (by omega), sm0]; rfl
  | m + 1, k, e => by
    have hk : k < l.length := by omega
    rw [List.drop_eq_getElem_cons hk, List.countP_cons, cnt_idx Q d l m (k + 1) (by omega), smS]
    have gk : l.getD k d = l[k] := by rw [List.getD_eq_getElem?_getD, List.getElem?_eq_getElem hk]; rfl
    rw [gk]
    unfold one
    omega
section RFIND
variable {A O W : Nat → Int32} {b : Bk} {w : List Nat}
theorem first_pfx (hw : Wf b) (hwr : wrd w = true) (hpos : cntw b w ≠ 0) : wlo b w < (ord b).length ∧ ∀ k, k < (ord b).length → (k < wlo b w → ¬ pfx (sx b ((ord b).getD k (0, 0))) w = true) ∧ (k = wlo b w → pfx (sx b ((ord b).getD k (0, 0))) w = true) := by
  have hg := ord_good hw
  have hm1 : (ord b).Pairwise (fun x y => qlo b w x = true → qlo b w y = true) := hg.1.imp (fun {x y} h => by
    unfold qlo
    rw [decide_eq_true_iff, decide_eq_true_iff]
    exact (cmw_mono _ _ w (wrd_one hwr) (Bf_lle h)).1)
  have hm2 : (ord b).Pairwise (fun x y => qhi b w x = true → qhi b w y = true) := hg.1.imp (fun {x y} h => by
    unfold qhi
    rw [decide_eq_true_iff, decide_eq_true_iff]
    exact (cmw_mono _ _ w (wrd_one hwr) (Bf_lle h)).2)
  have hle : whi b w ≤ (ord b).length := List.countP_le_length
  have he := whi_eq b w
  refine ⟨by omega, fun k hk => ?_⟩
  have gd : (ord b).getD k (0, 0) = (ord b)[k] := by rw [List.getD_eq_getElem?_getD, List.getElem?_eq_getElem hk]; rfl
  have c1 := mono_cnt hm1 k hk
  have c2 := mono_cnt hm2 k hk
  have c1 : qlo b w (ord b)[k] = true ↔ wlo b w ≤ k := c1
  have c2 : qhi b w (ord b)[k] = true ↔ whi b w ≤ k := c2
  unfold qlo at c1
  unfold qhi at c2
  rw [decide_eq_true_iff] at c1 c2
  rw [gd]
  unfold pfx
  rw [decide_eq_true_iff]
  exact ⟨fun h => by omega, fun h => by omega⟩
end RFIND

