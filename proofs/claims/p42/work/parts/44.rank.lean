/-! RANKS -/
theorem cnt_ins (Q : En → Bool) (b : Bk) (l : List En) (e : En) : (ins b l e).countP Q = one (Q e) + l.countP Q := by
  rw [(ins_perm b l e).countP_eq, List.countP_cons]
  unfold one
  by_cases h : Q e = true
  · rw [if_pos h]; omega
  · rw [if_neg h]; omega
theorem sm0 (f : Nat → Nat) (k : Nat) : sm f k 0 = 0 := rfl
theorem smS (f : Nat → Nat) (k m : Nat) : sm f k (m + 1) = f k + sm f (k + 1) m := rfl
theorem cnt_li (Q : En → Bool) (b : Bk) (i : Nat) : ∀ (m k : Nat) (l : List En), (li b i k m l).countP Q = sm (fun p => one (Q (i, p))) k m + l.countP Q
  | 0, k, l => by rw [li, sm0]; omega
  | m + 1, k, l => by rw [li, smS, cnt_li Q b i m, cnt_ins]; omega
theorem cnt_lo (Q : En → Bool) (b : Bk) : ∀ (m x : Nat) (l : List En), (lo b x m l).countP Q = sm (fun x => sm (fun p => one (Q (x, p))) 0 (sz b x - 0)) x m + l.countP Q
  | 0, k, l => by rw [lo, sm0]; omega
  | m + 1, k, l => by rw [lo, smS, cnt_lo Q b m, cnt_li]; omega
theorem cnt_ord (Q : En → Bool) (b : Bk) : (ord b).countP Q = sm (fun x => sm (fun p => one (Q (x, p))) 0 (sz b x - 0)) 0 (b.length - 0) := by
  unfold ord
  rw [cnt_lo]
  rfl
theorem rk_pos (b : Bk) (i p : Nat) : rk b i p = pos b (ord b) (i, p) := (cnt_ord (fun f => Bf b f (i, p)) b).symm
theorem pos_at {b : Bk} {e : En} : ∀ {l : List En} {j : Nat}, Srt b l → l[j]? = some e → pos b l e = j
  | [], j, _, h => by simp at h
  | y :: l, 0, hs, h => by
    have hs2 := List.pairwise_cons.mp hs
    have e0 : y = e := by simpa using h
    subst e0
    refine List.countP_eq_zero.mpr fun x hx => ?_
    rcases List.mem_cons.mp hx with rfl | hx
    · have : Bf b x x = false := bef_irr b x.1 x.2
      rw [this]; decide
    · exact Bf_asy (hs2.1 x hx)
  | y :: l, j + 1, hs, h => by
    have hs2 := List.pairwise_cons.mp hs
    have h2 : l[j]? = some e := by simpa using h
    have h3 : Bf b y e = true := hs2.1 e (List.mem_of_getElem? h2)
    have : pos b (y :: l) e = pos b l e + 1 := List.countP_cons_of_pos h3
    rw [this, pos_at hs2.2 h2]
theorem rk_at {b : Bk} (hw : Wf b) {k : Nat} {e : En} (h : (ord b)[k]? = some e) : rk b e.1 e.2 = k := by
  rw [rk_pos]
  exact pos_at (ord_good hw).1 h
theorem rk_get {b : Bk} (hw : Wf b) {i p : Nat} (h : p < sz b i) : (ord b)[rk b i p]? = some (i, p) := by
  have hm : (i, p) ∈ ord b := ((ord_good hw).2.1 (i, p)).mpr h
  obtain ⟨k, hk⟩ := List.getElem?_of_mem hm
  have := rk_at hw hk
  rw [show rk b i p = k from this]
  exact hk
theorem rk_lt {b : Bk} (hw : Wf b) {i p : Nat} (h : p < sz b i) : rk b i p < (ord b).length := (List.getElem?_eq_some_iff.mp (rk_get hw h)).1
section RANK
variable {F S L P A O : Nat → Int32} {n en : Int32} {b : Bk}
theorem s_rankOf_L (hw : Wf b) (ho : OR L P en (ord b)) {i p : Nat} (h : p < sz b i) : ∀ (fuel k : Nat), k ≤ rk b i p → rk b i p < fuel + k → f_X3_rankOf_L2 (nn i) (nn p) L P en fuel (nn k) (fun x => some x) = some (nn (rk b i p)) := by
  have hg := ord_good hw
  have hlt := rk_lt hw h
  have hi := sz_in h
  have h8 := hw.1
  have h10 := hw.sz_le i
  intro fuel
  induction fuel with
  | zero => intro k h1 h2; omega
  | succ fuel ih =>
    intro k h1 h2
    have hk : k < (ord b).length := by omega
    have gk : (ord b)[k]? = some ((ord b)[k]'hk) := List.getElem?_eq_getElem hk
    have hv : ((ord b)[k]'hk).2 < sz b ((ord b)[k]'hk).1 := (hg.2.1 _).mp (List.getElem_mem hk)
    have hv1 := sz_in hv
    have hv2 := hw.sz_le ((ord b)[k]'hk).1
    have hr := rk_at hw gk
    rw [f_X3_rankOf_L2, if_neg (by rw [ho.1, nn_le (by omega) (by omega)]; omega), ldi_nn (by omega) (by omega), Option.bind_some, (ho.2 k _ gk).1]
    have key : ∀ q : k ≠ rk b i p, ¬ (((ord b)[k]'hk).1 = i ∧ ((ord b)[k]'hk).2 = p) := fun q z => by
      rw [z.1, z.2] at hr
      exact q hr.symm
    have e := ih (k + 1)
    by_cases z : k = rk b i p
    · have g2 := rk_get hw h
      rw [← z, gk] at g2
      have g3 : (ord b)[k]'hk = (i, p) := Option.some.inj g2
      rw [if_neg (by rw [g3]; exact fun q => q rfl), ldi_nn (by omega) (by omega), Option.bind_some, (ho.2 k _ gk).2, if_pos (by rw [g3]), z]
    · have e2 := e (by omega) (by omega)
      by_cases y1 : ((ord b)[k]'hk).1 = i
      · have y2 : ¬ ((ord b)[k]'hk).2 = p := fun q => key z ⟨y1, q⟩
        rw [if_neg (by rw [y1]; exact fun q => q rfl), ldi_nn (by omega) (by omega), Option.bind_some, (ho.2 k _ gk).2, if_neg (by rw [nn_eq (by omega) (by omega)]; exact y2), nl1, nn_add]
        exact e2
      · rw [if_pos (by rw [nn_eq (by omega) (by omega)]; exact y1), nl1, nn_add]
        exact e2
theorem s_rankOf (hw : Wf b) (ho : OR L P en (ord b)) {i p : Nat} (h : p < sz b i) : f_X3_rankOf L P en (nn i) (nn p) = some (nn (rk b i p)) := by
  have hlt := rk_lt hw h
  have hg := ord_good hw
  unfold f_X3_rankOf
  exact s_rankOf_L hw ho h 1000 0 (by omega) (by omega)
end RANK

