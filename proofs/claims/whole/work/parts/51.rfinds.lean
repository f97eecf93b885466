/-! THE REFERENCE'S FINDS -/
theorem cnt_idx {α : Type} (Q : α → Bool) (d : α) (l : List α) : ∀ (m k : Nat), k + m = l.length → (l.drop k).countP Q = sm (fun k => one (Q (l.getD k d))) k m
  | 0, k, e => by rw [List.drop_eq_nil_of_le (by omega), sm0]; rfl
  | m + 1, k, e => by
    have hk : k < l.length := by omega
    rw [List.drop_eq_getElem_cons hk, List.countP_cons, cnt_idx Q d l m (k + 1) (by omega), smS]
    have gk : l.getD k d = l[k] := by rw [List.getD_eq_getElem?_getD, List.getElem?_eq_getElem hk]; rfl
    rw [gk]
    unfold one
    omega
section RFIND
variable {A O W : Nat → Int32} {b : Bk} {w : List Nat}
theorem r_bw (hw : Wf b) (hr : RB A 0 b) (ho : RO O (ord b)) (hd : WD W (nn w.length) w) (hwr : wrd w = true) {k : Nat} (hk : k < (ord b).length) : f_X9_beginsWith A W (nn w.length) (O k) = some (if pfx (sx b ((ord b).getD k (0, 0))) w = true then nn 1 else nn 0) := by
  have hg := ord_good hw
  have gk : (ord b)[k]? = some ((ord b)[k]'hk) := List.getElem?_eq_getElem hk
  have hv : ((ord b)[k]'hk).2 < sz b ((ord b)[k]'hk).1 := (hg.2.1 _).mp (List.getElem_mem hk)
  have gd : (ord b).getD k (0, 0) = (ord b)[k]'hk := by rw [List.getD_eq_getElem?_getD, gk]; rfl
  rw [ho k _ gk, r_begins hw hr hd hwr (sz_in hv) hv, gd]
  rfl
theorem r_finds_L (hw : Wf b) (hr : RB A 0 b) (ho : RO O (ord b)) (hd : WD W (nn w.length) w) (hwr : wrd w = true) (om : Int32) : ∀ (fuel k a : Nat), k ≤ (ord b).length → (ord b).length < fuel + k → f_X9_finds1_L8 O (nn (ord b).length) A W (nn w.length) fuel (nn a) (nn k) (fun x _ => some (x, O, om)) = some (nn (a + sm (fun k => one (pfx (sx b ((ord b).getD k (0, 0))) w)) k ((ord b).length - k)), O, om) := by
  have hg := ord_good hw
  intro fuel
  induction fuel with
  | zero => intro k a h0 h1; omega
  | succ fuel ih =>
    intro k a h0 h1
    rw [f_X9_finds1_L8]
    by_cases hk : (ord b).length ≤ k
    · rw [if_pos (by rw [nn_le (by omega) (by omega)]; exact hk), show (ord b).length - k = 0 by omega]
      rfl
    · have hkl : k < (ord b).length := by omega
      rw [if_neg (by rw [nn_le (by omega) (by omega)]; exact hk), ldi_nn (by omega) (by omega), Option.bind_some, r_bw hw hr ho hd hwr hkl, Option.bind_some, sm_go _ hkl, nl1, nn_add, nn_add]
      by_cases h : pfx (sx b ((ord b).getD k (0, 0))) w = true
      · rw [if_pos h, if_neg (by decide), one_t h, ih (k + 1) (a + 1) (by omega) (by omega), Nat.add_assoc]
      · rw [if_neg h, if_pos (show nn 0 = (0 : Int32) from rfl), one_f h, Nat.zero_add, show nn a + (0 : Int32) = nn a from Int32.add_zero _]
        exact ih (k + 1) a (by omega) (by omega)
theorem r_finds1 (hw : Wf b) (hr : RB A 0 b) (hd : WD W (nn w.length) w) (hwr : wrd w = true) (O : Nat → Int32) : ∃ O', RO O' (ord b) ∧ f_X9_finds1 A W O (nn w.length) = some (nn (cntw b w), O', nn (ord b).length) := by
  have hg := ord_good hw
  obtain ⟨O', e1, e2⟩ := r_orders hw hr O
  refine ⟨O', e2, ?_⟩
  unfold f_X9_finds1
  rw [e1, Option.bind_some]
  have e := r_finds_L hw hr e2 hd hwr (nn (ord b).length) 1000 0 0 (by omega) (by omega)
  have h1 := cnt_idx (fun e => pfx (sx b e) w) (0, 0) (ord b) ((ord b).length - 0) 0 (by omega)
  rw [List.drop_zero, cnt_ord] at h1
  have h2 : sm (fun k => one (pfx (sx b ((ord b).getD k (0, 0))) w)) 0 ((ord b).length - 0) = cntw b w := h1.symm
  rw [h2, Nat.zero_add] at e
  exact e
theorem first_pfx (hw : Wf b) (hwr : wrd w = true) (hpos : cntw b w ≠ 0) : wlo b w < (ord b).length ∧ ∀ k, k < (ord b).length → (k < wlo b w → ¬ pfx (sx b ((ord b).getD k (0, 0))) w = true) ∧ (k = wlo b w → pfx (sx b ((ord b).getD k (0, 0))) w = true) := by
  have hg := ord_good hw
  have hm1 : (ord b).Pairwise (fun x y => qlo b w x = true → qlo b w y = true) := hg.1.imp (fun {x y} h => by
    unfold qlo
    rw [decide_eq_true_iff, decide_eq_true_iff]
    exact (cmw_mono _ _ w (wrd_one hwr) (Bf_lle h)).1)
  have hm2 : (ord b).Pairwise (fun x y => qhi b w x = true → qhi b w y = true) := hg.1.imp (fun {x y} h => by
    unfold qhi
    rw [decide_eq_true_iff, decide_eq_true_iff]
    exact (cmw_mono _ _ w (wrd_one hwr) (Bf_lle h)).2)
  have hle : whi b w ≤ (ord b).length := List.countP_le_length
  have he := whi_eq b w
  refine ⟨by omega, fun k hk => ?_⟩
  have gd : (ord b).getD k (0, 0) = (ord b)[k] := by rw [List.getD_eq_getElem?_getD, List.getElem?_eq_getElem hk]; rfl
  have c1 := mono_cnt hm1 k hk
  have c2 := mono_cnt hm2 k hk
  have c1 : qlo b w (ord b)[k] = true ↔ wlo b w ≤ k := c1
  have c2 : qhi b w (ord b)[k] = true ↔ whi b w ≤ k := c2
  unfold qlo at c1
  unfold qhi at c2
  rw [decide_eq_true_iff] at c1 c2
  rw [gd]
  unfold pfx
  rw [decide_eq_true_iff]
  exact ⟨fun h => by omega, fun h => by omega⟩
theorem r_first_L (hw : Wf b) (hr : RB A 0 b) (ho : RO O (ord b)) (hd : WD W (nn w.length) w) (hwr : wrd w = true) (hpos : cntw b w ≠ 0) (kk : Int32 → Option (Int32 × (Nat → Int32) × (Nat → Int32) × Int32 × Int32 × Int32)) : ∀ (fuel k : Nat), k ≤ wlo b w → wlo b w < fuel + k → f_X9_firstFind_L38 W O (nn w.length) A fuel (nn k) kk = kk (nn (wlo b w)) := by
  have hg := ord_good hw
  have hf := first_pfx hw hwr hpos
  intro fuel
  induction fuel with
  | zero => intro k h0 h1; omega
  | succ fuel ih =>
    intro k h0 h1
    have hkl : k < (ord b).length := by omega
    rw [f_X9_firstFind_L38, ldi_nn (by omega) (by omega), Option.bind_some, r_bw hw hr ho hd hwr hkl, Option.bind_some]
    by_cases h : k = wlo b w
    · rw [if_pos ((hf.2 k hkl).2 h), if_pos (by decide), h]
    · rw [if_neg ((hf.2 k hkl).1 (by omega)), if_neg (by decide), nl1, nn_add]
      exact ih (k + 1) (by omega) (by omega)
end RFIND
