/-! WHAT NEIGHBOURS HAVE IN COMMON -/
theorem mx0 (f : Nat → Nat) (k : Nat) : mx f k 0 = 0 := rfl
theorem mxS (f : Nat → Nat) (k m : Nat) : mx f k (m + 1) = max (f k) (mx f (k + 1) m) := rfl
def cc (b : Bk) (k : Nat) : Nat := cmn b (ord b) k
def lc (b : Bk) : Nat := mx (cc b) 1 ((ord b).length - 1)
def sc (b : Bk) : Nat := sm (cc b) 1 ((ord b).length - 1)
def rc1 (b : Bk) : Nat := sm (fun k => one (decide (0 < cc b k))) 1 ((ord b).length - 1)
def flr (b : Bk) : Nat := lst (fun k => decide (cc b k = lc b)) 1 ((ord b).length - 1)
theorem cc_le {b : Bk} (hw : Wf b) (k : Nat) : cc b k ≤ 10 := cmn_le hw _ _
/-- the most, and the first place that has it -/
def am (f : Nat → Nat) : Nat → Nat → Nat → Nat → Nat × Nat
  | m, a, _, 0 => (m, a)
  | m, a, k, t + 1 => if m < f k then am f (f k) k (k + 1) t else am f m a (k + 1) t
theorem am0 (f : Nat → Nat) (m a k : Nat) : am f m a k 0 = (m, a) := rfl
theorem amS (f : Nat → Nat) (m a k t : Nat) : am f m a k (t + 1) = if m < f k then am f (f k) k (k + 1) t else am f m a (k + 1) t := rfl
theorem lstS (P : Nat → Bool) (k m : Nat) : lst P k (m + 1) = if P k = true then k else lst P (k + 1) m := rfl
theorem am_fst (f : Nat → Nat) : ∀ (t m a k : Nat), (am f m a k t).1 = max m (mx f k t)
  | 0, m, a, k => by rw [am0, mx0, Nat.max_zero]
  | t + 1, m, a, k => by
    rw [amS, mxS]
    by_cases h : m < f k
    · rw [if_pos h, am_fst f t, ← Nat.max_assoc, Nat.max_eq_right (show m ≤ f k by omega)]
    · rw [if_neg h, am_fst f t, ← Nat.max_assoc, Nat.max_eq_left (show f k ≤ m by omega)]
theorem am_snd (f : Nat → Nat) : ∀ (t m a k : Nat), (m < mx f k t → (am f m a k t).2 = lst (fun p => decide (f p = mx f k t)) k t) ∧ (¬ m < mx f k t → (am f m a k t).2 = a)
  | 0, m, a, k => ⟨fun h => absurd h (by rw [mx0]; omega), fun _ => rfl⟩
  | t + 1, m, a, k => by
    rw [amS, mxS]
    by_cases h : m < f k
    · rw [if_pos h]
      have ih := am_snd f t (f k) k (k + 1)
      refine ⟨fun _ => ?_, fun q => absurd q (by omega)⟩
      rw [lstS]
      by_cases e : f k < mx f (k + 1) t
      · rw [ih.1 e, Nat.max_eq_right (a := f k) (by omega), if_neg]
        intro z
        have := of_decide_eq_true z
        omega
      · rw [ih.2 e, if_pos (decide_eq_true (by omega))]
    · rw [if_neg h]
      have ih := am_snd f t m a (k + 1)
      refine ⟨fun q => ?_, fun q => ih.2 (by omega)⟩
      have hm : m < mx f (k + 1) t := by omega
      rw [lstS, ih.1 hm, Nat.max_eq_right (a := f k) (by omega), if_neg]
      intro z
      have := of_decide_eq_true z
      omega
section COM
variable {F S L P M A O : Nat → Int32} {n en : Int32} {b : Bk}
theorem s_lc_L (hw : Wf b) (ho : OR L P en (ord b)) (hm : CM M b (ord b)) : ∀ (fuel k a : Nat), 1 ≤ k → a ≤ 1000 → (ord b).length + 1 < fuel + k → k ≤ (ord b).length + 1 → f_X3_longestCommon_L4 M en fuel (nn a) (nn k) (fun x _ => some x) = some (nn (max a (mx (cc b) k ((ord b).length - k)))) := by
  have hg := ord_good hw
  intro fuel
  induction fuel with
  | zero => intro k a h0 h1 h2 h3; omega
  | succ fuel ih =>
    intro k a h0 h1 h2 h3
    rw [f_X3_longestCommon_L4]
    by_cases hk : (ord b).length ≤ k
    · rw [if_pos (by rw [ho.1, nn_le (by omega) (by omega)]; exact hk), show (ord b).length - k = 0 by omega, mx0, Nat.max_zero]
    · have hc := cc_le hw k
      rw [if_neg (by rw [ho.1, nn_le (by omega) (by omega)]; exact hk), ldi_nn (by omega) (by omega), Option.bind_some, hm k h0 (by omega), mx_go _ (by omega)]
      show f_X3_longestCommon_L4 M en fuel (if nn a < nn (cc b k) then nn (cc b k) else nn a) (nn k + nn 1) _ = _
      simp (disch := omega) only [nn_lt, nn_add]
      rw [ite_max, ih (k + 1) _ (by omega) (by omega) (by omega) (by omega), Nat.max_assoc]
theorem s_longest (hw : Wf b) (ho : OR L P en (ord b)) (hm : CM M b (ord b)) : f_X3_longestCommon M en = some (nn (lc b)) := by
  have hg := ord_good hw
  unfold f_X3_longestCommon
  have h := s_lc_L hw ho hm 1000 1 0 (by omega) (by omega) (by omega) (by omega)
  rw [Nat.zero_max] at h
  exact h
theorem lc_le {b : Bk} (hw : Wf b) : lc b ≤ 10 := mx_le (cc_le hw) _ _
theorem s_fl_L (hw : Wf b) (ho : OR L P en (ord b)) (hm : CM M b (ord b)) : ∀ (fuel k : Nat), 1 ≤ k → k ≤ max 1 (ord b).length → (ord b).length + 1 < fuel + k → f_X3_firstLongestRank_L7 (nn (lc b)) M en fuel (nn k) (fun x => some (x - 1)) = some (nn (lst (fun k => decide (cc b k = lc b)) k ((ord b).length - k) - 1)) := by
  have hg := ord_good hw
  have hl := lc_le hw
  intro fuel
  induction fuel with
  | zero => intro k h0 h1 h2; omega
  | succ fuel ih =>
    intro k h0 h1 h2
    rw [f_X3_firstLongestRank_L7]
    by_cases hk : (ord b).length ≤ k
    · rw [if_pos (by rw [ho.1, nn_le (by omega) (by omega)]; exact hk), show (ord b).length - k = 0 by omega, nl1, nn_sub h0]
      rfl
    · have hc := cc_le hw k
      rw [if_neg (by rw [ho.1, nn_le (by omega) (by omega)]; exact hk), ldi_nn (by omega) (by omega), Option.bind_some, hm k h0 (by omega), lst_go _ (by omega)]
      have e2 : (nn (cmn b (ord b) k) = nn (lc b)) = (cc b k = lc b) := nn_eq (a := cc b k) (by omega) (by omega)
      by_cases h : cc b k = lc b
      · rw [if_pos (e2.mpr h), if_pos (decide_eq_true h), nl1, nn_sub h0]
      · rw [if_neg (fun q => h (e2.mp q)), if_neg (fun q => h (of_decide_eq_true q)), nl1, nn_add]
        exact ih (k + 1) (by omega) (by omega) (by omega)
theorem s_fl (hw : Wf b) (ho : OR L P en (ord b)) (hm : CM M b (ord b)) : f_X3_firstLongestRank M en = some (nn (flr b - 1)) := by
  have hg := ord_good hw
  unfold f_X3_firstLongestRank
  rw [s_longest hw ho hm, Option.bind_some]
  exact s_fl_L hw ho hm 1000 1 (by omega) (by omega) (by omega)
theorem s_sc_L (hw : Wf b) (ho : OR L P en (ord b)) (hm : CM M b (ord b)) : ∀ (fuel k a : Nat), 1 ≤ k → k ≤ (ord b).length + 1 → (ord b).length + 1 < fuel + k → f_X3_sumOfCommons_L4 M en fuel (nn a) (nn k) (fun x _ => some x) = some (nn (a + sm (cc b) k ((ord b).length - k))) := by
  have hg := ord_good hw
  intro fuel
  induction fuel with
  | zero => intro k a h0 h1 h2; omega
  | succ fuel ih =>
    intro k a h0 h1 h2
    rw [f_X3_sumOfCommons_L4]
    by_cases hk : (ord b).length ≤ k
    · rw [if_pos (by rw [ho.1, nn_le (by omega) (by omega)]; exact hk), show (ord b).length - k = 0 by omega]
      rfl
    · rw [if_neg (by rw [ho.1, nn_le (by omega) (by omega)]; exact hk), ldi_nn (by omega) (by omega), Option.bind_some, hm k h0 (by omega), sm_go _ (by omega), nl1, nn_add, nn_add]
      have e := ih (k + 1) (a + cc b k) (by omega) (by omega) (by omega)
      rw [Nat.add_assoc] at e
      exact e
theorem s_sc (hw : Wf b) (ho : OR L P en (ord b)) (hm : CM M b (ord b)) : f_X3_sumOfCommons M en = some (nn (sc b)) := by
  have hg := ord_good hw
  unfold f_X3_sumOfCommons
  have h := s_sc_L hw ho hm 1000 1 0 (by omega) (by omega) (by omega)
  rw [Nat.zero_add] at h
  exact h
theorem s_rc_L (hw : Wf b) (ho : OR L P en (ord b)) (hm : CM M b (ord b)) : ∀ (fuel k a : Nat), 1 ≤ k → k ≤ (ord b).length + 1 → (ord b).length + 1 < fuel + k → f_X3_countRepeats_L4 M en fuel (nn a) (nn k) (fun x _ => some x) = some (nn (a + sm (fun k => one (decide (0 < cc b k))) k ((ord b).length - k))) := by
  have hg := ord_good hw
  intro fuel
  induction fuel with
  | zero => intro k a h0 h1 h2; omega
  | succ fuel ih =>
    intro k a h0 h1 h2
    rw [f_X3_countRepeats_L4]
    by_cases hk : (ord b).length ≤ k
    · rw [if_pos (by rw [ho.1, nn_le (by omega) (by omega)]; exact hk), show (ord b).length - k = 0 by omega]
      rfl
    · have hc := cc_le hw k
      rw [if_neg (by rw [ho.1, nn_le (by omega) (by omega)]; exact hk), ldi_nn (by omega) (by omega), Option.bind_some, hm k h0 (by omega), sm_go _ (by omega)]
      have e2 : (nn (cmn b (ord b) k) ≤ (0 : Int32)) = (cc b k ≤ 0) := nn_le (a := cc b k) (b := 0) (by omega) (by omega)
      by_cases h : cc b k ≤ 0
      · rw [if_pos (e2.mpr h), one_f (by simp; omega), nl1, nn_add, ih (k + 1) a (by omega) (by omega) (by omega), Nat.zero_add]
      · rw [if_neg (fun q => h (e2.mp q)), one_t (decide_eq_true (by omega)), nl1, nn_add, nn_add, ih (k + 1) (a + 1) (by omega) (by omega) (by omega), Nat.add_assoc]
theorem s_rc (hw : Wf b) (ho : OR L P en (ord b)) (hm : CM M b (ord b)) : f_X3_countRepeats M en = some (nn (rc1 b)) := by
  have hg := ord_good hw
  unfold f_X3_countRepeats
  have h := s_rc_L hw ho hm 1000 1 0 (by omega) (by omega) (by omega)
  rw [Nat.zero_add] at h
  exact h
end COM

