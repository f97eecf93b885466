/-! WHAT IS ASKED OF BOTH, 3: reasons, accounts, means, what is written -/
section ASK3
variable {F S L P M C T A O W R D Q mC : Nat → Int32} {n en l l' c : Int32} {b : Bk} {w : List Nat}
theorem q_reason (hf : RFS R D c Q) (X : Nat → Int64) (x z : Int32) : ∃ k X' r, f_L_reason X R D c x z = some (k, X') ∧ f_X9_reason Q x z = some (r, k) ∧ (k = 0 → X' 0 = r.toInt64) := by
  obtain ⟨m, hm, rfl, h1, h2⟩ := hf
  rcases arg (m := 3) (by omega) x with ⟨d, hd, rfl⟩ | h
  · have ex : f_X8_reason R D (nn m) (nn d) z = if d < m then some (.inl (if z = 0 then R d else D d)) else some (.inr "java/util/NoSuchElementException") := by
      unfold f_X8_reason f_X6_reasonCount
      rw [if_neg (show ¬ nn d < 0 from nn_nlt0 (by omega)), if_pos (show nn d < 3 by rw [nl3, nn_lt (by omega) (by omega)]; exact hd), Option.bind_some]
      by_cases q : d < m
      · rw [if_pos (by rw [nn_lt (by omega) (by omega)]; exact q), if_pos q, s_reasonAt hm hd, s_detailAt hm hd, if_pos q, if_pos q]
        by_cases y : z = 0
        · rw [if_pos y, if_pos y]; rfl
        · rw [if_neg y, if_neg y]; rfl
      · rw [if_neg (by rw [nn_lt (by omega) (by omega)]; exact q), if_neg q]
    unfold f_L_reason
    rw [ex, r_reason_in hd]
    by_cases q : d < m
    · obtain ⟨g1, g2, g3⟩ := h1 d q
      rw [if_pos q, if_neg (show ¬ Q (2 * d) = nn 0 by rw [g1]; exact g3), g1, g2, bL]
      exact ⟨_, _, _, rfl, rfl, fun _ => rfl⟩
    · rw [if_neg q, if_pos (h2 d (by omega) hd), bR, if_neg (by decide), if_pos rfl]
      exact ⟨_, _, _, rfl, rfl, fun y => absurd y (by decide)⟩
  · have ex : f_X8_reason R D (nn m) x z = some (.inr "java/lang/IllegalArgumentException") := by
      unfold f_X8_reason
      by_cases q : x < 0
      · rw [if_pos q]; rfl
      · rw [if_neg q, if_neg]
        · rfl
        · intro y
          rcases h with h | ⟨_, h⟩
          · exact q h
          · have a1 := Int32.lt_iff_toInt_lt.mp y
            have a2 := Int32.le_iff_toInt_le.mp h
            have a3 : (nn 3).toInt = 3 := nn_toInt (by omega)
            have a4 : (3 : Int32).toInt = 3 := a3
            omega
    unfold f_L_reason
    rw [ex, r_reason_out h, bR, if_pos rfl]
    exact ⟨_, _, _, rfl, rfl, fun y => absurd y (by decide)⟩
theorem sm_one : ∀ (m k : Nat), sm (fun _ => one true) k m = m
  | 0, k => rfl
  | m + 1, k => by
    rw [smS, sm_one m (k + 1)]
    show 1 + m = m + 1
    omega
theorem tot_ord (b : Bk) : sm (fun i => sz b i) 0 (b.length - 0) = (ord b).length := by
  have h := cnt_ord (fun _ => true) b
  rw [List.countP_true] at h
  rw [h]
  refine sm_congr _ _ (fun x _ _ => ?_)
  show sz b x = sm (fun _ => one true) 0 (sz b x - 0)
  rw [sm_one]
  rfl
theorem r_tot_L (hw : Wf b) (hr : RB A 0 b) : ∀ (fuel x a : Nat), x ≤ b.length → b.length < fuel + x → f_X9_letterMany_L4 A fuel (nn a) (nn x) (fun x _ => some x) = some (nn (a + sm (fun i => sz b i) x (b.length - x))) := by
  intro fuel
  have h8 := hw.1
  induction fuel with
  | zero => intro x a h1 h2; omega
  | succ fuel ih =>
    intro x a h1 h2
    rw [f_X9_letterMany_L4, r_many hr, Option.bind_some]
    by_cases hk : b.length ≤ x
    · rw [if_pos (by rw [nn_le (by omega) (by omega)]; exact hk), sm_end _ hk]
      rfl
    · rw [if_neg (by rw [nn_le (by omega) (by omega)]; exact hk), r_size hw hr (by omega), Option.bind_some, nn_add, show nn x + 1 = nn (x + 1) from nn_add x 1, sm_go _ (by omega), ih (x + 1) (a + sz b x) (by omega) (by omega), Nat.add_assoc]
theorem r_tot (hw : Wf b) (hr : RB A 0 b) : f_X9_letterMany A = some (nn (ord b).length) := by
  have h8 := hw.1
  have e := r_tot_L hw hr 1000 0 0 (by omega) (by omega)
  rw [tot_ord, Nat.zero_add] at e
  exact e
theorem r_pal_L (hw : Wf b) (hr : RB A 0 b) : ∀ (fuel x a : Nat), x ≤ b.length → b.length < fuel + x → f_X9_palindromes_L4 A fuel (nn a) (nn x) (fun x _ => some x) = some (nn (a + sm (fun i => one (rvs b i i)) x (b.length - x))) := by
  intro fuel
  have h8 := hw.1
  induction fuel with
  | zero => intro x a h1 h2; omega
  | succ fuel ih =>
    intro x a h1 h2
    rw [f_X9_palindromes_L4, r_many hr, Option.bind_some]
    by_cases hk : b.length ≤ x
    · rw [if_pos (by rw [nn_le (by omega) (by omega)]; exact hk), sm_end _ hk]
      rfl
    · rw [if_neg (by rw [nn_le (by omega) (by omega)]; exact hk), r_isBack hw hr (by omega) (by omega), Option.bind_some, sm_go _ (by omega), show nn x + 1 = nn (x + 1) from nn_add x 1]
      by_cases q : rvs b x x = true
      · rw [if_pos q, if_neg (by decide), one_t q, show nn a + 1 = nn (a + 1) from nn_add a 1, ih (x + 1) (a + 1) (by omega) (by omega), Nat.add_assoc]
      · rw [if_neg q, if_pos (by decide), one_f q, show nn a + 0 = nn (a + 0) from nn_add a 0, ih (x + 1) (a + 0) (by omega) (by omega), Nat.add_assoc]
theorem r_pal (hw : Wf b) (hr : RB A 0 b) : f_X9_palindromes A = some (nn (pal b)) := by
  have h8 := hw.1
  have e := r_pal_L hw hr 1000 0 0 (by omega) (by omega)
  rw [Nat.zero_add] at e
  exact e
theorem ord_ne (hw : Wf b) (h : b.length ≠ 0) : (ord b).length ≠ 0 := by
  have hg : 1 ≤ sz b 0 := (hw.gl (i := 0) (by omega)).1
  have hm : ((0, 0) : En) ∈ ord b := ((ord_good hw).2.1 (0, 0)).mpr hg
  intro z
  rw [List.length_eq_zero_iff] at z
  rw [z] at hm
  cases hm
theorem fdv_ex {a c : Nat} (ha : a ≤ 80) (hc : c ≤ 8) (h : c ≠ 0) : fdv (FP.i2f (nn a)) (FP.i2f (nn c)) = some (FP.fdiv (FP.i2f (nn a)) (FP.i2f (nn c))) ∧ f2dv (FP.fdiv (FP.i2f (nn a)) (FP.i2f (nn c))) = some (FP.f2d (FP.fdiv (FP.i2f (nn a)) (FP.i2f (nn c)))) ∧ Op.cmpValue (FP.dcmp (FP.f2d (FP.fdiv (FP.i2f (nn a)) (FP.i2f (nn c)))) (FP.f2d (FP.fdiv (FP.i2f (nn a)) (FP.i2f (nn c))))) .l = 0 := by
  have h1 := fdv_all ⟨a, by omega⟩ ⟨c, by omega⟩ h
  have h2 := fcmp_all ⟨a, by omega⟩ ⟨c, by omega⟩ h
  exact ⟨if_pos h1.1, if_pos h1.2, h2⟩
theorem ddv_ex {a c : Nat} (ha : a ≤ 80) (hc : c ≤ 80) (h : c ≠ 0) : ddv (FP.i2d (nn a)) (FP.i2d (nn c)) = some (FP.ddiv (FP.i2d (nn a)) (FP.i2d (nn c))) ∧ Op.cmpValue (FP.dcmp (FP.ddiv (FP.i2d (nn a)) (FP.i2d (nn c))) (FP.ddiv (FP.i2d (nn a)) (FP.i2d (nn c)))) .l = 0 := by
  have h1 := ddv_all ⟨a, by omega⟩ ⟨c, by omega⟩ h
  have h2 := dcmp_all ⟨a, by omega⟩ ⟨c, by omega⟩ h
  exact ⟨if_pos h1, h2⟩
theorem ckE (hw : Wf b) (hc : CB F S n b) (ho : OR L P en (ord b)) : (b.length = 0 ∧ f_X8_checkNotEmpty n en = some (.inr "java/lang/ArithmeticException")) ∨ (b.length ≠ 0 ∧ f_X8_checkNotEmpty n en = some (.inl 0)) := by
  have h8 := hw.1
  have hl := (ord_good hw).2.2
  unfold f_X8_checkNotEmpty f_X0_lines f_X3_endings
  rw [hc.1, ho.1, Option.bind_some, Option.bind_some]
  by_cases h : b.length = 0
  · refine Or.inl ⟨h, ?_⟩
    rw [h, if_pos (by decide)]
    rfl
  · refine Or.inr ⟨h, ?_⟩
    have := ord_ne hw h
    rw [if_neg (by rw [nl0, nn_eq (by omega) (by omega)]; exact h), if_pos (by rw [nl0, nn_eq (by omega) (by omega)]; exact this)]
theorem q_mean (hw : Wf b) (hc : CB F S n b) (hr : RB A 0 b) (ho : OR L P en (ord b)) (G : Nat → UInt64) : (∃ v, f_L_meanLetters G n en = some (1, G) ∧ f_X9_meanLetters A = some (v, 1)) ∨ (∃ z y, f_L_meanLetters G n en = some (0, vf_upd G 0 y) ∧ f_X9_meanLetters A = some (z, 0) ∧ f2dv z = some y ∧ Op.cmpValue (FP.dcmp y y) .l = 0) := by
  have h8 := hw.1
  have hl := (ord_good hw).2.2
  rcases ckE hw hc ho with ⟨h, e⟩ | ⟨h, e⟩
  · refine Or.inl ⟨FP.fconst0, ?_, ?_⟩
    · unfold f_L_meanLetters f_X8_meanLetters
      unfold xb
      rw [e]
      show (if "java/lang/ArithmeticException" = "java/lang/ArithmeticException" then some ((1 : Int32), G) else none) = _
      exact if_pos rfl
    · unfold f_X9_meanLetters
      rw [r_many hr, Option.bind_some, h, if_neg (fun z => z rfl)]
      unfold f_X9_meanLetters_J13
      rw [if_pos (by decide)]
  · obtain ⟨a1, a2, a3⟩ := fdv_ex (a := (ord b).length) (c := b.length) hl h8 h
    refine Or.inr ⟨_, _, ?_, ?_, a2, a3⟩
    · unfold f_L_meanLetters f_X8_meanLetters f_X3_endings f_X0_lines
      unfold xb
      rw [e, hc.1, ho.1]
      show ((fdv (FP.i2f (nn (ord b).length)) (FP.i2f (nn b.length))).bind fun v20_5 => some (Sum.inl v20_5 : UInt32 ⊕ String)).bind _ = _
      rw [a1]
      show (f2dv _).bind _ = _
      rw [a2]
      rfl
    · unfold f_X9_meanLetters
      rw [r_many hr, Option.bind_some, if_pos (by rw [nl0, nn_eq (by omega) (by omega)]; exact h)]
      unfold f_X9_meanLetters_J13
      rw [if_neg (fun z => z rfl), r_tot hw hr, Option.bind_some, r_many hr, Option.bind_some, a1, Option.bind_some]
theorem rc1_le (hw : Wf b) : rc1 b ≤ 80 := by
  have hl := (ord_good hw).2.2
  have : ∀ (m k : Nat), sm (fun k => one (decide (0 < cc b k))) k m ≤ m := by
    intro m
    induction m with
    | zero => intro k; exact Nat.le_refl _
    | succ m ih =>
      intro k
      rw [smS]
      have h1 := ih (k + 1)
      have h2 : one (decide (0 < cc b k)) ≤ 1 := by unfold one; split <;> omega
      omega
  have := this ((ord b).length - 1) 1
  unfold rc1
  omega
theorem q_share (hw : Wf b) (hc : CB F S n b) (hr : RB A 0 b) (ho : OR L P en (ord b)) (hm : CM M b (ord b)) (G : Nat → UInt64) (O : Nat → Int32) (om : Int32) : (∃ v O' om', f_L_repeatShare G n M en = some (1, G) ∧ f_X9_repeatShare A O om = some (v, O', 1, om')) ∨ (∃ y O' om', f_L_repeatShare G n M en = some (0, vf_upd G 0 y) ∧ f_X9_repeatShare A O om = some (y, O', 0, om') ∧ Op.cmpValue (FP.dcmp y y) .l = 0) := by
  have h8 := hw.1
  have hl := (ord_good hw).2.2
  rcases ckE hw hc ho with ⟨h, e⟩ | ⟨h, e⟩
  · refine Or.inl ⟨FP.dconst0, O, om, ?_, ?_⟩
    · unfold f_L_repeatShare f_X8_repeatShare
      unfold xb
      rw [e]
      show (if "java/lang/ArithmeticException" = "java/lang/ArithmeticException" then some ((1 : Int32), G) else none) = _
      exact if_pos rfl
    · unfold f_X9_repeatShare
      rw [r_many hr, Option.bind_some, h, if_neg (fun z => z rfl)]
      unfold f_X9_repeatShare_J13
      rw [if_pos (by decide)]
  · obtain ⟨O', _, _, _, _, o1⟩ := r_commons hw hr O
    obtain ⟨a1, a3⟩ := ddv_ex (a := rc1 b) (c := (ord b).length) (rc1_le hw) hl (ord_ne hw h)
    refine Or.inr ⟨_, O', nn (ord b).length, ?_, ?_, a3⟩
    · unfold f_L_repeatShare f_X8_repeatShare f_X3_endings
      unfold xb
      rw [e, s_rc hw ho hm, ho.1]
      show ((ddv (FP.i2d (nn (rc1 b))) (FP.i2d (nn (ord b).length))).bind fun v20_5 => some (Sum.inl v20_5 : UInt64 ⊕ String)).bind _ = _
      rw [a1]
      rfl
    · unfold f_X9_repeatShare
      rw [r_many hr, Option.bind_some, if_pos (by rw [nl0, nn_eq (by omega) (by omega)]; exact h)]
      unfold f_X9_repeatShare_J13
      rw [if_neg (fun z => z rfl), o1, Option.bind_some, r_tot hw hr, Option.bind_some, a1, Option.bind_some]
theorem q_account {hs cg : Int32} {m : Nat} (hw : Wf b) (hc : CB F S n b) (hr : RB A 0 b) (ho : OR L P en (ord b)) (hm : CM M b (ord b)) (ht : TX C l w) (ht' : TX T l' w) (h1 : hs = nn m) (h2 : cg = nn m) (X : Nat → Int64) (O : Nat → Int32) (om x : Int32) : ∃ k X' r O' om', f_L_account X F S n l hs M en x = some (k, X') ∧ f_X9_account A O cg l' om x = some (r, O', k, om') ∧ (k = 0 → X' 0 = r.toInt64) := by
  have h8 := hw.1
  have hl := (ord_good hw).2.2
  subst h1 h2
  rcases arg (m := 7) (by omega) x with ⟨q, hq, rfl⟩ | h
  · have hin : f_X9_in (nn q) 0 6 = some (nn 1) := in_in (m := 7) (by omega) hq
    have hx : f_X9_account A O (nn m) l' om (nn q) = f_X9_account_J16 O om 0 (nn q) A (nn m) l' := by
      unfold f_X9_account
      rw [hin, Option.bind_some, if_neg (by decide)]
    rw [hx]
    have hk : ∀ v O' om', f_X8_account F S n l (nn m) M en (nn q) = some (.inl (nn v)) → f_X9_account_J16 O om 0 (nn q) A (nn m) l' = some (nn v, O', 0, om') → ∃ k X' r O' om', f_L_account X F S n l (nn m) M en (nn q) = some (k, X') ∧ f_X9_account_J16 O om 0 (nn q) A (nn m) l' = some (r, O', k, om') ∧ (k = 0 → X' 0 = r.toInt64) := by
      intro v O' om' h1 h2
      refine ⟨0, vp_updL X 0 (nn v).toInt64, nn v, O', om', ?_, h2, fun _ => rfl⟩
      unfold f_L_account
      rw [h1, bL]
    rcases (show q = 0 ∨ q = 1 ∨ q = 2 ∨ q = 3 ∨ q = 4 ∨ q = 5 ∨ q = 6 by omega) with rfl | rfl | rfl | rfl | rfl | rfl | rfl
    · refine hk b.length O om ?_ ?_
      · unfold f_X8_account f_X0_lines
        rw [if_neg (by decide), if_pos (by decide), hc.1]
        rfl
      · unfold f_X9_account_J16
        rw [if_pos rfl, if_neg (by decide), if_pos (by decide), r_many hr]
        rfl
    · refine hk (ord b).length O om ?_ ?_
      · unfold f_X8_account f_X3_endings
        rw [if_neg (by decide), if_neg (by decide), if_pos (by decide), ho.1]
        rfl
      · unfold f_X9_account_J16
        rw [if_pos rfl, if_neg (by decide), if_neg (by decide), if_pos (by decide), r_tot hw hr]
        rfl
    · refine hk (dfl b 0 b.length) O om ?_ ?_
      · obtain ⟨v, g1, g2⟩ := s_difA hw hc
        unfold f_X8_account
        rw [if_neg (by decide), if_neg (by decide), if_neg (by decide), if_pos (by decide), g1, Option.bind_some, g2]
        rfl
      · unfold f_X9_account_J16
        rw [if_pos rfl, if_neg (by decide), if_neg (by decide), if_neg (by decide), if_pos (by decide), r_many hr, Option.bind_some, show (0 : Int32) = nn 0 from rfl, r_dif hw hr (Nat.zero_le _) (Nat.le_refl _)]
        rfl
    · obtain ⟨O', _, _, _, o1, _⟩ := r_commons hw hr O
      refine hk (sc b) O' (nn (ord b).length) ?_ ?_
      · unfold f_X8_account
        rw [if_neg (by decide), if_neg (by decide), if_neg (by decide), if_neg (by decide), if_pos (by decide), s_sc hw ho hm]
        rfl
      · unfold f_X9_account_J16
        rw [if_pos rfl, if_neg (by decide), if_neg (by decide), if_neg (by decide), if_neg (by decide), if_pos (by decide), o1]
        rfl
    · refine hk (pal b) O om ?_ ?_
      · unfold f_X8_account
        rw [if_neg (by decide), if_neg (by decide), if_neg (by decide), if_neg (by decide), if_neg (by decide), if_pos (by decide), s_pal hw hc]
        rfl
      · unfold f_X9_account_J16
        rw [if_pos rfl, if_neg (by decide), if_neg (by decide), if_neg (by decide), if_neg (by decide), if_neg (by decide), if_pos (by decide), r_pal hw hr]
        rfl
    · refine hk m O om ?_ ?_
      · unfold f_X8_account f_X4_size
        rw [if_neg (by decide), if_neg (by decide), if_neg (by decide), if_neg (by decide), if_neg (by decide), if_neg (by decide), if_pos (by decide)]
        rfl
      · unfold f_X9_account_J16
        rw [if_pos rfl, if_neg (by decide), if_neg (by decide), if_neg (by decide), if_neg (by decide), if_neg (by decide), if_neg (by decide), if_pos (by decide)]
    · refine hk w.length O om ?_ ?_
      · unfold f_X8_account
        rw [if_neg (by decide), if_neg (by decide), if_neg (by decide), if_neg (by decide), if_neg (by decide), if_neg (by decide), if_neg (by decide), if_pos (by decide), s_length ht]
        rfl
      · unfold f_X9_account_J16
        rw [if_pos rfl, if_pos (by decide), ht'.1]
  · have hout : f_X9_in x 0 6 = some (nn 0) := out_in (m := 7) (by omega) h
    refine ⟨1, X, 0, O, om, ?_, ?_, fun z => absurd z (by decide)⟩
    · unfold f_L_account f_X8_account
      rw [if_pos (show x < 0 ∨ (6 : Int32) < x from out_lt (m := 6) (by omega) h), bR, if_pos rfl]
    · unfold f_X9_account
      rw [hout, Option.bind_some, if_pos (by decide)]
      unfold f_X9_account_J16
      rw [if_neg (by decide)]
/-- what is written, in both -/
def RTX (mC : Nat → Int32) (s : Int32) (v : List Nat) : Prop := s = nn v.length ∧ v.length ≤ 20 ∧ ∀ i, i < v.length → mC i = nn (v.getD i 0)
theorem q_character {s : Int32} (ht : TX C l w) (hq : RTX mC s w) (X : Nat → Int64) (x : Int32) : ∃ k X' r, f_L_character X C l x = some (k, X') ∧ f_X9_character mC s x = some (r, k) ∧ (k = 0 → X' 0 = r.toInt64) := by
  have h60 := ht.2.1
  obtain ⟨rfl, h20, hg⟩ := hq
  rcases arg (m := w.length) (by omega) x with ⟨q, hq, rfl⟩ | h
  · have hv := (ht.2.2 q hq).2
    refine ⟨0, vp_updL X 0 (nn (w.getD q 0)).toInt64, nn (w.getD q 0), ?_, ?_, fun _ => rfl⟩
    · unfold f_L_character f_X8_character
      rw [if_neg (show ¬ nn q < 0 from nn_nlt0 (by omega)), s_length ht, Option.bind_some, if_pos (by rw [nn_lt (by omega) (by omega)]; exact hq), s_charAt ht (by omega), Option.bind_some, rc_of (ch_nn hv), Option.bind_some, bL]
    · have hin : f_X9_in (nn q) 0 (nn w.length - 1) = some (nn 1) := in_in (by omega) hq
      unfold f_X9_character
      rw [hin, Option.bind_some, if_neg (by decide)]
      unfold f_X9_character_J20
      rw [if_neg (fun z => z rfl), ldc_nn (by omega) (by omega), Option.bind_some, hg q hq, rc_of (ch_nn hv), Option.bind_some]
  · have ex : f_X8_character C l x = some (.inr "java/lang/IndexOutOfBoundsException") := by
      unfold f_X8_character
      rcases h with h | ⟨h0, h1⟩
      · rw [if_pos (show x < 0 from h)]; rfl
      · rw [if_neg (show ¬ x < 0 from h0), s_length ht, Option.bind_some, if_neg]
        · rfl
        · intro y
          have a1 := Int32.lt_iff_toInt_lt.mp y
          have a2 := Int32.le_iff_toInt_le.mp h1
          omega
    refine ⟨1, X, 0, ?_, ?_, fun z => absurd z (by decide)⟩
    · unfold f_L_character
      rw [ex, bR, if_pos rfl]
    · have hout : f_X9_in x 0 (nn w.length - 1) = some (nn 0) := out_in (by omega) h
      unfold f_X9_character
      rw [hout, Option.bind_some, if_pos (by decide)]
      unfold f_X9_character_J20
      rw [if_pos (by decide)]
end ASK3
