/-! WHAT IS ASKED OF BOTH: the readings, wrapper by wrapper -/
theorem xb_l {ρ τ : Type} {fy : Option ρ} {r : ρ} {z : Int32} (gv : ρ → Int32 ⊕ String) (kx : ρ → String → Option τ) (kf : ρ → Int32 → Option τ) (h : fy = some r) (hz : gv r = .inl z) : xb fy gv kx kf = kf r z := by
  unfold xb
  rw [h, Option.bind_some, hz]
  rfl
theorem xb_r {ρ τ : Type} {fy : Option ρ} {r : ρ} {E : String} (gv : ρ → Int32 ⊕ String) (kx : ρ → String → Option τ) (kf : ρ → Int32 → Option τ) (h : fy = some r) (hz : gv r = .inr E) : xb fy gv kx kf = kx r E := by
  unfold xb
  rw [h, Option.bind_some, hz]
  rfl
theorem bL {β : Type} (v : Int32) (f : Int32 → Option β) (g : String → Option β) : ((some (Sum.inl v : Int32 ⊕ String)).bind fun r => r.elim f g) = f v := rfl
theorem bR {β : Type} (E : String) (f : Int32 → Option β) (g : String → Option β) : ((some (Sum.inr E : Int32 ⊕ String)).bind fun r => r.elim f g) = g E := rfl
theorem i2c_nn {v : Nat} (hv : v < 65536) : ((nn v).toUInt32 % 65536).toInt32 = nn v := by
  apply Int32.toInt_inj.mp
  rw [nn_toInt (by omega)]
  have h1 : (nn v).toUInt32.toNat = v := by
    show (BitVec.ofNat 32 v).toNat = v
    rw [BitVec.toNat_ofNat, Nat.mod_eq_of_lt (by omega)]
  have h2 : ((nn v).toUInt32 % 65536).toNat = v := by
    rw [UInt32.toNat_mod, h1]
    show v % 65536 = v
    omega
  show (BitVec.toInt ((nn v).toUInt32 % 65536).toBitVec) = v
  rw [BitVec.toInt_eq_toNat_of_lt]
  · show (((nn v).toUInt32 % 65536).toNat : Int) = v
    rw [h2]
  · show 2 * ((nn v).toUInt32 % 65536).toNat < 2 ^ 32
    rw [h2]
    omega
theorem out_lt {m : Nat} (hm : m < 1000000) {x : Int32} (h : outR (m + 1) x) : x < 0 ∨ nn m < x := by
  rcases h with h | ⟨_, h⟩
  · exact Or.inl h
  · refine Or.inr ?_
    have h1 := Int32.le_iff_toInt_le.mp h
    rw [nn_toInt (by omega)] at h1
    rw [Int32.lt_iff_toInt_lt, nn_toInt (by omega)]
    omega
theorem out_in1 {m : Nat} (hm : m < 1000000) {x : Int32} (h : outR m x) : f_X9_in x (nn 1) (nn m - nn 1) = some 0 := by
  unfold f_X9_in
  have z : (nn 0).toInt = 0 := nn_toInt (by omega)
  have z1 : (nn 1).toInt = 1 := nn_toInt (by omega)
  by_cases q : x < nn 1
  · rw [if_pos q]
  · rw [if_neg q]
    have q' : ¬ x.toInt < 1 := fun y => q (Int32.lt_iff_toInt_lt.mpr (by rw [z1]; exact y))
    rcases h with h | ⟨h0, h1⟩
    · have := Int32.lt_iff_toInt_lt.mp h
      omega
    · rw [if_pos]
      have g1 := Int32.le_iff_toInt_le.mp h1
      rw [nn_toInt (by omega)] at g1
      rw [Int32.lt_iff_toInt_lt, Int32.toInt_sub, nn_toInt (by omega), z1, Int.bmod_eq_of_le (by omega) (by omega)]
      omega
section ASK
variable {F S L P M C T A O W R D Q mC : Nat → Int32} {n en l l' c : Int32} {b : Bk} {w : List Nat}
theorem ckL_in (hw : Wf b) (hc : CB F S n b) {i : Nat} (hi : i < b.length) : f_X8_checkLine n (nn i) = some (.inl 0) := by
  unfold f_X8_checkLine
  rw [s_hasLine_in hw hc hi, Option.bind_some, if_pos (by first | decide | exact d_a | exact d_b)]
theorem ckL_out (hw : Wf b) (hc : CB F S n b) {x : Int32} (h : outR b.length x) : f_X8_checkLine n x = some (.inr "java/lang/IndexOutOfBoundsException") := by
  unfold f_X8_checkLine
  rw [s_hasLine_out hw hc h, Option.bind_some, if_neg (by first | decide | exact d_a | exact d_b)]
theorem ckP_in (hw : Wf b) (hc : CB F S n b) {i p : Nat} (hp : p < sz b i) : f_X8_checkPlace S n (nn i) (nn p) = some (.inl 0) := by
  unfold f_X8_checkPlace
  rw [s_place_in hw hc hp, Option.bind_some, if_pos (by first | decide | exact d_a | exact d_b)]
theorem ckP_outL (hw : Wf b) (hc : CB F S n b) {x y : Int32} (h : outR b.length x) : f_X8_checkPlace S n x y = some (.inr "java/lang/IndexOutOfBoundsException") := by
  unfold f_X8_checkPlace
  rw [s_place_outL hw hc h, Option.bind_some, if_neg (by first | decide | exact d_a | exact d_b)]
theorem ckP_outP (hw : Wf b) (hc : CB F S n b) {i : Nat} {y : Int32} (hi : i < b.length) (h : outR (sz b i) y) : f_X8_checkPlace S n (nn i) y = some (.inr "java/lang/IndexOutOfBoundsException") := by
  unfold f_X8_checkPlace
  rw [s_place_outP hw hc hi h, Option.bind_some, if_neg (by first | decide | exact d_a | exact d_b)]
theorem place (hw : Wf b) (hc : CB F S n b) (hr : RB A 0 b) (x y : Int32) : (∃ i p, p < sz b i ∧ x = nn i ∧ y = nn p ∧ f_X8_checkPlace S n x y = some (.inl 0) ∧ f_X9_isPlace A x y = some (nn 1)) ∨ (f_X8_checkPlace S n x y = some (.inr "java/lang/IndexOutOfBoundsException") ∧ f_X9_isPlace A x y = some (nn 0)) := by
  have h8 := hw.1
  rcases arg (m := b.length) (by omega) x with ⟨i, hi, rfl⟩ | h
  · have h10 := hw.sz_le i
    rcases arg (m := sz b i) (by omega) y with ⟨p, hp, rfl⟩ | h
    · exact Or.inl ⟨i, p, hp, rfl, rfl, ckP_in hw hc hp, r_place_in hw hr hp⟩
    · exact Or.inr ⟨ckP_outP hw hc hi h, r_place_outP hw hr hi h⟩
  · exact Or.inr ⟨ckP_outL hw hc h, r_place_outL hw hr h⟩
theorem line (hw : Wf b) (hc : CB F S n b) (hr : RB A 0 b) (x : Int32) : (∃ i, i < b.length ∧ x = nn i ∧ f_X8_checkLine n x = some (.inl 0) ∧ f_X9_isLineNumber A x = some (nn 1)) ∨ (f_X8_checkLine n x = some (.inr "java/lang/IndexOutOfBoundsException") ∧ f_X9_isLineNumber A x = some (nn 0)) := by
  have h8 := hw.1
  rcases arg (m := b.length) (by omega) x with ⟨i, hi, rfl⟩ | h
  · exact Or.inl ⟨i, hi, rfl, ckL_in hw hc hi, r_line_in hw hr hi⟩
  · exact Or.inr ⟨ckL_out hw hc h, r_line_out hw hr h⟩
theorem rankQ (hw : Wf b) (ho : OR L P en (ord b)) (x : Int32) : (∃ k e, (ord b)[k]? = some e ∧ x = nn k ∧ f_X8_checkRank en x = some (.inl 0) ∧ f_X9_in x 0 (nn (ord b).length - 1) = some (nn 1)) ∨ (outR (ord b).length x ∧ f_X8_checkRank en x = some (.inr "java/util/NoSuchElementException") ∧ f_X9_in x 0 (nn (ord b).length - 1) = some (nn 0)) := by
  have hl := (ord_good hw).2.2
  rcases arg (m := (ord b).length) (by omega) x with ⟨k, hk, rfl⟩ | h
  · refine Or.inl ⟨k, _, List.getElem?_eq_getElem hk, rfl, ?_, in_in (by omega) hk⟩
    unfold f_X8_checkRank
    rw [s_hasRank hl ho (by omega), if_pos hk, Option.bind_some, if_pos (by first | decide | exact d_a | exact d_b)]
  · refine Or.inr ⟨h, ?_, out_in (by omega) h⟩
    unfold f_X8_checkRank f_X3_hasRank
    rcases h with h | ⟨h0, h1⟩
    · rw [if_pos (show x < 0 from h), Option.bind_some, if_neg (fun z => z rfl)]
    · rw [if_neg (show ¬ x < 0 from h0), ho.1, if_pos h1, Option.bind_some, if_neg (fun z => z rfl)]
theorem q_lineOf (hw : Wf b) (hc : CB F S n b) (hr : RB A 0 b) (X : Nat → Int64) (x y : Int32) : ∃ k X' r, f_L_lineOf X F S n x y = some (k, X') ∧ f_X9_lineOf A x y = some (r, k) ∧ (k = 0 → X' 0 = r.toInt64) := by
  have h8 := hw.1
  rcases line hw hc hr x with ⟨i, hi, rfl, e1, e2⟩ | ⟨e1, e2⟩
  · have hr1 : ∀ (y : Int32), f_X9_lineOf A (nn i) y = (f_X9_in y 0 4).bind fun r16_3 => if r16_3 = 0 then (f_X9_lineOf_J27 2 (nn i) y A) else (f_X9_lineOf_J27 0 (nn i) y A) := by
      intro y
      unfold f_X9_lineOf
      rw [e2, Option.bind_some, if_pos (by first | decide | exact d_a | exact d_b)]
    rcases arg (m := 5) (by omega) y with ⟨q, hq, rfl⟩ | h
    · have hin : f_X9_in (nn q) 0 4 = some (nn 1) := in_in (m := 5) (by omega) hq
      have hx : f_X9_lineOf A (nn i) (nn q) = f_X9_lineOf_J27 0 (nn i) (nn q) A := by rw [hr1, hin, Option.bind_some, if_neg (by first | decide | exact d_a | exact d_b)]
      rw [hx]
      have hk : ∀ v, f_X8_lineOf F S n (nn i) (nn q) = some (.inl (nn v)) → f_X9_lineOf_J27 0 (nn i) (nn q) A = some (nn v, 0) → ∃ k X' r, f_L_lineOf X F S n (nn i) (nn q) = some (k, X') ∧ f_X9_lineOf_J27 0 (nn i) (nn q) A = some (r, k) ∧ (k = 0 → X' 0 = r.toInt64) := by
        intro v h1 h2
        refine ⟨0, vp_updL X 0 (nn v).toInt64, nn v, ?_, h2, fun _ => rfl⟩
        unfold f_L_lineOf
        rw [h1, bL]
      rcases (show q = 0 ∨ q = 1 ∨ q = 2 ∨ q = 3 ∨ q = 4 by omega) with rfl | rfl | rfl | rfl | rfl
      · refine hk (sz b i) ?_ ?_
        · unfold f_X8_lineOf
          rw [xb_l _ _ _ e1 rfl, if_neg (by decide), if_pos (by decide), s_size hw hc (by omega)]
          rfl
        · unfold f_X9_lineOf_J27
          rw [if_pos rfl, if_neg (by decide), if_pos (by decide), r_size hw hr hi]
          rfl
      · refine hk (dfl b i (i + 1)) ?_ ?_
        · obtain ⟨v, g1, g2⟩ := s_dif1 hw hc hi
          unfold f_X8_lineOf
          rw [xb_l _ _ _ e1 rfl, if_neg (by decide), if_neg (by decide), if_pos (by decide), g1, Option.bind_some, g2]
          rfl
        · unfold f_X9_lineOf_J27
          rw [if_pos rfl, if_neg (by decide), if_neg (by decide), if_pos (by decide), show nn i + 1 = nn (i + 1) from nn_add i 1, r_dif hw hr (by omega) (by omega)]
          rfl
      · refine hk (like b i) ?_ ?_
        · unfold f_X8_lineOf
          rw [xb_l _ _ _ e1 rfl, if_neg (by decide), if_neg (by decide), if_neg (by decide), if_pos (by decide), s_like hw hc (by omega)]
          rfl
        · unfold f_X9_lineOf_J27
          rw [if_pos rfl, if_neg (by decide), if_neg (by decide), if_neg (by decide), if_pos (by decide), r_like hw hr hi]
          rfl
      · refine hk (per b i) ?_ ?_
        · unfold f_X8_lineOf
          rw [xb_l _ _ _ e1 rfl, if_neg (by decide), if_neg (by decide), if_neg (by decide), if_neg (by decide), if_pos (by decide), s_period hw hc hi]
          rfl
        · unfold f_X9_lineOf_J27
          rw [if_pos rfl, if_neg (by decide), if_neg (by decide), if_neg (by decide), if_neg (by decide), if_pos (by decide), r_period hw hr hi]
          rfl
      · refine hk (lrep b i) ?_ ?_
        · unfold f_X8_lineOf
          rw [xb_l _ _ _ e1 rfl, if_neg (by decide), if_neg (by decide), if_neg (by decide), if_neg (by decide), if_neg (by decide), if_pos (by decide), s_lrep hw hc (by omega)]
          rfl
        · unfold f_X9_lineOf_J27
          rw [if_pos rfl, if_pos (by decide), r_lof hw hr hi hi, lof_same]
          rfl
    · have hout : f_X9_in y 0 4 = some (nn 0) := out_in (m := 5) (by omega) h
      refine ⟨2, X, 0, ?_, ?_, fun z => absurd z (by decide)⟩
      · unfold f_L_lineOf f_X8_lineOf
        rw [xb_l _ _ _ e1 rfl, if_pos (show y < 0 ∨ (4 : Int32) < y from out_lt (m := 4) (by omega) h), bR, if_neg (by decide), if_pos rfl]
      · rw [hr1, hout, Option.bind_some, if_pos (by first | decide | exact d_a | exact d_b)]
        unfold f_X9_lineOf_J27
        rw [if_neg (by decide)]
  · refine ⟨1, X, 0, ?_, ?_, fun z => absurd z (by decide)⟩
    · unfold f_L_lineOf f_X8_lineOf
      rw [xb_r _ _ _ e1 rfl, bR, if_pos rfl]
    · unfold f_X9_lineOf
      rw [e2, Option.bind_some, if_neg (by first | decide | exact d_a | exact d_b)]
      unfold f_X9_lineOf_J27
      rw [if_neg (by decide)]
theorem q_letter (hw : Wf b) (hc : CB F S n b) (hr : RB A 0 b) (X : Nat → Int64) (x y : Int32) : ∃ k X' r, f_L_letter X F S n x y = some (k, X') ∧ f_X9_letter A x y = some (r, k) ∧ (k = 0 → X' 0 = r.toInt64) := by
  have h8 := hw.1
  rcases place hw hc hr x y with ⟨i, p, hp, rfl, rfl, e1, e2⟩ | ⟨e1, e2⟩
  · have hi := sz_in hp
    have h10 := hw.sz_le i
    have hl := hw.lt_le i p
    refine ⟨0, vp_updL X 0 (nn (lt b i p)).toInt64, nn (lt b i p), ?_, ?_, fun _ => rfl⟩
    · unfold f_L_letter f_X8_letter
      rw [xb_l _ _ _ e1 rfl, s_letterAt hw hc (by omega) (by omega), Option.bind_some, rc_of (ch_nn (by omega)), Option.bind_some, bL]
    · unfold f_X9_letter
      rw [e2, Option.bind_some, if_neg (by first | decide | exact d_a | exact d_b)]
      unfold f_X9_letter_J15
      rw [if_neg (fun z => z rfl), r_at hw hr hi hp, Option.bind_some, i2c_nn (by omega), rc_of (ch_nn (by omega)), Option.bind_some]
  · refine ⟨1, X, 0, ?_, ?_, fun z => absurd z (by decide)⟩
    · unfold f_L_letter f_X8_letter
      rw [xb_r _ _ _ e1 rfl, bR, if_pos rfl]
    · unfold f_X9_letter
      rw [e2, Option.bind_some, if_pos (by first | decide | exact d_a | exact d_b)]
      unfold f_X9_letter_J15
      rw [if_pos (by decide)]
theorem q_ending (hw : Wf b) (hr : RB A 0 b) (ho : OR L P en (ord b)) (X : Nat → Int64) (O : Nat → Int32) (x : Int32) (z : Int32) : ∃ k X' r O' om, f_L_ending X L P en x z = some (k, X') ∧ f_X9_ending A O x z = some (r, O', k, om) ∧ (k = 0 → X' 0 = r.toInt64) := by
  have h8 := hw.1
  have hl := (ord_good hw).2.2
  obtain ⟨O', o1, o2⟩ := r_orders hw hr O
  rcases rankQ hw ho x with ⟨k, e, he, rfl, e1, e2⟩ | ⟨_, e1, e2⟩
  · have hkl := (List.getElem?_eq_some_iff.mp he).1
    have hv : vld b e := ((ord_good hw).2.1 e).mp (List.mem_of_getElem? he)
    have hi := sz_in hv
    have h10 := hw.sz_le e.1
    have hv' : e.2 < sz b e.1 := hv
    refine ⟨0, vp_updL X 0 (if z = 0 then nn e.1 else nn e.2).toInt64, if z = 0 then nn e.1 else nn e.2, O', nn (ord b).length, ?_, ?_, fun _ => rfl⟩
    · unfold f_L_ending f_X8_ending
      rw [xb_l _ _ _ e1 rfl, s_lineAt hl ho he, s_placeAt hl ho he]
      by_cases q : z = 0
      · rw [if_pos q, if_pos q, Option.bind_some, bL]
      · rw [if_neg q, if_neg q, Option.bind_some, bL]
    · unfold f_X9_ending
      rw [o1, Option.bind_some, e2, Option.bind_some, if_neg (by first | decide | exact d_a | exact d_b)]
      unfold f_X9_ending_J24
      have o3 : (O', nn (ord b).length).1 k = nn (10 * e.1 + e.2) := o2 k e he
      rw [if_pos rfl, ldi_nn (by omega) (by omega), o3]
      by_cases q : z = 0
      · rw [if_pos q, if_pos q, Option.bind_some, nl10, nn_div (by omega) (by omega), show (10 * e.1 + e.2) / 10 = e.1 by omega]
      · rw [if_neg q, if_neg q, Option.bind_some, nl10, nn_div (by omega) (by omega), nn_mul, nn_sub (by omega), show 10 * e.1 + e.2 - (10 * e.1 + e.2) / 10 * 10 = e.2 by omega]
  · refine ⟨1, X, 0, O', nn (ord b).length, ?_, ?_, fun z => absurd z (by decide)⟩
    · unfold f_L_ending f_X8_ending
      rw [xb_r _ _ _ e1 rfl, bR, if_pos rfl]
    · unfold f_X9_ending
      rw [o1, Option.bind_some, e2, Option.bind_some, if_pos (by first | decide | exact d_a | exact d_b)]
      unfold f_X9_ending_J24
      rw [if_neg (by decide)]
theorem q_rank (hw : Wf b) (hc : CB F S n b) (hr : RB A 0 b) (ho : OR L P en (ord b)) (X : Nat → Int64) (O : Nat → Int32) (om x y : Int32) : ∃ k X' r O' om', f_L_rank X S n L P en x y = some (k, X') ∧ f_X9_rank A O om x y = some (r, O', k, om') ∧ (k = 0 → X' 0 = r.toInt64) := by
  have h8 := hw.1
  rcases place hw hc hr x y with ⟨i, p, hp, rfl, rfl, e1, e2⟩ | ⟨e1, e2⟩
  · obtain ⟨O', o1⟩ := r_rankOf hw hr O hp
    refine ⟨0, vp_updL X 0 (nn (rk b i p)).toInt64, nn (rk b i p), O', nn (ord b).length, ?_, ?_, fun _ => rfl⟩
    · unfold f_L_rank f_X8_rank
      rw [xb_l _ _ _ e1 rfl, s_rankOf hw ho hp, Option.bind_some, bL]
    · unfold f_X9_rank
      rw [e2, Option.bind_some, if_neg (by first | decide | exact d_a | exact d_b)]
      unfold f_X9_rank_J15
      rw [if_neg (fun z => z rfl), o1, Option.bind_some]
  · refine ⟨1, X, 0, O, om, ?_, ?_, fun z => absurd z (by decide)⟩
    · unfold f_L_rank f_X8_rank
      rw [xb_r _ _ _ e1 rfl, bR, if_pos rfl]
    · unfold f_X9_rank
      rw [e2, Option.bind_some, if_pos (by first | decide | exact d_a | exact d_b)]
      unfold f_X9_rank_J15
      rw [if_pos (by decide)]
theorem q_rankAgain (hw : Wf b) (hc : CB F S n b) (hr : RB A 0 b) (X : Nat → Int64) (O : Nat → Int32) (om x y : Int32) : ∃ k X' r O' om', f_L_rankAgain X F S n x y = some (k, X') ∧ f_X9_rankAgain A O om x y = some (r, O', k, om') ∧ (k = 0 → X' 0 = r.toInt64) := by
  have h8 := hw.1
  rcases place hw hc hr x y with ⟨i, p, hp, rfl, rfl, e1, e2⟩ | ⟨e1, e2⟩
  · have hi := sz_in hp
    have h10 := hw.sz_le i
    obtain ⟨O', o1⟩ := r_rankOf hw hr O hp
    refine ⟨0, vp_updL X 0 (nn (rk b i p)).toInt64, nn (rk b i p), O', nn (ord b).length, ?_, ?_, fun _ => rfl⟩
    · unfold f_L_rankAgain f_X8_rankAgain
      rw [xb_l _ _ _ e1 rfl, s_rankAgain hw hc (by omega) (by omega), Option.bind_some, bL]
    · unfold f_X9_rankAgain f_X9_rank
      rw [e2, Option.bind_some, if_neg (by first | decide | exact d_a | exact d_b)]
      unfold f_X9_rank_J15
      rw [if_neg (fun z => z rfl), o1, Option.bind_some, Option.bind_some]
  · refine ⟨1, X, 0, O, om, ?_, ?_, fun z => absurd z (by decide)⟩
    · unfold f_L_rankAgain f_X8_rankAgain
      rw [xb_r _ _ _ e1 rfl, bR, if_pos rfl]
    · unfold f_X9_rankAgain f_X9_rank
      rw [e2, Option.bind_some, if_pos (by first | decide | exact d_a | exact d_b)]
      unfold f_X9_rank_J15
      rw [if_pos (by decide), Option.bind_some]
theorem q_common (hw : Wf b) (hr : RB A 0 b) (ho : OR L P en (ord b)) (hm : CM M b (ord b)) (X : Nat → Int64) (O : Nat → Int32) (x : Int32) : ∃ k X' r O' om', f_L_common X M en x = some (k, X') ∧ f_X9_common A O x = some (r, O', k, om') ∧ (k = 0 → X' 0 = r.toInt64) := by
  have h8 := hw.1
  have hl := (ord_good hw).2.2
  obtain ⟨O', o1, o2⟩ := r_orders hw hr O
  rcases rankQ hw ho x with ⟨k, e, he, rfl, e1, _⟩ | ⟨h, e1, _⟩
  · have hkl := (List.getElem?_eq_some_iff.mp he).1
    by_cases hk : k = 0
    · subst hk
      refine ⟨1, X, 0, O', nn (ord b).length, ?_, ?_, fun z => absurd z (by decide)⟩
      · unfold f_L_common f_X8_common
        rw [xb_l _ _ _ e1 rfl, if_neg (fun z => z rfl), bR, if_pos rfl]
      · unfold f_X9_common
        rw [o1, Option.bind_some]
        have : f_X9_in (nn 0) 1 ((O', nn (ord b).length).2 - 1) = some 0 := by
          unfold f_X9_in
          rw [if_pos (by decide)]
        rw [this, Option.bind_some, if_pos rfl]
        unfold f_X9_common_J24
        rw [if_pos (by decide)]
    · have hcc : M k = nn (cc b k) := hm k (by omega) hkl
      refine ⟨0, vp_updL X 0 (nn (cc b k)).toInt64, nn (cc b k), O', nn (ord b).length, ?_, ?_, fun _ => rfl⟩
      · unfold f_L_common f_X8_common f_X3_commonAt
        rw [xb_l _ _ _ e1 rfl, if_pos (by rw [nl0, nn_eq (by omega) (by omega)]; exact hk), s_hasRank hl ho (by omega), if_pos hkl, Option.bind_some, if_neg (by decide), ldi_nn (by omega) (by omega), hcc, Option.bind_some, Option.bind_some, bL]
      · unfold f_X9_common
        rw [o1, Option.bind_some]
        have : f_X9_in (nn k) 1 ((O', nn (ord b).length).2 - 1) = some (nn 1) := by
          show f_X9_in (nn k) (nn 1) (nn (ord b).length - nn 1) = some (nn 1)
          rw [nn_sub (by omega), r_in (by omega) (by omega) (by omega), if_pos (by omega)]
        rw [this, Option.bind_some, if_neg (by first | decide | exact d_a | exact d_b)]
        unfold f_X9_common_J24
        rw [if_neg (fun z => z rfl), r_common1 hw hr o2 (by omega) hkl, Option.bind_some]
  · refine ⟨1, X, 0, O', nn (ord b).length, ?_, ?_, fun z => absurd z (by decide)⟩
    · unfold f_L_common f_X8_common
      rw [xb_r _ _ _ e1 rfl, bR, if_pos rfl]
    · unfold f_X9_common
      rw [o1, Option.bind_some]
      have : f_X9_in x 1 ((O', nn (ord b).length).2 - 1) = some 0 := out_in1 (by omega) h
      rw [this, Option.bind_some, if_pos rfl]
      unfold f_X9_common_J24
      rw [if_pos (by decide)]
theorem q_commonOf (hw : Wf b) (hc : CB F S n b) (hr : RB A 0 b) (X : Nat → Int64) (x y x2 y2 : Int32) : ∃ k X' r, f_L_commonOf X F S n x y x2 y2 = some (k, X') ∧ f_X9_commonOf A x y x2 y2 = some (r, k) ∧ (k = 0 → X' 0 = r.toInt64) := by
  have h8 := hw.1
  have hbad : f_X8_commonOf F S n x y x2 y2 = some (.inr "java/lang/IndexOutOfBoundsException") → f_X9_commonOf A x y x2 y2 = some (0, 1) → ∃ k X' r, f_L_commonOf X F S n x y x2 y2 = some (k, X') ∧ f_X9_commonOf A x y x2 y2 = some (r, k) ∧ (k = 0 → X' 0 = r.toInt64) := by
    intro h1 h2
    refine ⟨1, X, 0, ?_, h2, fun z => absurd z (by decide)⟩
    unfold f_L_commonOf
    rw [h1, bR, if_pos rfl]
  rcases place hw hc hr x y with ⟨i, p, hp, rfl, rfl, e1, e2⟩ | ⟨e1, e2⟩
  · rcases place hw hc hr x2 y2 with ⟨j, q, hq, rfl, rfl, e3, e4⟩ | ⟨e3, e4⟩
    · have hi := sz_in hp
      have hj := sz_in hq
      have h10 := hw.sz_le i
      have h11 := hw.sz_le j
      refine ⟨0, vp_updL X 0 (nn (cpl (sfx b i p) (sfx b j q))).toInt64, nn (cpl (sfx b i p) (sfx b j q)), ?_, ?_, fun _ => rfl⟩
      · unfold f_L_commonOf f_X8_commonOf
        rw [xb_l _ _ _ e1 rfl, xb_l _ _ _ e3 rfl, s_same hw hc (by omega) (by omega) (by omega) (by omega), Option.bind_some, bL]
      · unfold f_X9_commonOf
        rw [e2, Option.bind_some, if_neg (by first | decide | exact d_a | exact d_b), e4, Option.bind_some, if_neg (by first | decide | exact d_a | exact d_b)]
        unfold f_X9_commonOf_J25
        rw [if_neg (fun z => z rfl), nl10, nn_mul, nn_mul, nn_add, nn_add, r_front hw hr hi hj hp hq, Option.bind_some]
    · refine hbad ?_ ?_
      · unfold f_X8_commonOf
        rw [xb_l _ _ _ e1 rfl, xb_r _ _ _ e3 rfl]
      · unfold f_X9_commonOf
        rw [e2, Option.bind_some, if_neg (by first | decide | exact d_a | exact d_b), e4, Option.bind_some, if_pos (by first | decide | exact d_a | exact d_b)]
        unfold f_X9_commonOf_J24 f_X9_commonOf_J25
        rw [if_pos (by decide)]
  · refine hbad ?_ ?_
    · unfold f_X8_commonOf
      rw [xb_r _ _ _ e1 rfl]
    · unfold f_X9_commonOf
      rw [e2, Option.bind_some, if_pos (by first | decide | exact d_a | exact d_b)]
      unfold f_X9_commonOf_J24 f_X9_commonOf_J25
      rw [if_pos (by decide)]
end ASK
