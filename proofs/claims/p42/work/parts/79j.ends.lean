/-! THE LAW'S THIRD LOOP: ending by ending -/
def cc0 (b : Bk) (k : Nat) : Nat := if k = 0 then 0 else cc b k
def lrk (a : Nat) : Int32 := if a = 0 then -2000 else nn (a - 1)
theorem cc0_le {b : Bk} (hw : Wf b) (k : Nat) : cc0 b k ≤ 10 := by
  unfold cc0
  by_cases h : k = 0
  · rw [if_pos h]; omega
  · rw [if_neg h]; exact cc_le hw k
theorem mx_congr {f g : Nat → Nat} : ∀ (m k : Nat), (∀ x, k ≤ x → x < k + m → f x = g x) → mx f k m = mx g k m
  | 0, k, h => rfl
  | m + 1, k, h => by
    rw [mxS, mxS, h k (Nat.le_refl _) (by omega), mx_congr m (k + 1) (fun x h1 h2 => h x (by omega) (by omega))]
theorem cc0_1 {b : Bk} {x : Nat} (h : 1 ≤ x) : cc0 b x = cc b x := by
  unfold cc0
  rw [if_neg (by omega)]
theorem t1_sm (f g : Nat → Nat) (h0 : f 0 = 0) (h : ∀ x, 1 ≤ x → f x = g x) (T : Nat) : sm f 0 (T - 0) = sm g 1 (T - 1) := by
  cases T with
  | zero => rfl
  | succ T =>
    rw [sm_go _ (by omega), h0, Nat.zero_add]
    exact sm_congr _ _ (fun x h1 _ => h x h1)
theorem t1_mx (f g : Nat → Nat) (h0 : f 0 = 0) (h : ∀ x, 1 ≤ x → f x = g x) (T : Nat) : mx f 0 (T - 0) = mx g 1 (T - 1) := by
  cases T with
  | zero => rfl
  | succ T =>
    rw [mx_go _ (by omega), h0, Nat.zero_max]
    exact mx_congr _ _ (fun x h1 _ => h x h1)
theorem cc0_sc (b : Bk) : sm (cc0 b) 0 ((ord b).length - 0) = sc b := t1_sm _ _ rfl (fun x h => cc0_1 h) _
theorem cc0_rc (b : Bk) : sm (fun k => one (decide (0 < cc0 b k))) 0 ((ord b).length - 0) = rc1 b := t1_sm _ _ rfl (fun x h => by rw [cc0_1 h]) _
theorem cc0_lc (b : Bk) : mx (cc0 b) 0 ((ord b).length - 0) = lc b := t1_mx _ _ rfl (fun x h => cc0_1 h) _
theorem cc0_flr {b : Bk} (h : lc b ≠ 0) : lst (fun p => decide (cc0 b p = lc b)) 0 ((ord b).length - 0) = flr b := by
  unfold flr
  cases hT : (ord b).length with
  | zero => exact absurd (by unfold lc; rw [hT]; rfl) h
  | succ T =>
    rw [lst_go _ (by omega), if_neg (by
      rw [decide_eq_true_iff]
      exact fun y => h y.symm)]
    exact lst_congr _ _ (fun x h1 _ => by rw [cc0_1 h1])
section LEN
variable {F S L P M C : Nat → Int32} {n en l hs : Int32} {b : Bk} {w v : List Nat} {i j p q k m : Nat} {E : Nat → Option (List Int32)} {A : Nat → Int32}
theorem l1072 (hw : Wf b) (hE : EW b (ord b) E A) {e : En} (he : (ord b)[k]? = some e) (hk : k < 90) {h4 : List Nat} (h4l : h4.length = 4) (ht : TXx C l (h4 ++ sx b e)) (kk : Int32 → Option Unit) : ∀ (fuel q : Nat), q ≤ (sx b e).length → (sx b e).length < fuel + q → f_L_law_L1072 (nn k) 90 E C l fuel (nn q) kk = kk (nn (sx b e).length)
  | 0, q, h1, h2 => by omega
  | fuel + 1, q, h1, h2 => by
    have hlt : LT (sx b e) := hw.lt_sfx e.1 e.2
    have h10 := hlt.1
    rw [f_L_law_L1072, rld_nn (by omega) hk, (hE k e he).1, Option.bind_some]
    simp only [tx_len, nI_nn]
    by_cases z : q < (sx b e).length
    · have e1 := x_char (q := 4 + q) ht (by rw [List.length_append]; omega)
      rw [getD_app, if_neg (by omega), h4l, show 4 + q - 4 = q by omega] at e1
      rw [if_neg (nnle (by omega) (by omega) (by omega)), nl4, nn_add, e1, bL]
      simp only [Option.bind_some, tx_len]
      rw [tx_at z (by omega), Option.bind_some, if_pos rfl, nn_s1]
      exact l1072 hw hE he hk h4l ht kk fuel (q + 1) (by omega) (by omega)
    · rw [if_pos (nle (by omega) (by omega) (by omega)), show q = (sx b e).length by omega]
theorem l1315 (hw : Wf b) (hE : EW b (ord b) E A) {e : En} (hk : k < 90) (he : (ord b)[k]? = some e) (hlc : lc b ≤ (sx b e).length) (ht : TXx C l ((sx b e).take (lc b))) (kk : Int32 → Option Unit) : ∀ (fuel q : Nat), q ≤ lc b → lc b < fuel + q → f_L_law_L1315 (nn (lc b)) (nn k) 90 E C l fuel (nn q) kk = kk (nn (lc b))
  | 0, q, h1, h2 => by omega
  | fuel + 1, q, h1, h2 => by
    have hlt : LT (sx b e) := hw.lt_sfx e.1 e.2
    have h10 := hlt.1
    rw [f_L_law_L1315]
    by_cases z : q < lc b
    · have e1 := x_char (q := q) ht (by rw [List.length_take]; omega)
      have e2 : ((sx b e).take (lc b)).getD q 0 = (sx b e).getD q 0 := by
        rw [List.getD_eq_getElem?_getD, List.getD_eq_getElem?_getD, List.getElem?_take_of_lt z]
      rw [e2] at e1
      rw [if_neg (nnle (by omega) (by omega) (by omega)), e1, bL, rld_nn (by omega) hk, (hE k e he).1, Option.bind_some]
      simp only [tx_len]
      rw [tx_at (by omega) (by omega), Option.bind_some, if_pos rfl, nn_s1]
      exact l1315 hw hE hk he hlc ht kk fuel (q + 1) (by omega) (by omega)
    · rw [if_pos (nle (by omega) (by omega) (by omega)), show q = lc b by omega]
theorem l891 (hw : Wf b) (hc : CB F S n b) (ho : OR L P en (ord b)) (hm : CM M b (ord b)) (hE : EW b (ord b) E A) (kk : Int32 → Int32 → Int32 → Int32 → Int32 → Int32 → (Nat → Int32) → Int32 → Option Unit) : ∀ (fuel k a5 a6 m a a12 : Nat) (C : Nat → Int32) (l : Int32), k ≤ (ord b).length → (ord b).length < fuel + k → m ≤ 10 → ∃ C' l', f_L_law_L891 (nn (ord b).length) 90 E A F S n L P M en fuel (nn a5) (nn a6) (nn m) (lrk a) (nn a12) (nn k) C l kk = kk (nn (a5 + sm (cc0 b) k ((ord b).length - k))) (nn (a6 + sm (fun k => one (decide (0 < cc0 b k))) k ((ord b).length - k))) (nn (am (cc0 b) m a k ((ord b).length - k)).1) (lrk (am (cc0 b) m a k ((ord b).length - k)).2) (nn (a12 + sm (ad b (ord b)) k ((ord b).length - k))) (nn (ord b).length) C' l'
  | 0, k, a5, a6, m, a, a12, C, l, h1, h2, h3 => by omega
  | fuel + 1, k, a5, a6, m, a, a12, C, l, h1, h2, h3 => by
    have h8 := hw.1
    have hl := (ord_good hw).2.2
    rw [f_L_law_L891]
    by_cases q : k < (ord b).length
    · obtain ⟨e, he⟩ : ∃ e, (ord b)[k]? = some e := ⟨_, List.getElem?_eq_getElem q⟩
      have hv : e.2 < sz b e.1 := ((ord_good hw).2.1 e).mp (List.mem_of_getElem? he)
      have hi := sz_in hv
      have h10 := hw.sz_le e.1
      have hE1 : rld E 90 (nn k) = some (tx (sx b e)) := by rw [rld_nn (by omega) (by omega), (hE k e he).1]
      have hA1 : ldi A 90 (nn k) = some (nn (10 * e.1 + e.2)) := by rw [ldi_nn (by omega) (by omega), (hE k e he).2]
      have d1 : nn (10 * e.1 + e.2) / 10 = nn e.1 := by rw [nl10, nn_div (by omega) (by omega), show (10 * e.1 + e.2) / 10 = e.1 by omega]
      have d2 : nn (10 * e.1 + e.2) - nn e.1 * 10 = nn e.2 := by rw [nl10, nn_mul, nn_sub (by omega), show 10 * e.1 + e.2 - e.1 * 10 = e.2 by omega]
      have f1 := y_ending hw ho he
      have f2 := x_rank (n := n) (S := S) hw hc ho hv
      have f3 := x_rankAgain hw hc hv
      rw [rk_at hw he] at f2 f3
      obtain ⟨C1, f4, f5⟩ := x_write hw hc ho C l he
      have hsl : (sx b e).length = sz b e.1 - e.2 := sfx_len b e.1 e.2
      have f6 : (4 : Int32) + nn (sx b e).length = nn (4 + (sz b e.1 - e.2)) := by rw [hsl, nl4, nn_add]
      have f7 : f_X8_character C1 (nn (4 + (sz b e.1 - e.2))) 0 = some (.inl (nn (48 + e.1))) := x_char (q := 0) f5 (by simp)
      have f8 : f_X8_character C1 (nn (4 + (sz b e.1 - e.2))) 2 = some (.inl (nn (48 + e.2))) := x_char (q := 2) f5 (by simp)
      have f9 : (48 : Int32) + nn e.1 = nn (48 + e.1) := by rw [nl48, nn_add]
      have f10 : (48 : Int32) + nn e.2 = nn (48 + e.2) := by rw [nl48, nn_add]
      have had : ad b (ord b) k = (sx b e).length - cc0 b k := by
        unfold ad cc0 cc
        rw [List.getD_eq_getElem?_getD, he]
        rfl
      have hcl : cc0 b k ≤ (sx b e).length := by
        unfold cc0 cc
        by_cases z : k = 0
        · rw [if_pos z]; exact Nat.zero_le _
        · rw [if_neg z]
          have := cmn_len (b := b) (l := ord b) (k := k)
          rw [List.getD_eq_getElem?_getD, he] at this
          exact this
      have hc10 := cc0_le hw k
      have hsub : nn (sx b e).length - nn (cc0 b k) = nn ((sx b e).length - cc0 b k) := nn_sub hcl
      have hone : (if nn (cc0 b k) ≤ 0 then (0 : Int32) else 1) = nn (one (decide (0 < cc0 b k))) := by
        by_cases z : 0 < cc0 b k
        · rw [if_neg (show ¬ nn (cc0 b k) ≤ 0 by rw [nl0]; exact nnle (by omega) (by omega) (by omega)), one_t (decide_eq_true z)]
          rfl
        · rw [if_pos (show nn (cc0 b k) ≤ 0 by rw [nl0]; exact nle (by omega) (by omega) (by omega)), one_f (by rw [decide_eq_true_iff]; exact z)]
          rfl
      rw [if_neg (nnle (by omega) (by omega) (by omega)), sm_go _ q, sm_go _ q, sm_go _ q, ← Nat.add_assoc, ← Nat.add_assoc, ← Nat.add_assoc, had, show (ord b).length - k = ((ord b).length - (k + 1)) + 1 by omega, amS]
      have g2 : ∀ K, f_L_law_L1072 (nn k) 90 E C1 (nn (4 + (sz b e.1 - e.2))) 11 0 K = K (nn (sx b e).length) := fun K => l1072 hw hE he (by omega) (h4 := [48 + e.1, 47, 48 + e.2, 58]) rfl f5 K 11 0 (Nat.zero_le _) (by omega)
      have j1 : nn a5 + nn (cc0 b k) = nn (a5 + cc0 b k) := nn_add _ _
      have j2 : nn a6 + nn (one (decide (0 < cc0 b k))) = nn (a6 + one (decide (0 < cc0 b k))) := nn_add _ _
      have j3 : nn a12 + nn ((sx b e).length - cc0 b k) = nn (a12 + ((sx b e).length - cc0 b k)) := nn_add _ _
      by_cases hk0 : k = 0
      · have hz : (nn k = (0 : Int32)) = True := by rw [hk0]; exact eq_true rfl
        have g1 : f_L_common M en (nn k) = some (-2000) := by rw [hk0]; exact y_common0 hw ho (by omega)
        have z0 : cc0 b k = 0 := by rw [hk0]; rfl
        simp only [hz, f1, hE1, hA1, d1, d2, f2, f3, f4, f6, f7, f8, f9, f10, g1, g2, tx_len, nI_nn, Option.bind_some, Sum.elim_inl, not_true_eq_false, if_false, if_true]
        have i1 : nn a5 + 0 = nn (a5 + cc0 b k) := by rw [z0]; exact nn_add a5 0
        have i2 : nn a6 + 0 = nn (a6 + one (decide (0 < cc0 b k))) := by rw [z0]; exact nn_add a6 0
        have i3 : nn a12 + (nn (sx b e).length - 0) = nn (a12 + ((sx b e).length - cc0 b k)) := by
          rw [z0, show nn (sx b e).length - 0 = nn ((sx b e).length - 0) from nn_sub (b := 0) (Nat.zero_le _)]
          exact nn_add _ _
        rw [if_pos (nn_pos (by omega)), if_neg (show ¬ m < cc0 b k by omega), i1, i2, i3, nn_s1]
        exact l891 hw hc ho hm hE kk fuel (k + 1) _ _ m a _ C1 _ (by omega) (by omega) h3
      · have hkm : (ord b)[k - 1]? = some (ord b)[k - 1] := List.getElem?_eq_getElem (by omega)
        have hE0 : rld E 90 (nn k - 1) = some (tx (sx b (ord b)[k - 1])) := by rw [show nn k - 1 = nn (k - 1) from nn_sub (b := 1) (by omega), rld_nn (by omega) (by omega), (hE _ _ hkm).1]
        have g0 : f_L_alike (tx (sx b (ord b)[k - 1])) (tx (sx b e)) = some (nn (cc0 b k)) := by
          refine (l_alike (hw.lt_sfx _ _) (hw.lt_sfx _ _)).trans ?_
          rw [cc0_1 (by omega)]
          exact congrArg (fun z => some (nn z)) (cmn_at hkm he).symm
        have g1 : f_L_common M en (nn k) = some (nn (cc0 b k)) := by rw [cc0_1 (by omega)]; exact y_common hw ho hm q hk0
        have hkn : ¬ nn k = 0 := by rw [nl0, nn_eq (by omega) (by omega)]; exact hk0
        simp only [f1, hE0, hE1, hA1, d1, d2, f2, f3, f4, f6, f7, f8, f9, f10, g0, g1, g2, hkn, hsub, hone, j1, j2, j3, tx_len, nI_nn, Option.bind_some, Sum.elim_inl, not_true_eq_false, not_false_eq_true, if_false, if_true, nn_s1]
        by_cases y : m < cc0 b k
        · have hr : nn k - 1 = lrk k := by
            unfold lrk
            rw [if_neg hk0]
            exact nn_sub (b := 1) (by omega)
          rw [if_neg (nnle (by omega) (by omega) (by omega)), if_pos y, hr]
          exact l891 hw hc ho hm hE kk fuel (k + 1) _ _ _ k _ C1 _ (by omega) (by omega) hc10
        · rw [if_pos (nle (by omega) (by omega) (by omega)), if_neg y]
          exact l891 hw hc ho hm hE kk fuel (k + 1) _ _ m a _ C1 _ (by omega) (by omega) h3
    · refine ⟨C, l, ?_⟩
      rw [if_pos (nle (by omega) (by omega) (by omega)), show k = (ord b).length by omega, Nat.sub_self]
      rfl
theorem l891' (hw : Wf b) (hc : CB F S n b) (ho : OR L P en (ord b)) (hm : CM M b (ord b)) (hE : EW b (ord b) E A) (kk : Int32 → Int32 → Int32 → Int32 → Int32 → Int32 → (Nat → Int32) → Int32 → Option Unit) (C : Nat → Int32) (l : Int32) : ∃ C' l', f_L_law_L891 (nn (ord b).length) 90 E A F S n L P M en 82 0 0 0 (-2000) 0 0 C l kk = kk (nn (sc b)) (nn (rc1 b)) (nn (lc b)) (if lc b = 0 then -2000 else nn (flr b - 1)) (nn (cnew b)) (nn (ord b).length) C' l' := by
  have hl := (ord_good hw).2.2
  obtain ⟨C', l', e⟩ := l891 hw hc ho hm hE kk 82 0 0 0 0 0 0 C l (Nat.zero_le _) (by omega) (by omega)
  have h1 : (am (cc0 b) 0 0 0 ((ord b).length - 0)).1 = lc b := by rw [am_fst, cc0_lc, Nat.zero_max]
  have h2 : lrk (am (cc0 b) 0 0 0 ((ord b).length - 0)).2 = if lc b = 0 then -2000 else nn (flr b - 1) := by
    obtain ⟨g1, g2⟩ := am_snd (cc0 b) ((ord b).length - 0) 0 0 0
    rw [cc0_lc] at g1 g2
    by_cases h : lc b = 0
    · rw [g2 (by omega), if_pos h]
      rfl
    · rw [g1 (by omega), if_neg h, cc0_flr h]
      have := (flr_at hw h).1
      unfold lrk
      rw [if_neg (by omega)]
  rw [cc0_sc, cc0_rc, h1, h2, ← cnew_ord hw, Nat.zero_add, Nat.zero_add, Nat.zero_add] at e
  exact ⟨C', l', e⟩
end LEN
