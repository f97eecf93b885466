/-! THE LAW'S WORD AT THE END -/
theorem pfx_iff : ∀ (u w : List Nat), (∀ x ∈ w, 1 ≤ x) → (pfx u w = true ↔ w.length ≤ cpl u w)
  | u, [], _ => by
    unfold pfx
    rw [cmw_nil]
    exact ⟨fun _ => Nat.zero_le _, fun _ => rfl⟩
  | [], c :: w, h => by
    unfold pfx
    rw [cmw_nil', cpl_nil, decide_eq_true_iff, List.length_cons]
    have := h c List.mem_cons_self
    exact ⟨fun e => absurd (show (0 : Nat) = c from e) (by omega), fun e => absurd e (by omega)⟩
  | a :: u, c :: w, h => by
    have ih := pfx_iff u w (fun x hx => h x (List.mem_cons_of_mem _ hx))
    unfold pfx at ih ⊢
    rw [cmw_cons, cpl_cons, List.length_cons]
    by_cases e : a = c
    · rw [if_pos e, if_pos e, ih]
      omega
    · rw [if_neg e, if_neg e, decide_eq_true_iff]
      exact ⟨fun y => absurd (show a = c from y) e, fun y => absurd y (by omega)⟩
section LEW
variable {F S L P M C : Nat → Int32} {n en l hs : Int32} {b : Bk} {w v : List Nat} {i j p q k m : Nat} {E : Nat → Option (List Int32)} {A : Nat → Int32}
theorem wln_iff (hw1 : ∀ x ∈ w, 1 ≤ x) (i : Nat) : wln b w i = true ↔ ln b i = w := by
  unfold wln
  rw [Bool.and_eq_true, decide_eq_true_iff, pfx_iff _ _ hw1, sfx0]
  constructor
  · rintro ⟨h1, h2⟩
    have h3 := cpl_le (ln b i) w
    have h1' : (ln b i).length = w.length := h1
    exact cpl_eq _ _ (by omega) h1'
  · intro h
    unfold sz
    rw [h, cpl_self]
    exact ⟨rfl, Nat.le_refl _⟩
theorem cntw_sm (b : Bk) (w : List Nat) : cntw b w = sm (fun k => one (pfx (sx b ((ord b).getD k (0, 0))) w)) 0 ((ord b).length - 0) := by
  have h1 := cnt_ord (fun e => pfx (sx b e) w) b
  have h2 := cnt_idx (fun e => pfx (sx b e) w) (0, 0) (ord b) ((ord b).length - 0) 0 (by omega)
  rw [List.drop_zero] at h2
  rw [← h2, h1]
  rfl
theorem l1434 (hw : Wf b) (hc : CB F S n b) (ho : OR L P en (ord b)) (hu : LT w) (kk : Int32 → Int32 → Int32 → Option Unit) : ∀ (fuel k a f : Nat), k ≤ (ord b).length → (ord b).length < fuel + k → f < 1000 → f_L_law_L1434 (tx w) (nn (ord b).length) F S n L P en fuel (nn a) (lrk f) (nn k) kk = kk (nn (a + sm (fun k => one (pfx (sx b ((ord b).getD k (0, 0))) w)) k ((ord b).length - k))) (lrk (if f = 0 then (if lst (fun k => pfx (sx b ((ord b).getD k (0, 0))) w) k ((ord b).length - k) < (ord b).length then lst (fun k => pfx (sx b ((ord b).getD k (0, 0))) w) k ((ord b).length - k) + 1 else 0) else f)) (nn (ord b).length)
  | 0, k, a, f, h1, h2, h3 => by omega
  | fuel + 1, k, a, f, h1, h2, h3 => by
    have hl := (ord_good hw).2.2
    have hw1 : ∀ x ∈ w, 1 ≤ x := fun x hx => by have := hu.2 x hx; omega
    have hw10 := hu.1
    rw [f_L_law_L1434]
    by_cases q : k < (ord b).length
    · obtain ⟨e, he⟩ : ∃ e, (ord b)[k]? = some e := ⟨_, List.getElem?_eq_getElem q⟩
      have hv : e.2 < sz b e.1 := ((ord_good hw).2.1 e).mp (List.mem_of_getElem? he)
      have hi := sz_in hv
      have h10 := hw.sz_le e.1
      have hg : (ord b).getD k (0, 0) = e := by rw [List.getD_eq_getElem?_getD, he]; rfl
      have e1 : sub1 (tx (ln b e.1)) (nn e.2) = some (tx (sx b e)) := tx_sub1 hv (by unfold sz at h10; omega)
      have hc10 := cpl_le (sx b e) w
      have hs10 : (sx b e).length ≤ 10 := (hw.lt_sfx e.1 e.2).1
      have e2 : f_L_alike (tx (sx b e)) (tx w) = some (nn (cpl (sx b e) w)) := l_alike (hw.lt_sfx e.1 e.2) hu
      rw [if_neg (nnle (by omega) (by omega) (by omega)), x_end0 hw ho he, bL, l_line hw hc hi, Option.bind_some, x_end1 hw ho he, bL, e1, Option.bind_some, e2, Option.bind_some]
      simp only [tx_len, nI_nn]
      rw [sm_go _ q, lst_go _ q, hg]
      by_cases y : pfx (sx b e) w = true
      · have hle := (pfx_iff _ _ hw1).mp y
        have hf : (if ¬ lrk f = -2000 then lrk f else nn k) = lrk (if f = 0 then k + 1 else f) := by
          by_cases z : f = 0
          · rw [if_pos z, z, if_neg (show ¬ ¬ lrk 0 = -2000 from fun y => y rfl)]
            rfl
          · rw [if_neg z]
            unfold lrk
            rw [if_neg z, if_pos (nn_n2 (by omega))]
        rw [if_pos (nle (by omega) (by omega) hle), hf, nn_s1, nn_s1, l1434 hw hc ho hu kk fuel (k + 1) (a + 1) (if f = 0 then k + 1 else f) (by omega) (by omega) (by by_cases z : f = 0 <;> simp only [z, if_true, if_false] <;> omega), one_t y, if_pos y, if_pos q, Nat.add_assoc]
        by_cases z : f = 0
        · rw [if_pos z, if_neg (show ¬ k + 1 = 0 by omega)]
        · rw [if_neg z, if_neg z]
      · have hle : ¬ w.length ≤ cpl (sx b e) w := fun h => y ((pfx_iff _ _ hw1).mpr h)
        rw [if_neg (nnle (by omega) (by omega) hle), nn_s1, l1434 hw hc ho hu kk fuel (k + 1) a f (by omega) (by omega) h3, one_f y, if_neg y, Nat.zero_add]
    · rw [if_pos (nle (by omega) (by omega) (by omega)), sm_end _ (by omega), lst_end _ (by omega), if_neg (show ¬ k < (ord b).length from q), show k = (ord b).length by omega]
      by_cases z : f = 0
      · rw [if_pos z, z]
        rfl
      · rw [if_neg z]
        rfl
theorem l1434' (hw : Wf b) (hc : CB F S n b) (ho : OR L P en (ord b)) (hu : LT w) (hwr : wrd w = true) (kk : Int32 → Int32 → Int32 → Option Unit) : f_L_law_L1434 (tx w) (nn (ord b).length) F S n L P en 82 0 (-2000) 0 kk = kk (nn (cntw b w)) (if cntw b w = 0 then -2000 else nn (wlo b w)) (nn (ord b).length) := by
  have hl := (ord_good hw).2.2
  have h := l1434 hw hc ho hu kk 82 0 0 0 (Nat.zero_le _) (by omega) (by omega)
  rw [← cntw_sm, Nat.zero_add, if_pos rfl] at h
  have e : lrk (if lst (fun k => pfx (sx b ((ord b).getD k (0, 0))) w) 0 ((ord b).length - 0) < (ord b).length then lst (fun k => pfx (sx b ((ord b).getD k (0, 0))) w) 0 ((ord b).length - 0) + 1 else 0) = (if cntw b w = 0 then -2000 else nn (wlo b w)) := by
    by_cases z : cntw b w = 0
    · rw [if_pos z, if_neg]
      · rfl
      · intro y
        have h3 := lst_yes (P := fun k => pfx (sx b ((ord b).getD k (0, 0))) w) ((ord b).length - 0) 0 (by omega)
        have h4 := cntw_sm b w
        rw [z] at h4
        have h5 : ∀ (m k x : Nat), k ≤ x → x < k + m → pfx (sx b ((ord b).getD x (0, 0))) w = true → 1 ≤ sm (fun k => one (pfx (sx b ((ord b).getD k (0, 0))) w)) k m := by
          intro m
          induction m with
          | zero => intro k x h1 h2; omega
          | succ m ih =>
            intro k x h1 h2 h3
            rw [smS]
            by_cases r : x = k
            · rw [← r, one_t h3]; omega
            · have := ih (k + 1) x (by omega) (by omega) h3
              omega
        have := h5 ((ord b).length - 0) 0 _ (Nat.zero_le _) (by omega) h3
        omega
    · obtain ⟨g1, g2⟩ := first_pfx hw hwr z
      have g3 : lst (fun k => pfx (sx b ((ord b).getD k (0, 0))) w) 0 ((ord b).length - 0) = wlo b w := by
        have t1 := lst_at (fun k => pfx (sx b ((ord b).getD k (0, 0))) w) ((ord b).length - 0) 0 (wlo b w) (Nat.zero_le _) (by omega) ((g2 _ g1).2 rfl)
        rcases Nat.lt_trichotomy (lst (fun k => pfx (sx b ((ord b).getD k (0, 0))) w) 0 ((ord b).length - 0)) (wlo b w) with r | r | r
        · exact absurd t1.2 ((g2 _ (by omega)).1 r)
        · exact r
        · exact absurd ((g2 _ g1).2 rfl) (lst_no _ _ _ (Nat.zero_le _) r)
      rw [if_neg z, g3, if_pos g1]
      rfl
  rw [e] at h
  exact h
theorem l1509 (hw : Wf b) (hc : CB F S n b) (hu : LT w) (kk : Int32 → Int32 → Option Unit) : ∀ (fuel k : Nat) (B : Bool), k ≤ b.length → b.length < fuel + k → f_L_law_L1509 (tx w) F S n l hs M en fuel (nn (one B)) (nn k) kk = kk (nn (one (B || decide (lst (wln b w) k (b.length - k) < b.length)))) (nn b.length)
  | 0, k, B, h1, h2 => by omega
  | fuel + 1, k, B, h1, h2 => by
    have h8 := hw.1
    have hw1 : ∀ x ∈ w, 1 ≤ x := fun x hx => by have := hu.2 x hx; omega
    rw [f_L_law_L1509, x_acc0 hc, bL]
    by_cases q : k < b.length
    · obtain ⟨z, z1, z2, _⟩ := l_comp (hw.lt_ln q) hu
      rw [if_neg (nnle (by omega) (by omega) (by omega)), l_line hw hc q, Option.bind_some, z1, Option.bind_some, nn_s1, lst_go _ q]
      by_cases y : z = 0
      · have hy : wln b w k = true := (wln_iff hw1 k).mpr (z2.mp y)
        rw [if_neg (fun r => r y), or_1, l1509 hw hc hu kk fuel (k + 1) true (by omega) (by omega), if_pos hy, decide_eq_true q, Bool.true_or, Bool.or_true]
      · have hy : ¬ wln b w k = true := fun r => y (z2.mpr ((wln_iff hw1 k).mp r))
        rw [if_pos y, or_0, l1509 hw hc hu kk fuel (k + 1) B (by omega) (by omega), if_neg hy]
    · rw [if_pos (nle (by omega) (by omega) (by omega)), lst_end _ (by omega), show k = b.length by omega, decide_eq_false (Nat.lt_irrefl _), Bool.or_false]
theorem l1509' (hw : Wf b) (hc : CB F S n b) (hu : LT w) (kk : Int32 → Int32 → Option Unit) : f_L_law_L1509 (tx w) F S n l hs M en 9 0 0 kk = kk (if lst (wln b w) 0 (b.length - 0) < b.length then nn 1 else nn 0) (nn b.length) := by
  have h8 := hw.1
  have h := l1509 (l := l) (hs := hs) (M := M) (en := en) hw hc hu kk 9 0 false (Nat.zero_le _) (by omega)
  have e : nn (one (false || decide (lst (wln b w) 0 (b.length - 0) < b.length))) = (if lst (wln b w) 0 (b.length - 0) < b.length then nn 1 else nn 0) := by
    by_cases z : lst (wln b w) 0 (b.length - 0) < b.length
    · rw [if_pos z, decide_eq_true z]; rfl
    · rw [if_neg z, decide_eq_false z]; rfl
  rw [e] at h
  exact h
theorem l_wl (hw : Wf b) (hc : CB F S n b) (ho : OR L P en (ord b)) (hm : CM M b (ord b)) (hE : EW b (ord b) E A) (C : Nat → Int32) (l : Int32) : ∃ C' l', f_L_writeLongest F S n L P M en C l = some (if lc b = 0 then -2000 else nn (lc b), C', l') ∧ ∀ K, f_L_law_L1315 (nn (lc b)) (if lc b = 0 then -2000 else nn (flr b - 1)) 90 E C' l' 11 0 K = K (nn (lc b)) := by
  have hl := (ord_good hw).2.2
  have hlc := lc_le hw
  obtain ⟨g1, g2⟩ := y_writeLongest hw hc ho hm C l
  by_cases h : lc b = 0
  · refine ⟨C, l, ?_, fun K => ?_⟩
    · rw [if_pos h]; exact g1 h
    · rw [f_L_law_L1315, h, if_pos (show nn 0 ≤ 0 by decide)]
      rfl
  · obtain ⟨k1, k2, k3⟩ := flr_at hw h
    obtain ⟨e, he⟩ : ∃ e, (ord b)[flr b - 1]? = some e := ⟨_, List.getElem?_eq_getElem (by omega)⟩
    obtain ⟨C', l', f1, f2, f3⟩ := g2 h e he
    refine ⟨C', l', ?_, fun K => ?_⟩
    · rw [if_neg h]; exact f1
    · rw [if_neg h]
      rw [List.length_take] at f3
      exact l1315 hw hE (by omega) he (show lc b ≤ (sfx b e.1 e.2).length by omega) f2 K 11 0 (Nat.zero_le _) (by omega)
end LEW
