/-! WHERE A TEXT LIES IN A TEXT -/
section LIX
variable {u w : List Nat}
theorem occ_le {q : Nat} (h : cpl (u.drop q) w = w.length) : w.length ≤ u.length - q := by
  have := cpl_le (u.drop q) w
  rw [List.length_drop] at this
  omega
theorem j76 (hu : LT u) (hv : LT w) {q : Nat} (hq : q + w.length ≤ u.length) (kk : Int32 → Int32 → Option Int32) : ∀ (fuel t : Nat), t ≤ w.length → w.length < fuel + t → f_J1_indexOf_5af95_L76 (nn (q + w.length)) (tx u) (tx w) fuel (nn (q + t)) (nn t) kk = kk (nn (q + (t + cpl (u.drop (q + t)) (w.drop t)))) (nn (t + cpl (u.drop (q + t)) (w.drop t)))
  | 0, t, h1, h2 => by omega
  | fuel + 1, t, h1, h2 => by
    have a1 := hu.1
    have a2 := hv.1
    rw [f_J1_indexOf_5af95_L76]
    simp only [tx_len]
    by_cases z : t < w.length
    · have b1 := hu.at (q + t)
      have b2 := hv.at t
      rw [if_neg (nnle (by omega) (by omega) (by omega)), tx_at (by omega) (by omega), Option.bind_some, tx_at z (by omega), Option.bind_some, dropc (show q + t < u.length by omega), dropc z, cpl_cons]
      by_cases e : u.getD (q + t) 0 = w.getD t 0
      · rw [if_neg (by rw [e]; exact fun y => y rfl), if_pos e, nn_s1, nn_s1, show q + t + 1 = q + (t + 1) by omega, j76 hu hv hq kk fuel (t + 1) (by omega) (by omega), show t + 1 + cpl (u.drop (q + (t + 1))) (w.drop (t + 1)) = t + (cpl (u.drop (q + (t + 1))) (w.drop (t + 1)) + 1) by omega]
      · rw [if_pos (by rw [nn_eq (by omega) (by omega)]; exact e), if_neg e]
        rfl
    · rw [if_pos (nle (by omega) (by omega) (by omega)), List.drop_eq_nil_of_le (show w.length ≤ t by omega), cpl_nil']
      rfl
theorem j30 (hu : LT u) (hv : LT w) {d : Nat} (hd : d + w.length = u.length) (h1w : 1 ≤ w.length) (kk : Int32 → Option Int32) : ∀ (fuel q : Nat), q ≤ d → d + 1 < fuel + q → f_J1_indexOf_5af95_L30 (nn (w.getD 0 0)) (nn d) (tx u) fuel (nn q) kk = kk (nn (lst (fun k => decide (u.getD k 0 = w.getD 0 0)) (q + 1) (d + 1 - (q + 1))))
  | 0, q, h1, h2 => by omega
  | fuel + 1, q, h1, h2 => by
    have a1 := hu.1
    have a2 := hv.1
    rw [f_J1_indexOf_5af95_L30]
    simp only [tx_len, nn_s1]
    by_cases z : q + 1 < d + 1
    · have b1 := hu.at (q + 1)
      have b2 := hv.at 0
      rw [if_neg (by rw [nn_lt (by omega) (by omega)]; omega), tx_at (by omega) (by omega), Option.bind_some, lst_go _ z]
      by_cases e : u.getD (q + 1) 0 = w.getD 0 0
      · rw [if_pos (by rw [e]), if_pos (decide_eq_true e)]
      · rw [if_neg (by rw [nn_eq (by omega) (by omega)]; exact e), if_neg (by rw [decide_eq_true_iff]; exact e), j30 hu hv hd h1w kk fuel (q + 1) (by omega) (by omega)]
    · rw [if_pos (by rw [nn_lt (by omega) (by omega)]; omega), lst_end _ (by omega)]
theorem lst_no {P : Nat → Bool} : ∀ (m k x : Nat), k ≤ x → x < lst P k m → ¬ P x = true
  | 0, k, x, h1, h2 => by
    have : lst P k 0 = k := rfl
    omega
  | m + 1, k, x, h1, h2 => by
    rw [lstS] at h2
    by_cases q : P k = true
    · rw [if_pos q] at h2
      omega
    · rw [if_neg q] at h2
      by_cases e : x = k
      · rw [e]; exact q
      · exact lst_no m (k + 1) x (by omega) h2
theorem lst_yes {P : Nat → Bool} : ∀ (m k : Nat), lst P k m < k + m → P (lst P k m) = true
  | 0, k, h => absurd h (by have : lst P k 0 = k := rfl; omega)
  | m + 1, k, h => by
    rw [lstS] at h ⊢
    by_cases q : P k = true
    · rw [if_pos q]; exact q
    · rw [if_neg q] at h ⊢
      exact lst_yes m (k + 1) (by omega)
theorem occ_hd (hu : LT u) {q : Nat} (h1w : 1 ≤ w.length) (h : cpl (u.drop q) w = w.length) : u.getD q 0 = w.getD 0 0 := by
  have hl := occ_le h
  have hw0 : w = w.getD 0 0 :: w.drop 1 := by
    have := dropc (u := w) (k := 0) h1w
    rw [List.drop_zero] at this
    exact this
  rw [dropc (show q < u.length by omega)] at h
  by_cases e : u.getD q 0 = w.getD 0 0
  · exact e
  · rw [hw0, cpl_cons, if_neg e, List.length_cons] at h
    omega
theorem occ_at {q : Nat} (hq : q < u.length) (h1w : 1 ≤ w.length) (e : u.getD q 0 = w.getD 0 0) : cpl (u.drop q) w = 1 + cpl (u.drop (q + 1)) (w.drop 1) := by
  have hw0 : w = w.getD 0 0 :: w.drop 1 := by
    have := dropc (u := w) (k := 0) h1w
    rw [List.drop_zero] at this
    exact this
  rw [dropc hq]
  conv => lhs; rw [hw0]
  rw [cpl_cons, if_pos e, Nat.add_comm]
theorem j14 (hu : LT u) (hv : LT w) {d : Nat} (hd : d + w.length = u.length) (h1w : 1 ≤ w.length) : ∀ (fuel q : Nat), q ≤ d + 2 → d + 2 < fuel + q → ∃ v : Int32, f_J1_indexOf_5af95_L14 (nn (w.getD 0 0)) (nn d) (tx u) (tx w) (nn w.length) fuel (nn q) (fun _ => some (-1)) = some v ∧ (0 ≤ v ↔ ∃ q', q ≤ q' ∧ cpl (u.drop q') w = w.length)
  | 0, q, h1, h2 => by omega
  | fuel + 1, q, h1, h2 => by
    have a1 := hu.1
    have a2 := hv.1
    have hend : ∀ q, d < q → ((0 : Int32) ≤ -1 ↔ ∃ q', q ≤ q' ∧ cpl (u.drop q') w = w.length) := fun q hq => by
      refine ⟨fun h => absurd h (by decide), fun ⟨q', r1, r2⟩ => ?_⟩
      have := occ_le r2
      omega
    -- at a place r where the first letters are the same
    have key : ∀ r, q ≤ r → r ≤ d → u.getD r 0 = w.getD 0 0 → (∀ x, q ≤ x → x < r → ¬ cpl (u.drop x) w = w.length) → ∃ v : Int32, (f_J1_indexOf_5af95_L76 (((nn r + 1) + nn w.length) - 1) (tx u) (tx w) 12 (nn r + 1) 1 (fun x8_76_10 x10_76_11 => if ¬ x8_76_10 = (((nn r + 1) + nn w.length) - 1) then (f_J1_indexOf_5af95_L14 (nn (w.getD 0 0)) (nn d) (tx u) (tx w) (nn w.length) fuel (nn r + 1) (fun _ => some (-1))) else (some (nn r)))) = some v ∧ (0 ≤ v ↔ ∃ q', q ≤ q' ∧ cpl (u.drop q') w = w.length) := by
      intro r r1 r2 r3 r4
      have e1 : ((nn r + 1) + nn w.length) - 1 = nn (r + w.length) := by
        rw [nn_s1, nn_add, nl1, nn_sub (by omega), show r + 1 + w.length - 1 = r + w.length by omega]
      have oc := occ_at (by omega) h1w r3
      have h76 := j76 hu hv (q := r) (by omega) (fun x8_76_10 x10_76_11 => if ¬ x8_76_10 = nn (r + w.length) then (f_J1_indexOf_5af95_L14 (nn (w.getD 0 0)) (nn d) (tx u) (tx w) (nn w.length) fuel (nn (r + 1)) (fun _ => some (-1))) else (some (nn r))) 12 1 h1w (by omega)
      rw [e1, nn_s1]
      have hc1 := cpl_le (u.drop r) w
      rw [List.length_drop] at hc1
      by_cases z : cpl (u.drop r) w = w.length
      · refine ⟨nn r, h76.trans ?_, ⟨fun _ => ⟨r, r1, z⟩, fun _ => nn_pos (by omega)⟩⟩
        rw [← oc, if_neg (by rw [z]; exact fun y => y rfl)]
      · obtain ⟨v, v1, v2⟩ := j14 hu hv hd h1w fuel (r + 1) (by omega) (by omega)
        refine ⟨v, h76.trans ?_, v2.trans ?_⟩
        · have hc2 : cpl (u.drop r) w ≤ w.length := by
            rw [cpl_comm]
            exact cpl_le w (u.drop r)
          rw [← oc, if_pos (by rw [nn_eq (by omega) (by omega)]; omega)]
          exact v1
        · constructor
          · rintro ⟨q', s1, s2⟩
            exact ⟨q', by omega, s2⟩
          · rintro ⟨q', s1, s2⟩
            by_cases y : q' = r
            · subst y
              exact absurd s2 z
            · by_cases y2 : q' < r
              · exact absurd s2 (r4 q' s1 y2)
              · exact ⟨q', by omega, s2⟩
    rw [f_J1_indexOf_5af95_L14]
    simp only [tx_len]
    by_cases z : q ≤ d
    · have b1 := hu.at q
      have b2 := hv.at 0
      rw [if_neg (by rw [nn_lt (by omega) (by omega)]; omega), tx_at (by omega) (by omega), Option.bind_some]
      by_cases e : u.getD q 0 = w.getD 0 0
      · rw [if_pos (by rw [e]), if_neg (by rw [nn_lt (by omega) (by omega)]; omega)]
        exact key q (Nat.le_refl _) z e (fun x h1 h2 => by omega)
      · rw [if_neg (by rw [nn_eq (by omega) (by omega)]; exact e), j30 hu hv hd h1w _ 12 q z (by omega)]
        have hle := lst_le (fun k => decide (u.getD k 0 = w.getD 0 0)) (d + 1 - (q + 1)) (q + 1)
        have hno := lst_no (P := fun k => decide (u.getD k 0 = w.getD 0 0)) (d + 1 - (q + 1)) (q + 1)
        have hyes := lst_yes (P := fun k => decide (u.getD k 0 = w.getD 0 0)) (d + 1 - (q + 1)) (q + 1)
        generalize lst (fun k => decide (u.getD k 0 = w.getD 0 0)) (q + 1) (d + 1 - (q + 1)) = r at hle hno hyes ⊢
        have hn : ∀ x, q ≤ x → x < r → ¬ cpl (u.drop x) w = w.length := fun x h1 h2 h3 => by
          have h4 := occ_hd hu h1w h3
          by_cases y : x = q
          · subst y
            exact e h4
          · exact hno x (by omega) h2 (decide_eq_true h4)
        by_cases y : r ≤ d
        · rw [if_neg (by rw [nn_lt (by omega) (by omega)]; omega)]
          exact key r (by omega) y (of_decide_eq_true (hyes (by omega))) hn
        · rw [if_pos (by rw [nn_lt (by omega) (by omega)]; omega), nn_s1]
          obtain ⟨v, v1, v2⟩ := j14 hu hv hd h1w fuel (r + 1) (by omega) (by omega)
          refine ⟨v, v1, v2.trans ?_⟩
          constructor
          · rintro ⟨q', s1, s2⟩
            have := occ_le s2
            omega
          · rintro ⟨q', s1, s2⟩
            have := occ_le s2
            exact absurd s2 (hn q' s1 (by omega))
    · rw [if_pos (by rw [nn_lt (by omega) (by omega)]; omega)]
      exact ⟨_, rfl, hend q (by omega)⟩
theorem l_index (hu : LT u) (hv : LT w) (h1u : 1 ≤ u.length) (h1w : 1 ≤ w.length) : ∃ v : Int32, f_J0_indexOf_2f485 (tx u) (tx w) = some v ∧ (0 ≤ v ↔ ∃ q, cpl (u.drop q) w = w.length) := by
  have a1 := hu.1
  have a2 := hv.1
  have e0 : ldi (fun j => (tx w).getD j 0) w.length 0 = some (nn (w.getD 0 0)) := tx_at (a := 0) h1w (by omega)
  unfold f_J0_indexOf_2f485 f_J1_indexOf_b82b6 f_J1_indexOf_5af95
  simp only [tx_len, nI_nn]
  rw [if_pos (by rw [nl0, nn_eq (by omega) (by omega)]; omega), if_pos (by rw [nl0, nn_eq (by omega) (by omega)]; omega), e0, Option.bind_some]
  by_cases z : w.length ≤ u.length
  · rw [nn_sub z]
    obtain ⟨v, v1, v2⟩ := j14 hu hv (d := u.length - w.length) (by omega) h1w 12 0 (by omega) (by omega)
    have v1' : f_J1_indexOf_5af95_L14 (nn (w.getD 0 0)) (nn (u.length - w.length)) (tx u) (tx w) (nn w.length) 12 0 (fun _ => some (-1)) = some v := v1
    rw [v1', Option.bind_some, Option.bind_some]
    exact ⟨v, rfl, v2.trans ⟨fun ⟨q, _, h⟩ => ⟨q, h⟩, fun ⟨q, h⟩ => ⟨q, Nat.zero_le _, h⟩⟩⟩
  · rw [f_J1_indexOf_5af95_L14, if_pos (by
      rw [Int32.lt_iff_toInt_lt, nn_sub_toInt (by omega) (by omega)]
      show (u.length : Int) - w.length < 0
      omega), Option.bind_some, Option.bind_some]
    refine ⟨_, rfl, fun h => absurd h (by decide), fun ⟨q, h⟩ => ?_⟩
    have := occ_le h
    omega
end LIX
