/-! ONE COMMAND CARRIED OUT, ALL OF THEM -/
section ONE
variable {F S C T R D A W M O st rows : Nat → Int32} {n l l' c : Int32} {b : Bk} {w : List Nat} {L : List (Nat × Nat)}
theorem s_digitAt (ht : TX C l w) {y : Nat} (hy : y < 1000) : f_X7_digitAt C l (nn y) = some (nn (w.getD y 0) - nn 48) := by
  unfold f_X7_digitAt
  rw [s_charAt ht hy]
  rfl
theorem s_endOf (ht : TX C l w) (hch : CH w L) (hL : L.length ≤ 31) (hst : ∀ (j : Nat) (e : Nat × Nat), L[j]? = some e → st j = nn e.1) {j : Nat} {e : Nat × Nat} (he : L[j]? = some e) : f_X2_endOf st (nn L.length) l (nn j) = some (nn e.2) := by
  have hj := (List.getElem?_eq_some_iff.mp he).1
  have h60 := ht.2.1
  obtain ⟨_, _, k3, k4, k5⟩ := hch j e he
  unfold f_X2_endOf
  rw [show (1 : Int32) = nn 1 from rfl, nn_add]
  by_cases h : L.length ≤ j + 1
  · rw [if_pos (by rw [nn_le (by omega) (by omega)]; exact h), s_length ht, k4 (by omega)]
    rfl
  · have he' : L[j + 1]? = some L[j + 1] := List.getElem?_eq_getElem (by omega)
    have k6 := k5 _ he'
    rw [if_neg (by rw [nn_le (by omega) (by omega)]; exact h), ldi_nn (by omega) (by omega), Option.bind_some, hst _ _ he', k6, nn_sub (by omega), Nat.add_sub_cancel]
theorem r_from_L (ht : TX T l' w) {a m : Nat} (hm : m ≤ 10) (ha : a + m ≤ w.length) (K : Int32 → (Nat → Int32) → Option (Int32 × (Nat → Int32) × (Nat → Int32) × (Nat → Int32) × Int32 × Int32)) : ∀ (fuel k : Nat) (W : Nat → Int32), k ≤ m → m < fuel + k → (∀ q, q < k → W q = nn (w.getD (a + q) 0)) → ∃ W', f_X9_addsFrom_L2 (nn a) (nn m) T fuel (nn k) W K = K (nn m) W' ∧ ∀ q, q < m → W' q = nn (w.getD (a + q) 0) := by
  intro fuel
  have h60 := ht.2.1
  induction fuel with
  | zero => intro k W h0 h1; omega
  | succ fuel ih =>
    intro k W h0 h1 h2
    rw [f_X9_addsFrom_L2]
    by_cases hk : m ≤ k
    · rw [if_pos (by rw [nn_le (by omega) (by omega)]; exact hk)]
      have : k = m := by omega
      subst this
      exact ⟨W, rfl, h2⟩
    · rw [if_neg (by rw [nn_le (by omega) (by omega)]; exact hk), nn_add, ldc_nn (by omega) (by omega), Option.bind_some, (ht.2.2 (a + k) (by omega)).1, sti_nn (by omega) (by omega), Option.bind_some, show nn k + 1 = nn (k + 1) from nn_add k 1]
      refine ih (k + 1) _ (by omega) (by omega) (fun q hq => ?_)
      by_cases y : q = k
      · rw [y, upd_eq]
      · rw [upd_ne y]
        exact h2 q (by omega)
theorem j_one (hw : Wf b) (hc : CB F S n b) (hr : RB A 0 b) (ht : TX C l w) (ht' : TX T l' w) (hch : CH w L) (hL : L.length ≤ 31) (hst : ∀ (j : Nat) (e : Nat × Nat), L[j]? = some e → st j = nn e.1) {j : Nat} {e : Nat × Nat} (he : L[j]? = some e) (hR : RW w rows j e) (r ws om : Int32) : (∃ b' F' S' n' A' W' O' r' ws' om', f_X2_carryOutOne st (nn L.length) C l F S n R D c (nn j) = some (1, F', S', n', R, D, c) ∧ f_X9_does A M T W O rows r ws om (nn (4 * j)) = some (1, A', M, W', O', r', ws', om') ∧ OKB b' F' S' n' A A') ∨ (∃ R' D' c' M' W' O' r' ws' om', f_X2_carryOutOne st (nn L.length) C l F S n R D c (nn j) = some (0, F, S, n, R', D', c') ∧ f_X9_does A M T W O rows r ws om (nn (4 * j)) = some (0, A, M', W', O', r', ws', om') ∧ RFS R' D' c' M') := by
  have h60 := ht.2.1
  have hj := (List.getElem?_eq_some_iff.mp he).1
  obtain ⟨k1, k2, k3, _, _⟩ := hch j e he
  have hx : e.1 ≤ w.length := by
    by_cases q : e.1 ≤ w.length
    · exact q
    · exfalso
      have s0 : shp (w.getD e.1 0) = 0 := by rw [getD_out (by omega)]; rfl
      unfold cmdR at k1
      rw [s0, if_neg (by decide), if_neg (by decide), if_neg (by decide), if_neg (by decide)] at k1
      cases k1
  have hx2 := (cmdR_le hx).2 k1
  rw [← k2] at hx2
  have hv := (ht.2.2 e.1 (by omega)).2
  have hE := s_endOf ht hch hL hst he
  have hD : f_X2_carryOutOne st (nn L.length) C l F S n R D c (nn j) = (let r13_2 := nn (w.getD (e.1 + 1) 0) - nn 48; let r23_3 := nn (w.getD (e.1 + 2) 0) - nn 48; if nn (w.getD e.1 0) = 43 then ((f_X1_addWord F S n R D c C l (nn (e.1 + 1)) (nn e.2)).bind fun r98_6 => (rz r98_6.1).bind fun _ => some (r98_6.1, r98_6.2.1, r98_6.2.2.1, r98_6.2.2.2.1, r98_6.2.2.2.2.1, r98_6.2.2.2.2.2.1, r98_6.2.2.2.2.2.2)) else (if nn (w.getD e.1 0) = 45 then ((f_X1_cutLine F S n R D c r13_2).bind fun r107_9 => (rz r107_9.1).bind fun _ => some (r107_9.1, r107_9.2.1, r107_9.2.2.1, r107_9.2.2.2.1, r107_9.2.2.2.2.1, r107_9.2.2.2.2.2.1, r107_9.2.2.2.2.2.2)) else (if nn (w.getD e.1 0) = 61 then ((f_X1_changeLetter F S n R D c r13_2 r23_3 (nn (w.getD (e.1 + 3) 0))).bind fun r126_13 => (rz r126_13.1).bind fun _ => some (r126_13.1, r126_13.2.1, S, n, r126_13.2.2.1, r126_13.2.2.2.1, r126_13.2.2.2.2)) else (if nn (w.getD e.1 0) = 106 then ((f_X1_joinLines F S n R D c r13_2 r23_3).bind fun r148_16 => (rz r148_16.1).bind fun _ => some (r148_16.1, r148_16.2.1, r148_16.2.2.1, r148_16.2.2.2.1, r148_16.2.2.2.2.1, r148_16.2.2.2.2.2.1, r148_16.2.2.2.2.2.2)) else (if nn (w.getD e.1 0) = 120 then ((f_X1_swapLines F S n R D c r13_2 r23_3).bind fun r137_19 => (rz r137_19.1).bind fun _ => some (r137_19.1, r137_19.2.1, r137_19.2.2.1, n, r137_19.2.2.2.1, r137_19.2.2.2.2.1, r137_19.2.2.2.2.2)) else ((f_X1_turnLine F S n R D c r13_2).bind fun r157_22 => (rz r157_22.1).bind fun _ => some (r157_22.1, r157_22.2.1, S, n, r157_22.2.2.1, r157_22.2.2.2.1, r157_22.2.2.2.2))))))) := by
    unfold f_X2_carryOutOne
    rw [ldi_nn (by omega) (by omega), Option.bind_some, hst j e he, show nn e.1 + 1 = nn (e.1 + 1) from nn_add e.1 1, show nn e.1 + 2 = nn (e.1 + 2) from nn_add e.1 2, show nn e.1 + 3 = nn (e.1 + 3) from nn_add e.1 3, s_digitAt ht (by omega), Option.bind_some, s_digitAt ht (by omega), Option.bind_some, s_charAt ht (by omega), Option.bind_some, hE, Option.bind_some, s_charAt ht (by omega), Option.bind_some]
  have hQ : f_X9_does A M T W O rows r ws om (nn (4 * j)) = (if nn (w.getD e.1 0) = 43 then ((f_X9_addsFrom A M T W r (rows (4 * j + 1)) (rows (4 * j + 2))).bind fun r79_4 => (rz r79_4.1).bind fun _ => some (r79_4.1, r79_4.2.1, r79_4.2.2.1, r79_4.2.2.2.1, O, r79_4.2.2.2.2.1, r79_4.2.2.2.2.2, om)) else (if nn (w.getD e.1 0) = 45 then ((f_X9_cuts A M r (rows (4 * j + 1))).bind fun r85_7 => (rz r85_7.1).bind fun _ => some (r85_7.1, r85_7.2.1, r85_7.2.2.1, W, O, r85_7.2.2.2, ws, om)) else (if nn (w.getD e.1 0) = 61 then ((f_X9_sets A M O r om (rows (4 * j + 1)) (rows (4 * j + 2)) (rows (4 * j + 3))).bind fun r100_11 => (rz r100_11.1).bind fun _ => some (r100_11.1, r100_11.2.1, r100_11.2.2.1, W, r100_11.2.2.2.1, r100_11.2.2.2.2.1, ws, r100_11.2.2.2.2.2)) else (if nn (w.getD e.1 0) = 106 then ((f_X9_joins A M r (rows (4 * j + 1)) (rows (4 * j + 2))).bind fun r114_14 => (rz r114_14.1).bind fun _ => some (r114_14.1, r114_14.2.1, r114_14.2.2.1, W, O, r114_14.2.2.2, ws, om)) else (if nn (w.getD e.1 0) = 120 then ((f_X9_swaps A M r (rows (4 * j + 1)) (rows (4 * j + 2))).bind fun r107_17 => (rz r107_17.1).bind fun _ => some (r107_17.1, r107_17.2.1, r107_17.2.2.1, W, O, r107_17.2.2.2, ws, om)) else ((f_X9_turns A M O r om (rows (4 * j + 1))).bind fun r120_20 => (rz r120_20.1).bind fun _ => some (r120_20.1, r120_20.2.1, r120_20.2.2.1, W, r120_20.2.2.2.1, r120_20.2.2.2.2.1, ws, r120_20.2.2.2.2.2))))))) := by
    unfold f_X9_does
    rw [show nn (4 * j) + 1 = nn (4 * j + 1) from nn_add _ 1, show nn (4 * j) + 2 = nn (4 * j + 2) from nn_add _ 2, show nn (4 * j) + 3 = nn (4 * j + 3) from nn_add _ 3, ldi_nn (by omega) (by omega), Option.bind_some, ldi_nn (by omega) (by omega), Option.bind_some, ldi_nn (by omega) (by omega), Option.bind_some, ldi_nn (by omega) (by omega), Option.bind_some, hR.1]
  rw [hD, hQ]
  obtain ⟨_, hR1, hR2, hR3, hR4⟩ := hR
  rcases shp_k (w.getD e.1 0) with ⟨s, v⟩ | ⟨s, v⟩ | ⟨s, v⟩ | ⟨s, v⟩ | ⟨s, v⟩
  · obtain ⟨q1, q2⟩ := hR1 s
    have kk := k2
    unfold cmdR at kk k1
    rw [if_pos s] at kk k1
    have kn : nl w 10 (e.1 + 1) ≠ 0 := by
      have : decide (nl w 10 (e.1 + 1) ≠ 0) = true := k1
      exact of_decide_eq_true this
    have kk' : e.2 = e.1 + 1 + nl w 10 (e.1 + 1) := kk
    have hle := nl_le w 10 (e.1 + 1)
    have hgl : GL (sub w (e.1 + 1) (nl w 10 (e.1 + 1))) := by
      have hs := sub_len (w := w) (st := e.1 + 1) (m := nl w 10 (e.1 + 1)) (by omega)
      refine ⟨by omega, by omega, fun p hp => ?_⟩
      rw [hs] at hp
      rw [sub_get hp (by omega)]
      exact lz_iff.mp (nl_ltr w 10 (e.1 + 1) p hp)
    rw [v, if_pos (by decide), if_pos (by decide), q1, q2, kk', show e.1 + 1 + nl w 10 (e.1 + 1) - (e.1 + 1) = nl w 10 (e.1 + 1) by omega]
    unfold f_X9_addsFrom
    obtain ⟨W', w1, w2⟩ := r_from_L ht' (a := e.1 + 1) (m := nl w 10 (e.1 + 1)) hle (by omega) (fun x3_2_4 q_t_wordF_2_5 => (f_X9_adds A M q_t_wordF_2_5 r (nn (nl w 10 (e.1 + 1)))).bind fun r33_6 => (rz r33_6.1).bind fun _ => some (r33_6.1, r33_6.2.1, r33_6.2.2.1, q_t_wordF_2_5, r33_6.2.2.2, nn (nl w 10 (e.1 + 1)))) 1000 0 W (by omega) (by omega) (fun q hq => by omega)
    have w1' : f_X9_addsFrom_L2 (nn (e.1 + 1)) (nn (nl w 10 (e.1 + 1))) T 1000 0 W (fun x3_2_4 q_t_wordF_2_5 => (f_X9_adds A M q_t_wordF_2_5 r (nn (nl w 10 (e.1 + 1)))).bind fun r33_6 => (rz r33_6.1).bind fun _ => some (r33_6.1, r33_6.2.1, r33_6.2.2.1, q_t_wordF_2_5, r33_6.2.2.2, nn (nl w 10 (e.1 + 1)))) = _ := w1
    rw [w1']
    rcases j_adds (W := W') (R := R) (D := D) (c := c) (M := M) hw hc hr ht hgl (by omega) w2 r with ⟨F', S', A', p1, p2, p3⟩ | ⟨R', D', c', M', p1, p2, p3⟩
    · rw [p1, p2]
      exact Or.inl ⟨_, _, _, _, _, _, _, _, _, _, rfl, rfl, p3⟩
    · rw [p1, p2]
      exact Or.inr ⟨_, _, _, _, _, _, _, _, _, rfl, rfl, p3⟩
  · have q1 := hR2 (by omega)
    rw [q1]
    rcases v with v | v
    · rw [v, if_neg (by decide), if_pos (by decide), if_neg (by decide), if_pos (by decide)]
      rcases j_cut (R := R) (D := D) (c := c) (M := M) hw hc hr (nn (w.getD (e.1 + 1) 0) - nn 48) r with ⟨i, F', S', A', _, _, p1, p2, p3⟩ | ⟨R', D', c', M', p1, p2, p3⟩
      · rw [p1, p2]
        exact Or.inl ⟨_, _, _, _, _, _, _, _, _, _, rfl, rfl, p3⟩
      · rw [p1, p2]
        exact Or.inr ⟨_, _, _, _, _, _, _, _, _, rfl, rfl, p3⟩
    · rw [v, if_neg (by decide), if_neg (by decide), if_neg (by decide), if_neg (by decide), if_neg (by decide), if_neg (by decide), if_neg (by decide), if_neg (by decide), if_neg (by decide), if_neg (by decide)]
      rcases j_turn (R := R) (D := D) (c := c) (M := M) (O := O) hw hc hr (nn (w.getD (e.1 + 1) 0) - nn 48) r om with ⟨i, F', A', O', om', _, _, p1, p2, p3⟩ | ⟨R', D', c', M', p1, p2, p3⟩
      · rw [p1, p2]
        exact Or.inl ⟨_, _, _, _, _, _, _, _, _, _, rfl, rfl, p3⟩
      · rw [p1, p2]
        exact Or.inr ⟨_, _, _, _, _, _, _, _, _, rfl, rfl, p3⟩
  · have q1 := hR2 (by omega)
    have q2 := hR3 (by omega)
    rw [q1, q2]
    rcases v with v | v
    · rw [v, if_neg (by decide), if_neg (by decide), if_neg (by decide), if_neg (by decide), if_pos (by decide), if_neg (by decide), if_neg (by decide), if_neg (by decide), if_neg (by decide), if_pos (by decide)]
      rcases j_swap (R := R) (D := D) (c := c) (M := M) hw hc hr (nn (w.getD (e.1 + 1) 0) - nn 48) (nn (w.getD (e.1 + 2) 0) - nn 48) r with ⟨i, i2, F', S', A', _, _, _, _, p1, p2, p3⟩ | ⟨R', D', c', M', p1, p2, p3⟩
      · rw [p1, p2]
        exact Or.inl ⟨_, _, _, _, _, _, _, _, _, _, rfl, rfl, p3⟩
      · rw [p1, p2]
        exact Or.inr ⟨_, _, _, _, _, _, _, _, _, rfl, rfl, p3⟩
    · rw [v, if_neg (by decide), if_neg (by decide), if_neg (by decide), if_pos (by decide), if_neg (by decide), if_neg (by decide), if_neg (by decide), if_pos (by decide)]
      rcases j_join (R := R) (D := D) (c := c) (M := M) hw hc hr (nn (w.getD (e.1 + 1) 0) - nn 48) (nn (w.getD (e.1 + 2) 0) - nn 48) r with ⟨i, i2, F', S', A', _, _, _, _, _, p1, p2, p3⟩ | ⟨R', D', c', M', p1, p2, p3⟩
      · rw [p1, p2]
        exact Or.inl ⟨_, _, _, _, _, _, _, _, _, _, rfl, rfl, p3⟩
      · rw [p1, p2]
        exact Or.inr ⟨_, _, _, _, _, _, _, _, _, rfl, rfl, p3⟩
  · have q1 := hR2 (by omega)
    have q2 := hR3 (by omega)
    have q3 := hR4 s
    have hv3 : w.getD (e.1 + 3) 0 < 65536 := by
      by_cases q : e.1 + 3 < w.length
      · exact (ht.2.2 _ q).2
      · rw [getD_out q]; omega
    rw [q1, q2, q3]
    rw [v, if_neg (by decide), if_neg (by decide), if_pos (by decide), if_neg (by decide), if_neg (by decide), if_pos (by decide)]
    rcases j_change (R := R) (D := D) (c := c) (M := M) (O := O) hw hc hr (nn (w.getD (e.1 + 1) 0) - nn 48) (nn (w.getD (e.1 + 2) 0) - nn 48) r om hv3 with ⟨i, p, F', A', O', om', _, _, _, p1, p2, p3⟩ | ⟨R', D', c', M', p1, p2, p3⟩
    · rw [p1, p2]
      exact Or.inl ⟨_, _, _, _, _, _, _, _, _, _, rfl, rfl, p3⟩
    · rw [p1, p2]
      exact Or.inr ⟨_, _, _, _, _, _, _, _, _, rfl, rfl, p3⟩
  · exfalso
    unfold cmdR at k1
    rw [s, if_neg (by decide), if_neg (by decide), if_neg (by decide), if_neg (by decide)] at k1
    cases k1
end ONE
