/-! THE CLASS READS A COMMAND, AND ALL OF THEM -/
theorem sl_1 : slen 1 = some (nn 11) := by decide +kernel
theorem sl_2 : slen 2 = some (nn 2) := by decide +kernel
theorem sl_3 : slen 3 = some (nn 3) := by decide +kernel
theorem sl_4 : slen 4 = some (nn 4) := by decide +kernel
theorem sc_11 : schr 1 (nn 1) = some 108 := by decide +kernel
theorem sc_1k : ∀ k : Fin 9, schr 1 (nn (k.val + 2)) = some 109 := by decide +kernel
theorem sc_21 : schr 2 (nn 1) = some 100 := by decide +kernel
theorem sc_31 : schr 3 (nn 1) = some 100 := by decide +kernel
theorem sc_32 : schr 3 (nn 2) = some 100 := by decide +kernel
theorem sc_41 : schr 4 (nn 1) = some 100 := by decide +kernel
theorem sc_42 : schr 4 (nn 2) = some 100 := by decide +kernel
theorem sc_43 : schr 4 (nn 3) = some 108 := by decide +kernel
theorem wh_11 : f_X2_isWhole 1 (nn 1) = some 0 := by decide +kernel
theorem wh_1k : ∀ k : Fin 10, f_X2_isWhole 1 (nn (k.val + 2)) = some 1 := by decide +kernel
theorem wh_21 : f_X2_isWhole 2 (nn 1) = some 0 := by decide +kernel
theorem wh_22 : f_X2_isWhole 2 (nn 2) = some 1 := by decide +kernel
theorem wh_31 : f_X2_isWhole 3 (nn 1) = some 0 := by decide +kernel
theorem wh_32 : f_X2_isWhole 3 (nn 2) = some 0 := by decide +kernel
theorem wh_33 : f_X2_isWhole 3 (nn 3) = some 1 := by decide +kernel
theorem wh_41 : f_X2_isWhole 4 (nn 1) = some 0 := by decide +kernel
theorem wh_42 : f_X2_isWhole 4 (nn 2) = some 0 := by decide +kernel
theorem wh_43 : f_X2_isWhole 4 (nn 3) = some 0 := by decide +kernel
theorem wh_44 : f_X2_isWhole 4 (nn 4) = some 1 := by decide +kernel
section CREAD
variable {C st : Nat → Int32} {l c : Int32} {w : List Nat}
theorem fits_dg (ht : TX C l w) {x : Nat} (hx : x < w.length) : f_X2_fits (nn (w.getD x 0)) 100 = some (if dg w x = true then nn 1 else nn 0) := by
  rw [fit_d (ht.2.2 x hx).2]
  by_cases h : dg w x = true
  · rw [if_pos h, if_pos (dg_iff.mp h)]
  · rw [if_neg h, if_neg (fun z => h (dg_iff.mpr z))]
theorem fits_lz (ht : TX C l w) {x : Nat} (hx : x < w.length) {due : Int32} (hd : ¬ due = 100) : f_X2_fits (nn (w.getD x 0)) due = some (if lz w x = true then nn 1 else nn 0) := fit_l (ht.2.2 x hx).2 hd
theorem s_letters_L (ht : TX C l w) (K : Int32 → (Nat → Int32) → Int32 → Nat → Int32 → Option (Int32 × (Nat → Int32) × Int32 × Nat × Int32)) : ∀ (r k y fuel : Nat), k + r = 11 → 2 ≤ k → y ≤ w.length → w.length < fuel + y → ∃ fuel', w.length < fuel' + (y + nl w r y) ∧ f_X2_read_L12 C l fuel (nn y) st c 1 (nn k) K = f_X2_read_L12 C l fuel' (nn (y + nl w r y)) st c 1 (nn (k + nl w r y)) K ∧ (k + nl w r y = 11 ∨ ¬ lz w (y + nl w r y) = true) := by
  intro r
  induction r with
  | zero =>
    intro k y fuel h1 h2 h3 h4
    rw [nl0']
    exact ⟨fuel, h4, rfl, Or.inl h1⟩
  | succ r ih =>
    intro k y fuel h1 h2 h3 h4
    rw [nlS]
    by_cases h : lz w y = true
    · rw [if_pos h]
      have hy := lz_in h
      obtain ⟨f, rfl⟩ : ∃ f, fuel = f + 1 := ⟨fuel - 1, by omega⟩
      obtain ⟨f', g1, g2, g3⟩ := ih (k + 1) (y + 1) f (by omega) (by omega) (by omega) (by omega)
      have e1 : y + (nl w r (y + 1) + 1) = y + 1 + nl w r (y + 1) := by omega
      have e2 : k + (nl w r (y + 1) + 1) = k + 1 + nl w r (y + 1) := by omega
      refine ⟨f', by rw [e1]; exact g1, ?_, by rw [e1, e2]; exact g3⟩
      rw [e1, e2, ← g2]
      refine L_step ht hy ?_
      have sc : schr 1 (nn k) = some 109 := by
        have := sc_1k ⟨k - 2, by omega⟩
        rw [show (⟨k - 2, by omega⟩ : Fin 9).val + 2 = k by show k - 2 + 2 = k; omega] at this
        exact this
      have hv := (ht.2.2 y hy).2
      rw [t_in sl_1 (by omega) (by omega) (by omega) sc (fun z => by have := (lz_iff.mp h).1; omega) hv, fits_lz ht hy (by decide), if_pos h, Option.bind_some, if_neg (by decide)]
      rfl
    · rw [if_neg h]
      exact ⟨fuel, h4, rfl, Or.inr h⟩
def CmdOk (C st : Nat → Int32) (l : Int32) (w : List Nat) (x m fuel y : Nat) : Prop := ∃ sh k fuel', w.length < fuel' + y ∧ f_X2_read_L12 C l fuel (nn x) st (nn m) 0 (nn 0) (rdK l) = f_X2_read_L12 C l fuel' (nn y) st (nn m) sh (nn k) (rdK l) ∧ f_X2_isWhole sh (nn k) = some 1 ∧ (y < w.length → w.getD y 0 ≠ 59 → f_X2_takes_J22 st (nn m) sh (nn k) (nn (w.getD y 0)) = some (0, st, nn m, sh, nn (k + 1)))
def CmdBad (C st : Nat → Int32) (l : Int32) (x m fuel y : Nat) : Prop := ∃ st' c' sh' sp', f_X2_read_L12 C l fuel (nn x) st (nn m) 0 (nn 0) (rdK l) = some (nn y, st', c', sh', sp')
theorem s_cmd (ht : TX C l w) {x m : Nat} (hx : x ≤ w.length) (hm : m < 60) {fuel : Nat} (hf : w.length < fuel + x) : ((cmdR w x).2 = false → CmdBad C st l x m fuel (cmdR w x).1) ∧ ((cmdR w x).2 = true → CmdOk C st l w x m fuel (cmdR w x).1) := by
  obtain ⟨f, rfl⟩ : ∃ f, fuel = f + 1 := ⟨fuel - 1, by omega⟩
  by_cases hx0 : x < w.length
  rotate_left
  · have e : x = w.length := by omega
    have er : cmdR w x = (x, false) := by
      unfold cmdR
      have s0 : shp (w.getD x 0) = 0 := by rw [getD_out (by omega)]; rfl
      rw [s0, if_neg (by decide), if_neg (by decide), if_neg (by decide), if_neg (by decide)]
    rw [er]
    refine ⟨fun _ => ⟨st, nn m, 0, nn 0, ?_⟩, fun h => by cases h⟩
    rw [L_end ht e]
    unfold rdK
    rw [whole_0, Option.bind_some, if_pos rfl, s_length ht, e]
    rfl
  have hv := (ht.2.2 x hx0).2
  by_cases h0 : shp (w.getD x 0) = 0
  · have er : cmdR w x = (x, false) := by
      unfold cmdR
      rw [h0, if_neg (by decide), if_neg (by decide), if_neg (by decide), if_neg (by decide)]
    rw [er]
    refine ⟨fun _ => ⟨_, _, _, _, L_fail ht hx0 (st' := st) (c' := nn m) (sh' := shp (w.getD x 0)) (sp' := nn 1) ?_⟩, fun h => by cases h⟩
    rw [t_first hv, if_pos h0]
  have hst : f_X2_read_L12 C l (f + 1) (nn x) st (nn m) 0 (nn 0) (rdK l) = f_X2_read_L12 C l f (nn (x + 1)) st (nn m) (shp (w.getD x 0)) (nn 1) (rdK l) := L_step ht hx0 (by rw [t_first hv, if_neg h0])
  have hs4 := shp_le (w.getD x 0)
  unfold CmdBad CmdOk
  rw [hst]
  unfold cmdR
  obtain ⟨f1, rfl⟩ : ∃ f1, f = f1 + 1 := ⟨f - 1, by omega⟩
  by_cases h1 : shp (w.getD x 0) = 1
  · rw [h1, if_pos rfl]
    have o1 := one_sign (st := st) (c := nn m) (x := x + 1) (fuel := f1) (P := lz w (x + 1) = true) ht (by omega) sl_1 (Nat.le_refl 1) (by omega) (by omega) sc_11 wh_11 lz_in (fun hx => fits_lz ht hx (by decide))
    by_cases q : lz w (x + 1) = true
    · have hq := lz_in q
      rw [show nl w 10 (x + 1) = nl w 9 (x + 2) + 1 by rw [nlS, if_pos q]]
      refine ⟨fun z => absurd (show decide (nl w 9 (x + 2) + 1 ≠ 0) = false from z) (by simp), fun _ => ?_⟩
      obtain ⟨f', g1, g2, g3⟩ := s_letters_L (st := st) (c := nn m) ht (rdK l) 9 2 (x + 2) f1 (by omega) (by omega) (by omega) (by omega)
      have e1 : x + 1 + (nl w 9 (x + 2) + 1) = x + 2 + nl w 9 (x + 2) := by omega
      show ∃ sh k fuel', w.length < fuel' + (x + 1 + (nl w 9 (x + 2) + 1)) ∧ _
      rw [e1]
      have hle := nl_le w 9 (x + 2)
      refine ⟨1, 2 + nl w 9 (x + 2), f', g1, (o1.1 q).trans g2, ?_, fun y1 y2 => ?_⟩
      · have := wh_1k ⟨nl w 9 (x + 2), by omega⟩
        rw [show (⟨nl w 9 (x + 2), by omega⟩ : Fin 10).val + 2 = 2 + nl w 9 (x + 2) by show nl w 9 (x + 2) + 2 = _; omega] at this
        exact this
      · by_cases k11 : 2 + nl w 9 (x + 2) = 11
        · exact J22_out sl_1 (by omega) (by omega) (by omega)
        · have sc : schr 1 (nn (2 + nl w 9 (x + 2))) = some 109 := by
            have := sc_1k ⟨nl w 9 (x + 2), by omega⟩
            rw [show (⟨nl w 9 (x + 2), by omega⟩ : Fin 9).val + 2 = 2 + nl w 9 (x + 2) by show nl w 9 (x + 2) + 2 = _; omega] at this
            exact this
          rw [J22_in sl_1 (by omega) (by omega) (by omega) sc, fits_lz ht y1 (by decide), if_neg (g3.resolve_left k11), Option.bind_some, if_pos (by decide)]
    · rw [show nl w 10 (x + 1) = 0 by rw [nlS, if_neg q]]
      exact ⟨fun _ => o1.2 q, fun z => absurd (show decide ((0 : Nat) ≠ 0) = true from z) (by simp)⟩
  rw [if_neg h1]
  by_cases h2 : shp (w.getD x 0) = 2
  · rw [h2, if_pos rfl]
    have o1 := one_sign (st := st) (c := nn m) (x := x + 1) (fuel := f1) (P := dg w (x + 1) = true) ht (by omega) sl_2 (Nat.le_refl 1) (by omega) (by omega) sc_21 wh_21 dg_in (fun hx => fits_dg ht hx)
    by_cases q : dg w (x + 1) = true
    · have hq := dg_in q
      rw [if_pos q]
      exact ⟨fun z => (by cases z), fun _ => ⟨2, 2, f1, by show w.length < f1 + (x + 2); omega, o1.1 q, wh_22, fun _ _ => J22_out sl_2 (by omega) (by omega) (by omega)⟩⟩
    · rw [if_neg q]
      exact ⟨fun _ => o1.2 q, fun z => by cases z⟩
  rw [if_neg h2]
  by_cases h3 : shp (w.getD x 0) = 3
  · rw [h3, if_pos rfl]
    have o1 := one_sign (st := st) (c := nn m) (x := x + 1) (fuel := f1) (P := dg w (x + 1) = true) ht (by omega) sl_3 (Nat.le_refl 1) (by omega) (by omega) sc_31 wh_31 dg_in (fun hx => fits_dg ht hx)
    by_cases q : dg w (x + 1) = true
    · have hq := dg_in q
      rw [if_pos q, o1.1 q]
      obtain ⟨f2, rfl⟩ : ∃ f2, f1 = f2 + 1 := ⟨f1 - 1, by omega⟩
      have o2 := one_sign (st := st) (c := nn m) (x := x + 1 + 1) (fuel := f2) (P := dg w (x + 2) = true) ht (by omega) sl_3 (k := 2) (by omega) (by omega) (by omega) sc_32 wh_32 dg_in (fun hx => fits_dg ht hx)
      by_cases q2 : dg w (x + 2) = true
      · have hq2 := dg_in q2
        rw [if_pos q2]
        exact ⟨fun z => (by cases z), fun _ => ⟨3, 3, f2, by show w.length < f2 + (x + 3); omega, o2.1 q2, wh_33, fun _ _ => J22_out sl_3 (by omega) (by omega) (by omega)⟩⟩
      · rw [if_neg q2]
        exact ⟨fun _ => o2.2 q2, fun z => by cases z⟩
    · rw [if_neg q]
      exact ⟨fun _ => o1.2 q, fun z => by cases z⟩
  rw [if_neg h3]
  have h4 : shp (w.getD x 0) = 4 := by omega
  rw [h4, if_pos rfl]
  have o1 := one_sign (st := st) (c := nn m) (x := x + 1) (fuel := f1) (P := dg w (x + 1) = true) ht (by omega) sl_4 (Nat.le_refl 1) (by omega) (by omega) sc_41 wh_41 dg_in (fun hx => fits_dg ht hx)
  by_cases q : dg w (x + 1) = true
  · have hq := dg_in q
    rw [if_pos q, o1.1 q]
    obtain ⟨f2, rfl⟩ : ∃ f2, f1 = f2 + 1 := ⟨f1 - 1, by omega⟩
    have o2 := one_sign (st := st) (c := nn m) (x := x + 1 + 1) (fuel := f2) (P := dg w (x + 2) = true) ht (by omega) sl_4 (k := 2) (by omega) (by omega) (by omega) sc_42 wh_42 dg_in (fun hx => fits_dg ht hx)
    by_cases q2 : dg w (x + 2) = true
    · have hq2 := dg_in q2
      rw [if_pos q2, o2.1 q2]
      obtain ⟨f3, rfl⟩ : ∃ f3, f2 = f3 + 1 := ⟨f2 - 1, by omega⟩
      have o3 := one_sign (st := st) (c := nn m) (x := x + 1 + 1 + 1) (fuel := f3) (P := lz w (x + 3) = true) ht (by omega) sl_4 (k := 3) (by omega) (by omega) (by omega) sc_43 wh_43 lz_in (fun hx => fits_lz ht hx (by decide))
      by_cases q3 : lz w (x + 3) = true
      · have hq3 := lz_in q3
        rw [if_pos q3]
        exact ⟨fun z => (by cases z), fun _ => ⟨4, 4, f3, by show w.length < f3 + (x + 4); omega, o3.1 q3, wh_44, fun _ _ => J22_out sl_4 (by omega) (by omega) (by omega)⟩⟩
      · rw [if_neg q3]
        exact ⟨fun _ => o3.2 q3, fun z => by cases z⟩
    · rw [if_neg q2]
      exact ⟨fun _ => o2.2 q2, fun z => by cases z⟩
  · rw [if_neg q]
    exact ⟨fun _ => o1.2 q, fun z => by cases z⟩
theorem s_prs (ht : TX C l w) : ∀ (g x m : Nat) (st : Nat → Int32) (fuel : Nat), x ≤ w.length → w.length < g + x → w.length < fuel + x → 1 ≤ m → 2 * m ≤ x + 2 → st (m - 1) = nn x → ((prs w g x).1 = none → (prs w g x).2 ≤ w.length ∧ CmdBad C st l x m fuel (prs w g x).2) ∧ (∀ L, (prs w g x).1 = some L → ∃ st' sh sp, f_X2_read_L12 C l fuel (nn x) st (nn m) 0 (nn 0) (rdK l) = some ((-1), st', nn (m - 1 + L.length), sh, sp) ∧ m - 1 + L.length ≤ 31 ∧ (∀ j, j < m → st' j = st j) ∧ ∀ (j : Nat) (e : Nat × Nat), L[j]? = some e → st' (m - 1 + j) = nn e.1) := by
  intro g
  have h60 := ht.2.1
  induction g with
  | zero => intro x m st fuel h1 h2; omega
  | succ g ih =>
    intro x m st fuel h1 h2 h3 h4 h5 h6
    obtain ⟨b1, b2⟩ := s_cmd (st := st) ht h1 (m := m) (by omega) h3
    obtain ⟨l1, l2⟩ := cmdR_le h1
    rw [prsS]
    cases hc : (cmdR w x).2 with
    | false =>
      rw [if_pos rfl]
      exact ⟨fun _ => ⟨l1, b1 hc⟩, fun L h => by cases h⟩
    | true =>
      rw [if_neg (by decide)]
      have l3 := l2 hc
      obtain ⟨sh, k, f', g1, g2, g3, g4⟩ := b2 hc
      generalize (cmdR w x).1 = y at *
      obtain ⟨f, rfl⟩ : ∃ f, f' = f + 1 := ⟨f' - 1, by omega⟩
      obtain ⟨d1, d2, d3⟩ := done_sign (fuel := f) ht l1 g3 (m := m) (by omega) g4
      by_cases e1 : w.length ≤ y
      · rw [if_pos e1]
        refine ⟨fun h => (by cases h), fun L h => ?_⟩
        cases h
        refine ⟨st, sh, nn k, ?_, by show m - 1 + 1 ≤ 31; omega, fun j _ => rfl, fun j e he => ?_⟩
        · rw [g2, d1 (by omega)]
          show _ = some ((-1), st, nn (m - 1 + 1), sh, nn k)
          rw [show m - 1 + 1 = m by omega]
        · cases j with
          | zero => cases he; exact h6
          | succ j => simp at he
      · rw [if_neg e1]
        by_cases e2 : w.getD y 0 = 59
        · rw [if_pos e2]
          obtain ⟨i1, i2⟩ := ih (y + 1) (m + 1) (upd st m (nn (y + 1))) f (by omega) (by omega) (by omega) (by omega) (by omega) (by rw [Nat.add_sub_cancel, upd_eq])
          have gg := g2.trans (d2 (by omega) e2)
          generalize prs w g (y + 1) = r at *
          obtain ⟨r1, r2⟩ := r
          cases r1 with
          | none =>
            refine ⟨fun _ => ?_, fun L h => (by cases h)⟩
            obtain ⟨j1, j2⟩ := i1 rfl
            refine ⟨j1, ?_⟩
            unfold CmdBad at j2 ⊢
            rw [gg]
            exact j2
          | some L' =>
            refine ⟨fun h => (by cases h), fun L h => ?_⟩
            cases h
            obtain ⟨st', sh', sp', j1, j2, j3, j4⟩ := i2 L' rfl
            refine ⟨st', sh', sp', ?_, ?_, fun j hj => ?_, fun j e he => ?_⟩
            · rw [gg, j1, List.length_cons, show m + 1 - 1 + L'.length = m - 1 + (L'.length + 1) by omega]
            · rw [List.length_cons]; omega
            · rw [j3 j (by omega), upd_ne (by omega)]
            · cases j with
              | zero =>
                cases he
                rw [Nat.add_zero, j3 (m - 1) (by omega), upd_ne (by omega)]
                exact h6
              | succ j =>
                have := j4 j e he
                rw [show m + 1 - 1 + j = m - 1 + (j + 1) by omega] at this
                exact this
        · rw [if_neg e2]
          refine ⟨fun _ => ⟨l1, ?_⟩, fun L h => by cases h⟩
          unfold CmdBad
          rw [g2]
          exact d3 (by omega) e2
theorem s_read (ht : TX C l w) (st : Nat → Int32) : ((prs w 1000 0).1 = none → (prs w 1000 0).2 ≤ w.length ∧ ∃ st' c' sh sp, f_X2_read st C l = some (nn (prs w 1000 0).2, st', c', sh, sp)) ∧ (∀ L, (prs w 1000 0).1 = some L → ∃ st' sh sp, f_X2_read st C l = some ((-1), st', nn L.length, sh, sp) ∧ L.length ≤ 31 ∧ ∀ (j : Nat) (e : Nat × Nat), L[j]? = some e → st' j = nn e.1) := by
  have h60 := ht.2.1
  obtain ⟨i1, i2⟩ := s_prs ht 1000 0 1 (upd st 0 (nn 0)) 1000 (by omega) (by omega) (by omega) (by omega) (by omega) (upd_eq _ _ _)
  have e : f_X2_read st C l = f_X2_read_L12 C l 1000 (nn 0) (upd st 0 (nn 0)) (nn 1) 0 (nn 0) (rdK l) := by
    unfold f_X2_read f_X2_startCommand f_X2_startCommand_J29
    rw [if_neg (by decide), show (0 : Int32) = nn 0 from rfl, sti_nn (by omega) (by omega), Option.bind_some, Option.bind_some]
    rfl
  refine ⟨fun h => ?_, fun L h => ?_⟩
  · obtain ⟨j1, j2⟩ := i1 h
    refine ⟨j1, ?_⟩
    rw [e]
    exact j2
  · obtain ⟨st', sh, sp, j1, j2, j3, j4⟩ := i2 L h
    rw [show 1 - 1 + L.length = L.length by omega] at j1 j2
    refine ⟨st', sh, sp, e.trans j1, j2, fun j e he => ?_⟩
    have := j4 j e he
    rw [show 1 - 1 + j = j by omega] at this
    exact this
end CREAD
