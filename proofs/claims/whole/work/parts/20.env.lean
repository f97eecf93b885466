/-! THE LAW'S START: what the methods read of the machine, the objects, the loop, the end -/
theorem tb1 {w : Cond} (i : Nat) (h : tables_1_1[i]? = some w) : w ∈ lw_tbl := List.mem_append_right _ (List.mem_append_left _ (List.mem_of_getElem? h))
theorem tb2 {w : Cond} (i : Nat) (h : tables_1_2[i]? = some w) : w ∈ lw_tbl := List.mem_append_right _ (List.mem_append_right _ (List.mem_append_left _ (List.mem_of_getElem? h)))
theorem tb3 {w : Cond} (i : Nat) (h : tables_1_3[i]? = some w) : w ∈ lw_tbl := List.mem_append_right _ (List.mem_append_right _ (List.mem_append_right _ (List.mem_append_left _ (List.mem_of_getElem? h))))
theorem tb4 {w : Cond} (i : Nat) (h : tables_1_4[i]? = some w) : w ∈ lw_tbl := List.mem_append_right _ (List.mem_append_right _ (List.mem_append_right _ (List.mem_append_right _ (List.mem_append_left _ (List.mem_of_getElem? h)))))
theorem tb5 {w : Cond} (i : Nat) (h : tables_1_5[i]? = some w) : w ∈ lw_tbl := List.mem_append_right _ (List.mem_append_right _ (List.mem_append_right _ (List.mem_append_right _ (List.mem_append_right _ (List.mem_append_left _ (List.mem_of_getElem? h))))))
theorem tb6 {w : Cond} (i : Nat) (h : tables_1_6[i]? = some w) : w ∈ lw_tbl := List.mem_append_right _ (List.mem_append_right _ (List.mem_append_right _ (List.mem_append_right _ (List.mem_append_right _ (List.mem_append_right _ (List.mem_append_left _ (List.mem_of_getElem? h)))))))
theorem tb7 {w : Cond} (i : Nat) (h : tables_1_7[i]? = some w) : w ∈ lw_tbl := List.mem_append_right _ (List.mem_append_right _ (List.mem_append_right _ (List.mem_append_right _ (List.mem_append_right _ (List.mem_append_right _ (List.mem_append_right _ (List.mem_of_getElem? h)))))))
theorem st8 {s : State} {args : Array Value} {own tx : String} {k : Nat} (h1 : (Cond.stringRef own k tx).before args s = true) (h2 : (Cond.exactly (.string own k) "java/lang/String").before args s = true) : ∃ sa : Nat, vk_R own k tx sa s := by
  obtain ⟨a, c, cell, kk, he, -⟩ := Cond.exactly_spec (args := args) (first := s) (o := none) (s := s) (idx := []) h2
  exact ⟨a, vk_R.of h1 he⟩
theorem st_arr {s : State} {args : Array Value} {ty : FieldType} (h : (Cond.arrayClass ty).before args s = true) : ∃ c : ClassId, ArrOfT s c ty ∧ s.vm.findClass ("[" ++ ty.toString) = some c := by
  obtain ⟨c, k, comp, h1, h2, h3⟩ := Cond.arrayClass_spec (args := args) (first := s) (o := none) (s := s) (idx := []) h
  exact ⟨c, fun n z => ⟨fun k h => (by cases h), k, h2, comp, h3⟩, h1⟩
theorem st_arro {s : State} {args : Array Value} {C : String} (h : (Cond.arrayOver (.object C)).before args s = true) : ∃ c : ClassId, ArrOfT s c (.object C) ∧ va_RA s c (.object C) := by
  obtain ⟨comp, c, k, f1, -, f2, f3, f4⟩ := Cond.arrayOver_spec (args := args) (first := s) (o := none) (s := s) (idx := []) h
  exact ⟨c, fun n z => ⟨fun k h => (by cases h), k, f2, comp, f3⟩, k, comp, f2, f3, f1, f4⟩
set_option maxRecDepth 100000 in
set_option maxHeartbeats 16000000 in
theorem st_env {s : State} {args : Array Value} (hts : ∀ w ∈ lw_tbl, w.before args s = true) (hgv : (Jvm.Cond.and given_1 narrow_1).before args s = true) : ∃ (D : va_G) (J : (Nat → Nat) × (Nat → Nat)) (kc ki kb kl kd : ClassId), aU D (aTy kc ki kb kl kd) s ∧ aG J (fun q => s.heap.size ≤ q) s s.heap := by
  have hww : ∀ w ∈ WW, w.before args s = true := fun w h => hts w (WW_tbl w h)
  have hs := flat_of_before _ hgv
  obtain ⟨cX0, iX0, kX0⟩ := u_known (args := args) hww iwX0 (hww _ ka_X0)
  obtain ⟨cX2, iX2, kX2⟩ := u_known (args := args) hww iwX2 (hww _ ka_X2)
  obtain ⟨cX3, iX3, kX3⟩ := u_known (args := args) hww iwX3 (hww _ ka_X3)
  obtain ⟨cX4, iX4, kX4⟩ := u_known (args := args) hww iwX4 (hww _ ka_X4)
  obtain ⟨cX6, iX6, kX6⟩ := u_known (args := args) hww iwX6 (hww _ ka_X6)
  obtain ⟨cX7, iX7, kX7⟩ := u_known (args := args) hww iwX7 (hww _ ka_X7)
  obtain ⟨cX8, iX8, kX8⟩ := u_known (args := args) hww iwX8 (hww _ ka_X8)
  obtain ⟨cX9, iX9, kX9⟩ := u_known (args := args) hww iwX9 (hww _ ka_X9)
  obtain ⟨kc, qc, rc⟩ := st_arr (hww _ kr_char)
  obtain ⟨ki, qi, ri⟩ := st_arr (hww _ kr_int)
  obtain ⟨kl, ql, rl⟩ := st_arr (hww _ kr_long)
  obtain ⟨kd, qd, rd⟩ := st_arr (hww _ kr_double)
  obtain ⟨kb, qb, rb⟩ := st_arro (C := RX0) (hts _ (tb1 111 (by decide +kernel)))
  have hA : ∀ a : Nat, a < s.heap.size → ¬ (fun q => s.heap.size ≤ q) a := fun a h1 h2 => Nat.lt_irrefl _ (Nat.lt_of_lt_of_le h1 h2)
  have g1 : ∀ i : Nat, i < 5 → aLen.getD i 0 < 2 ^ 31 := by
    intro i hi
    match i, hi with
    | 0, _ => exact (by decide)
    | 1, _ => exact (by decide)
    | 2, _ => exact (by decide)
    | 3, _ => exact (by decide)
    | 4, _ => exact (by decide)
    | n + 5, hi => omega
  have g2 : ∀ i : Nat, i < 5 → (Cond.exactly ((fun i => Term.string RX2 (([19, 67, 69, 71, 73] : List Nat).getD i 0)) i) "java/lang/String").before args s = true := by
    intro i hi
    match i, hi with
    | 0, _ => exact hs _ (by decide +kernel)
    | 1, _ => exact hs _ (by decide +kernel)
    | 2, _ => exact hs _ (by decide +kernel)
    | 3, _ => exact hs _ (by decide +kernel)
    | 4, _ => exact hs _ (by decide +kernel)
    | n + 5, hi => omega
  have g3 : ∀ i : Nat, i < 5 → (Cond.eq (.field ((fun i => Term.string RX2 (([19, 67, 69, 71, 73] : List Nat).getD i 0)) i) "java/lang/String" "coder" "B") (.int 0)).before args s = true := by
    intro i hi
    match i, hi with
    | 0, _ => exact hs _ (by decide +kernel)
    | 1, _ => exact hs _ (by decide +kernel)
    | 2, _ => exact hs _ (by decide +kernel)
    | 3, _ => exact hs _ (by decide +kernel)
    | 4, _ => exact hs _ (by decide +kernel)
    | n + 5, hi => omega
  have g4 : ∀ i : Nat, i < 5 → (Cond.arrayOf (.field ((fun i => Term.string RX2 (([19, 67, 69, 71, 73] : List Nat).getD i 0)) i) "java/lang/String" "value" "[B") .byte).before args s = true := by
    intro i hi
    match i, hi with
    | 0, _ => exact hs _ (by decide +kernel)
    | 1, _ => exact hs _ (by decide +kernel)
    | 2, _ => exact hs _ (by decide +kernel)
    | 3, _ => exact hs _ (by decide +kernel)
    | 4, _ => exact hs _ (by decide +kernel)
    | n + 5, hi => omega
  have g5 : ∀ i : Nat, i < 5 → (Cond.eq (.length (.field ((fun i => Term.string RX2 (([19, 67, 69, 71, 73] : List Nat).getD i 0)) i) "java/lang/String" "value" "[B")) (.int (Int32.ofNat (aLen.getD i 0)))).before args s = true := by
    intro i hi
    match i, hi with
    | 0, _ => exact hs _ (by decide +kernel)
    | 1, _ => exact hs _ (by decide +kernel)
    | 2, _ => exact hs _ (by decide +kernel)
    | 3, _ => exact hs _ (by decide +kernel)
    | 4, _ => exact hs _ (by decide +kernel)
    | n + 5, hi => omega
  have g6 : ∀ i : Nat, i < 5 → ∀ j : Nat, j < aLen.getD i 0 → (Cond.eq (.elem (.field ((fun i => Term.string RX2 (([19, 67, 69, 71, 73] : List Nat).getD i 0)) i) "java/lang/String" "value" "[B") (.int (Int32.ofNat j))) (.int ((aByt.getD i []).getD j 0))).before args s = true := by
    intro i hi j hj
    match i, j, hi, hj with
    | 0, n + 0, _, hj => exact absurd hj (by simp [aLen]; try omega)
    | 1, 0, _, _ => exact hs _ (by decide +kernel)
    | 1, 1, _, _ => exact hs _ (by decide +kernel)
    | 1, 2, _, _ => exact hs _ (by decide +kernel)
    | 1, 3, _, _ => exact hs _ (by decide +kernel)
    | 1, 4, _, _ => exact hs _ (by decide +kernel)
    | 1, 5, _, _ => exact hs _ (by decide +kernel)
    | 1, 6, _, _ => exact hs _ (by decide +kernel)
    | 1, 7, _, _ => exact hs _ (by decide +kernel)
    | 1, 8, _, _ => exact hs _ (by decide +kernel)
    | 1, 9, _, _ => exact hs _ (by decide +kernel)
    | 1, 10, _, _ => exact hs _ (by decide +kernel)
    | 1, n + 11, _, hj => exact absurd hj (by simp [aLen]; try omega)
    | 2, 0, _, _ => exact hs _ (by decide +kernel)
    | 2, 1, _, _ => exact hs _ (by decide +kernel)
    | 2, n + 2, _, hj => exact absurd hj (by simp [aLen]; try omega)
    | 3, 0, _, _ => exact hs _ (by decide +kernel)
    | 3, 1, _, _ => exact hs _ (by decide +kernel)
    | 3, 2, _, _ => exact hs _ (by decide +kernel)
    | 3, n + 3, _, hj => exact absurd hj (by simp [aLen]; try omega)
    | 4, 0, _, _ => exact hs _ (by decide +kernel)
    | 4, 1, _, _ => exact hs _ (by decide +kernel)
    | 4, 2, _, _ => exact hs _ (by decide +kernel)
    | 4, 3, _, _ => exact hs _ (by decide +kernel)
    | 4, n + 4, _, hj => exact absurd hj (by simp [aLen]; try omega)
    | n + 5, _, hi, _ => omega
  have g7 : ∀ i j : Nat, i < 5 → j < 5 → i ≠ j → (Cond.not (Cond.eq ((fun i => Term.string RX2 (([19, 67, 69, 71, 73] : List Nat).getD i 0)) i) ((fun i => Term.string RX2 (([19, 67, 69, 71, 73] : List Nat).getD i 0)) j))).before args s = true ∨ (Cond.not (Cond.eq ((fun i => Term.string RX2 (([19, 67, 69, 71, 73] : List Nat).getD i 0)) j) ((fun i => Term.string RX2 (([19, 67, 69, 71, 73] : List Nat).getD i 0)) i))).before args s = true := by
    intro i j hi hj hij
    match i, j, hi, hj, hij with
    | 0, 0, _, _, hij => exact absurd rfl hij
    | 0, 1, _, _, _ => exact Or.inl (hs _ (by decide +kernel))
    | 0, 2, _, _, _ => exact Or.inl (hs _ (by decide +kernel))
    | 0, 3, _, _, _ => exact Or.inl (hs _ (by decide +kernel))
    | 0, 4, _, _, _ => exact Or.inl (hs _ (by decide +kernel))
    | 1, 0, _, _, _ => exact Or.inr (hs _ (by decide +kernel))
    | 1, 1, _, _, hij => exact absurd rfl hij
    | 1, 2, _, _, _ => exact Or.inl (hs _ (by decide +kernel))
    | 1, 3, _, _, _ => exact Or.inl (hs _ (by decide +kernel))
    | 1, 4, _, _, _ => exact Or.inl (hs _ (by decide +kernel))
    | 2, 0, _, _, _ => exact Or.inr (hs _ (by decide +kernel))
    | 2, 1, _, _, _ => exact Or.inr (hs _ (by decide +kernel))
    | 2, 2, _, _, hij => exact absurd rfl hij
    | 2, 3, _, _, _ => exact Or.inl (hs _ (by decide +kernel))
    | 2, 4, _, _, _ => exact Or.inl (hs _ (by decide +kernel))
    | 3, 0, _, _, _ => exact Or.inr (hs _ (by decide +kernel))
    | 3, 1, _, _, _ => exact Or.inr (hs _ (by decide +kernel))
    | 3, 2, _, _, _ => exact Or.inr (hs _ (by decide +kernel))
    | 3, 3, _, _, hij => exact absurd rfl hij
    | 3, 4, _, _, _ => exact Or.inl (hs _ (by decide +kernel))
    | 4, 0, _, _, _ => exact Or.inr (hs _ (by decide +kernel))
    | 4, 1, _, _, _ => exact Or.inr (hs _ (by decide +kernel))
    | 4, 2, _, _, _ => exact Or.inr (hs _ (by decide +kernel))
    | 4, 3, _, _, _ => exact Or.inr (hs _ (by decide +kernel))
    | 4, 4, _, _, hij => exact absurd rfl hij
    | n + 5, _, hi, _, _ => omega
    | _, n + 5, _, hj, _ => omega
  have hS := vk_Sof (args := args) (s := s) (N := 5) (tm := (fun i => Term.string RX2 (([19, 67, 69, 71, 73] : List Nat).getD i 0))) (len := aLen) (byt := aByt) (A := fun q => s.heap.size ≤ q) g1 g2 g3 g4 g5 g6 g7 hA
  obtain ⟨adK, adV, hS, hev⟩ := hS
  refine ⟨(fun c => [cX0, cX2, cX3, cX4, cX6, cX7, cX8, cX9].getD c 0, fun c => [iX0, iX2, iX3, iX4, iX6, iX7, iX8, iX9].getD c (fun _ => 0)), (adK, adV), kc, ki, kb, kl, kd, ⟨⟨?_, ?_⟩, ?_⟩, ?_⟩
  · intro c q hq
    match c, hq with
    | 0, hq => cases hq; exact kX0
    | 1, hq => cases hq; exact kX2
    | 2, hq => cases hq; exact kX3
    | 3, hq => cases hq; exact kX4
    | 4, hq => cases hq; exact kX6
    | 5, hq => cases hq; exact kX7
    | 6, hq => cases hq; exact kX8
    | 7, hq => cases hq; exact kX9
    | n + 8, hq => simp at hq
  · intro k q hq
    match k, hq with
    | 0, hq => cases hq; exact ⟨qc, rc⟩
    | 1, hq => cases hq; exact ⟨qi, ri⟩
    | 2, hq => cases hq; exact ⟨qb, rb⟩
    | 3, hq => cases hq; exact ⟨ql, rl⟩
    | 4, hq => cases hq; exact ⟨qd, rd⟩
    | n + 5, hq => simp [aTy] at hq
  · exact ⟨va_Nw.of rfl (hts _ (tb3 14 (by decide +kernel))), va_Nw.of rfl (hts _ (tb4 211 (by decide +kernel))), va_Nw.of rfl (hts _ (tb2 138 (by decide +kernel)))⟩
  · refine ⟨⟨?_, ?_⟩, ?_, ?_, ?_, ?_, ?_, hS, ?_, ?_, ?_⟩
    · exact vx_Zqof (args := args) (hts _ (tb2 71 (by decide +kernel))) (hts _ (tb1 9 (by decide +kernel))) (hs _ (by decide +kernel)) hA
    · exact vx_Zqof (args := args) (hts _ (tb2 73 (by decide +kernel))) (hts _ (tb1 9 (by decide +kernel))) (hs _ (by decide +kernel)) hA
    · exact List.forall_mem_cons.mpr ⟨st8 (hts _ (tb2 89 (by decide +kernel))) (hs _ (by decide +kernel)), List.forall_mem_cons.mpr ⟨st8 (hts _ (tb2 183 (by decide +kernel))) (hs _ (by decide +kernel)), List.forall_mem_cons.mpr ⟨st8 (hts _ (tb3 116 (by decide +kernel))) (hs _ (by decide +kernel)), List.forall_mem_cons.mpr ⟨st8 (hts _ (tb3 150 (by decide +kernel))) (hs _ (by decide +kernel)), List.forall_mem_cons.mpr ⟨st8 (hts _ (tb3 169 (by decide +kernel))) (hs _ (by decide +kernel)), List.forall_mem_cons.mpr ⟨st8 (hts _ (tb3 193 (by decide +kernel))) (hs _ (by decide +kernel)), List.forall_mem_cons.mpr ⟨st8 (hts _ (tb3 228 (by decide +kernel))) (hs _ (by decide +kernel)), List.forall_mem_cons.mpr ⟨st8 (hts _ (tb4 9 (by decide +kernel))) (hs _ (by decide +kernel)), List.forall_mem_cons.mpr ⟨st8 (hts _ (tb4 27 (by decide +kernel))) (hs _ (by decide +kernel)), List.forall_mem_cons.mpr ⟨st8 (hts _ (tb4 64 (by decide +kernel))) (hs _ (by decide +kernel)), List.forall_mem_cons.mpr ⟨st8 (hts _ (tb4 105 (by decide +kernel))) (hs _ (by decide +kernel)), List.forall_mem_cons.mpr ⟨st8 (hts _ (tb5 0 (by decide +kernel))) (hs _ (by decide +kernel)), List.forall_mem_cons.mpr ⟨st8 (hts _ (tb5 12 (by decide +kernel))) (hs _ (by decide +kernel)), List.forall_mem_cons.mpr ⟨st8 (hts _ (tb5 17 (by decide +kernel))) (hs _ (by decide +kernel)), List.forall_mem_cons.mpr ⟨st8 (hts _ (tb5 57 (by decide +kernel))) (hs _ (by decide +kernel)), List.forall_mem_cons.mpr ⟨st8 (hts _ (tb5 89 (by decide +kernel))) (hs _ (by decide +kernel)), List.forall_mem_cons.mpr ⟨st8 (hts _ (tb5 127 (by decide +kernel))) (hs _ (by decide +kernel)), List.forall_mem_cons.mpr ⟨st8 (hts _ (tb5 135 (by decide +kernel))) (hs _ (by decide +kernel)), List.forall_mem_cons.mpr ⟨st8 (hts _ (tb5 147 (by decide +kernel))) (hs _ (by decide +kernel)), fun _ h => absurd h List.not_mem_nil⟩⟩⟩⟩⟩⟩⟩⟩⟩⟩⟩⟩⟩⟩⟩⟩⟩⟩⟩
    · exact List.forall_mem_cons.mpr ⟨va_Nw.of rfl (hts _ (tb2 46 (by decide +kernel))), List.forall_mem_cons.mpr ⟨va_Nw.of rfl (hts _ (tb2 176 (by decide +kernel))), List.forall_mem_cons.mpr ⟨va_Nw.of rfl (hts _ (tb3 109 (by decide +kernel))), List.forall_mem_cons.mpr ⟨va_Nw.of rfl (hts _ (tb3 143 (by decide +kernel))), List.forall_mem_cons.mpr ⟨va_Nw.of rfl (hts _ (tb3 186 (by decide +kernel))), List.forall_mem_cons.mpr ⟨va_Nw.of rfl (hts _ (tb5 74 (by decide +kernel))), fun _ h => absurd h List.not_mem_nil⟩⟩⟩⟩⟩⟩
    · exact List.forall_mem_cons.mpr ⟨va_Nw.of rfl (hts _ (tb2 48 (by decide +kernel))), List.forall_mem_cons.mpr ⟨va_Nw.of rfl (hts _ (tb2 50 (by decide +kernel))), List.forall_mem_cons.mpr ⟨va_Nw.of rfl (hts _ (tb2 52 (by decide +kernel))), fun _ h => absurd h List.not_mem_nil⟩⟩⟩
    · exact List.forall_mem_cons.mpr ⟨va_Nc.of (args := args) (hs _ (by decide +kernel)), List.forall_mem_cons.mpr ⟨va_Nc.of (args := args) (hs _ (by decide +kernel)), List.forall_mem_cons.mpr ⟨va_Nc.of (args := args) (hs _ (by decide +kernel)), List.forall_mem_cons.mpr ⟨va_Nc.of (args := args) (hs _ (by decide +kernel)), fun _ h => absurd h List.not_mem_nil⟩⟩⟩⟩
    · intro i q hq
      match i, hq with
      | 0, hq => cases hq; exact vk_R.of (hts _ (tb1 73 (by decide +kernel))) (hev 0 (by decide))
      | 1, hq => cases hq; exact vk_R.of (hts _ (tb4 200 (by decide +kernel))) (hev 1 (by decide))
      | 2, hq => cases hq; exact vk_R.of (hts _ (tb4 201 (by decide +kernel))) (hev 2 (by decide))
      | 3, hq => cases hq; exact vk_R.of (hts _ (tb4 202 (by decide +kernel))) (hev 3 (by decide))
      | 4, hq => cases hq; exact vk_R.of (hts _ (tb4 203 (by decide +kernel))) (hev 4 (by decide))
      | n + 5, hq => simp [aSt2] at hq
    · exact va_Zof (args := args) (hts _ (tb4 158 (by decide +kernel))) (hts _ (tb1 19 (by decide +kernel))) (va_eqi (args := args) (hs _ (by decide +kernel))) hA
    · exact va_Zqof (args := args) (hts _ (tb4 174 (by decide +kernel))) (hts _ (tb1 25 (by decide +kernel))) (hs _ (by decide +kernel)) hA
    · exact va_AO.of (hts _ (tb1 111 (by decide +kernel)))
