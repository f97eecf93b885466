/-! THE LAW'S START: what the methods read of the machine -/
theorem tb1 {w : Cond} (i : Nat) (h : tables_1_1[i]? = some w) : w ∈ lw_tbl := List.mem_append_right _ (List.mem_append_left _ (List.mem_of_getElem? h))
theorem tb2 {w : Cond} (i : Nat) (h : tables_1_2[i]? = some w) : w ∈ lw_tbl := List.mem_append_right _ (List.mem_append_right _ (List.mem_append_left _ (List.mem_of_getElem? h)))
theorem tb3 {w : Cond} (i : Nat) (h : tables_1_3[i]? = some w) : w ∈ lw_tbl := List.mem_append_right _ (List.mem_append_right _ (List.mem_append_right _ (List.mem_append_left _ (List.mem_of_getElem? h))))
theorem tb4 {w : Cond} (i : Nat) (h : tables_1_4[i]? = some w) : w ∈ lw_tbl := List.mem_append_right _ (List.mem_append_right _ (List.mem_append_right _ (List.mem_append_right _ (List.mem_append_left _ (List.mem_of_getElem? h)))))
theorem tb5 {w : Cond} (i : Nat) (h : tables_1_5[i]? = some w) : w ∈ lw_tbl := List.mem_append_right _ (List.mem_append_right _ (List.mem_append_right _ (List.mem_append_right _ (List.mem_append_right _ (List.mem_append_left _ (List.mem_of_getElem? h))))))
theorem tb6 {w : Cond} (i : Nat) (h : tables_1_6[i]? = some w) : w ∈ lw_tbl := List.mem_append_right _ (List.mem_append_right _ (List.mem_append_right _ (List.mem_append_right _ (List.mem_append_right _ (List.mem_append_right _ (List.mem_of_getElem? h))))))
theorem st8 {s : State} {args : Array Value} {own tx : String} {k : Nat} (h1 : (Cond.stringRef own k tx).before args s = true) (h2 : (Cond.exactly (.string own k) "java/lang/String").before args s = true) : ∃ sa : Nat, vk_R own k tx sa s := by
  obtain ⟨a, c, cell, kk, he, -⟩ := Cond.exactly_spec (args := args) (first := s) (o := none) (s := s) (idx := []) h2
  exact ⟨a, vk_R.of h1 he⟩
theorem st_arr {s : State} {args : Array Value} {ty : FieldType} (h : (Cond.arrayClass ty).before args s = true) : ∃ c : ClassId, ArrOfT s c ty ∧ s.vm.findClass ("[" ++ ty.toString) = some c := by
  obtain ⟨c, k, comp, h1, h2, h3⟩ := Cond.arrayClass_spec (args := args) (first := s) (o := none) (s := s) (idx := []) h
  exact ⟨c, fun n z => ⟨fun k h => (by cases h), k, h2, comp, h3⟩, h1⟩
theorem st_arro {s : State} {args : Array Value} {C : String} (h : (Cond.arrayOver (.object C)).before args s = true) : ∃ c : ClassId, ArrOfT s c (.object C) ∧ va_RA s c (.object C) := by
  obtain ⟨comp, c, k, f1, -, f2, f3, f4⟩ := Cond.arrayOver_spec (args := args) (first := s) (o := none) (s := s) (idx := []) h
  exact ⟨c, fun n z => ⟨fun k h => (by cases h), k, f2, comp, f3⟩, k, comp, f2, f3, f1, f4⟩
theorem st_txt {s : State} {args : Array Value} {own : String} {k : Nat} {A : Nat → Prop} (xs : List Int32) (h0 : xs.length < 2 ^ 31) (h1 : (Cond.exactly (.string own k) "java/lang/String").before args s = true) (h2 : (Cond.eq (.field (.string own k) "java/lang/String" "coder" "B") (.int 0)).before args s = true) (h3 : (Cond.arrayOf (.field (.string own k) "java/lang/String" "value" "[B") .byte).before args s = true) (h4 : (Cond.eq (.length (.field (.string own k) "java/lang/String" "value" "[B")) (.int (Int32.ofNat xs.length))).before args s = true) (h5 : ∀ j : Nat, j < xs.length → (Cond.eq (.elem (.field (.string own k) "java/lang/String" "value" "[B") (.int (Int32.ofNat j))) (.int (xs.getD j 0))).before args s = true) (hA : ∀ a : Nat, a < s.heap.size → ¬ A a) (hx : xs.length ≤ 10 ∧ ∀ x ∈ xs, 0 ≤ x ∧ x < 128) : ∃ q : TX, q.val.2.2 = xs ∧ (Term.string own k).eval args s none [] s = some (.ref q.val.1) ∧ aJ A s s.heap q := by
  obtain ⟨adK, adV, hS, hev⟩ := vk_Sof (args := args) (s := s) (N := 1) (tm := fun _ => .string own k) (len := [xs.length]) (byt := [xs]) (A := A) (fun i hi => by
    have e : i = 0 := by omega
    subst e
    exact h0) (fun _ _ => h1) (fun _ _ => h2) (fun _ _ => h3) (fun i hi => by
    have e : i = 0 := by omega
    subst e
    exact h4) (fun i hi j hj => by
    have e : i = 0 := by omega
    subst e
    exact h5 j hj) (fun i j hi hj hij => absurd (by omega) hij) hA
  have h := hS.1 0 (by decide)
  exact ⟨⟨(adK 0, adV 0, xs), hx⟩, rfl, hev 0 (by decide), h.1, h.2.1, h.2.2.1, h.2.2.2⟩
theorem sel_priv {s : State} {args : Array Value} {y : MethodName} (hy : y.cls = RJ5) (hsel : (Cond.selects RJ4 yJ5_isLatin1_aae02 yJ5_isLatin1_aae02).before args s = true) (hpriv : (Cond.privateMethod y).before args s = true) (hinst : (Cond.instanceMethod y).before args s = true) : (Cond.selects RJ4 y y).before args s = true := by
  obtain ⟨c2, r2, m2, q1, q2, q3, q4, kP, hkP, hkPi⟩ := Cond.selects_spec hsel
  obtain ⟨mk, methM, hnamed, hmethM, -, -⟩ := Cond.instanceMethod_spec hinst
  have hne : y.cls ≠ "java/lang/invoke/MethodHandle" ∧ y.cls ≠ "java/lang/invoke/VarHandle" := by rw [hy]; decide
  have hfound : s.methodFound? y.cls y.name y.desc = some mk := State.methodFound?_of_named hnamed hne
  have h1 := findClass_of_methodNamed hnamed
  have h2 := findClass_of_methodNamed q3
  rw [hy] at h1
  have hcls : mk.cls = m2.cls := Option.some.inj (h1.symm.trans h2)
  have hsel : selectMethod {} s.vm c2 mk = .method mk := selectMethod_private hmethM (Cond.privateMethod_at hpriv mk methM hnamed hmethM)
  simp only [Cond.before, Cond.holds, Cond.value, q1, hfound, hnamed, hsel, hcls, hkP]
  simp; exact hkPi
set_option maxRecDepth 100000 in
set_option maxHeartbeats 16000000 in
theorem st_env {s : State} {args : Array Value} {b N : Nat} {xs : Nat → Int32} (hX : va_X b N xs s s.heap) (hb : b < s.heap.size) (hts : ∀ w ∈ lw_tbl, w.before args s = true) (hgv : (Jvm.Cond.and given_1 narrow_1).before args s = true) : ∃ (D : va_G) (JL : List TX) (kc ki kb kl kd : ClassId), aU D (aTy kc ki kb kl kd) s ∧ aG ((b, N, xs), JL) (fun q => s.heap.size ≤ q) s s.heap := by
  have hww : ∀ w ∈ WW, w.before args s = true := fun w h => hts w (WW_tbl w h)
  have hs := flat_of_before _ hgv
  obtain ⟨cX0, iX0, kX0⟩ := u_known (args := args) hww iwX0 (hww _ ka_X0)
  obtain ⟨cX2, iX2, kX2⟩ := u_known (args := args) hww iwX2 (hww _ ka_X2)
  obtain ⟨cX3, iX3, kX3⟩ := u_known (args := args) hww iwX3 (hww _ ka_X3)
  obtain ⟨cX4, iX4, kX4⟩ := u_known (args := args) hww iwX4 (hww _ ka_X4)
  obtain ⟨cX6, iX6, kX6⟩ := u_known (args := args) hww iwX6 (hww _ ka_X6)
  obtain ⟨cX7, iX7, kX7⟩ := u_known (args := args) hww iwX7 (hww _ ka_X7)
  obtain ⟨cX8, iX8, kX8⟩ := u_known (args := args) hww iwX8 (hww _ ka_X8)
  obtain ⟨cJ0, iJ0, kJ0⟩ := u_known (args := args) hww iwJ0 (hww _ ka_J0)
  obtain ⟨cJ4, iJ4, kJ4⟩ := u_known (args := args) hww iwJ4 (hww _ ka_J4)
  obtain ⟨kc, qc, rc⟩ := st_arr (hww _ kr_char)
  obtain ⟨ki, qi, ri⟩ := st_arr (hww _ kr_int)
  obtain ⟨kl, ql, rl⟩ := st_arr (hww _ kr_byte)
  obtain ⟨kb, qb, rb⟩ := st_arro (C := RX0) (hts _ (tb1 114 (by decide +kernel)))
  obtain ⟨kd, qd, rd⟩ := st_arro (C := RJ0) (hts _ (tb6 51 (by decide +kernel)))
  have hA : ∀ a : Nat, a < s.heap.size → ¬ (fun q => s.heap.size ≤ q) a := fun a h1 h2 => Nat.lt_irrefl _ (Nat.lt_of_lt_of_le h1 h2)
  obtain ⟨q0, z0, v0, j0⟩ := st_txt (own := "HymnEndingsLaw") (k := 100) (args := args) (s := s) (A := fun q => s.heap.size ≤ q) [] (by decide) (hs _ (by decide +kernel)) (hs _ (by decide +kernel)) (hs _ (by decide +kernel)) (hs _ (by decide +kernel)) (fun j hj => absurd hj (Nat.not_lt_zero j)) hA ⟨by decide, by decide⟩
  obtain ⟨q1, z1, v1, j1⟩ := st_txt (own := "HymnEndingsLaw") (k := 126) (args := args) (s := s) (A := fun q => s.heap.size ≤ q) [97, 98, 121, 122] (by decide) (hs _ (by decide +kernel)) (hs _ (by decide +kernel)) (hs _ (by decide +kernel)) (hs _ (by decide +kernel)) (fun j hj => by
    match j, hj with
    | 0, _ => exact hs _ (by decide +kernel)
    | 1, _ => exact hs _ (by decide +kernel)
    | 2, _ => exact hs _ (by decide +kernel)
    | 3, _ => exact hs _ (by decide +kernel)
    | n + 4, hj => exact absurd hj (by simp)) hA ⟨by decide, by decide⟩
  obtain ⟨q2, z2, v2, j2⟩ := st_txt (own := "HymnEndings$CommandReader") (k := 19) (args := args) (s := s) (A := fun q => s.heap.size ≤ q) [] (by decide) (hs _ (by decide +kernel)) (hs _ (by decide +kernel)) (hs _ (by decide +kernel)) (hs _ (by decide +kernel)) (fun j hj => absurd hj (Nat.not_lt_zero j)) hA ⟨by decide, by decide⟩
  refine ⟨(fun c => [cX0, cX2, cX3, cX4, cX6, cX7, cX8, cJ0, cJ4].getD c 0, fun c => [iX0, iX2, iX3, iX4, iX6, iX7, iX8, iJ0, iJ4].getD c (fun _ => 0)), [q0, q1, q2], kc, ki, kb, kl, kd, ⟨⟨?_, ?_⟩, ?_⟩, ?_⟩
  · intro c q hq
    match c, hq with
    | 0, hq => cases hq; exact kX0
    | 1, hq => cases hq; exact kX2
    | 2, hq => cases hq; exact kX3
    | 3, hq => cases hq; exact kX4
    | 4, hq => cases hq; exact kX6
    | 5, hq => cases hq; exact kX7
    | 6, hq => cases hq; exact kX8
    | 7, hq => cases hq; exact kJ0
    | 8, hq => cases hq; exact kJ4
    | n + 9, hq => simp at hq
  · intro k q hq
    match k, hq with
    | 0, hq => cases hq; exact ⟨qc, rc⟩
    | 1, hq => cases hq; exact ⟨qi, ri⟩
    | 2, hq => cases hq; exact ⟨qb, rb⟩
    | 3, hq => cases hq; exact ⟨ql, rl⟩
    | 4, hq => cases hq; exact ⟨qd, rd⟩
    | n + 5, hq => simp [aTy] at hq
  · exact ⟨va_Nw.of rfl (hts _ (tb5 190 (by decide +kernel))), va_Nw.of rfl (hts _ (tb2 212 (by decide +kernel)))⟩
  · refine ⟨⟨?_, ?_⟩, ?_, ?_, ?_, ?_, ?_, ?_, ?_, ?_, ?_, ?_, ⟨hX, hb, Nat.not_le.mpr hb⟩, ?_⟩
    · exact vx_Zqof (args := args) (hts _ (tb1 218 (by decide +kernel))) (hts _ (tb1 18 (by decide +kernel))) (hs _ (by decide +kernel)) hA
    · exact vx_Zqof (args := args) (hts _ (tb1 220 (by decide +kernel))) (hts _ (tb1 18 (by decide +kernel))) (hs _ (by decide +kernel)) hA
    · exact List.forall_mem_cons.mpr ⟨st8 (hts _ (tb3 163 (by decide +kernel))) (hs _ (by decide +kernel)), List.forall_mem_cons.mpr ⟨st8 (hts _ (tb5 108 (by decide +kernel))) (hs _ (by decide +kernel)), List.forall_mem_cons.mpr ⟨st8 (hts _ (tb1 235 (by decide +kernel))) (hs _ (by decide +kernel)), List.forall_mem_cons.mpr ⟨st8 (hts _ (tb2 81 (by decide +kernel))) (hs _ (by decide +kernel)), List.forall_mem_cons.mpr ⟨st8 (hts _ (tb2 134 (by decide +kernel))) (hs _ (by decide +kernel)), List.forall_mem_cons.mpr ⟨st8 (hts _ (tb2 109 (by decide +kernel))) (hs _ (by decide +kernel)), List.forall_mem_cons.mpr ⟨st8 (hts _ (tb3 181 (by decide +kernel))) (hs _ (by decide +kernel)), List.forall_mem_cons.mpr ⟨st8 (hts _ (tb3 194 (by decide +kernel))) (hs _ (by decide +kernel)), List.forall_mem_cons.mpr ⟨st8 (hts _ (tb2 215 (by decide +kernel))) (hs _ (by decide +kernel)), List.forall_mem_cons.mpr ⟨st8 (hts _ (tb4 4 (by decide +kernel))) (hs _ (by decide +kernel)), List.forall_mem_cons.mpr ⟨st8 (hts _ (tb4 25 (by decide +kernel))) (hs _ (by decide +kernel)), List.forall_mem_cons.mpr ⟨st8 (hts _ (tb5 139 (by decide +kernel))) (hs _ (by decide +kernel)), List.forall_mem_cons.mpr ⟨st8 (hts _ (tb5 144 (by decide +kernel))) (hs _ (by decide +kernel)), List.forall_mem_cons.mpr ⟨st8 (hts _ (tb3 33 (by decide +kernel))) (hs _ (by decide +kernel)), List.forall_mem_cons.mpr ⟨st8 (hts _ (tb3 57 (by decide +kernel))) (hs _ (by decide +kernel)), List.forall_mem_cons.mpr ⟨st8 (hts _ (tb3 94 (by decide +kernel))) (hs _ (by decide +kernel)), fun _ h => absurd h List.not_mem_nil⟩⟩⟩⟩⟩⟩⟩⟩⟩⟩⟩⟩⟩⟩⟩⟩
    · exact List.forall_mem_cons.mpr ⟨va_Nw.of rfl (hts _ (tb3 156 (by decide +kernel))), List.forall_mem_cons.mpr ⟨va_Nw.of rfl (hts _ (tb5 101 (by decide +kernel))), List.forall_mem_cons.mpr ⟨va_Nw.of rfl (hts _ (tb1 193 (by decide +kernel))), List.forall_mem_cons.mpr ⟨va_Nw.of rfl (hts _ (tb2 74 (by decide +kernel))), List.forall_mem_cons.mpr ⟨va_Nw.of rfl (hts _ (tb2 102 (by decide +kernel))), List.forall_mem_cons.mpr ⟨va_Nw.of rfl (hts _ (tb3 50 (by decide +kernel))), fun _ h => absurd h List.not_mem_nil⟩⟩⟩⟩⟩⟩
    · exact List.forall_mem_cons.mpr ⟨va_Nw.of rfl (hts _ (tb1 195 (by decide +kernel))), List.forall_mem_cons.mpr ⟨va_Nw.of rfl (hts _ (tb1 197 (by decide +kernel))), List.forall_mem_cons.mpr ⟨va_Nw.of rfl (hts _ (tb1 199 (by decide +kernel))), fun _ h => absurd h List.not_mem_nil⟩⟩⟩
    · exact List.forall_mem_cons.mpr ⟨va_Nc.of (args := args) (hs _ (by decide +kernel)), fun _ h => absurd h List.not_mem_nil⟩
    · intro i q hq
      match i, hq with
      | 0, hq => cases hq; exact ⟨q0, rfl, z0, vk_R.of (hts _ (tb4 39 (by decide +kernel))) v0⟩
      | 1, hq => cases hq; exact ⟨q1, rfl, z1, vk_R.of (hts _ (tb5 43 (by decide +kernel))) v1⟩
      | 2, hq => cases hq; exact ⟨q2, rfl, z2, vk_R.of (hts _ (tb1 76 (by decide +kernel))) v2⟩
      | n + 3, hq => simp [aSt2] at hq
    · exact List.forall_mem_cons.mpr ⟨j0, List.forall_mem_cons.mpr ⟨j1, List.forall_mem_cons.mpr ⟨j2, fun _ h => absurd h List.not_mem_nil⟩⟩⟩
    · exact va_Zof (args := args) (hts _ (tb3 107 (by decide +kernel))) (hts _ (tb1 10 (by decide +kernel))) (va_eqi (args := args) (hs _ (by decide +kernel))) hA
    · exact va_Zqof (args := args) (hts _ (tb3 123 (by decide +kernel))) (hts _ (tb1 16 (by decide +kernel))) (hs _ (by decide +kernel)) hA
    · exact va_AO.of (hts _ (tb1 114 (by decide +kernel)))
    · exact va_AO.of (hts _ (tb6 51 (by decide +kernel)))
    · exact List.forall_mem_cons.mpr ⟨va_Nw.of rfl (sel_priv rfl (hww _ kvv_J5_isLatin1_aae02) (hts _ (tb4 82 (by decide +kernel))) (hts _ (tb4 83 (by decide +kernel)))), List.forall_mem_cons.mpr ⟨va_Nw.of rfl (sel_priv rfl (hww _ kvv_J5_isLatin1_aae02) (hts _ (tb4 134 (by decide +kernel))) (hts _ (tb4 135 (by decide +kernel)))), List.forall_mem_cons.mpr ⟨va_Nw.of rfl (sel_priv rfl (hww _ kvv_J5_isLatin1_aae02) (hts _ (tb4 138 (by decide +kernel))) (hts _ (tb4 139 (by decide +kernel)))), fun _ h => absurd h List.not_mem_nil⟩⟩⟩
