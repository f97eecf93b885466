/-! THE JDK'S METHODS OF TEXTS that the law reaches -/
theorem gdZ {own : String} {idx : Nat} {y : MethodName} {b : ByteArray} {n : Nat} {ret : Option FieldType} (h1 : Cond.methodLink own idx y ∈ WW) (h2 : Cond.sameMethod y.cls y.cls y.name y.desc ∈ WW) (h3 : Cond.superclass own y.cls ∈ WW) (h4 : Cond.instanceMethod y ∈ WW) (h5 : Cond.initialized y.cls ∈ WW) (h6 : Cond.code y b n ret ∈ WW) : GoodIn WW (va_wsSU own idx y (aW y b n ret)) := fun w hw => by
  rcases List.mem_append.mp hw with hw | hw
  · simp only [List.mem_cons, List.not_mem_nil, or_false] at hw
    rcases hw with rfl | rfl | rfl | rfl | rfl
    · exact ⟨h1, good_of_word (WW_good _ h1)⟩
    · exact ⟨h2, good_of_word (WW_good _ h2)⟩
    · exact ⟨h3, good_of_word (WW_good _ h3)⟩
    · exact ⟨h4, good_of_word (WW_good _ h4)⟩
    · exact ⟨h5, good_of_word (WW_good _ h5)⟩
  · exact good_c y b n ret h6 w hw
def nchr (x : Int32) : Prop := ((x &&& 255).toUInt32 % 65536).toInt32 = x ∧ vp_nar .char x = x ∧ x.toInt8.toInt32 = x ∧ fits .byte (.int x) = true ∧ vp_nar .byte x = x ∧ ¬ 255 < x
theorem chr_ok {x : Int32} (h : 0 ≤ x ∧ x < 128) : nchr x := by
  have h0 : ¬ x < 0 := by
    intro q
    exact absurd h.1 (Int32.not_le.mpr q)
  obtain ⟨j, hj, rfl⟩ := nI_of2 (x := x) (M := 127) (n := 127) (by decide) h0 (by
    have h2 := Int32.lt_iff_toInt_lt.mp h.2
    refine Int32.le_iff_toInt_le.mpr ?_
    have e1 : (128 : Int32).toInt = 128 := by decide
    have e2 : (127 : Int32).toInt = 127 := by decide
    omega)
  have key : ∀ j : Fin 128, ((nI j.val &&& 255).toUInt32 % 65536).toInt32 = nI j.val ∧ vp_nar .char (nI j.val) = nI j.val ∧ (nI j.val).toInt8.toInt32 = nI j.val ∧ fits .byte (.int (nI j.val)) = true ∧ vp_nar .byte (nI j.val) = nI j.val ∧ ¬ 255 < nI j.val := by decide +kernel
  exact key ⟨j, by omega⟩
theorem nar_chr {x : Int32} (h : 0 ≤ x ∧ x < 128) : narrow .char (.int x) = .int x := by
  have hi := (chr_ok h).2.1
  unfold vp_nar at hi
  exact congrArg Value.int hi
theorem tx_in {q : TX} {j : Nat} (h : j < q.val.2.2.length) : 0 ≤ q.val.2.2.getD j 0 ∧ q.val.2.2.getD j 0 < 128 := by
  refine q.2.2 _ ?_
  rw [List.getD_eq_getElem?_getD, List.getElem?_eq_getElem h]
  exact List.getElem_mem h
set_option maxRecDepth 100000 in
set_option maxHeartbeats 4000000 in
theorem c_J3_checkIndex (l : Launch) (D : va_G) (J : JT) (kc ki kb kl kd : ClassId) (v : Value) (hv : v = .null ∨ ∃ t : Nat, v = .ref t) (i0 i1 : Int32) (h0 : ¬ i0 < 0) (h1 : i0 < i1) : aKI l yJ3_checkIndex_8e157 (aW yJ3_checkIndex_8e157 cJ3_checkIndex_8e157 3 (some .int)) ({ frames := 0, cells := 0, slots := 0, locals := 0 } : Room) D J (aTy kc ki kb kl kd) [.int i0, .int i1, v] [] i0 [] 0 0 := by
  have key : ∀ lv : List (Nat × Value), lv_args 0 [.int i0, .int i1, v] = lv → lv[0]? = some (0, .int i0) → lv[1]? = some (1, .int i1) → (lg_sl [.int i0, .int i1, v]).length ≤ 3 → aKI l yJ3_checkIndex_8e157 (aW yJ3_checkIndex_8e157 cJ3_checkIndex_8e157 3 (some .int)) ({ frames := 0, cells := 0, slots := 0, locals := 0 } : Room) D J (aTy kc ki kb kl kd) [.int i0, .int i1, v] [] i0 [] 0 0 := by
    intro lv hlv g0 g1 hlen
    refine aKI_of (own := RJ3) (by decide) rfl hlen hlv ?_
    intro p e s m args below meth c C hr
    refine a_iload_n C 0 dJ3_checkIndex_8e157_0 rfl g0 ?_
    refine a_if_lt C (tgt := 9) dJ3_checkIndex_8e157_1 (by decide) (hF := (if_neg h0 : (if i0 < 0 then (none : Option Unit) else some ()) = some ())) (fun _ hF => nomatch hF) (fun _ _ => ?_)
    refine a_iload_n C 0 dJ3_checkIndex_8e157_4 rfl g0 ?_
    refine a_iload_n C 1 dJ3_checkIndex_8e157_5 rfl g1 ?_
    refine a_ic_lt C (tgt := 16) dJ3_checkIndex_8e157_6 (by decide) (hF := (if_pos h1 : (if i0 < i1 then some () else (none : Option Unit)) = some ())) (fun _ _ => ?_) (fun _ hF => nomatch hF)
    refine a_iload_n C 0 dJ3_checkIndex_8e157_16 rfl g0 ?_
    exact g_iret (rest := []) C hr rfl dJ3_checkIndex_8e157_17 ⟨Nat.le_of_ble_eq_true rfl, Nat.le_of_ble_eq_true rfl⟩ rfl (List.Perm.refl _)
  rcases hv with rfl | ⟨t, rfl⟩
  · exact key _ rfl rfl rfl (Nat.le_of_ble_eq_true rfl)
  · exact key _ rfl rfl rfl (Nat.le_of_ble_eq_true rfl)
set_option maxRecDepth 100000 in
set_option maxHeartbeats 4000000 in
theorem c_J3_checkFromToIndex (l : Launch) (D : va_G) (J : JT) (kc ki kb kl kd : ClassId) (v : Value) (hv : v = .null ∨ ∃ t : Nat, v = .ref t) (i0 i1 i2 : Int32) (h0 : ¬ i0 < 0) (h1 : ¬ i1 < i0) (h2 : i1 ≤ i2) : aKI l yJ3_checkFromToIndex_8c36e (aW yJ3_checkFromToIndex_8c36e cJ3_checkFromToIndex_8c36e 4 (some .int)) ({ frames := 0, cells := 0, slots := 0, locals := 0 } : Room) D J (aTy kc ki kb kl kd) [.int i0, .int i1, .int i2, v] [] i0 [] 0 0 := by
  have key : ∀ lv : List (Nat × Value), lv_args 0 [.int i0, .int i1, .int i2, v] = lv → lv[0]? = some (0, .int i0) → lv[1]? = some (1, .int i1) → lv[2]? = some (2, .int i2) → (lg_sl [.int i0, .int i1, .int i2, v]).length ≤ 4 → aKI l yJ3_checkFromToIndex_8c36e (aW yJ3_checkFromToIndex_8c36e cJ3_checkFromToIndex_8c36e 4 (some .int)) ({ frames := 0, cells := 0, slots := 0, locals := 0 } : Room) D J (aTy kc ki kb kl kd) [.int i0, .int i1, .int i2, v] [] i0 [] 0 0 := by
    intro lv hlv g0 g1 g2 hlen
    refine aKI_of (own := RJ3) (by decide) rfl hlen hlv ?_
    intro p e s m args below meth c C hr
    refine a_iload_n C 0 dJ3_checkFromToIndex_8c36e_0 rfl g0 ?_
    refine a_if_lt C (tgt := 14) dJ3_checkFromToIndex_8c36e_1 (by decide) (hF := (if_neg h0 : (if i0 < 0 then (none : Option Unit) else some ()) = some ())) (fun _ hF => nomatch hF) (fun _ _ => ?_)
    refine a_iload_n C 0 dJ3_checkFromToIndex_8c36e_4 rfl g0 ?_
    refine a_iload_n C 1 dJ3_checkFromToIndex_8c36e_5 rfl g1 ?_
    refine a_ic_gt C (tgt := 14) dJ3_checkFromToIndex_8c36e_6 (by decide) (hF := (if_neg h1 : (if i1 < i0 then (none : Option Unit) else some ()) = some ())) (fun _ hF => nomatch hF) (fun _ _ => ?_)
    refine a_iload_n C 1 dJ3_checkFromToIndex_8c36e_9 rfl g1 ?_
    refine a_iload_n C 2 dJ3_checkFromToIndex_8c36e_10 rfl g2 ?_
    refine a_ic_le C (tgt := 22) dJ3_checkFromToIndex_8c36e_11 (by decide) (hF := (if_pos h2 : (if i1 ≤ i2 then some () else (none : Option Unit)) = some ())) (fun _ _ => ?_) (fun _ hF => nomatch hF)
    refine a_iload_n C 0 dJ3_checkFromToIndex_8c36e_22 rfl g0 ?_
    exact g_iret (rest := []) C hr rfl dJ3_checkFromToIndex_8c36e_23 ⟨Nat.le_of_ble_eq_true rfl, Nat.le_of_ble_eq_true rfl⟩ rfl (List.Perm.refl _)
  rcases hv with rfl | ⟨t, rfl⟩
  · exact key _ rfl rfl rfl rfl (Nat.le_of_ble_eq_true rfl)
  · exact key _ rfl rfl rfl rfl (Nat.le_of_ble_eq_true rfl)
theorem gS_J0_1059 : GoodIn WW (va_wsS RJ0 1059 yJ3_checkIndex_8e157 (aW yJ3_checkIndex_8e157 cJ3_checkIndex_8e157 3 (some .int))) := gdS kl_J0_1059 ks_J3_checkIndex_8e157 kn_J3 kc_J3_checkIndex_8e157
theorem hdS_J3_checkIndex_8e157 : yJ3_checkIndex_8e157.cls ≠ "java/lang/invoke/MethodHandle" ∧ yJ3_checkIndex_8e157.cls ≠ "java/lang/invoke/VarHandle" ∧ (parseMethodDescriptor yJ3_checkIndex_8e157.desc).map (fun d => d.parameters.length) = some 3 := by decide +kernel
set_option maxRecDepth 100000 in
set_option maxHeartbeats 4000000 in
theorem c_J0_checkIndex (l : Launch) (D : va_G) (J : JT) (kc ki kb kl kd : ClassId) (i n0 : Int32) (h0 : ¬ i < 0) (h1 : i < n0) : aKn l yJ0_checkIndex_df160 (aW yJ0_checkIndex_df160 cJ0_checkIndex_df160 2 none) ({ frames := 1, cells := 0, slots := 0, locals := 22 } : Room) D J (aTy kc ki kb kl kd) [.int i, .int n0] ([]) (fun w => w = []) 0 0 := by
  refine aKN_of (own := RJ0) (by decide) rfl (Nat.le_of_ble_eq_true rfl) rfl ?_
  intro p e s m args below meth c C hr
  refine a_iload_n C 0 dJ0_checkIndex_df160_0 rfl rfl ?_
  refine a_iload_n C 1 dJ0_checkIndex_df160_1 rfl rfl ?_
  refine s_fmt C dJ0_checkIndex_df160_2 (fun v hv => ?_)
  refine g_Si (mc1 := 0) (ms1 := 0) C 3 ([]) (_) gS_J0_1059 hdS_J3_checkIndex_8e157 (gj C) ⟨rfl, rfl⟩ ⟨Nat.le_of_ble_eq_true rfl, Nat.le_of_ble_eq_true rfl⟩ (c_J3_checkIndex l D J kc ki kb kl kd v hv i n0 h0 h1) (List.Perm.refl _) (List.Perm.refl _) rfl rfl (Nat.le_of_ble_eq_true rfl) dJ0_checkIndex_df160_5 ⟨Nat.le_of_ble_eq_true rfl, Nat.le_of_ble_eq_true rfl⟩ ?_
  refine a_pop C dJ0_checkIndex_df160_8 rfl ?_
  exact g_vret (w1 := []) (rest := []) C hr dJ0_checkIndex_df160_9 ⟨Nat.le_of_ble_eq_true rfl, Nat.le_of_ble_eq_true rfl⟩ (List.Perm.refl _) rfl
theorem gS_J0_1062 : GoodIn WW (va_wsS RJ0 1062 yJ3_checkFromToIndex_8c36e (aW yJ3_checkFromToIndex_8c36e cJ3_checkFromToIndex_8c36e 4 (some .int))) := gdS kl_J0_1062 ks_J3_checkFromToIndex_8c36e kn_J3 kc_J3_checkFromToIndex_8c36e
theorem hdS_J3_checkFromToIndex_8c36e : yJ3_checkFromToIndex_8c36e.cls ≠ "java/lang/invoke/MethodHandle" ∧ yJ3_checkFromToIndex_8c36e.cls ≠ "java/lang/invoke/VarHandle" ∧ (parseMethodDescriptor yJ3_checkFromToIndex_8c36e.desc).map (fun d => d.parameters.length) = some 4 := by decide +kernel
set_option maxRecDepth 100000 in
set_option maxHeartbeats 4000000 in
theorem c_J0_checkBounds (l : Launch) (D : va_G) (J : JT) (kc ki kb kl kd : ClassId) (i0 i1 i2 : Int32) (h0 : ¬ i0 < 0) (h1 : ¬ i1 < i0) (h2 : i1 ≤ i2) : aKn l yJ0_checkBoundsBeginEnd_23922 (aW yJ0_checkBoundsBeginEnd_23922 cJ0_checkBoundsBeginEnd_23922 3 none) ({ frames := 1, cells := 0, slots := 0, locals := 23 } : Room) D J (aTy kc ki kb kl kd) [.int i0, .int i1, .int i2] ([]) (fun w => w = []) 0 0 := by
  refine aKN_of (own := RJ0) (by decide) rfl (Nat.le_of_ble_eq_true rfl) rfl ?_
  intro p e s m args below meth c C hr
  refine a_iload_n C 0 dJ0_checkBoundsBeginEnd_23922_0 rfl rfl ?_
  refine a_iload_n C 1 dJ0_checkBoundsBeginEnd_23922_1 rfl rfl ?_
  refine a_iload_n C 2 dJ0_checkBoundsBeginEnd_23922_2 rfl rfl ?_
  refine s_fmt C dJ0_checkBoundsBeginEnd_23922_3 (fun v hv => ?_)
  refine g_Si (mc1 := 0) (ms1 := 0) C 4 ([]) (_) gS_J0_1062 hdS_J3_checkFromToIndex_8c36e (gj C) ⟨rfl, rfl⟩ ⟨Nat.le_of_ble_eq_true rfl, Nat.le_of_ble_eq_true rfl⟩ (c_J3_checkFromToIndex l D J kc ki kb kl kd v hv i0 i1 i2 h0 h1 h2) (List.Perm.refl _) (List.Perm.refl _) rfl rfl (Nat.le_of_ble_eq_true rfl) dJ0_checkBoundsBeginEnd_23922_6 ⟨Nat.le_of_ble_eq_true rfl, Nat.le_of_ble_eq_true rfl⟩ ?_
  refine a_pop C dJ0_checkBoundsBeginEnd_23922_9 rfl ?_
  exact g_vret (w1 := []) (rest := []) C hr dJ0_checkBoundsBeginEnd_23922_10 ⟨Nat.le_of_ble_eq_true rfl, Nat.le_of_ble_eq_true rfl⟩ (List.Perm.refl _) rfl
theorem gS_J1_9 : GoodIn WW (va_wsS RJ1 9 yJ0_checkIndex_df160 (aW yJ0_checkIndex_df160 cJ0_checkIndex_df160 2 none)) := gdS kl_J1_9 ks_J0_checkIndex_df160 kn_J0 kc_J0_checkIndex_df160
theorem hdS_J0_checkIndex_df160 : yJ0_checkIndex_df160.cls ≠ "java/lang/invoke/MethodHandle" ∧ yJ0_checkIndex_df160.cls ≠ "java/lang/invoke/VarHandle" ∧ (parseMethodDescriptor yJ0_checkIndex_df160.desc).map (fun d => d.parameters.length) = some 2 := by decide +kernel
set_option maxRecDepth 100000 in
set_option maxHeartbeats 4000000 in
theorem c_J1_charAt (l : Launch) (D : va_G) (J : JT) (kc ki kb kl kd : ClassId) (q : TX) (hq : q ∈ J.2) (x : Int32) (h0 : ¬ x < 0) (h1 : x < nI q.val.2.2.length) (hx : vp_in x q.val.2.2.length) : aKI l yJ1_charAt_3b067 (aW yJ1_charAt_3b067 cJ1_charAt_3b067 2 (some .char)) ({ frames := 2, cells := 0, slots := 0, locals := 43 } : Room) D J (aTy kc ki kb kl kd) [.ref q.val.2.1, .int x] ([]) (q.val.2.2.getD x.toNatClampNeg 0) [] 0 0 := by
  refine aKI_of (own := RJ1) (by decide) rfl (Nat.le_of_ble_eq_true rfl) rfl ?_
  intro p e s m args below meth c C hr
  have hc := tx_in (q := q) (Nat.not_le.mp fun h => hx (Or.inr h))
  refine a_iload_n C 1 dJ1_charAt_3b067_0 rfl rfl ?_
  refine a_aload_n C 0 dJ1_charAt_3b067_1 rfl rfl ?_
  refine s_len C hq dJ1_charAt_3b067_2 ?_
  refine g_Sv (mc1 := 0) (ms1 := 0) C 2 ([]) gS_J1_9 hdS_J0_checkIndex_df160 (gj C) ⟨rfl, rfl⟩ ⟨Nat.le_of_ble_eq_true rfl, Nat.le_of_ble_eq_true rfl⟩ (c_J0_checkIndex l D J kc ki kb kl kd x _ h0 h1) (List.Perm.refl _) rfl rfl (Nat.le_of_ble_eq_true rfl) dJ1_charAt_3b067_3 ⟨Nat.le_of_ble_eq_true rfl, Nat.le_of_ble_eq_true rfl⟩ (fun w1 hw1 => ?_)
  subst hw1
  refine a_aload_n C 0 dJ1_charAt_3b067_6 rfl rfl ?_
  refine a_iload_n C 1 dJ1_charAt_3b067_7 rfl rfl ?_
  refine s_byte C hq hx dJ1_charAt_3b067_8 ?_
  refine a_sipush C (v := 255) dJ1_charAt_3b067_9 (by decide) ?_
  refine a_iand C dJ1_charAt_3b067_12 ?_
  refine a_i2c C dJ1_charAt_3b067_13 ?_
  exact g_iret (rest := []) C hr (by rw [(chr_ok hc).1]; exact nar_chr hc) dJ1_charAt_3b067_14 ⟨Nat.le_of_ble_eq_true rfl, Nat.le_of_ble_eq_true rfl⟩ (chr_ok hc).1 (List.Perm.refl _)
set_option maxRecDepth 100000 in
set_option maxHeartbeats 4000000 in
theorem c_J0_coder (l : Launch) (D : va_G) (J : JT) (kc ki kb kl kd : ClassId) (q : TX) (hq : q ∈ J.2) : aKI l yJ0_coder_7d493 (aW yJ0_coder_7d493 cJ0_coder_7d493 1 (some .byte)) ({ frames := 0, cells := 0, slots := 0, locals := 0 } : Room) D J (aTy kc ki kb kl kd) [.ref q.val.1] ([]) 0 [] 0 0 := by
  refine aKI_of (own := RJ0) (by decide) rfl (Nat.le_of_ble_eq_true rfl) rfl ?_
  intro p e s m args below meth c C hr
  refine s_compact C kf_J0_38 dJ0_coder_7d493_0 ?_
  refine a_if_eq C (tgt := 13) dJ0_coder_7d493_3 (by decide) (hF := (if_neg (by decide) : (if (1 : Int32) = 0 then (none : Option Unit) else some ()) = some ())) (fun _ hF => nomatch hF) (fun _ _ => ?_)
  refine a_aload_n C 0 dJ0_coder_7d493_6 rfl rfl ?_
  refine s_coder C hq dJ0_coder_7d493_7 ?_
  refine a_goto C (tgt := 14) dJ0_coder_7d493_10 (by decide) ?_
  exact g_iret (rest := []) C hr rfl dJ0_coder_7d493_14 ⟨Nat.le_of_ble_eq_true rfl, Nat.le_of_ble_eq_true rfl⟩ rfl (List.Perm.refl _)
set_option maxRecDepth 100000 in
set_option maxHeartbeats 4000000 in
theorem c_J0_isLatin1 (l : Launch) (D : va_G) (J : JT) (kc ki kb kl kd : ClassId) (q : TX) (hq : q ∈ J.2) : aKI l yJ0_isLatin1_aae02 (aW yJ0_isLatin1_aae02 cJ0_isLatin1_aae02 1 (some .boolean)) ({ frames := 0, cells := 0, slots := 0, locals := 0 } : Room) D J (aTy kc ki kb kl kd) [.ref q.val.1] ([]) 1 [] 0 0 := by
  refine aKI_of (own := RJ0) (by decide) rfl (Nat.le_of_ble_eq_true rfl) rfl ?_
  intro p e s m args below meth c C hr
  refine s_compact C kf_J0_38 dJ0_isLatin1_aae02_0 ?_
  refine a_if_eq C (tgt := 17) dJ0_isLatin1_aae02_3 (by decide) (hF := (if_neg (by decide) : (if (1 : Int32) = 0 then (none : Option Unit) else some ()) = some ())) (fun _ hF => nomatch hF) (fun _ _ => ?_)
  refine a_aload_n C 0 dJ0_isLatin1_aae02_6 rfl rfl ?_
  refine s_coder C hq dJ0_isLatin1_aae02_7 ?_
  refine a_if_ne C (tgt := 17) dJ0_isLatin1_aae02_10 (by decide) (hF := (if_neg (by decide) : (if ¬ (0 : Int32) = 0 then (none : Option Unit) else some ()) = some ())) (fun _ hF => nomatch hF) (fun _ _ => ?_)
  refine a_iconst C (v := 1) dJ0_isLatin1_aae02_13 (by decide) ?_
  refine a_goto C (tgt := 18) dJ0_isLatin1_aae02_14 (by decide) ?_
  exact g_iret (rest := []) C hr rfl dJ0_isLatin1_aae02_18 ⟨Nat.le_of_ble_eq_true rfl, Nat.le_of_ble_eq_true rfl⟩ rfl (List.Perm.refl _)
theorem gV_J0_335 : GoodIn WW (wsV RJ0 335 RJ0 yJ0_coder_7d493 (aW yJ0_coder_7d493 cJ0_coder_7d493 1 (some .byte))) := gdV kl_J0_335 ki_J0_coder_7d493 kv_J0_coder_7d493 kn_J0 kc_J0_coder_7d493
theorem hdV_J0_coder_7d493 : yJ0_coder_7d493.cls = RJ0 ∧ yJ0_coder_7d493.cls ≠ "java/lang/invoke/MethodHandle" ∧ yJ0_coder_7d493.cls ≠ "java/lang/invoke/VarHandle" ∧ (parseMethodDescriptor yJ0_coder_7d493.desc).map (fun d => d.parameters.length) = some 0 := by decide +kernel
set_option maxRecDepth 100000 in
set_option maxHeartbeats 4000000 in
theorem c_J0_length (l : Launch) (D : va_G) (J : JT) (kc ki kb kl kd : ClassId) (q : TX) (hq : q ∈ J.2) : aKI l yJ0_length_8abf5 (aW yJ0_length_8abf5 cJ0_length_8abf5 1 (some .int)) ({ frames := 1, cells := 0, slots := 0, locals := 20 } : Room) D J (aTy kc ki kb kl kd) [.ref q.val.1] ([]) (nI q.val.2.2.length) [] 0 0 := by
  refine aKI_of (own := RJ0) (by decide) rfl (Nat.le_of_ble_eq_true rfl) rfl ?_
  intro p e s m args below meth c C hr
  refine a_aload_n C 0 dJ0_length_8abf5_0 rfl rfl ?_
  refine s_value C hq dJ0_length_8abf5_1 ?_
  refine s_len C hq dJ0_length_8abf5_4 ?_
  refine a_aload_n C 0 dJ0_length_8abf5_5 rfl rfl ?_
  refine g_Vi (mc1 := 0) (ms1 := 0) C 0 ([]) ([]) gV_J0_335 hdV_J0_coder_7d493 (gj C) (gq C hq) ⟨rfl, rfl⟩ ⟨Nat.le_of_ble_eq_true rfl, Nat.le_of_ble_eq_true rfl⟩ (c_J0_coder l D J kc ki kb kl kd q hq) (List.Perm.refl _) (List.Perm.refl _) rfl rfl (Nat.le_of_ble_eq_true rfl) dJ0_length_8abf5_6 ⟨Nat.le_of_ble_eq_true rfl, Nat.le_of_ble_eq_true rfl⟩ ?_
  refine s_ishr C dJ0_length_8abf5_9 ?_
  exact g_iret (rest := []) C hr rfl dJ0_length_8abf5_10 ⟨Nat.le_of_ble_eq_true rfl, Nat.le_of_ble_eq_true rfl⟩ (sb_shr0 _) (List.Perm.refl _)
theorem gV_J0_492 : GoodIn WW (wsV RJ0 492 RJ0 yJ0_isLatin1_aae02 (aW yJ0_isLatin1_aae02 cJ0_isLatin1_aae02 1 (some .boolean))) := gdV kl_J0_492 ki_J0_isLatin1_aae02 kv_J0_isLatin1_aae02 kn_J0 kc_J0_isLatin1_aae02
theorem hdV_J0_isLatin1_aae02 : yJ0_isLatin1_aae02.cls = RJ0 ∧ yJ0_isLatin1_aae02.cls ≠ "java/lang/invoke/MethodHandle" ∧ yJ0_isLatin1_aae02.cls ≠ "java/lang/invoke/VarHandle" ∧ (parseMethodDescriptor yJ0_isLatin1_aae02.desc).map (fun d => d.parameters.length) = some 0 := by decide +kernel
theorem gS_J0_495 : GoodIn WW (va_wsS RJ0 495 yJ1_charAt_3b067 (aW yJ1_charAt_3b067 cJ1_charAt_3b067 2 (some .char))) := gdS kl_J0_495 ks_J1_charAt_3b067 kn_J1 kc_J1_charAt_3b067
theorem hdS_J1_charAt_3b067 : yJ1_charAt_3b067.cls ≠ "java/lang/invoke/MethodHandle" ∧ yJ1_charAt_3b067.cls ≠ "java/lang/invoke/VarHandle" ∧ (parseMethodDescriptor yJ1_charAt_3b067.desc).map (fun d => d.parameters.length) = some 2 := by decide +kernel
set_option maxRecDepth 100000 in
set_option maxHeartbeats 4000000 in
theorem c_J0_charAt (l : Launch) (D : va_G) (J : JT) (kc ki kb kl kd : ClassId) (q : TX) (hq : q ∈ J.2) (x : Int32) (h0 : ¬ x < 0) (h1 : x < nI q.val.2.2.length) (hx : vp_in x q.val.2.2.length) : aKI l yJ0_charAt_5068e (aW yJ0_charAt_5068e cJ0_charAt_5068e 2 (some .char)) ({ frames := 3, cells := 0, slots := 0, locals := 64 } : Room) D J (aTy kc ki kb kl kd) [.ref q.val.1, .int x] ([]) (q.val.2.2.getD x.toNatClampNeg 0) [] 0 0 := by
  refine aKI_of (own := RJ0) (by decide) rfl (Nat.le_of_ble_eq_true rfl) rfl ?_
  intro p e s m args below meth c C hr
  have hc := tx_in (q := q) (Nat.not_le.mp fun h => hx (Or.inr h))
  refine a_aload_n C 0 dJ0_charAt_5068e_0 rfl rfl ?_
  refine g_Vi (mc1 := 0) (ms1 := 0) C 0 ([]) ([]) gV_J0_492 hdV_J0_isLatin1_aae02 (gj C) (gq C hq) ⟨rfl, rfl⟩ ⟨Nat.le_of_ble_eq_true rfl, Nat.le_of_ble_eq_true rfl⟩ (c_J0_isLatin1 l D J kc ki kb kl kd q hq) (List.Perm.refl _) (List.Perm.refl _) rfl rfl (Nat.le_of_ble_eq_true rfl) dJ0_charAt_5068e_1 ⟨Nat.le_of_ble_eq_true rfl, Nat.le_of_ble_eq_true rfl⟩ ?_
  refine a_if_eq C (tgt := 16) dJ0_charAt_5068e_4 (by decide) (hF := (if_neg (by decide) : (if (1 : Int32) = 0 then (none : Option Unit) else some ()) = some ())) (fun _ hF => nomatch hF) (fun _ _ => ?_)
  refine a_aload_n C 0 dJ0_charAt_5068e_7 rfl rfl ?_
  refine s_value C hq dJ0_charAt_5068e_8 ?_
  refine a_iload_n C 1 dJ0_charAt_5068e_11 rfl rfl ?_
  refine g_Si (mc1 := 0) (ms1 := 0) C 2 ([]) ([]) gS_J0_495 hdS_J1_charAt_3b067 (gj C) ⟨rfl, rfl⟩ ⟨Nat.le_of_ble_eq_true rfl, Nat.le_of_ble_eq_true rfl⟩ (c_J1_charAt l D J kc ki kb kl kd q hq x h0 h1 hx) (List.Perm.refl _) (List.Perm.refl _) rfl rfl (Nat.le_of_ble_eq_true rfl) dJ0_charAt_5068e_12 ⟨Nat.le_of_ble_eq_true rfl, Nat.le_of_ble_eq_true rfl⟩ ?_
  exact g_iret (rest := []) C hr (nar_chr hc) dJ0_charAt_5068e_15 ⟨Nat.le_of_ble_eq_true rfl, Nat.le_of_ble_eq_true rfl⟩ rfl (List.Perm.refl _)
set_option maxRecDepth 100000 in
set_option maxHeartbeats 4000000 in
theorem c_J7_checkLength (l : Launch) (D : va_G) (J : JT) (kc ki kb kl kd : ClassId) (i0 i1 : Int32) (h : i0 ≤ i1) : aKn l yJ7_checkLength_df160 (aW yJ7_checkLength_df160 cJ7_checkLength_df160 2 none) ({ frames := 0, cells := 0, slots := 0, locals := 0 } : Room) D J (aTy kc ki kb kl kd) [.int i0, .int i1] ([]) (fun w => w = []) 0 0 := by
  refine aKN_of (own := RJ7) (by decide) rfl (Nat.le_of_ble_eq_true rfl) rfl ?_
  intro p e s m args below meth c C hr
  refine a_iload_n C 1 dJ7_checkLength_df160_0 rfl rfl ?_
  refine a_iload_n C 0 dJ7_checkLength_df160_1 rfl rfl ?_
  refine a_ic_ge C (tgt := 37) dJ7_checkLength_df160_2 (by decide) (hF := (if_pos h : (if i0 ≤ i1 then some () else (none : Option Unit)) = some ())) (fun _ _ => ?_) (fun _ hF => nomatch hF)
  exact g_vret (w1 := []) (rest := []) C hr dJ7_checkLength_df160_37 ⟨Nat.le_of_ble_eq_true rfl, Nat.le_of_ble_eq_true rfl⟩ (List.Perm.refl _) rfl
def slc (xs : List Int32) (i j : Nat) : List Int32 := (xs.drop i).take (j - i)
theorem slc_len {xs : List Int32} {i j : Nat} (h1 : i ≤ j) (h2 : j ≤ xs.length) : (slc xs i j).length = j - i := by simp [slc]; omega
theorem slc_ok {q : TX} {i j : Nat} : (slc q.val.2.2 i j).length ≤ 10 ∧ ∀ x ∈ slc q.val.2.2 i j, 0 ≤ x ∧ x < 128 := by
  refine ⟨?_, fun x hx => q.2.2 x (List.mem_of_mem_drop (List.mem_of_mem_take hx))⟩
  have h := q.2.1
  simp [slc]
  omega
theorem slc_cpy {xs : List Int32} {i j : Nat} (h1 : i ≤ j) (h2 : j ≤ xs.length) : va_cpy (fun k => xs.getD k 0) (fun _ => 0) i 0 (j - i) = fun k => (slc xs i j).getD k 0 := by
  funext k
  unfold va_cpy slc
  by_cases hk : k < j - i
  · rw [if_pos ⟨Nat.zero_le _, by omega⟩]
    simp [List.getD_eq_getElem?_getD, List.getElem?_take, hk, Nat.sub_zero]
  · rw [if_neg (by omega)]
    simp [List.getD_eq_getElem?_getD, List.getElem?_take, hk]
theorem n10 {a : Nat} (h : a ≤ 64) : a < 2 ^ 31 := Nat.lt_of_le_of_lt h (by decide)
theorem mini (x y : Int32) (h : ¬ y < x) : (if y < x then y else x) = x := if_neg h
theorem nI_sub {a b : Nat} (h : b ≤ a) (ha : a ≤ 64) : nI a - nI b = nI (a - b) := by
  have key : ∀ x y : Fin 65, y.val ≤ x.val → nI x.val - nI y.val = nI (x.val - y.val) := by decide +kernel
  exact key ⟨a, by omega⟩ ⟨b, by omega⟩ h
theorem gS_J7_343 : GoodIn WW (va_wsS RJ7 343 yJ7_checkLength_df160 (aW yJ7_checkLength_df160 cJ7_checkLength_df160 2 none)) := gdS kl_J7_343 ks_J7_checkLength_df160 kn_J7 kc_J7_checkLength_df160
theorem hdS_J7_checkLength_df160 : yJ7_checkLength_df160.cls ≠ "java/lang/invoke/MethodHandle" ∧ yJ7_checkLength_df160.cls ≠ "java/lang/invoke/VarHandle" ∧ (parseMethodDescriptor yJ7_checkLength_df160.desc).map (fun d => d.parameters.length) = some 2 := by decide +kernel
theorem if_pos_min {a b : Nat} (h : b ≤ a) (ha : a ≤ 64) : (if nI b < nI a then nI b else nI a) = nI b := by
  by_cases e : nI b < nI a
  · exact if_pos e
  · rw [if_neg e]
    by_cases h2 : b = a
    · rw [h2]
    · exact absurd (nI_lt (by omega) (n10 ha)) e
set_option maxRecDepth 100000 in
set_option maxHeartbeats 4000000 in
theorem c_J7_copyT (l : Launch) (D : va_G) (J : JT) (kc ki kb kl kd : ClassId) (q : TX) (hq : q ∈ J.2) (i j : Nat) (hij : i < j) (hj : j ≤ q.val.2.2.length) : aKR l yJ7_copyOfRangeByte_39247 (aW yJ7_copyOfRangeByte_39247 cJ7_copyOfRangeByte_39247 5 (some (.array .byte))) ({ frames := 1, cells := 1, slots := 10, locals := 60 } : Room) D J (aTy kc ki kb kl kd) [.ref q.val.2.1, .int (nI i), .int (nI j)] ([]) (fun (_ : Unit) (_ : Nat) => True) (fun _ a => [(a, .inl (kl, (slc q.val.2.2 i j).length, .inl fun k => (slc q.val.2.2 i j).getD k 0))]) 1 10 := by
  refine aKR_of (own := RJ7) (by decide) rfl (Nat.le_of_ble_eq_true rfl) rfl ?_
  intro p e s m args below meth c C hr
  have h10 := q.2.1
  have e1 : nI j - nI i = nI (j - i) := nI_sub (Nat.le_of_lt hij) (by omega)
  have e2 : nI q.val.2.2.length - nI i = nI (q.val.2.2.length - i) := nI_sub (by omega) (by omega)
  have e3 := slc_len (xs := q.val.2.2) (Nat.le_of_lt hij) hj
  refine a_iload_n C 1 dJ7_copyOfRangeByte_39247_0 rfl rfl ?_
  refine a_iload_n C 2 dJ7_copyOfRangeByte_39247_1 rfl rfl ?_
  refine g_Sv (mc1 := 0) (ms1 := 0) C 2 ([]) gS_J7_343 hdS_J7_checkLength_df160 (gj C) ⟨rfl, rfl⟩ ⟨Nat.le_of_ble_eq_true rfl, Nat.le_of_ble_eq_true rfl⟩ (c_J7_checkLength l D J kc ki kb kl kd _ _ (nI_le (Nat.le_of_lt hij) (n10 (by omega)))) (List.Perm.refl _) rfl rfl (Nat.le_of_ble_eq_true rfl) dJ7_copyOfRangeByte_39247_2 ⟨Nat.le_of_ble_eq_true rfl, Nat.le_of_ble_eq_true rfl⟩ (fun w1 hw1 => ?_)
  subst hw1
  refine a_iload_n C 2 dJ7_copyOfRangeByte_39247_5 rfl rfl ?_
  refine a_iload_n C 1 dJ7_copyOfRangeByte_39247_6 rfl rfl ?_
  refine a_isub C dJ7_copyOfRangeByte_39247_7 ?_
  refine a_istore_n C [(3, .int (((nI j)) - ((nI i)))), (0, .ref q.val.2.1), (1, .int (nI i)), (2, .int (nI j))] dJ7_copyOfRangeByte_39247_8 rfl (by decide) rfl ?_
  refine a_iload_n C 0 dJ7_copyOfRangeByte_39247_9 rfl rfl ?_
  refine c_newb C (N := j - i) 3 rfl ⟨by rw [e1]; exact nI_pos (n10 (by omega)), by rw [e1]; exact nI_clamp (n10 (by omega)), by show (j - i) * 1 ≤ _; omega⟩ ⟨Nat.le_of_ble_eq_true rfl, by show _ + (j - i) ≤ 10; omega⟩ dJ7_copyOfRangeByte_39247_10 (fun b => ?_)
  refine a_ws C (ws' := [(b, .inl (kl, j - i, .inl fun _ => 0))]) rfl ?_
  refine a_astore C [(4, .ref b), (3, .int (((nI j)) - ((nI i)))), (0, .ref q.val.2.1), (1, .int (nI i)), (2, .int (nI j))] dJ7_copyOfRangeByte_39247_12 (by decide) rfl ?_
  refine a_aload_n C 2 dJ7_copyOfRangeByte_39247_14 rfl rfl ?_
  refine a_iload_n C 3 dJ7_copyOfRangeByte_39247_15 rfl rfl ?_
  refine a_aload C 0 dJ7_copyOfRangeByte_39247_16 rfl ?_
  refine a_iconst C (v := 0) dJ7_copyOfRangeByte_39247_18 (by decide) ?_
  refine a_aload_n C 2 dJ7_copyOfRangeByte_39247_19 rfl rfl ?_
  refine s_len C hq dJ7_copyOfRangeByte_39247_20 ?_
  refine a_iload_n C 3 dJ7_copyOfRangeByte_39247_21 rfl rfl ?_
  refine a_isub C dJ7_copyOfRangeByte_39247_22 ?_
  refine a_iload_n C 1 dJ7_copyOfRangeByte_39247_23 rfl rfl ?_
  refine a_mmin C kl_J7_304 ks_J9_min_7cf53 kn_J9 kc_J9_min_7cf53 ⟨Nat.le_of_ble_eq_true rfl, Nat.le_of_ble_eq_true rfl⟩ ⟨Nat.le_of_ble_eq_true rfl, by show _ + _ ≤ 10; omega⟩ dJ7_copyOfRangeByte_39247_24 ?_
  rw [e2, e1, if_pos_min (a := q.val.2.2.length - i) (b := j - i) (by omega) (by omega)]
  refine s_copyt C hq 0 rfl rfl kl_J7_150 (nI_pos (n10 (by omega))) (by decide) (nI_pos (n10 (by omega))) (by rw [nI_clamp (n10 (by omega)), nI_clamp (n10 (by omega))]; omega) (by rw [nI_clamp (n10 (by omega))]; exact Nat.le_of_eq (Nat.zero_add _)) (fun x hx => (chr_ok (q.2.2 x hx)).2.2.2.1) ⟨Nat.le_of_ble_eq_true rfl, Nat.le_of_ble_eq_true rfl⟩ dJ7_copyOfRangeByte_39247_27 ?_
  refine a_ws C (ws' := [(b, .inl (kl, (slc q.val.2.2 i j).length, .inl fun k => (slc q.val.2.2 i j).getD k 0))]) (by rw [nI_clamp (n10 (by omega : i ≤ 64)), nI_clamp (n10 (by omega : j - i ≤ 64)), e3]; exact congrArg (fun f => [(b, (.inl (kl, j - i, .inl f) : va_E))]) (slc_cpy (Nat.le_of_lt hij) hj)) ?_
  refine a_aload C 0 dJ7_copyOfRangeByte_39247_30 rfl ?_
  exact g_rret (rest := []) () C hr (Or.inr ⟨_, rfl⟩) dJ7_copyOfRangeByte_39247_32 ⟨Nat.le_of_ble_eq_true rfl, by show _ + _ ≤ 10; omega⟩ trivial (pr0 _)
theorem gS_J7_339 : GoodIn WW (va_wsS RJ7 339 yJ7_copyOfRangeByte_39247 (aW yJ7_copyOfRangeByte_39247 cJ7_copyOfRangeByte_39247 5 (some (.array .byte)))) := gdS kl_J7_339 ks_J7_copyOfRangeByte_39247 kn_J7 kc_J7_copyOfRangeByte_39247
theorem hdS_J7_copyOfRangeByte_39247 : yJ7_copyOfRangeByte_39247.cls ≠ "java/lang/invoke/MethodHandle" ∧ yJ7_copyOfRangeByte_39247.cls ≠ "java/lang/invoke/VarHandle" ∧ (parseMethodDescriptor yJ7_copyOfRangeByte_39247.desc).map (fun d => d.parameters.length) = some 3 := by decide +kernel
set_option maxRecDepth 100000 in
set_option maxHeartbeats 4000000 in
theorem c_J7_copyOfT1 (l : Launch) (D : va_G) (J : JT) (kc ki kb kl kd : ClassId) (q : TX) (hq : q ∈ J.2) (i j : Nat) (hij : i < j) (hj : j ≤ q.val.2.2.length) (hi : 0 < i) : aKR l yJ7_copyOfRange_39247 (aW yJ7_copyOfRange_39247 cJ7_copyOfRange_39247 3 (some (.array .byte))) ({ frames := 2, cells := 1, slots := 10, locals := 84 } : Room) D J (aTy kc ki kb kl kd) [.ref q.val.2.1, .int (nI i), .int (nI j)] ([]) (fun (_ : Unit) (_ : Nat) => True) (fun _ a => [(a, .inl (kl, (slc q.val.2.2 i j).length, .inl fun k => (slc q.val.2.2 i j).getD k 0))]) 1 10 := by
  refine aKR_of (own := RJ7) (by decide) rfl (Nat.le_of_ble_eq_true rfl) rfl ?_
  intro p e s m args below meth c C hr
  have h10 := q.2.1
  refine a_iload_n C 1 dJ7_copyOfRange_39247_0 rfl rfl ?_
  refine a_if_ne C (tgt := 10) dJ7_copyOfRange_39247_1 (by decide) (hF := (if_pos (nI_ne0 hi (n10 (by omega))) : (if ¬ ((nI i)) = 0 then some () else (none : Option Unit)) = some ())) (fun _ _ => ?_) (fun _ hF => nomatch hF)
  refine a_aload_n C 0 dJ7_copyOfRange_39247_10 rfl rfl ?_
  refine a_iload_n C 1 dJ7_copyOfRange_39247_11 rfl rfl ?_
  refine a_iload_n C 2 dJ7_copyOfRange_39247_12 rfl rfl ?_
  refine g_Sr (mc1 := 1) (ms1 := 10) C 3 ([]) (fun _ a => [(a, .inl (kl, (slc q.val.2.2 i j).length, .inl fun k => (slc q.val.2.2 i j).getD k 0))]) gS_J7_339 hdS_J7_copyOfRangeByte_39247 (gj C) ⟨rfl, rfl⟩ ⟨Nat.le_of_ble_eq_true rfl, Nat.le_of_ble_eq_true rfl⟩ (c_J7_copyT l D J kc ki kb kl kd q hq i j hij hj) (List.Perm.refl _) (fun _ _ => pr0 _) rfl rfl (Nat.le_of_ble_eq_true rfl) dJ7_copyOfRange_39247_13 ⟨Nat.le_of_ble_eq_true rfl, Nat.le_of_ble_eq_true rfl⟩ (fun u a1 ha => ?_)
  exact g_rret (rest := []) () C hr (Or.inr ⟨_, rfl⟩) dJ7_copyOfRange_39247_16 ⟨Nat.le_of_ble_eq_true rfl, Nat.le_of_ble_eq_true rfl⟩ trivial (pr0 _)
set_option maxRecDepth 100000 in
set_option maxHeartbeats 4000000 in
theorem c_J7_copyOfT0 (l : Launch) (D : va_G) (J : JT) (kc ki kb kl kd : ClassId) (q : TX) (hq : q ∈ J.2) (j : Nat) (hij : 0 < j) (hj : j < q.val.2.2.length) : aKR l yJ7_copyOfRange_39247 (aW yJ7_copyOfRange_39247 cJ7_copyOfRange_39247 3 (some (.array .byte))) ({ frames := 2, cells := 1, slots := 10, locals := 84 } : Room) D J (aTy kc ki kb kl kd) [.ref q.val.2.1, .int (nI 0), .int (nI j)] ([]) (fun (_ : Unit) (_ : Nat) => True) (fun _ a => [(a, .inl (kl, (slc q.val.2.2 0 j).length, .inl fun k => (slc q.val.2.2 0 j).getD k 0))]) 1 10 := by
  refine aKR_of (own := RJ7) (by decide) rfl (Nat.le_of_ble_eq_true rfl) rfl ?_
  intro p e s m args below meth c C hr
  have h10 := q.2.1
  refine a_iload_n C 1 dJ7_copyOfRange_39247_0 rfl rfl ?_
  refine a_if_ne C (tgt := 10) dJ7_copyOfRange_39247_1 (by decide) (hF := (if_neg (by decide) : (if ¬ ((nI 0)) = 0 then (none : Option Unit) else some ()) = some ())) (fun _ hF => nomatch hF) (fun _ _ => ?_)
  refine a_iload_n C 2 dJ7_copyOfRange_39247_4 rfl rfl ?_
  refine a_aload_n C 0 dJ7_copyOfRange_39247_5 rfl rfl ?_
  refine s_len C hq dJ7_copyOfRange_39247_6 ?_
  refine a_ic_eq C (tgt := 17) dJ7_copyOfRange_39247_7 (by decide) (hF := (if_neg (fun e => absurd ((nI_eq (n10 (by omega)) (n10 (by omega))).mp e) (Nat.ne_of_lt hj)) : (if ((nI j)) = ((nI q.val.2.2.length)) then (none : Option Unit) else some ()) = some ())) (fun _ hF => nomatch hF) (fun _ _ => ?_)
  refine a_aload_n C 0 dJ7_copyOfRange_39247_10 rfl rfl ?_
  refine a_iload_n C 1 dJ7_copyOfRange_39247_11 rfl rfl ?_
  refine a_iload_n C 2 dJ7_copyOfRange_39247_12 rfl rfl ?_
  refine g_Sr (mc1 := 1) (ms1 := 10) C 3 ([]) (fun _ a => [(a, .inl (kl, (slc q.val.2.2 0 j).length, .inl fun k => (slc q.val.2.2 0 j).getD k 0))]) gS_J7_339 hdS_J7_copyOfRangeByte_39247 (gj C) ⟨rfl, rfl⟩ ⟨Nat.le_of_ble_eq_true rfl, Nat.le_of_ble_eq_true rfl⟩ (c_J7_copyT l D J kc ki kb kl kd q hq 0 j hij (Nat.le_of_lt hj)) (List.Perm.refl _) (fun _ _ => pr0 _) rfl rfl (Nat.le_of_ble_eq_true rfl) dJ7_copyOfRange_39247_13 ⟨Nat.le_of_ble_eq_true rfl, Nat.le_of_ble_eq_true rfl⟩ (fun u a1 ha => ?_)
  exact g_rret (rest := []) () C hr (Or.inr ⟨_, rfl⟩) dJ7_copyOfRange_39247_16 ⟨Nat.le_of_ble_eq_true rfl, Nat.le_of_ble_eq_true rfl⟩ trivial (pr0 _)
theorem c_J7_copyOfT (l : Launch) (D : va_G) (J : JT) (kc ki kb kl kd : ClassId) (q : TX) (hq : q ∈ J.2) (i j : Nat) (hij : i < j) (hj : j ≤ q.val.2.2.length) (h : 0 < i ∨ j < q.val.2.2.length) : aKR l yJ7_copyOfRange_39247 (aW yJ7_copyOfRange_39247 cJ7_copyOfRange_39247 3 (some (.array .byte))) ({ frames := 2, cells := 1, slots := 10, locals := 84 } : Room) D J (aTy kc ki kb kl kd) [.ref q.val.2.1, .int (nI i), .int (nI j)] [] (fun (_ : Unit) (_ : Nat) => True) (fun _ a => [(a, .inl (kl, (slc q.val.2.2 i j).length, .inl fun k => (slc q.val.2.2 i j).getD k 0))]) 1 10 := by
  by_cases hi : 0 < i
  · exact c_J7_copyOfT1 l D J kc ki kb kl kd q hq i j hij hj hi
  · have e : i = 0 := by omega
    subst e
    exact c_J7_copyOfT0 l D J kc ki kb kl kd q hq j hij (h.resolve_left hi)
