/-! NEW TEXTS AND THE BUILDER -/
theorem dJ4_length_8abf5_0 : decode cJ4_length_8abf5 0 = .ok (.aload_n 0, 1) := by decide +kernel
theorem dJ4_length_8abf5_1 : decode cJ4_length_8abf5 1 = .ok (.invokespecial 343, 3) := by decide +kernel
theorem dJ4_length_8abf5_4 : decode cJ4_length_8abf5 4 = .ok (.ireturn, 1) := by decide +kernel
set_option maxRecDepth 100000 in
set_option maxHeartbeats 4000000 in
theorem c_J0_initB (l : Launch) (D : va_G) (J : JT) (kc ki kb kl kd : ClassId) (t b : Nat) : aKn l yJ0_init_031fb (aW yJ0_init_031fb cJ0_init_031fb 3 none) ({ frames := 1, cells := 0, slots := 0, locals := 12 } : Room) D J (aTy kc ki kb kl kd) [.ref t, .ref b, .int 0] ([(t, .inr (7, [.null, .int 0, .int 0, .int 0]))]) (fun w => w = [(t, .inr (7, [.ref b, .int 0, .int 0, .int 0]))]) 0 0 := by
  refine aKn_of (own := RJ0) (by decide) rfl rfl (Nat.le_of_ble_eq_true rfl) rfl ?_
  intro p e s m args below meth c C hr hnm
  refine a_aload_n C 0 dJ0_init_031fb_0 rfl rfl ?_
  refine c_obj C kl_J0_1 dJ0_init_031fb_1 ⟨Nat.le_of_ble_eq_true rfl, Nat.le_of_ble_eq_true rfl⟩ ?_
  refine a_aload_n C 0 dJ0_init_031fb_4 rfl rfl ?_
  refine a_aload_n C 1 dJ0_init_031fb_5 rfl rfl ?_
  refine c_putF C hnm 0 0 iwJ0 tyJ0_ok nmJ0 rfl rfl (by decide) kf_J0_9 rfl rfl rfl rfl (Nat.le_of_ble_eq_true rfl) dJ0_init_031fb_6 ?_
  refine a_ws C (ws' := [(t, .inr (7, [.ref b, .int 0, .int 0, .int 0]))]) rfl ?_
  refine a_aload_n C 0 dJ0_init_031fb_9 rfl rfl ?_
  refine a_iload_n C 2 dJ0_init_031fb_10 rfl rfl ?_
  refine c_putF C hnm 0 1 iwJ0 tyJ0_ok nmJ0 rfl rfl (by decide) kf_J0_15 rfl rfl rfl rfl (Nat.le_of_ble_eq_true rfl) dJ0_init_031fb_11 ?_
  refine a_ws C (ws' := [(t, .inr (7, [.ref b, .int 0, .int 0, .int 0]))]) rfl ?_
  exact g_vret (w1 := [(t, .inr (7, [.ref b, .int 0, .int 0, .int 0]))]) (rest := []) C hr dJ0_init_031fb_14 ⟨Nat.le_of_ble_eq_true rfl, Nat.le_of_ble_eq_true rfl⟩ (pr0 _) rfl
theorem gS_J1_232 : GoodIn WW (va_wsS RJ1 232 yJ7_copyOfRange_39247 (aW yJ7_copyOfRange_39247 cJ7_copyOfRange_39247 3 (some (.array .byte)))) := gdS kl_J1_232 ks_J7_copyOfRange_39247 kn_J7 kc_J7_copyOfRange_39247
theorem hdS_J7_copyOfRange_39247 : yJ7_copyOfRange_39247.cls ≠ "java/lang/invoke/MethodHandle" ∧ yJ7_copyOfRange_39247.cls ≠ "java/lang/invoke/VarHandle" ∧ (parseMethodDescriptor yJ7_copyOfRange_39247.desc).map (fun d => d.parameters.length) = some 3 := by decide +kernel
theorem hdX_J0_init_031fb : yJ0_init_031fb.cls ≠ "java/lang/invoke/MethodHandle" ∧ yJ0_init_031fb.cls ≠ "java/lang/invoke/VarHandle" ∧ (parseMethodDescriptor yJ0_init_031fb.desc).map (fun d => d.parameters.length) = some 2 := by decide +kernel
set_option maxRecDepth 100000 in
set_option maxHeartbeats 4000000 in
theorem c_J1_newString (l : Launch) (D : va_G) (J : JT) (kc ki kb kl kd : ClassId) (q : TX) (hq : q ∈ J.2) (i j : Nat) (hij : i < j) (hj : j ≤ q.val.2.2.length) (h : 0 < i ∨ j < q.val.2.2.length) : aKR l yJ1_newString_b4f7a (aW yJ1_newString_b4f7a cJ1_newString_b4f7a 3 (some (.object "java/lang/String"))) ({ frames := 3, cells := 2, slots := 14, locals := 106 } : Room) D J (aTy kc ki kb kl kd) [.ref q.val.2.1, .int (nI i), .int (nI (j - i))] ([]) (fun (p1 : List TX) (a : Nat) => Kn (J.2 ++ p1) a (slc q.val.2.2 i j)) (fun p1 _ => cP kl p1) 2 14 := by
  refine aKR_of (own := RJ1) (by decide) rfl (Nat.le_of_ble_eq_true rfl) rfl ?_
  intro p e s m args below meth c C hr
  have h10 := q.2.1
  have e4 : nI i + nI (j - i) = nI j := by rw [nI_add]; congr 1; omega
  refine a_iload_n C 2 dJ1_newString_b4f7a_0 rfl rfl ?_
  refine a_if_ne C (tgt := 7) dJ1_newString_b4f7a_1 (by decide) (hF := (if_pos (nI_ne0 (by omega) (n10 (by omega))) : (if ¬ ((nI (j - i))) = 0 then some () else (none : Option Unit)) = some ())) (fun _ _ => ?_) (fun _ hF => nomatch hF)
  refine c_new C (ci := 7) (fs := [.null, .int 0, .int 0, .int 0]) iwJ0 tyJ0_ok kk_J1_1 ka_J0 kn_J0 rfl (fun j hj => by rcases (show j = 0 ∨ j = 1 ∨ j = 2 ∨ j = 3 by omega) with rfl | rfl | rfl | rfl <;> rfl) ⟨Nat.le_of_ble_eq_true rfl, Nat.le_of_ble_eq_true rfl⟩ dJ1_newString_b4f7a_7 (fun t => ?_)
  refine a_ws C (ws' := [(t, .inr (7, [.null, .int 0, .int 0, .int 0]))]) rfl ?_
  refine a_dup C dJ1_newString_b4f7a_10 rfl ?_
  refine a_aload_n C 0 dJ1_newString_b4f7a_11 rfl rfl ?_
  refine a_iload_n C 1 dJ1_newString_b4f7a_12 rfl rfl ?_
  refine a_iload_n C 1 dJ1_newString_b4f7a_13 rfl rfl ?_
  refine a_iload_n C 2 dJ1_newString_b4f7a_14 rfl rfl ?_
  refine a_iadd C dJ1_newString_b4f7a_15 ?_
  rw [e4]
  refine g_Sr (mc1 := 1) (ms1 := 10) C 3 ([(t, .inr (7, [.null, .int 0, .int 0, .int 0]))]) (fun _ b => [(b, .inl (kl, (slc q.val.2.2 i j).length, .inl fun k => (slc q.val.2.2 i j).getD k 0)), (t, .inr (7, [.null, .int 0, .int 0, .int 0]))]) gS_J1_232 hdS_J7_copyOfRange_39247 (gj C) ⟨rfl, rfl⟩ ⟨Nat.le_of_ble_eq_true rfl, Nat.le_of_ble_eq_true rfl⟩ (c_J7_copyOfT l D J kc ki kb kl kd q hq i j hij hj h) (List.Perm.refl _) (fun _ _ => List.Perm.refl _) rfl rfl (Nat.le_of_ble_eq_true rfl) dJ1_newString_b4f7a_16 ⟨Nat.le_of_ble_eq_true rfl, Nat.le_of_ble_eq_true rfl⟩ (fun _ b _ => ?_)
  refine a_iconst C (v := 0) dJ1_newString_b4f7a_19 (by decide) ?_
  refine g_Xv (mc1 := 0) (ms1 := 0) C 2 ([(b, .inl (kl, (slc q.val.2.2 i j).length, .inl fun k => (slc q.val.2.2 i j).getD k 0))]) kl_J1_112 ki_J0_init_031fb kn_J0 kc_J0_init_031fb rfl hdX_J0_init_031fb (gj C) ⟨rfl, rfl⟩ ⟨Nat.le_of_ble_eq_true rfl, Nat.le_of_ble_eq_true rfl⟩ (c_J0_initB l D J kc ki kb kl kd t b) (List.Perm.swap _ _ _) rfl rfl (Nat.le_of_ble_eq_true rfl) dJ1_newString_b4f7a_20 ⟨Nat.le_of_ble_eq_true rfl, Nat.le_of_ble_eq_true rfl⟩ (fun w1 hw1 => ?_)
  subst hw1
  exact g_rret (rest := []) [⟨(t, b, slc q.val.2.2 i j), slc_ok⟩] C hr (Or.inl ⟨_, rfl⟩) dJ1_newString_b4f7a_23 ⟨Nat.le_of_ble_eq_true rfl, Nat.le_of_ble_eq_true rfl⟩ ⟨⟨(t, b, slc q.val.2.2 i j), slc_ok⟩, List.mem_append_right _ List.mem_cons_self, rfl, rfl⟩ (by rw [cP_one]; exact pr0 _)
theorem gV_J0_505 : GoodIn WW (wsV RJ0 505 RJ0 yJ0_length_8abf5 (aW yJ0_length_8abf5 cJ0_length_8abf5 1 (some .int))) := gdV kl_J0_505 ki_J0_length_8abf5 kv_J0_length_8abf5 kn_J0 kc_J0_length_8abf5
theorem hdV_J0_length_8abf5 : yJ0_length_8abf5.cls = RJ0 ∧ yJ0_length_8abf5.cls ≠ "java/lang/invoke/MethodHandle" ∧ yJ0_length_8abf5.cls ≠ "java/lang/invoke/VarHandle" ∧ (parseMethodDescriptor yJ0_length_8abf5.desc).map (fun d => d.parameters.length) = some 0 := by decide +kernel
theorem gS_J0_521 : GoodIn WW (va_wsS RJ0 521 yJ0_checkBoundsBeginEnd_23922 (aW yJ0_checkBoundsBeginEnd_23922 cJ0_checkBoundsBeginEnd_23922 3 none)) := gdS kl_J0_521 ks_J0_checkBoundsBeginEnd_23922 kn_J0 kc_J0_checkBoundsBeginEnd_23922
theorem hdS_J0_checkBoundsBeginEnd_23922 : yJ0_checkBoundsBeginEnd_23922.cls ≠ "java/lang/invoke/MethodHandle" ∧ yJ0_checkBoundsBeginEnd_23922.cls ≠ "java/lang/invoke/VarHandle" ∧ (parseMethodDescriptor yJ0_checkBoundsBeginEnd_23922.desc).map (fun d => d.parameters.length) = some 3 := by decide +kernel
theorem gS_J0_685 : GoodIn WW (va_wsS RJ0 685 yJ1_newString_b4f7a (aW yJ1_newString_b4f7a cJ1_newString_b4f7a 3 (some (.object "java/lang/String")))) := gdS kl_J0_685 ks_J1_newString_b4f7a kn_J1 kc_J1_newString_b4f7a
theorem hdS_J1_newString_b4f7a : yJ1_newString_b4f7a.cls ≠ "java/lang/invoke/MethodHandle" ∧ yJ1_newString_b4f7a.cls ≠ "java/lang/invoke/VarHandle" ∧ (parseMethodDescriptor yJ1_newString_b4f7a.desc).map (fun d => d.parameters.length) = some 3 := by decide +kernel
set_option maxRecDepth 100000 in
set_option maxHeartbeats 4000000 in
theorem c_J0_sub2a (l : Launch) (D : va_G) (J : JT) (kc ki kb kl kd : ClassId) (q : TX) (hq : q ∈ J.2) (i j : Nat) (hij : i < j) (hj : j ≤ q.val.2.2.length) (h : 0 < i ∨ j < q.val.2.2.length) : aKR l yJ0_substring_37a41 (aW yJ0_substring_37a41 cJ0_substring_37a41 5 (some (.object "java/lang/String"))) ({ frames := 4, cells := 2, slots := 14, locals := 128 } : Room) D J (aTy kc ki kb kl kd) [.ref q.val.1, .int (nI i), .int (nI j)] ([]) (fun (p1 : List TX) (a : Nat) => Kn (J.2 ++ p1) a (slc q.val.2.2 i j)) (fun p1 _ => cP kl p1) 2 14 := by
  refine aKR_of (own := RJ0) (by decide) rfl (Nat.le_of_ble_eq_true rfl) rfl ?_
  intro p e s m args below meth c C hr
  have h10 := q.2.1
  have e5 : nI j - nI i = nI (j - i) := nI_sub (Nat.le_of_lt hij) (by omega)
  refine a_aload_n C 0 dJ0_substring_37a41_0 rfl rfl ?_
  refine g_Vi (mc1 := 0) (ms1 := 0) C 0 ([]) ([]) gV_J0_505 hdV_J0_length_8abf5 (gj C) (gq C hq) ⟨rfl, rfl⟩ ⟨Nat.le_of_ble_eq_true rfl, Nat.le_of_ble_eq_true rfl⟩ (c_J0_length l D J kc ki kb kl kd q hq) (List.Perm.refl _) (List.Perm.refl _) rfl rfl (Nat.le_of_ble_eq_true rfl) dJ0_substring_37a41_1 ⟨Nat.le_of_ble_eq_true rfl, Nat.le_of_ble_eq_true rfl⟩ ?_
  refine a_istore_n C [(3, .int (nI q.val.2.2.length)), (0, .ref q.val.1), (1, .int (nI i)), (2, .int (nI j))] dJ0_substring_37a41_4 rfl (by decide) rfl ?_
  refine a_iload_n C 2 dJ0_substring_37a41_5 rfl rfl ?_
  refine a_iload_n C 3 dJ0_substring_37a41_6 rfl rfl ?_
  refine a_iload_n C 0 dJ0_substring_37a41_7 rfl rfl ?_
  refine g_Sv (mc1 := 0) (ms1 := 0) C 3 ([]) gS_J0_521 hdS_J0_checkBoundsBeginEnd_23922 (gj C) ⟨rfl, rfl⟩ ⟨Nat.le_of_ble_eq_true rfl, Nat.le_of_ble_eq_true rfl⟩ (c_J0_checkBounds l D J kc ki kb kl kd _ _ _ (nI_pos (n10 (by omega))) (nI_nlt (Nat.le_of_lt hij) (n10 (by omega))) (nI_le hj (n10 (by omega)))) (List.Perm.refl _) rfl rfl (Nat.le_of_ble_eq_true rfl) dJ0_substring_37a41_8 ⟨Nat.le_of_ble_eq_true rfl, Nat.le_of_ble_eq_true rfl⟩ (fun w1 hw1 => ?_)
  subst hw1
  refine a_iload_n C 2 dJ0_substring_37a41_11 rfl rfl ?_
  by_cases hi : 0 < i
  · refine a_if_ne C (tgt := 22) dJ0_substring_37a41_12 (by decide) (hF := (if_pos (nI_ne0 hi (n10 (by omega))) : (if ¬ ((nI i)) = 0 then some () else (none : Option Unit)) = some ())) (fun _ _ => ?_) (fun _ hF => nomatch hF)
    refine a_iload_n C 3 dJ0_substring_37a41_22 rfl rfl ?_
    refine a_iload_n C 2 dJ0_substring_37a41_23 rfl rfl ?_
    refine a_isub C dJ0_substring_37a41_24 ?_
    refine a_istore C [(4, .int (((nI j)) - ((nI i)))), (3, .int (nI q.val.2.2.length)), (0, .ref q.val.1), (1, .int (nI i)), (2, .int (nI j))] dJ0_substring_37a41_25 (by decide) rfl ?_
    refine a_aload_n C 2 dJ0_substring_37a41_27 rfl rfl ?_
    refine g_Vi (mc1 := 0) (ms1 := 0) C 0 ([]) ([]) gV_J0_492 hdV_J0_isLatin1_aae02 (gj C) (gq C hq) ⟨rfl, rfl⟩ ⟨Nat.le_of_ble_eq_true rfl, Nat.le_of_ble_eq_true rfl⟩ (c_J0_isLatin1 l D J kc ki kb kl kd q hq) (List.Perm.refl _) (List.Perm.refl _) rfl rfl (Nat.le_of_ble_eq_true rfl) dJ0_substring_37a41_28 ⟨Nat.le_of_ble_eq_true rfl, Nat.le_of_ble_eq_true rfl⟩ ?_
    refine a_if_eq C (tgt := 47) dJ0_substring_37a41_31 (by decide) (hF := (if_neg (by decide) : (if (1 : Int32) = 0 then (none : Option Unit) else some ()) = some ())) (fun _ hF => nomatch hF) (fun _ _ => ?_)
    refine a_aload_n C 2 dJ0_substring_37a41_34 rfl rfl ?_
    refine s_value C hq dJ0_substring_37a41_35 ?_
    refine a_iload_n C 3 dJ0_substring_37a41_38 rfl rfl ?_
    refine a_iload C 0 dJ0_substring_37a41_39 rfl ?_
    rw [e5]
    refine g_Sr (mc1 := 2) (ms1 := 14) C 3 ([]) (fun p1 _ => cP kl p1) gS_J0_685 hdS_J1_newString_b4f7a (gj C) ⟨rfl, rfl⟩ ⟨Nat.le_of_ble_eq_true rfl, Nat.le_of_ble_eq_true rfl⟩ (c_J1_newString l D J kc ki kb kl kd q hq i j hij hj h) (List.Perm.refl _) (fun _ _ => pr0 _) rfl rfl (Nat.le_of_ble_eq_true rfl) dJ0_substring_37a41_41 ⟨Nat.le_of_ble_eq_true rfl, Nat.le_of_ble_eq_true rfl⟩ (fun p1 a1 ha => ?_)
    refine a_goto C (tgt := 57) dJ0_substring_37a41_44 (by decide) ?_
    exact g_rret (rest := []) p1 C hr (Or.inl ⟨_, rfl⟩) dJ0_substring_37a41_57 ⟨Nat.le_of_ble_eq_true rfl, Nat.le_of_ble_eq_true rfl⟩ ha (pr0 _)
  · have hi0 : i = 0 := by omega
    refine a_if_ne C (tgt := 22) dJ0_substring_37a41_12 (by decide) (hF := (if_neg (fun e => e (by rw [hi0]; rfl)) : (if ¬ ((nI i)) = 0 then (none : Option Unit) else some ()) = some ())) (fun _ hF => nomatch hF) (fun _ _ => ?_)
    refine a_iload_n C 3 dJ0_substring_37a41_15 rfl rfl ?_
    refine a_iload_n C 0 dJ0_substring_37a41_16 rfl rfl ?_
    refine a_ic_ne C (tgt := 22) dJ0_substring_37a41_17 (by decide) (hF := (if_pos (fun e => absurd ((nI_eq (n10 (by omega)) (n10 (by omega))).mp e) (Nat.ne_of_lt (h.resolve_left hi))) : (if ¬ ((nI j)) = ((nI q.val.2.2.length)) then some () else (none : Option Unit)) = some ())) (fun _ _ => ?_) (fun _ hF => nomatch hF)
    refine a_iload_n C 3 dJ0_substring_37a41_22 rfl rfl ?_
    refine a_iload_n C 2 dJ0_substring_37a41_23 rfl rfl ?_
    refine a_isub C dJ0_substring_37a41_24 ?_
    refine a_istore C [(4, .int (((nI j)) - ((nI i)))), (3, .int (nI q.val.2.2.length)), (0, .ref q.val.1), (1, .int (nI i)), (2, .int (nI j))] dJ0_substring_37a41_25 (by decide) rfl ?_
    refine a_aload_n C 2 dJ0_substring_37a41_27 rfl rfl ?_
    refine g_Vi (mc1 := 0) (ms1 := 0) C 0 ([]) ([]) gV_J0_492 hdV_J0_isLatin1_aae02 (gj C) (gq C hq) ⟨rfl, rfl⟩ ⟨Nat.le_of_ble_eq_true rfl, Nat.le_of_ble_eq_true rfl⟩ (c_J0_isLatin1 l D J kc ki kb kl kd q hq) (List.Perm.refl _) (List.Perm.refl _) rfl rfl (Nat.le_of_ble_eq_true rfl) dJ0_substring_37a41_28 ⟨Nat.le_of_ble_eq_true rfl, Nat.le_of_ble_eq_true rfl⟩ ?_
    refine a_if_eq C (tgt := 47) dJ0_substring_37a41_31 (by decide) (hF := (if_neg (by decide) : (if (1 : Int32) = 0 then (none : Option Unit) else some ()) = some ())) (fun _ hF => nomatch hF) (fun _ _ => ?_)
    refine a_aload_n C 2 dJ0_substring_37a41_34 rfl rfl ?_
    refine s_value C hq dJ0_substring_37a41_35 ?_
    refine a_iload_n C 3 dJ0_substring_37a41_38 rfl rfl ?_
    refine a_iload C 0 dJ0_substring_37a41_39 rfl ?_
    rw [e5]
    refine g_Sr (mc1 := 2) (ms1 := 14) C 3 ([]) (fun p1 _ => cP kl p1) gS_J0_685 hdS_J1_newString_b4f7a (gj C) ⟨rfl, rfl⟩ ⟨Nat.le_of_ble_eq_true rfl, Nat.le_of_ble_eq_true rfl⟩ (c_J1_newString l D J kc ki kb kl kd q hq i j hij hj h) (List.Perm.refl _) (fun _ _ => pr0 _) rfl rfl (Nat.le_of_ble_eq_true rfl) dJ0_substring_37a41_41 ⟨Nat.le_of_ble_eq_true rfl, Nat.le_of_ble_eq_true rfl⟩ (fun p1 a1 ha => ?_)
    refine a_goto C (tgt := 57) dJ0_substring_37a41_44 (by decide) ?_
    exact g_rret (rest := []) p1 C hr (Or.inl ⟨_, rfl⟩) dJ0_substring_37a41_57 ⟨Nat.le_of_ble_eq_true rfl, Nat.le_of_ble_eq_true rfl⟩ ha (pr0 _)
set_option maxRecDepth 100000 in
set_option maxHeartbeats 4000000 in
theorem c_J0_sub2b (l : Launch) (D : va_G) (J : JT) (kc ki kb kl kd : ClassId) (q : TX) (hq : q ∈ J.2) (hij : 0 < q.val.2.2.length) : aKR l yJ0_substring_37a41 (aW yJ0_substring_37a41 cJ0_substring_37a41 5 (some (.object "java/lang/String"))) ({ frames := 4, cells := 2, slots := 14, locals := 128 } : Room) D J (aTy kc ki kb kl kd) [.ref q.val.1, .int (nI 0), .int (nI q.val.2.2.length)] ([]) (fun (p1 : List TX) (a : Nat) => Kn (J.2 ++ p1) a q.val.2.2) (fun p1 _ => cP kl p1) 2 14 := by
  refine aKR_of (own := RJ0) (by decide) rfl (Nat.le_of_ble_eq_true rfl) rfl ?_
  intro p e s m args below meth c C hr
  have h10 := q.2.1
  refine a_aload_n C 0 dJ0_substring_37a41_0 rfl rfl ?_
  refine g_Vi (mc1 := 0) (ms1 := 0) C 0 ([]) ([]) gV_J0_505 hdV_J0_length_8abf5 (gj C) (gq C hq) ⟨rfl, rfl⟩ ⟨Nat.le_of_ble_eq_true rfl, Nat.le_of_ble_eq_true rfl⟩ (c_J0_length l D J kc ki kb kl kd q hq) (List.Perm.refl _) (List.Perm.refl _) rfl rfl (Nat.le_of_ble_eq_true rfl) dJ0_substring_37a41_1 ⟨Nat.le_of_ble_eq_true rfl, Nat.le_of_ble_eq_true rfl⟩ ?_
  refine a_istore_n C [(3, .int (nI q.val.2.2.length)), (0, .ref q.val.1), (1, .int (nI 0)), (2, .int (nI q.val.2.2.length))] dJ0_substring_37a41_4 rfl (by decide) rfl ?_
  refine a_iload_n C 2 dJ0_substring_37a41_5 rfl rfl ?_
  refine a_iload_n C 3 dJ0_substring_37a41_6 rfl rfl ?_
  refine a_iload_n C 0 dJ0_substring_37a41_7 rfl rfl ?_
  refine g_Sv (mc1 := 0) (ms1 := 0) C 3 ([]) gS_J0_521 hdS_J0_checkBoundsBeginEnd_23922 (gj C) ⟨rfl, rfl⟩ ⟨Nat.le_of_ble_eq_true rfl, Nat.le_of_ble_eq_true rfl⟩ (c_J0_checkBounds l D J kc ki kb kl kd _ _ _ (by decide) (nI_nlt (Nat.zero_le _) (n10 (by omega))) (nI_le (Nat.le_refl _) (n10 (by omega)))) (List.Perm.refl _) rfl rfl (Nat.le_of_ble_eq_true rfl) dJ0_substring_37a41_8 ⟨Nat.le_of_ble_eq_true rfl, Nat.le_of_ble_eq_true rfl⟩ (fun w1 hw1 => ?_)
  subst hw1
  refine a_iload_n C 2 dJ0_substring_37a41_11 rfl rfl ?_
  refine a_if_ne C (tgt := 22) dJ0_substring_37a41_12 (by decide) (hF := (if_neg (by decide) : (if ¬ ((nI 0)) = 0 then (none : Option Unit) else some ()) = some ())) (fun _ hF => nomatch hF) (fun _ _ => ?_)
  refine a_iload_n C 3 dJ0_substring_37a41_15 rfl rfl ?_
  refine a_iload_n C 0 dJ0_substring_37a41_16 rfl rfl ?_
  refine a_ic_ne C (tgt := 22) dJ0_substring_37a41_17 (by decide) (hF := (if_neg (fun e => e rfl) : (if ¬ ((nI q.val.2.2.length)) = ((nI q.val.2.2.length)) then (none : Option Unit) else some ()) = some ())) (fun _ hF => nomatch hF) (fun _ _ => ?_)
  refine a_aload_n C 1 dJ0_substring_37a41_20 rfl rfl ?_
  exact g_rret (rest := []) ([] : List TX) C hr (Or.inl ⟨_, rfl⟩) dJ0_substring_37a41_21 ⟨Nat.le_of_ble_eq_true rfl, Nat.le_of_ble_eq_true rfl⟩ ⟨q, List.mem_append_left _ hq, rfl, rfl⟩ (pr0 _)
theorem slc_all (xs : List Int32) : slc xs 0 xs.length = xs := by simp [slc]
theorem c_J0_sub2 (l : Launch) (D : va_G) (J : JT) (kc ki kb kl kd : ClassId) (q : TX) (hq : q ∈ J.2) (i j : Nat) (hij : i < j) (hj : j ≤ q.val.2.2.length) : aKR l yJ0_substring_37a41 (aW yJ0_substring_37a41 cJ0_substring_37a41 5 (some (.object "java/lang/String"))) ({ frames := 4, cells := 2, slots := 14, locals := 128 } : Room) D J (aTy kc ki kb kl kd) [.ref q.val.1, .int (nI i), .int (nI j)] [] (fun (p1 : List TX) (a : Nat) => Kn (J.2 ++ p1) a (slc q.val.2.2 i j)) (fun p1 _ => cP kl p1) 2 14 := by
  by_cases h : 0 < i ∨ j < q.val.2.2.length
  · exact c_J0_sub2a l D J kc ki kb kl kd q hq i j hij hj h
  · have e1 : i = 0 := by omega
    have e2 : j = q.val.2.2.length := by omega
    subst e1
    subst e2
    rw [slc_all]
    exact c_J0_sub2b l D J kc ki kb kl kd q hq hij
theorem gV_J0_681 : GoodIn WW (wsV RJ0 681 RJ0 yJ0_substring_37a41 (aW yJ0_substring_37a41 cJ0_substring_37a41 5 (some (.object "java/lang/String")))) := gdV kl_J0_681 ki_J0_substring_37a41 kv_J0_substring_37a41 kn_J0 kc_J0_substring_37a41
theorem hdV_J0_substring_37a41 : yJ0_substring_37a41.cls = RJ0 ∧ yJ0_substring_37a41.cls ≠ "java/lang/invoke/MethodHandle" ∧ yJ0_substring_37a41.cls ≠ "java/lang/invoke/VarHandle" ∧ (parseMethodDescriptor yJ0_substring_37a41.desc).map (fun d => d.parameters.length) = some 2 := by decide +kernel
set_option maxRecDepth 100000 in
set_option maxHeartbeats 4000000 in
theorem c_J0_sub1 (l : Launch) (D : va_G) (J : JT) (kc ki kb kl kd : ClassId) (q : TX) (hq : q ∈ J.2) (i : Nat) (hij : i < q.val.2.2.length) : aKR l yJ0_substring_b52d3 (aW yJ0_substring_b52d3 cJ0_substring_b52d3 2 (some (.object "java/lang/String"))) ({ frames := 5, cells := 2, slots := 14, locals := 152 } : Room) D J (aTy kc ki kb kl kd) [.ref q.val.1, .int (nI i)] ([]) (fun (p1 : List TX) (a : Nat) => Kn (J.2 ++ p1) a (slc q.val.2.2 i q.val.2.2.length)) (fun p1 _ => cP kl p1) 2 14 := by
  refine aKR_of (own := RJ0) (by decide) rfl (Nat.le_of_ble_eq_true rfl) rfl ?_
  intro p e s m args below meth c C hr
  refine a_aload_n C 0 dJ0_substring_b52d3_0 rfl rfl ?_
  refine a_iload_n C 1 dJ0_substring_b52d3_1 rfl rfl ?_
  refine a_aload_n C 0 dJ0_substring_b52d3_2 rfl rfl ?_
  refine g_Vi (mc1 := 0) (ms1 := 0) C 0 ([]) ([]) gV_J0_505 hdV_J0_length_8abf5 (gj C) (gq C hq) ⟨rfl, rfl⟩ ⟨Nat.le_of_ble_eq_true rfl, Nat.le_of_ble_eq_true rfl⟩ (c_J0_length l D J kc ki kb kl kd q hq) (List.Perm.refl _) (List.Perm.refl _) rfl rfl (Nat.le_of_ble_eq_true rfl) dJ0_substring_b52d3_3 ⟨Nat.le_of_ble_eq_true rfl, Nat.le_of_ble_eq_true rfl⟩ ?_
  refine g_Vr (mc1 := 2) (ms1 := 14) C 2 ([]) (fun p1 _ => cP kl p1) gV_J0_681 hdV_J0_substring_37a41 (gj C) (gq C hq) ⟨rfl, rfl⟩ ⟨Nat.le_of_ble_eq_true rfl, Nat.le_of_ble_eq_true rfl⟩ (c_J0_sub2 l D J kc ki kb kl kd q hq i q.val.2.2.length hij (Nat.le_refl _)) (List.Perm.refl _) (fun _ _ => pr0 _) rfl rfl (Nat.le_of_ble_eq_true rfl) dJ0_substring_b52d3_6 ⟨Nat.le_of_ble_eq_true rfl, Nat.le_of_ble_eq_true rfl⟩ (fun p1 a1 ha => ?_)
  exact g_rret (rest := []) p1 C hr (Or.inl ⟨_, rfl⟩) dJ0_substring_b52d3_9 ⟨Nat.le_of_ble_eq_true rfl, Nat.le_of_ble_eq_true rfl⟩ ha (pr0 _)
abbrev wSC (kl : ClassId) (sb row : Nat) (cnt : Int32) (f : Nat → Int32) : va_W := [(sb, .inr (8, [.ref row, .int 0, .int 0, .int cnt])), (row, .inl (kl, 16, .inl f))]
abbrev wSB (kl : ClassId) (sb row : Nat) (xs : List Int32) : va_W := wSC kl sb row (nI xs.length) (fun j => xs.getD j 0)
set_option maxRecDepth 100000 in
set_option maxHeartbeats 4000000 in
theorem c_J5_init (l : Launch) (D : va_G) (J : JT) (kc ki kb kl kd : ClassId) (sb : Nat) : aKn l yJ5_init_d00df (aW yJ5_init_d00df cJ5_init_d00df 2 none) ({ frames := 1, cells := 1, slots := 16, locals := 12 } : Room) D J (aTy kc ki kb kl kd) [.ref sb, .int 16] ([(sb, .inr (8, [.null, .int 0, .int 0, .int 0]))]) (fun w => ∃ row, w = wSB kl sb row []) 1 16 := by
  refine aKN_of (own := RJ5) (by decide) rfl (Nat.le_of_ble_eq_true rfl) rfl ?_
  intro p e s m args below meth c C hr
  refine a_aload_n C 0 dJ5_init_d00df_0 rfl rfl ?_
  refine c_obj C kl_J5_3 dJ5_init_d00df_1 ⟨Nat.le_of_ble_eq_true rfl, Nat.le_of_ble_eq_true rfl⟩ ?_
  refine s_compact C kf_J5_18 dJ5_init_d00df_4 ?_
  refine a_if_eq C (tgt := 25) dJ5_init_d00df_7 (by decide) (hF := (if_neg (by decide) : (if (1 : Int32) = 0 then (none : Option Unit) else some ()) = some ())) (fun _ hF => nomatch hF) (fun _ _ => ?_)
  refine a_aload_n C 0 dJ5_init_d00df_10 rfl rfl ?_
  refine a_iload_n C 1 dJ5_init_d00df_11 rfl rfl ?_
  refine c_newb C (N := 16) 3 rfl ⟨by decide, by decide, Nat.le_of_ble_eq_true rfl⟩ ⟨Nat.le_of_ble_eq_true rfl, Nat.le_of_ble_eq_true rfl⟩ dJ5_init_d00df_12 (fun row => ?_)
  refine a_ws C (ws' := [(sb, .inr (8, [.null, .int 0, .int 0, .int 0])), (row, .inl (kl, 16, .inl fun _ => 0))]) rfl ?_
  refine a_put C 0 0 iwJ4 tyJ4_ok nmJ4 rfl rfl (by decide) kf_J5_15 rfl rfl rfl (Nat.le_of_ble_eq_true rfl) dJ5_init_d00df_14 ?_
  refine a_ws C (ws' := [(sb, .inr (8, [.ref row, .int 0, .int 0, .int 0])), (row, .inl (kl, 16, .inl fun _ => 0))]) rfl ?_
  refine a_aload_n C 0 dJ5_init_d00df_17 rfl rfl ?_
  refine a_iconst C (v := 0) dJ5_init_d00df_18 (by decide) ?_
  refine a_put C 0 1 iwJ4 tyJ4_ok nmJ4 rfl rfl (by decide) kf_J5_22 rfl rfl rfl (Nat.le_of_ble_eq_true rfl) dJ5_init_d00df_19 ?_
  refine a_ws C (ws' := [(sb, .inr (8, [.ref row, .int 0, .int 0, .int 0])), (row, .inl (kl, 16, .inl fun _ => 0))]) rfl ?_
  refine a_goto C (tgt := 38) dJ5_init_d00df_22 (by decide) ?_
  exact g_vret (w1 := wSB kl sb row []) (rest := []) C hr dJ5_init_d00df_38 ⟨Nat.le_of_ble_eq_true rfl, Nat.le_of_ble_eq_true rfl⟩ (pr0 _) ⟨row, rfl⟩
theorem hdX_J5_init_d00df : yJ5_init_d00df.cls ≠ "java/lang/invoke/MethodHandle" ∧ yJ5_init_d00df.cls ≠ "java/lang/invoke/VarHandle" ∧ (parseMethodDescriptor yJ5_init_d00df.desc).map (fun d => d.parameters.length) = some 1 := by decide +kernel
set_option maxRecDepth 100000 in
set_option maxHeartbeats 4000000 in
theorem c_J4_init (l : Launch) (D : va_G) (J : JT) (kc ki kb kl kd : ClassId) (sb : Nat) : aKn l yJ4_init_da8c8 (aW yJ4_init_da8c8 cJ4_init_da8c8 1 none) ({ frames := 2, cells := 1, slots := 16, locals := 33 } : Room) D J (aTy kc ki kb kl kd) [.ref sb] ([(sb, .inr (8, [.null, .int 0, .int 0, .int 0]))]) (fun w => ∃ row, w = wSB kl sb row []) 1 16 := by
  refine aKN_of (own := RJ4) (by decide) rfl (Nat.le_of_ble_eq_true rfl) rfl ?_
  intro p e s m args below meth c C hr
  refine a_aload_n C 0 dJ4_init_da8c8_0 rfl rfl ?_
  refine a_bipush C (v := 16) dJ4_init_da8c8_1 (by decide) ?_
  refine g_Xv (mc1 := 1) (ms1 := 16) C 1 ([]) kl_J4_1 ki_J5_init_d00df kn_J5 kc_J5_init_d00df rfl hdX_J5_init_d00df (gj C) ⟨rfl, rfl⟩ ⟨Nat.le_of_ble_eq_true rfl, Nat.le_of_ble_eq_true rfl⟩ (c_J5_init l D J kc ki kb kl kd sb) (pr0 _) rfl rfl (Nat.le_of_ble_eq_true rfl) dJ4_init_da8c8_3 ⟨Nat.le_of_ble_eq_true rfl, Nat.le_of_ble_eq_true rfl⟩ (fun w1 hw1 => ?_)
  obtain ⟨row, rfl⟩ := hw1
  exact g_vret (w1 := wSB kl sb row []) (rest := []) C hr dJ4_init_da8c8_6 ⟨Nat.le_of_ble_eq_true rfl, Nat.le_of_ble_eq_true rfl⟩ (List.Perm.refl _) ⟨row, rfl⟩
set_option maxRecDepth 100000 in
set_option maxHeartbeats 4000000 in
theorem c_J5_ensure (l : Launch) (D : va_G) (J : JT) (kc ki kb kl kd : ClassId) (sb row : Nat) (cnt : Int32) (f : Nat → Int32) (x : Int32) (h : x - 16 ≤ 0) : aKn l yJ5_ensureCapacityInternal_d00df (aW yJ5_ensureCapacityInternal_d00df cJ5_ensureCapacityInternal_d00df 3 none) ({ frames := 0, cells := 0, slots := 0, locals := 0 } : Room) D J (aTy kc ki kb kl kd) [.ref sb, .int x] (wSC kl sb row cnt f) (fun w => w = wSC kl sb row cnt f) 0 0 := by
  refine aKN_of (own := RJ5) (by decide) rfl (Nat.le_of_ble_eq_true rfl) rfl ?_
  intro p e s m args below meth c C hr
  refine a_aload_n C 0 dJ5_ensureCapacityInternal_d00df_0 rfl rfl ?_
  refine a_get C 0 0 iwJ4 rfl rfl (by decide) kf_J5_15 rfl dJ5_ensureCapacityInternal_d00df_1 ?_
  refine s_alen C (v := 16) 1 rfl rfl rfl dJ5_ensureCapacityInternal_d00df_4 ?_
  refine a_aload_n C 0 dJ5_ensureCapacityInternal_d00df_5 rfl rfl ?_
  refine a_get C 0 1 iwJ4 rfl rfl (by decide) kf_J5_22 rfl dJ5_ensureCapacityInternal_d00df_6 ?_
  refine s_ishr C dJ5_ensureCapacityInternal_d00df_9 ?_
  rw [sb_shr0]
  refine a_istore_n C [(2, .int 16), (0, .ref sb), (1, .int x)] dJ5_ensureCapacityInternal_d00df_10 rfl (by decide) rfl ?_
  refine a_iload_n C 2 dJ5_ensureCapacityInternal_d00df_11 rfl rfl ?_
  refine a_iload_n C 0 dJ5_ensureCapacityInternal_d00df_12 rfl rfl ?_
  refine a_isub C dJ5_ensureCapacityInternal_d00df_13 ?_
  refine a_if_le C (tgt := 38) dJ5_ensureCapacityInternal_d00df_14 (by decide) (hF := (if_pos h : (if ((x - 16)) ≤ 0 then some () else (none : Option Unit)) = some ())) (fun _ _ => ?_) (fun _ hF => nomatch hF)
  exact g_vret (w1 := wSC kl sb row cnt f) (rest := []) C hr dJ5_ensureCapacityInternal_d00df_38 ⟨Nat.le_of_ble_eq_true rfl, Nat.le_of_ble_eq_true rfl⟩ (pr0 _) rfl
set_option maxRecDepth 100000 in
set_option maxHeartbeats 4000000 in
theorem c_J5_isLatin1 (l : Launch) (D : va_G) (J : JT) (kc ki kb kl kd : ClassId) (sb row : Nat) (cnt : Int32) (f : Nat → Int32) : aKI l yJ5_isLatin1_aae02 (aW yJ5_isLatin1_aae02 cJ5_isLatin1_aae02 1 (some .boolean)) ({ frames := 0, cells := 0, slots := 0, locals := 0 } : Room) D J (aTy kc ki kb kl kd) [.ref sb] (wSC kl sb row cnt f) 1 (wSC kl sb row cnt f) 0 0 := by
  refine aKI_of (own := RJ5) (by decide) rfl (Nat.le_of_ble_eq_true rfl) rfl ?_
  intro p e s m args below meth c C hr
  refine s_compact C kf_J5_18 dJ5_isLatin1_aae02_0 ?_
  refine a_if_eq C (tgt := 17) dJ5_isLatin1_aae02_3 (by decide) (hF := (if_neg (by decide) : (if (1 : Int32) = 0 then (none : Option Unit) else some ()) = some ())) (fun _ hF => nomatch hF) (fun _ _ => ?_)
  refine a_aload_n C 0 dJ5_isLatin1_aae02_6 rfl rfl ?_
  refine a_get C 0 1 iwJ4 rfl rfl (by decide) kf_J5_22 rfl dJ5_isLatin1_aae02_7 ?_
  refine a_if_ne C (tgt := 17) dJ5_isLatin1_aae02_10 (by decide) (hF := (if_neg (by decide) : (if ¬ (0 : Int32) = 0 then (none : Option Unit) else some ()) = some ())) (fun _ hF => nomatch hF) (fun _ _ => ?_)
  refine a_iconst C (v := 1) dJ5_isLatin1_aae02_13 (by decide) ?_
  refine a_goto C (tgt := 18) dJ5_isLatin1_aae02_14 (by decide) ?_
  exact g_iret (rest := []) C hr rfl dJ5_isLatin1_aae02_18 ⟨Nat.le_of_ble_eq_true rfl, Nat.le_of_ble_eq_true rfl⟩ rfl (pr0 _)
set_option maxRecDepth 100000 in
set_option maxHeartbeats 4000000 in
theorem c_J1_canEncode (l : Launch) (D : va_G) (J : JT) (kc ki kb kl kd : ClassId) (x : Int32) (h : ¬ 255 < x) : aKI l yJ1_canEncode_fc78d (aW yJ1_canEncode_fc78d cJ1_canEncode_fc78d 1 (some .boolean)) ({ frames := 0, cells := 0, slots := 0, locals := 0 } : Room) D J (aTy kc ki kb kl kd) [.int x] ([]) 1 [] 0 0 := by
  refine aKI_of (own := RJ1) (by decide) rfl (Nat.le_of_ble_eq_true rfl) rfl ?_
  intro p e s m args below meth c C hr
  refine a_iload_n C 0 dJ1_canEncode_fc78d_0 rfl rfl ?_
  refine a_sipush C (v := 255) dJ1_canEncode_fc78d_1 (by decide) ?_
  refine a_ic_gt C (tgt := 11) dJ1_canEncode_fc78d_4 (by decide) (hF := (if_neg h : (if 255 < x then (none : Option Unit) else some ()) = some ())) (fun _ hF => nomatch hF) (fun _ _ => ?_)
  refine a_iconst C (v := 1) dJ1_canEncode_fc78d_7 (by decide) ?_
  refine a_goto C (tgt := 12) dJ1_canEncode_fc78d_8 (by decide) ?_
  exact g_iret (rest := []) C hr rfl dJ1_canEncode_fc78d_12 ⟨Nat.le_of_ble_eq_true rfl, Nat.le_of_ble_eq_true rfl⟩ rfl (List.Perm.refl _)
theorem sb_put {xs : List Int32} {x : Int32} (hx : 0 ≤ x ∧ x < 128) (h : xs.length + 1 ≤ 16) : upd (fun j => xs.getD j 0) (nI xs.length).toNatClampNeg (vp_nar .byte x) = fun j => (xs ++ [x]).getD j 0 := by
  rw [nI_clamp (n10 (by omega)), (chr_ok hx).2.2.2.2.1]
  funext j
  unfold upd
  by_cases hj : j = xs.length
  · subst hj
    simp
  · by_cases h2 : j < xs.length
    · simp [hj, List.getD_eq_getElem?_getD, List.getElem?_append_left h2]
    · have h3 : xs.length + 1 ≤ j := by omega
      simp [hj, List.getD_eq_getElem?_getD, List.getElem?_eq_none (show (xs ++ [x]).length ≤ j by simp; omega), List.getElem?_eq_none (show xs.length ≤ j by omega)]
theorem sb_cpy {xs ys : List Int32} : va_cpy (fun j => ys.getD j 0) (fun j => xs.getD j 0) 0 xs.length ys.length = fun j => (xs ++ ys).getD j 0 := by
  funext j
  unfold va_cpy
  by_cases h : xs.length ≤ j ∧ j < xs.length + ys.length
  · rw [if_pos h]
    simp [List.getD_eq_getElem?_getD, List.getElem?_append_right h.1]
  · rw [if_neg h]
    by_cases h2 : j < xs.length
    · simp [List.getD_eq_getElem?_getD, List.getElem?_append_left h2]
    · simp [List.getD_eq_getElem?_getD, List.getElem?_eq_none (show (xs ++ ys).length ≤ j by simp; omega), List.getElem?_eq_none (show xs.length ≤ j by omega)]
theorem le16 {a : Nat} (h : a ≤ 16) : nI a - 16 ≤ 0 := by
  have key : ∀ x : Fin 17, nI x.val - 16 ≤ 0 := by decide +kernel
  exact key ⟨a, by omega⟩
theorem shl0 {a : Nat} (h : a ≤ 16) : nI a <<< ((0 : Int32) &&& 31) = nI a := by
  have key : ∀ x : Fin 17, nI x.val <<< ((0 : Int32) &&& 31) = nI x.val := by decide +kernel
  exact key ⟨a, by omega⟩
theorem hdU_J5_ensureCapacityInternal_d00df : yJ5_ensureCapacityInternal_d00df.cls ≠ "java/lang/invoke/MethodHandle" ∧ yJ5_ensureCapacityInternal_d00df.cls ≠ "java/lang/invoke/VarHandle" ∧ (parseMethodDescriptor yJ5_ensureCapacityInternal_d00df.desc).map (fun d => d.parameters.length) = some 1 := by decide +kernel
theorem hdU_J5_isLatin1_aae02 : yJ5_isLatin1_aae02.cls ≠ "java/lang/invoke/MethodHandle" ∧ yJ5_isLatin1_aae02.cls ≠ "java/lang/invoke/VarHandle" ∧ (parseMethodDescriptor yJ5_isLatin1_aae02.desc).map (fun d => d.parameters.length) = some 0 := by decide +kernel
theorem gS_J5_191 : GoodIn WW (va_wsS RJ5 191 yJ1_canEncode_fc78d (aW yJ1_canEncode_fc78d cJ1_canEncode_fc78d 1 (some .boolean))) := gdS kl_J5_191 ks_J1_canEncode_fc78d kn_J1 kc_J1_canEncode_fc78d
theorem hdS_J1_canEncode_fc78d : yJ1_canEncode_fc78d.cls ≠ "java/lang/invoke/MethodHandle" ∧ yJ1_canEncode_fc78d.cls ≠ "java/lang/invoke/VarHandle" ∧ (parseMethodDescriptor yJ1_canEncode_fc78d.desc).map (fun d => d.parameters.length) = some 1 := by decide +kernel
set_option maxRecDepth 100000 in
set_option maxHeartbeats 4000000 in
theorem c_J5_appC (l : Launch) (D : va_G) (J : JT) (kc ki kb kl kd : ClassId) (sb row : Nat) (xs : List Int32) (x : Int32) (hx : 0 ≤ x ∧ x < 128) (h : xs.length + 1 ≤ 16) : aKR l yJ5_append_3fe6f (aW yJ5_append_3fe6f cJ5_append_3fe6f 2 (some (.object "java/lang/AbstractStringBuilder"))) ({ frames := 1, cells := 0, slots := 0, locals := 22 } : Room) D J (aTy kc ki kb kl kd) [.ref sb, .int x] (wSB kl sb row xs) (fun (_ : Unit) a => a = sb) (fun _ _ => wSB kl sb row (xs ++ [x])) 0 0 := by
  refine aKR_of (own := RJ5) (by decide) rfl (Nat.le_of_ble_eq_true rfl) rfl ?_
  intro p e s m args below meth c C hr
  refine a_aload_n C 0 dJ5_append_3fe6f_0 rfl rfl ?_
  refine a_aload_n C 0 dJ5_append_3fe6f_1 rfl rfl ?_
  refine a_get C 0 3 iwJ4 rfl rfl (by decide) kf_J5_79 rfl dJ5_append_3fe6f_2 ?_
  refine a_iconst C (v := 1) dJ5_append_3fe6f_5 (by decide) ?_
  refine a_iadd C dJ5_append_3fe6f_6 ?_
  rw [nI_1]
  refine g_Uv (mc1 := 0) (ms1 := 0) C 1 ([]) kc_J5_ensureCapacityInternal_d00df kn_J5 kl_J5_100 km_J5_ensureCapacityInternal_d00df (va_Decl.of (C.1.2.2.2.2 _ ki_J5_ensureCapacityInternal_d00df) (C.1.2.2.2.2 _ kc_J5_ensureCapacityInternal_d00df)) (sp C (List.mem_of_getElem? (i := 0) rfl)) ki_J5_ensureCapacityInternal_d00df hdU_J5_ensureCapacityInternal_d00df (gj C) (gr C 0 (ci := 8) (C1 := RJ4) rfl rfl) ⟨rfl, rfl⟩ ⟨Nat.le_of_ble_eq_true rfl, Nat.le_of_ble_eq_true rfl⟩ (c_J5_ensure l D J kc ki kb kl kd sb row (nI xs.length) (fun j => xs.getD j 0) _ (le16 h)) (pr0 _) rfl rfl (Nat.le_of_ble_eq_true rfl) dJ5_append_3fe6f_7 ⟨Nat.le_of_ble_eq_true rfl, Nat.le_of_ble_eq_true rfl⟩ (fun w1 hw1 => ?_)
  subst hw1
  refine g_ws C (ws' := wSB kl sb row xs) (pr0 _).symm ?_
  refine a_aload_n C 0 dJ5_append_3fe6f_10 rfl rfl ?_
  refine g_Ui (mc1 := 0) (ms1 := 0) C 0 ([]) (wSB kl sb row xs) kc_J5_isLatin1_aae02 kn_J5 kl_J5_83 km_J5_isLatin1_aae02 (va_Decl.of (C.1.2.2.2.2 _ ki_J5_isLatin1_aae02) (C.1.2.2.2.2 _ kc_J5_isLatin1_aae02)) (C.1.2.2.2.2 _ kvv_J5_isLatin1_aae02) ki_J5_isLatin1_aae02 hdU_J5_isLatin1_aae02 (gj C) (gr C 0 (ci := 8) (C1 := RJ4) rfl rfl) ⟨rfl, rfl⟩ ⟨Nat.le_of_ble_eq_true rfl, Nat.le_of_ble_eq_true rfl⟩ (c_J5_isLatin1 l D J kc ki kb kl kd sb row (nI xs.length) (fun j => xs.getD j 0)) (pr0 _) (pr0 _) rfl rfl (Nat.le_of_ble_eq_true rfl) dJ5_append_3fe6f_11 ⟨Nat.le_of_ble_eq_true rfl, Nat.le_of_ble_eq_true rfl⟩ ?_
  refine a_if_eq C (tgt := 45) dJ5_append_3fe6f_14 (by decide) (hF := (if_neg (by decide) : (if (1 : Int32) = 0 then (none : Option Unit) else some ()) = some ())) (fun _ hF => nomatch hF) (fun _ _ => ?_)
  refine a_iload_n C 1 dJ5_append_3fe6f_17 rfl rfl ?_
  refine g_Si (mc1 := 0) (ms1 := 0) C 1 (wSB kl sb row xs) (wSB kl sb row xs) gS_J5_191 hdS_J1_canEncode_fc78d (gj C) ⟨rfl, rfl⟩ ⟨Nat.le_of_ble_eq_true rfl, Nat.le_of_ble_eq_true rfl⟩ (c_J1_canEncode l D J kc ki kb kl kd x (chr_ok hx).2.2.2.2.2) (List.Perm.refl _) (List.Perm.refl _) rfl rfl (Nat.le_of_ble_eq_true rfl) dJ5_append_3fe6f_18 ⟨Nat.le_of_ble_eq_true rfl, Nat.le_of_ble_eq_true rfl⟩ ?_
  refine a_if_eq C (tgt := 45) dJ5_append_3fe6f_21 (by decide) (hF := (if_neg (by decide) : (if (1 : Int32) = 0 then (none : Option Unit) else some ()) = some ())) (fun _ hF => nomatch hF) (fun _ _ => ?_)
  refine a_aload_n C 0 dJ5_append_3fe6f_24 rfl rfl ?_
  refine a_get C 0 0 iwJ4 rfl rfl (by decide) kf_J5_15 rfl dJ5_append_3fe6f_25 ?_
  refine a_aload_n C 0 dJ5_append_3fe6f_28 rfl rfl ?_
  refine a_dup C dJ5_append_3fe6f_29 rfl ?_
  refine a_get C 0 3 iwJ4 rfl rfl (by decide) kf_J5_79 rfl dJ5_append_3fe6f_30 ?_
  refine s_dupx C rfl rfl dJ5_append_3fe6f_33 ?_
  refine a_iconst C (v := 1) dJ5_append_3fe6f_34 (by decide) ?_
  refine a_iadd C dJ5_append_3fe6f_35 ?_
  rw [nI_1]
  refine a_put C 0 3 iwJ4 tyJ4_ok nmJ4 rfl rfl (by decide) kf_J5_79 rfl rfl rfl (Nat.le_of_ble_eq_true rfl) dJ5_append_3fe6f_36 ?_
  refine a_ws C (ws' := wSC kl sb row (nI (xs.length + 1)) (fun j => xs.getD j 0)) rfl ?_
  refine a_iload_n C 1 dJ5_append_3fe6f_39 rfl rfl ?_
  refine s_i2b C (chr_ok hx).2.2.1 dJ5_append_3fe6f_40 ?_
  refine s_bast C 1 rfl rfl (vp_in_nI (by omega) (by decide)) dJ5_append_3fe6f_41 ?_
  refine a_ws C (ws' := wSB kl sb row (xs ++ [x])) (by rw [sb_put hx h]; simp [wSB, wSC]) ?_
  refine a_goto C (tgt := 75) dJ5_append_3fe6f_42 (by decide) ?_
  refine a_aload_n C 0 dJ5_append_3fe6f_75 rfl rfl ?_
  exact g_rret (rest := []) () C hr (Or.inl ⟨_, rfl⟩) dJ5_append_3fe6f_76 ⟨Nat.le_of_ble_eq_true rfl, Nat.le_of_ble_eq_true rfl⟩ rfl (pr0 _)
theorem gZ_J4_50 : GoodIn WW (va_wsSU RJ4 50 yJ5_append_3fe6f (aW yJ5_append_3fe6f cJ5_append_3fe6f 2 (some (.object "java/lang/AbstractStringBuilder")))) := gdZ kl_J4_50 km_J5_append_3fe6f kz_J4 ki_J5_append_3fe6f kn_J5 kc_J5_append_3fe6f
theorem hdZ_J5_append_3fe6f : yJ5_append_3fe6f.name ≠ "<init>" ∧ (parseMethodDescriptor yJ5_append_3fe6f.desc).map (fun d => d.parameters.length) = some 1 := by decide +kernel
set_option maxRecDepth 100000 in
set_option maxHeartbeats 4000000 in
theorem c_J4_appC (l : Launch) (D : va_G) (J : JT) (kc ki kb kl kd : ClassId) (sb row : Nat) (xs : List Int32) (x : Int32) (hx : 0 ≤ x ∧ x < 128) (h : xs.length + 1 ≤ 16) : aKR l yJ4_append_cf468 (aW yJ4_append_cf468 cJ4_append_cf468 2 (some (.object "java/lang/StringBuilder"))) ({ frames := 2, cells := 0, slots := 0, locals := 43 } : Room) D J (aTy kc ki kb kl kd) [.ref sb, .int x] (wSB kl sb row xs) (fun (_ : Unit) a => a = sb) (fun _ _ => wSB kl sb row (xs ++ [x])) 0 0 := by
  refine aKR_of (own := RJ4) (by decide) rfl (Nat.le_of_ble_eq_true rfl) rfl ?_
  intro p e s m args below meth c C hr
  refine a_aload_n C 0 dJ4_append_cf468_0 rfl rfl ?_
  refine a_iload_n C 1 dJ4_append_cf468_1 rfl rfl ?_
  refine g_Zr (mc1 := 0) (ms1 := 0) C 1 ([]) (fun _ _ => wSB kl sb row (xs ++ [x])) gZ_J4_50 hdZ_J5_append_3fe6f ⟨_, (C.2.1.1.1 8 _ rfl).2⟩ (gj C) (gr C 0 (ci := 8) (C1 := RJ4) rfl rfl) ⟨rfl, rfl⟩ ⟨Nat.le_of_ble_eq_true rfl, Nat.le_of_ble_eq_true rfl⟩ (c_J5_appC l D J kc ki kb kl kd sb row xs x hx h) (pr0 _) (fun _ _ => pr0 _) rfl rfl (Nat.le_of_ble_eq_true rfl) dJ4_append_cf468_2 ⟨Nat.le_of_ble_eq_true rfl, Nat.le_of_ble_eq_true rfl⟩ (fun _ a1 ha => ?_)
  have ha := Eq.symm ha
  subst ha
  refine a_pop C dJ4_append_cf468_5 rfl ?_
  refine a_aload_n C 0 dJ4_append_cf468_6 rfl rfl ?_
  exact g_rret (rest := []) () C hr (Or.inl ⟨_, rfl⟩) dJ4_append_cf468_7 ⟨Nat.le_of_ble_eq_true rfl, Nat.le_of_ble_eq_true rfl⟩ rfl (pr0 _)
theorem gV_J5_40 : GoodIn WW (wsV RJ5 40 RJ0 yJ0_coder_7d493 (aW yJ0_coder_7d493 cJ0_coder_7d493 1 (some .byte))) := gdV kl_J5_40 ki_J0_coder_7d493 kv_J0_coder_7d493 kn_J0 kc_J0_coder_7d493
set_option maxRecDepth 100000 in
set_option maxHeartbeats 4000000 in
theorem c_J5_inflIf (l : Launch) (D : va_G) (J : JT) (kc ki kb kl kd : ClassId) (sb row : Nat) (cnt : Int32) (f : Nat → Int32) (q : TX) (hq : q ∈ J.2) : aKn l yJ5_inflateIfNeededFor_a7421 (aW yJ5_inflateIfNeededFor_a7421 cJ5_inflateIfNeededFor_a7421 2 none) ({ frames := 1, cells := 0, slots := 0, locals := 20 } : Room) D J (aTy kc ki kb kl kd) [.ref sb, .ref q.val.1] (wSC kl sb row cnt f) (fun w => w = wSC kl sb row cnt f) 0 0 := by
  refine aKN_of (own := RJ5) (by decide) rfl (Nat.le_of_ble_eq_true rfl) rfl ?_
  intro p e s m args below meth c C hr
  refine s_compact C kf_J5_18 dJ5_inflateIfNeededFor_a7421_0 ?_
  refine a_if_eq C (tgt := 21) dJ5_inflateIfNeededFor_a7421_3 (by decide) (hF := (if_neg (by decide) : (if (1 : Int32) = 0 then (none : Option Unit) else some ()) = some ())) (fun _ hF => nomatch hF) (fun _ _ => ?_)
  refine a_aload_n C 0 dJ5_inflateIfNeededFor_a7421_6 rfl rfl ?_
  refine a_get C 0 1 iwJ4 rfl rfl (by decide) kf_J5_22 rfl dJ5_inflateIfNeededFor_a7421_7 ?_
  refine a_aload_n C 1 dJ5_inflateIfNeededFor_a7421_10 rfl rfl ?_
  refine g_Vi (mc1 := 0) (ms1 := 0) C 0 (wSC kl sb row cnt f) (wSC kl sb row cnt f) gV_J5_40 hdV_J0_coder_7d493 (gj C) (gq C hq) ⟨rfl, rfl⟩ ⟨Nat.le_of_ble_eq_true rfl, Nat.le_of_ble_eq_true rfl⟩ (c_J0_coder l D J kc ki kb kl kd q hq) (List.Perm.refl _) (List.Perm.refl _) rfl rfl (Nat.le_of_ble_eq_true rfl) dJ5_inflateIfNeededFor_a7421_11 ⟨Nat.le_of_ble_eq_true rfl, Nat.le_of_ble_eq_true rfl⟩ ?_
  refine a_ic_eq C (tgt := 21) dJ5_inflateIfNeededFor_a7421_14 (by decide) (hF := (if_pos rfl : (if (0 : Int32) = 0 then some () else (none : Option Unit)) = some ())) (fun _ _ => ?_) (fun _ hF => nomatch hF)
  exact g_vret (w1 := wSC kl sb row cnt f) (rest := []) C hr dJ5_inflateIfNeededFor_a7421_21 ⟨Nat.le_of_ble_eq_true rfl, Nat.le_of_ble_eq_true rfl⟩ (pr0 _) rfl
set_option maxRecDepth 100000 in
set_option maxHeartbeats 4000000 in
theorem c_J0_getBytes (l : Launch) (D : va_G) (J : JT) (kc ki kb kl kd : ClassId) (row : Nat) (f : Nat → Int32) (a : Nat) (q : TX) (hq : q ∈ J.2) (h : a + q.val.2.2.length ≤ 16) : aKn l yJ0_getBytes_840e7 (aW yJ0_getBytes_840e7 cJ0_getBytes_840e7 4 none) ({ frames := 1, cells := 0, slots := 0, locals := 60 } : Room) D J (aTy kc ki kb kl kd) [.ref q.val.1, .ref row, .int (nI a), .int 0] ([(row, .inl (kl, 16, .inl f))]) (fun w => w = [(row, .inl (kl, 16, .inl (va_cpy (fun j => q.val.2.2.getD j 0) f 0 a q.val.2.2.length)))]) 0 0 := by
  refine aKN_of (own := RJ0) (by decide) rfl (Nat.le_of_ble_eq_true rfl) rfl ?_
  intro p e s m args below meth c C hr
  refine a_aload_n C 0 dJ0_getBytes_840e7_0 rfl rfl ?_
  refine g_Vi (mc1 := 0) (ms1 := 0) C 0 ([(row, .inl (kl, 16, .inl f))]) ([(row, .inl (kl, 16, .inl f))]) gV_J0_335 hdV_J0_coder_7d493 (gj C) (gq C hq) ⟨rfl, rfl⟩ ⟨Nat.le_of_ble_eq_true rfl, Nat.le_of_ble_eq_true rfl⟩ (c_J0_coder l D J kc ki kb kl kd q hq) (List.Perm.refl _) (List.Perm.refl _) rfl rfl (Nat.le_of_ble_eq_true rfl) dJ0_getBytes_840e7_1 ⟨Nat.le_of_ble_eq_true rfl, Nat.le_of_ble_eq_true rfl⟩ ?_
  refine a_iload_n C 3 dJ0_getBytes_840e7_4 rfl rfl ?_
  refine a_ic_ne C (tgt := 28) dJ0_getBytes_840e7_5 (by decide) (hF := (if_neg (fun e => e rfl) : (if ¬ (0 : Int32) = 0 then (none : Option Unit) else some ()) = some ())) (fun _ hF => nomatch hF) (fun _ _ => ?_)
  refine a_aload_n C 0 dJ0_getBytes_840e7_8 rfl rfl ?_
  refine s_value C hq dJ0_getBytes_840e7_9 ?_
  refine a_iconst C (v := 0) dJ0_getBytes_840e7_12 (by decide) ?_
  refine a_aload_n C 1 dJ0_getBytes_840e7_13 rfl rfl ?_
  refine a_iload_n C 2 dJ0_getBytes_840e7_14 rfl rfl ?_
  refine a_iload_n C 3 dJ0_getBytes_840e7_15 rfl rfl ?_
  refine a_ishl C dJ0_getBytes_840e7_16 ?_
  rw [shl0 (by omega)]
  refine a_aload_n C 0 dJ0_getBytes_840e7_17 rfl rfl ?_
  refine s_value C hq dJ0_getBytes_840e7_18 ?_
  refine s_len C hq dJ0_getBytes_840e7_21 ?_
  refine s_copyt C hq 0 rfl rfl kl_J0_212 (by decide) (nI_pos (n10 (by omega))) (nI_pos (n10 (by omega))) (by rw [nI_clamp (n10 (by omega))]; exact Nat.le_of_eq (Nat.zero_add _)) (by rw [nI_clamp (n10 (by omega)), nI_clamp (n10 (by omega))]; exact h) (fun x hx => (chr_ok (q.2.2 x hx)).2.2.2.1) ⟨Nat.le_of_ble_eq_true rfl, Nat.le_of_ble_eq_true rfl⟩ dJ0_getBytes_840e7_22 ?_
  refine a_ws C (ws' := [(row, .inl (kl, 16, .inl (va_cpy (fun j => q.val.2.2.getD j 0) f 0 a q.val.2.2.length)))]) (by rw [nI_clamp (n10 (by omega : a ≤ 64)), nI_clamp (n10 (by omega : q.val.2.2.length ≤ 64))]; rfl) ?_
  refine a_goto C (tgt := 43) dJ0_getBytes_840e7_25 (by decide) ?_
  exact g_vret (w1 := [(row, .inl (kl, 16, .inl (va_cpy (fun j => q.val.2.2.getD j 0) f 0 a q.val.2.2.length)))]) (rest := []) C hr dJ0_getBytes_840e7_43 ⟨Nat.le_of_ble_eq_true rfl, Nat.le_of_ble_eq_true rfl⟩ (pr0 _) rfl
theorem hdU_J5_inflateIfNeededFor_a7421 : yJ5_inflateIfNeededFor_a7421.cls ≠ "java/lang/invoke/MethodHandle" ∧ yJ5_inflateIfNeededFor_a7421.cls ≠ "java/lang/invoke/VarHandle" ∧ (parseMethodDescriptor yJ5_inflateIfNeededFor_a7421.desc).map (fun d => d.parameters.length) = some 1 := by decide +kernel
theorem gV_J5_399 : GoodIn WW (wsV RJ5 399 RJ0 yJ0_getBytes_840e7 (aW yJ0_getBytes_840e7 cJ0_getBytes_840e7 4 none)) := gdV kl_J5_399 ki_J0_getBytes_840e7 kv_J0_getBytes_840e7 kn_J0 kc_J0_getBytes_840e7
theorem hdV_J0_getBytes_840e7 : yJ0_getBytes_840e7.cls = RJ0 ∧ yJ0_getBytes_840e7.cls ≠ "java/lang/invoke/MethodHandle" ∧ yJ0_getBytes_840e7.cls ≠ "java/lang/invoke/VarHandle" ∧ (parseMethodDescriptor yJ0_getBytes_840e7.desc).map (fun d => d.parameters.length) = some 3 := by decide +kernel
set_option maxRecDepth 100000 in
set_option maxHeartbeats 4000000 in
theorem c_J5_putSt (l : Launch) (D : va_G) (J : JT) (kc ki kb kl kd : ClassId) (sb row : Nat) (cnt : Int32) (f : Nat → Int32) (a : Nat) (q : TX) (hq : q ∈ J.2) (h : a + q.val.2.2.length ≤ 16) : aKn l yJ5_putStringAt_47b60 (aW yJ5_putStringAt_47b60 cJ5_putStringAt_47b60 3 none) ({ frames := 2, cells := 0, slots := 0, locals := 83 } : Room) D J (aTy kc ki kb kl kd) [.ref sb, .int (nI a), .ref q.val.1] (wSC kl sb row cnt f) (fun w => w = wSC kl sb row cnt (va_cpy (fun j => q.val.2.2.getD j 0) f 0 a q.val.2.2.length)) 0 0 := by
  refine aKN_of (own := RJ5) (by decide) rfl (Nat.le_of_ble_eq_true rfl) rfl ?_
  intro p e s m args below meth c C hr
  refine a_aload_n C 0 dJ5_putStringAt_47b60_0 rfl rfl ?_
  refine a_aload_n C 2 dJ5_putStringAt_47b60_1 rfl rfl ?_
  refine g_Uv (mc1 := 0) (ms1 := 0) C 1 ([]) kc_J5_inflateIfNeededFor_a7421 kn_J5 kl_J5_397 km_J5_inflateIfNeededFor_a7421 (va_Decl.of (C.1.2.2.2.2 _ ki_J5_inflateIfNeededFor_a7421) (C.1.2.2.2.2 _ kc_J5_inflateIfNeededFor_a7421)) (sp C (List.mem_of_getElem? (i := 2) rfl)) ki_J5_inflateIfNeededFor_a7421 hdU_J5_inflateIfNeededFor_a7421 (gj C) (gr C 0 (ci := 8) (C1 := RJ4) rfl rfl) ⟨rfl, rfl⟩ ⟨Nat.le_of_ble_eq_true rfl, Nat.le_of_ble_eq_true rfl⟩ (c_J5_inflIf l D J kc ki kb kl kd sb row cnt f q hq) (pr0 _) rfl rfl (Nat.le_of_ble_eq_true rfl) dJ5_putStringAt_47b60_2 ⟨Nat.le_of_ble_eq_true rfl, Nat.le_of_ble_eq_true rfl⟩ (fun w1 hw1 => ?_)
  subst hw1
  refine g_ws C (ws' := wSC kl sb row cnt f) (pr0 _).symm ?_
  refine a_aload_n C 2 dJ5_putStringAt_47b60_5 rfl rfl ?_
  refine a_aload_n C 0 dJ5_putStringAt_47b60_6 rfl rfl ?_
  refine a_get C 0 0 iwJ4 rfl rfl (by decide) kf_J5_15 rfl dJ5_putStringAt_47b60_7 ?_
  refine a_iload_n C 1 dJ5_putStringAt_47b60_10 rfl rfl ?_
  refine a_aload_n C 0 dJ5_putStringAt_47b60_11 rfl rfl ?_
  refine a_get C 0 1 iwJ4 rfl rfl (by decide) kf_J5_22 rfl dJ5_putStringAt_47b60_12 ?_
  refine g_Vv (mc1 := 0) (ms1 := 0) C 3 ([(sb, .inr (8, [.ref row, .int 0, .int 0, .int cnt]))]) gV_J5_399 hdV_J0_getBytes_840e7 (gj C) (gq C hq) ⟨rfl, rfl⟩ ⟨Nat.le_of_ble_eq_true rfl, Nat.le_of_ble_eq_true rfl⟩ (c_J0_getBytes l D J kc ki kb kl kd row f a q hq h) (List.Perm.swap _ _ _) rfl rfl (Nat.le_of_ble_eq_true rfl) dJ5_putStringAt_47b60_15 ⟨Nat.le_of_ble_eq_true rfl, Nat.le_of_ble_eq_true rfl⟩ (fun w1 hw1 => ?_)
  subst hw1
  refine g_ws C (ws' := wSC kl sb row cnt (va_cpy (fun j => q.val.2.2.getD j 0) f 0 a q.val.2.2.length)) (List.Perm.swap _ _ _) ?_
  exact g_vret (w1 := wSC kl sb row cnt (va_cpy (fun j => q.val.2.2.getD j 0) f 0 a q.val.2.2.length)) (rest := []) C hr dJ5_putStringAt_47b60_18 ⟨Nat.le_of_ble_eq_true rfl, Nat.le_of_ble_eq_true rfl⟩ (pr0 _) rfl
theorem gV_J5_32 : GoodIn WW (wsV RJ5 32 RJ0 yJ0_length_8abf5 (aW yJ0_length_8abf5 cJ0_length_8abf5 1 (some .int))) := gdV kl_J5_32 ki_J0_length_8abf5 kv_J0_length_8abf5 kn_J0 kc_J0_length_8abf5
theorem hdU_J5_putStringAt_47b60 : yJ5_putStringAt_47b60.cls ≠ "java/lang/invoke/MethodHandle" ∧ yJ5_putStringAt_47b60.cls ≠ "java/lang/invoke/VarHandle" ∧ (parseMethodDescriptor yJ5_putStringAt_47b60.desc).map (fun d => d.parameters.length) = some 2 := by decide +kernel
set_option maxRecDepth 100000 in
set_option maxHeartbeats 4000000 in
theorem c_J5_appS (l : Launch) (D : va_G) (J : JT) (kc ki kb kl kd : ClassId) (sb row : Nat) (xs : List Int32) (q : TX) (hq : q ∈ J.2) (h : xs.length + q.val.2.2.length ≤ 16) : aKR l yJ5_append_cf1ce (aW yJ5_append_cf1ce cJ5_append_cf1ce 3 (some (.object "java/lang/AbstractStringBuilder"))) ({ frames := 3, cells := 0, slots := 0, locals := 105 } : Room) D J (aTy kc ki kb kl kd) [.ref sb, .ref q.val.1] (wSB kl sb row xs) (fun (_ : Unit) a => a = sb) (fun _ _ => wSB kl sb row (xs ++ q.val.2.2)) 0 0 := by
  refine aKR_of (own := RJ5) (by decide) rfl (Nat.le_of_ble_eq_true rfl) rfl ?_
  intro p e s m args below meth c C hr
  refine a_aload_n C 1 dJ5_append_cf1ce_0 rfl rfl ?_
  refine s_ifnn C (tgt := 9) dJ5_append_cf1ce_1 (by decide) ?_
  refine a_aload_n C 1 dJ5_append_cf1ce_9 rfl rfl ?_
  refine g_Vi (mc1 := 0) (ms1 := 0) C 0 (wSB kl sb row xs) (wSB kl sb row xs) gV_J5_32 hdV_J0_length_8abf5 (gj C) (gq C hq) ⟨rfl, rfl⟩ ⟨Nat.le_of_ble_eq_true rfl, Nat.le_of_ble_eq_true rfl⟩ (c_J0_length l D J kc ki kb kl kd q hq) (List.Perm.refl _) (List.Perm.refl _) rfl rfl (Nat.le_of_ble_eq_true rfl) dJ5_append_cf1ce_10 ⟨Nat.le_of_ble_eq_true rfl, Nat.le_of_ble_eq_true rfl⟩ ?_
  refine a_istore_n C [(2, .int (nI q.val.2.2.length)), (0, .ref sb), (1, .ref q.val.1)] dJ5_append_cf1ce_13 rfl (by decide) rfl ?_
  refine a_aload_n C 1 dJ5_append_cf1ce_14 rfl rfl ?_
  refine a_aload_n C 1 dJ5_append_cf1ce_15 rfl rfl ?_
  refine a_get C 0 3 iwJ4 rfl rfl (by decide) kf_J5_79 rfl dJ5_append_cf1ce_16 ?_
  refine a_iload_n C 0 dJ5_append_cf1ce_19 rfl rfl ?_
  refine a_iadd C dJ5_append_cf1ce_20 ?_
  rw [nI_add]
  refine g_Uv (mc1 := 0) (ms1 := 0) C 1 ([]) kc_J5_ensureCapacityInternal_d00df kn_J5 kl_J5_100 km_J5_ensureCapacityInternal_d00df (va_Decl.of (C.1.2.2.2.2 _ ki_J5_ensureCapacityInternal_d00df) (C.1.2.2.2.2 _ kc_J5_ensureCapacityInternal_d00df)) (sp C (List.mem_of_getElem? (i := 0) rfl)) ki_J5_ensureCapacityInternal_d00df hdU_J5_ensureCapacityInternal_d00df (gj C) (gr C 0 (ci := 8) (C1 := RJ4) rfl rfl) ⟨rfl, rfl⟩ ⟨Nat.le_of_ble_eq_true rfl, Nat.le_of_ble_eq_true rfl⟩ (c_J5_ensure l D J kc ki kb kl kd sb row (nI xs.length) (fun j => xs.getD j 0) _ (le16 h)) (pr0 _) rfl rfl (Nat.le_of_ble_eq_true rfl) dJ5_append_cf1ce_21 ⟨Nat.le_of_ble_eq_true rfl, Nat.le_of_ble_eq_true rfl⟩ (fun w1 hw1 => ?_)
  subst hw1
  refine g_ws C (ws' := wSB kl sb row xs) (pr0 _).symm ?_
  refine a_aload_n C 1 dJ5_append_cf1ce_24 rfl rfl ?_
  refine a_aload_n C 1 dJ5_append_cf1ce_25 rfl rfl ?_
  refine a_get C 0 3 iwJ4 rfl rfl (by decide) kf_J5_79 rfl dJ5_append_cf1ce_26 ?_
  refine a_aload_n C 2 dJ5_append_cf1ce_29 rfl rfl ?_
  refine g_Uv (mc1 := 0) (ms1 := 0) C 2 ([]) kc_J5_putStringAt_47b60 kn_J5 kl_J5_208 km_J5_putStringAt_47b60 (va_Decl.of (C.1.2.2.2.2 _ ki_J5_putStringAt_47b60) (C.1.2.2.2.2 _ kc_J5_putStringAt_47b60)) (sp C (List.mem_of_getElem? (i := 1) rfl)) ki_J5_putStringAt_47b60 hdU_J5_putStringAt_47b60 (gj C) (gr C 0 (ci := 8) (C1 := RJ4) rfl rfl) ⟨rfl, rfl⟩ ⟨Nat.le_of_ble_eq_true rfl, Nat.le_of_ble_eq_true rfl⟩ (c_J5_putSt l D J kc ki kb kl kd sb row (nI xs.length) (fun j => xs.getD j 0) xs.length q hq h) (pr0 _) rfl rfl (Nat.le_of_ble_eq_true rfl) dJ5_append_cf1ce_30 ⟨Nat.le_of_ble_eq_true rfl, Nat.le_of_ble_eq_true rfl⟩ (fun w1 hw1 => ?_)
  subst hw1
  refine g_ws C (ws' := wSC kl sb row (nI xs.length) (va_cpy (fun j => q.val.2.2.getD j 0) (fun j => xs.getD j 0) 0 xs.length q.val.2.2.length)) (pr0 _).symm ?_
  refine a_aload_n C 1 dJ5_append_cf1ce_33 rfl rfl ?_
  refine a_dup C dJ5_append_cf1ce_34 rfl ?_
  rw [sb_cpy]
  refine a_get C 0 3 iwJ4 rfl rfl (by decide) kf_J5_79 rfl dJ5_append_cf1ce_35 ?_
  refine a_iload_n C 0 dJ5_append_cf1ce_38 rfl rfl ?_
  refine a_iadd C dJ5_append_cf1ce_39 ?_
  rw [nI_add]
  refine a_put C 0 3 iwJ4 tyJ4_ok nmJ4 rfl rfl (by decide) kf_J5_79 rfl rfl rfl (Nat.le_of_ble_eq_true rfl) dJ5_append_cf1ce_40 ?_
  refine a_ws C (ws' := wSC kl sb row (nI (xs.length + q.val.2.2.length)) (fun j => (xs ++ q.val.2.2).getD j 0)) rfl ?_
  refine a_aload_n C 1 dJ5_append_cf1ce_43 rfl rfl ?_
  refine a_ws C (ws' := wSB kl sb row (xs ++ q.val.2.2)) (by simp [wSB, wSC]) ?_
  exact g_rret (rest := []) () C hr (Or.inl ⟨_, rfl⟩) dJ5_append_cf1ce_44 ⟨Nat.le_of_ble_eq_true rfl, Nat.le_of_ble_eq_true rfl⟩ rfl (pr0 _)
theorem gZ_J4_29 : GoodIn WW (va_wsSU RJ4 29 yJ5_append_cf1ce (aW yJ5_append_cf1ce cJ5_append_cf1ce 3 (some (.object "java/lang/AbstractStringBuilder")))) := gdZ kl_J4_29 km_J5_append_cf1ce kz_J4 ki_J5_append_cf1ce kn_J5 kc_J5_append_cf1ce
theorem hdZ_J5_append_cf1ce : yJ5_append_cf1ce.name ≠ "<init>" ∧ (parseMethodDescriptor yJ5_append_cf1ce.desc).map (fun d => d.parameters.length) = some 1 := by decide +kernel
set_option maxRecDepth 100000 in
set_option maxHeartbeats 4000000 in
theorem c_J4_appS (l : Launch) (D : va_G) (J : JT) (kc ki kb kl kd : ClassId) (sb row : Nat) (xs : List Int32) (q : TX) (hq : q ∈ J.2) (h : xs.length + q.val.2.2.length ≤ 16) : aKR l yJ4_append_15ec4 (aW yJ4_append_15ec4 cJ4_append_15ec4 2 (some (.object "java/lang/StringBuilder"))) ({ frames := 4, cells := 0, slots := 0, locals := 127 } : Room) D J (aTy kc ki kb kl kd) [.ref sb, .ref q.val.1] (wSB kl sb row xs) (fun (_ : Unit) a => a = sb) (fun _ _ => wSB kl sb row (xs ++ q.val.2.2)) 0 0 := by
  refine aKR_of (own := RJ4) (by decide) rfl (Nat.le_of_ble_eq_true rfl) rfl ?_
  intro p e s m args below meth c C hr
  refine a_aload_n C 0 dJ4_append_15ec4_0 rfl rfl ?_
  refine a_aload_n C 1 dJ4_append_15ec4_1 rfl rfl ?_
  refine g_Zr (mc1 := 0) (ms1 := 0) C 1 ([]) (fun _ _ => wSB kl sb row (xs ++ q.val.2.2)) gZ_J4_29 hdZ_J5_append_cf1ce ⟨_, (C.2.1.1.1 8 _ rfl).2⟩ (gj C) (gr C 0 (ci := 8) (C1 := RJ4) rfl rfl) ⟨rfl, rfl⟩ ⟨Nat.le_of_ble_eq_true rfl, Nat.le_of_ble_eq_true rfl⟩ (c_J5_appS l D J kc ki kb kl kd sb row xs q hq h) (pr0 _) (fun _ _ => pr0 _) rfl rfl (Nat.le_of_ble_eq_true rfl) dJ4_append_15ec4_2 ⟨Nat.le_of_ble_eq_true rfl, Nat.le_of_ble_eq_true rfl⟩ (fun _ a1 ha => ?_)
  have ha := Eq.symm ha
  subst ha
  refine a_pop C dJ4_append_15ec4_5 rfl ?_
  refine a_aload_n C 0 dJ4_append_15ec4_6 rfl rfl ?_
  exact g_rret (rest := []) () C hr (Or.inl ⟨_, rfl⟩) dJ4_append_15ec4_7 ⟨Nat.le_of_ble_eq_true rfl, Nat.le_of_ble_eq_true rfl⟩ rfl (pr0 _)
set_option maxRecDepth 100000 in
set_option maxHeartbeats 4000000 in
theorem c_J5_getValue (l : Launch) (D : va_G) (J : JT) (kc ki kb kl kd : ClassId) (sb row : Nat) (cnt : Int32) (f : Nat → Int32) : aKR l yJ5_getValue_6d5f1 (aW yJ5_getValue_6d5f1 cJ5_getValue_6d5f1 1 (some (.array .byte))) ({ frames := 0, cells := 0, slots := 0, locals := 0 } : Room) D J (aTy kc ki kb kl kd) [.ref sb] (wSC kl sb row cnt f) (fun (_ : Unit) a => a = row) (fun _ _ => wSC kl sb row cnt f) 0 0 := by
  refine aKR_of (own := RJ5) (by decide) rfl (Nat.le_of_ble_eq_true rfl) rfl ?_
  intro p e s m args below meth c C hr
  refine a_aload_n C 0 dJ5_getValue_6d5f1_0 rfl rfl ?_
  refine a_get C 0 0 iwJ4 rfl rfl (by decide) kf_J5_15 rfl dJ5_getValue_6d5f1_1 ?_
  exact g_rret (rest := []) () C hr (Or.inr ⟨_, rfl⟩) dJ5_getValue_6d5f1_4 ⟨Nat.le_of_ble_eq_true rfl, Nat.le_of_ble_eq_true rfl⟩ rfl (pr0 _)
set_option maxRecDepth 100000 in
set_option maxHeartbeats 4000000 in
theorem c_J5_length (l : Launch) (D : va_G) (J : JT) (kc ki kb kl kd : ClassId) (sb row : Nat) (cnt : Int32) (f : Nat → Int32) : aKI l yJ5_length_8abf5 (aW yJ5_length_8abf5 cJ5_length_8abf5 1 (some .int)) ({ frames := 0, cells := 0, slots := 0, locals := 0 } : Room) D J (aTy kc ki kb kl kd) [.ref sb] (wSC kl sb row cnt f) cnt (wSC kl sb row cnt f) 0 0 := by
  refine aKI_of (own := RJ5) (by decide) rfl (Nat.le_of_ble_eq_true rfl) rfl ?_
  intro p e s m args below meth c C hr
  refine a_aload_n C 0 dJ5_length_8abf5_0 rfl rfl ?_
  refine a_get C 0 3 iwJ4 rfl rfl (by decide) kf_J5_79 rfl dJ5_length_8abf5_1 ?_
  exact g_iret (rest := []) C hr rfl dJ5_length_8abf5_4 ⟨Nat.le_of_ble_eq_true rfl, Nat.le_of_ble_eq_true rfl⟩ rfl (pr0 _)
theorem gZ_J4_343 : GoodIn WW (va_wsSU RJ4 343 yJ5_length_8abf5 (aW yJ5_length_8abf5 cJ5_length_8abf5 1 (some .int))) := gdZ kl_J4_343 km_J5_length_8abf5 kz_J4 ki_J5_length_8abf5 kn_J5 kc_J5_length_8abf5
theorem hdZ_J5_length_8abf5 : yJ5_length_8abf5.name ≠ "<init>" ∧ (parseMethodDescriptor yJ5_length_8abf5.desc).map (fun d => d.parameters.length) = some 0 := by decide +kernel
set_option maxRecDepth 100000 in
set_option maxHeartbeats 4000000 in
theorem c_J4_length (l : Launch) (D : va_G) (J : JT) (kc ki kb kl kd : ClassId) (sb row : Nat) (cnt : Int32) (f : Nat → Int32) : aKI l yJ4_length_8abf5 (aW yJ4_length_8abf5 cJ4_length_8abf5 1 (some .int)) ({ frames := 1, cells := 0, slots := 0, locals := 20 } : Room) D J (aTy kc ki kb kl kd) [.ref sb] (wSC kl sb row cnt f) cnt (wSC kl sb row cnt f) 0 0 := by
  refine aKI_of (own := RJ4) (by decide) rfl (Nat.le_of_ble_eq_true rfl) rfl ?_
  intro p e s m args below meth c C hr
  refine a_aload_n C 0 dJ4_length_8abf5_0 rfl rfl ?_
  refine g_Zi (mc1 := 0) (ms1 := 0) C 0 ([]) (wSC kl sb row cnt f) gZ_J4_343 hdZ_J5_length_8abf5 ⟨_, (C.2.1.1.1 8 _ rfl).2⟩ (gj C) (gr C 0 (ci := 8) (C1 := RJ4) rfl rfl) ⟨rfl, rfl⟩ ⟨Nat.le_of_ble_eq_true rfl, Nat.le_of_ble_eq_true rfl⟩ (c_J5_length l D J kc ki kb kl kd sb row cnt f) (pr0 _) (pr0 _) rfl rfl (Nat.le_of_ble_eq_true rfl) dJ4_length_8abf5_1 ⟨Nat.le_of_ble_eq_true rfl, Nat.le_of_ble_eq_true rfl⟩ ?_
  exact g_iret (rest := []) C hr rfl dJ4_length_8abf5_4 ⟨Nat.le_of_ble_eq_true rfl, Nat.le_of_ble_eq_true rfl⟩ rfl (pr0 _)
theorem all_cpy (xs : List Int32) : va_cpy (fun j => xs.getD j 0) (fun _ => 0) (0 : Int32).toNatClampNeg (0 : Int32).toNatClampNeg xs.length = fun j => xs.getD j 0 := by
  funext j
  show (if 0 ≤ j ∧ j < 0 + xs.length then xs.getD (0 + (j - 0)) 0 else 0) = xs.getD j 0
  by_cases h : j < xs.length
  · rw [if_pos ⟨Nat.zero_le _, by omega⟩, Nat.zero_add, Nat.sub_zero]
  · rw [if_neg (by omega), List.getD_eq_getElem?_getD, List.getElem?_eq_none (by omega)]
    rfl
set_option maxRecDepth 100000 in
set_option maxHeartbeats 4000000 in
theorem c_J7_copyB (l : Launch) (D : va_G) (J : JT) (kc ki kb kl kd : ClassId) (b : Nat) (xs : List Int32) (h0 : 0 < xs.length) (h : xs.length ≤ 10) (hx : ∀ x ∈ xs, 0 ≤ x ∧ x < 128) : aKR l yJ7_copyOfRangeByte_39247 (aW yJ7_copyOfRangeByte_39247 cJ7_copyOfRangeByte_39247 5 (some (.array .byte))) ({ frames := 1, cells := 1, slots := 10, locals := 60 } : Room) D J (aTy kc ki kb kl kd) [.ref b, .int 0, .int (nI xs.length)] ([(b, .inl (kl, 16, .inl fun j => xs.getD j 0))]) (fun (_ : Unit) (_ : Nat) => True) (fun _ a => (b, .inl (kl, 16, .inl fun j => xs.getD j 0)) :: [(a, .inl (kl, xs.length, .inl fun j => xs.getD j 0))]) 1 10 := by
  refine aKR_of (own := RJ7) (by decide) rfl (Nat.le_of_ble_eq_true rfl) rfl ?_
  intro p e s m args below meth c C hr
  have e1 : nI xs.length - 0 = nI xs.length := by have q := nI_sub (a := xs.length) (b := 0) (Nat.zero_le _) (by omega); exact q
  refine a_iload_n C 1 dJ7_copyOfRangeByte_39247_0 rfl rfl ?_
  refine a_iload_n C 2 dJ7_copyOfRangeByte_39247_1 rfl rfl ?_
  refine g_Sv (mc1 := 0) (ms1 := 0) C 2 ([(b, .inl (kl, 16, .inl fun j => xs.getD j 0))]) gS_J7_343 hdS_J7_checkLength_df160 (gj C) ⟨rfl, rfl⟩ ⟨Nat.le_of_ble_eq_true rfl, Nat.le_of_ble_eq_true rfl⟩ (c_J7_checkLength l D J kc ki kb kl kd _ _ (nI_le (Nat.zero_le _) (n10 (by omega)))) (List.Perm.refl _) rfl rfl (Nat.le_of_ble_eq_true rfl) dJ7_copyOfRangeByte_39247_2 ⟨Nat.le_of_ble_eq_true rfl, Nat.le_of_ble_eq_true rfl⟩ (fun w1 hw1 => ?_)
  subst hw1
  refine g_ws C (ws' := [(b, .inl (kl, 16, .inl fun j => xs.getD j 0))]) (List.Perm.refl _) ?_
  refine a_iload_n C 2 dJ7_copyOfRangeByte_39247_5 rfl rfl ?_
  refine a_iload_n C 1 dJ7_copyOfRangeByte_39247_6 rfl rfl ?_
  refine a_isub C dJ7_copyOfRangeByte_39247_7 ?_
  refine a_istore_n C [(3, .int (((nI xs.length)) - 0)), (0, .ref b), (1, .int 0), (2, .int (nI xs.length))] dJ7_copyOfRangeByte_39247_8 rfl (by decide) rfl ?_
  refine a_iload_n C 0 dJ7_copyOfRangeByte_39247_9 rfl rfl ?_
  refine c_newb C (N := xs.length) 3 rfl ⟨by rw [e1]; exact nI_pos (n10 (by omega)), by rw [e1]; exact nI_clamp (n10 (by omega)), by show xs.length * 1 ≤ _; omega⟩ ⟨Nat.le_of_ble_eq_true rfl, by show _ + xs.length ≤ 10; omega⟩ dJ7_copyOfRangeByte_39247_10 (fun a => ?_)
  refine a_ws C (ws' := [(b, .inl (kl, 16, .inl fun j => xs.getD j 0)), (a, .inl (kl, xs.length, .inl fun _ => 0))]) rfl ?_
  refine a_astore C [(4, .ref a), (3, .int (((nI xs.length)) - 0)), (0, .ref b), (1, .int 0), (2, .int (nI xs.length))] dJ7_copyOfRangeByte_39247_12 (by decide) rfl ?_
  refine a_aload_n C 2 dJ7_copyOfRangeByte_39247_14 rfl rfl ?_
  refine a_iload_n C 3 dJ7_copyOfRangeByte_39247_15 rfl rfl ?_
  refine a_aload C 0 dJ7_copyOfRangeByte_39247_16 rfl ?_
  refine a_iconst C (v := 0) dJ7_copyOfRangeByte_39247_18 (by decide) ?_
  refine a_aload_n C 2 dJ7_copyOfRangeByte_39247_19 rfl rfl ?_
  refine s_alen C (v := nI 16) 0 rfl rfl rfl dJ7_copyOfRangeByte_39247_20 ?_
  refine a_iload_n C 3 dJ7_copyOfRangeByte_39247_21 rfl rfl ?_
  refine a_isub C dJ7_copyOfRangeByte_39247_22 ?_
  refine a_iload_n C 1 dJ7_copyOfRangeByte_39247_23 rfl rfl ?_
  refine a_mmin C kl_J7_304 ks_J9_min_7cf53 kn_J9 kc_J9_min_7cf53 ⟨Nat.le_of_ble_eq_true rfl, Nat.le_of_ble_eq_true rfl⟩ ⟨Nat.le_of_ble_eq_true rfl, by show _ + _ ≤ 10; omega⟩ dJ7_copyOfRangeByte_39247_24 ?_
  rw [e1, show (nI 16 - 0 : Int32) = nI 16 from by decide, if_pos_min (a := 16) (b := xs.length) (by omega) (by omega)]
  refine s_copyi C 0 1 rfl rfl rfl kl_J7_150 (by decide) (by decide) (nI_pos (n10 (by omega))) (by rw [nI_clamp (n10 (by omega))]; show 0 + xs.length ≤ 16; omega) (by rw [nI_clamp (n10 (by omega))]; exact Nat.le_of_eq (Nat.zero_add _)) (fun i hi => by rw [nI_clamp (n10 (by omega))] at hi; show fits .byte (.int (xs.getD (0 + i) 0)) = true; rw [Nat.zero_add, List.getD_eq_getElem?_getD, List.getElem?_eq_getElem hi]; exact (chr_ok (hx _ (List.getElem_mem hi))).2.2.2.1) ⟨Nat.le_of_ble_eq_true rfl, Nat.le_of_ble_eq_true rfl⟩ dJ7_copyOfRangeByte_39247_27 ?_
  refine a_ws C (ws' := [(b, .inl (kl, 16, .inl fun j => xs.getD j 0)), (a, .inl (kl, xs.length, .inl fun j => xs.getD j 0))]) (by rw [nI_clamp (n10 (by omega : xs.length ≤ 64))]; exact congrArg (fun f => [(b, .inl (kl, 16, .inl fun j => xs.getD j 0)), (a, (.inl (kl, xs.length, .inl f) : va_E))]) (all_cpy xs)) ?_
  refine a_aload C 0 dJ7_copyOfRangeByte_39247_30 rfl ?_
  exact g_rret (rest := []) () C hr (Or.inr ⟨_, rfl⟩) dJ7_copyOfRangeByte_39247_32 ⟨Nat.le_of_ble_eq_true rfl, by show _ + _ ≤ 10; omega⟩ trivial (pr0 _)
set_option maxRecDepth 100000 in
set_option maxHeartbeats 4000000 in
theorem c_J7_copyOfB (l : Launch) (D : va_G) (J : JT) (kc ki kb kl kd : ClassId) (b : Nat) (xs : List Int32) (h0 : 0 < xs.length) (h : xs.length ≤ 10) (hx : ∀ x ∈ xs, 0 ≤ x ∧ x < 128) : aKR l yJ7_copyOfRange_39247 (aW yJ7_copyOfRange_39247 cJ7_copyOfRange_39247 3 (some (.array .byte))) ({ frames := 2, cells := 1, slots := 10, locals := 84 } : Room) D J (aTy kc ki kb kl kd) [.ref b, .int 0, .int (nI xs.length)] ([(b, .inl (kl, 16, .inl fun j => xs.getD j 0))]) (fun (_ : Unit) (_ : Nat) => True) (fun _ a => (b, .inl (kl, 16, .inl fun j => xs.getD j 0)) :: [(a, .inl (kl, xs.length, .inl fun j => xs.getD j 0))]) 1 10 := by
  refine aKR_of (own := RJ7) (by decide) rfl (Nat.le_of_ble_eq_true rfl) rfl ?_
  intro p e s m args below meth c C hr
  refine a_iload_n C 1 dJ7_copyOfRange_39247_0 rfl rfl ?_
  refine a_if_ne C (tgt := 10) dJ7_copyOfRange_39247_1 (by decide) (hF := (if_neg (by decide) : (if ¬ (0 : Int32) = 0 then (none : Option Unit) else some ()) = some ())) (fun _ hF => nomatch hF) (fun _ _ => ?_)
  refine a_iload_n C 2 dJ7_copyOfRange_39247_4 rfl rfl ?_
  refine a_aload_n C 0 dJ7_copyOfRange_39247_5 rfl rfl ?_
  refine s_alen C (v := nI 16) 0 rfl rfl rfl dJ7_copyOfRange_39247_6 ?_
  refine a_ic_eq C (tgt := 17) dJ7_copyOfRange_39247_7 (by decide) (hF := (if_neg (fun e => absurd ((nI_eq (n10 (by omega)) (n10 (by omega))).mp e) (by omega)) : (if ((nI xs.length)) = ((nI 16)) then (none : Option Unit) else some ()) = some ())) (fun _ hF => nomatch hF) (fun _ _ => ?_)
  refine a_aload_n C 0 dJ7_copyOfRange_39247_10 rfl rfl ?_
  refine a_iload_n C 1 dJ7_copyOfRange_39247_11 rfl rfl ?_
  refine a_iload_n C 2 dJ7_copyOfRange_39247_12 rfl rfl ?_
  refine g_Sr (mc1 := 1) (ms1 := 10) C 3 ([]) (fun _ a => [(b, .inl (kl, 16, .inl fun j => xs.getD j 0)), (a, .inl (kl, xs.length, .inl fun j => xs.getD j 0))]) gS_J7_339 hdS_J7_copyOfRangeByte_39247 (gj C) ⟨rfl, rfl⟩ ⟨Nat.le_of_ble_eq_true rfl, Nat.le_of_ble_eq_true rfl⟩ (c_J7_copyB l D J kc ki kb kl kd b xs h0 h hx) (pr0 _) (fun _ _ => pr0 _) rfl rfl (Nat.le_of_ble_eq_true rfl) dJ7_copyOfRange_39247_13 ⟨Nat.le_of_ble_eq_true rfl, Nat.le_of_ble_eq_true rfl⟩ (fun _ a _ => ?_)
  exact g_rret (rest := []) () C hr (Or.inr ⟨_, rfl⟩) dJ7_copyOfRange_39247_16 ⟨Nat.le_of_ble_eq_true rfl, Nat.le_of_ble_eq_true rfl⟩ trivial (pr0 _)
theorem hdU_J5_getValue_6d5f1 : yJ5_getValue_6d5f1.cls ≠ "java/lang/invoke/MethodHandle" ∧ yJ5_getValue_6d5f1.cls ≠ "java/lang/invoke/VarHandle" ∧ (parseMethodDescriptor yJ5_getValue_6d5f1.desc).map (fun d => d.parameters.length) = some 0 := by decide +kernel
theorem hdU_J5_length_8abf5 : yJ5_length_8abf5.cls ≠ "java/lang/invoke/MethodHandle" ∧ yJ5_length_8abf5.cls ≠ "java/lang/invoke/VarHandle" ∧ (parseMethodDescriptor yJ5_length_8abf5.desc).map (fun d => d.parameters.length) = some 0 := by decide +kernel
theorem gS_J0_54 : GoodIn WW (va_wsS RJ0 54 yJ7_copyOfRange_39247 (aW yJ7_copyOfRange_39247 cJ7_copyOfRange_39247 3 (some (.array .byte)))) := gdS kl_J0_54 ks_J7_copyOfRange_39247 kn_J7 kc_J7_copyOfRange_39247
theorem perm_35 (a b c d : Nat × va_E) : [a, b, c, d].Perm ([a, d] ++ [b, c]) := by
  refine List.Perm.cons a ?_
  show [b, c, d].Perm ([d] ++ [b, c])
  exact List.perm_append_comm (l₁ := [b, c]) (l₂ := [d])
set_option maxRecDepth 100000 in
set_option maxHeartbeats 4000000 in
theorem c_J0_initSB (l : Launch) (D : va_G) (J : JT) (kc ki kb kl kd : ClassId) (t sb row : Nat) (xs : List Int32) (h0 : 0 < xs.length) (h : xs.length ≤ 10) (hx : ∀ x ∈ xs, 0 ≤ x ∧ x < 128) : aKn l yJ0_init_db425 (aW yJ0_init_db425 cJ0_init_db425 5 none) ({ frames := 3, cells := 1, slots := 10, locals := 106 } : Room) D J (aTy kc ki kb kl kd) [.ref t, .ref sb, .null] ([(t, .inr (7, [.null, .int 0, .int 0, .int 0])), (sb, .inr (8, [.ref row, .int 0, .int 0, .int (nI xs.length)])), (row, .inl (kl, 16, .inl fun j => xs.getD j 0))]) (fun w => ∃ b, w = [(t, .inr (7, [.ref b, .int 0, .int 0, .int 0])), (b, .inl (kl, xs.length, .inl fun j => xs.getD j 0))]) 1 10 := by
  refine aKn_of (own := RJ0) (by decide) rfl rfl (Nat.le_of_ble_eq_true rfl) rfl ?_
  intro p e s m args below meth c C hr hnm
  refine a_aload_n C 0 dJ0_init_db425_0 rfl rfl ?_
  refine c_obj C kl_J0_1 dJ0_init_db425_1 ⟨Nat.le_of_ble_eq_true rfl, Nat.le_of_ble_eq_true rfl⟩ ?_
  refine a_aload_n C 1 dJ0_init_db425_4 rfl rfl ?_
  refine g_Ur (mc1 := 0) (ms1 := 0) C 0 ([(t, .inr (7, [.null, .int 0, .int 0, .int 0]))]) (fun _ _ => [(t, .inr (7, [.null, .int 0, .int 0, .int 0])), (sb, .inr (8, [.ref row, .int 0, .int 0, .int (nI xs.length)])), (row, .inl (kl, 16, .inl fun j => xs.getD j 0))]) kc_J5_getValue_6d5f1 kn_J5 kl_J0_552 km_J5_getValue_6d5f1 (va_Decl.of (C.1.2.2.2.2 _ ki_J5_getValue_6d5f1) (C.1.2.2.2.2 _ kc_J5_getValue_6d5f1)) (C.1.2.2.2.2 _ kvv_J5_getValue_6d5f1) ki_J5_getValue_6d5f1 hdU_J5_getValue_6d5f1 (gj C) (gr C 1 (ci := 8) (C1 := RJ4) rfl rfl) ⟨rfl, rfl⟩ ⟨Nat.le_of_ble_eq_true rfl, Nat.le_of_ble_eq_true rfl⟩ (c_J5_getValue l D J kc ki kb kl kd sb row (nI xs.length) (fun j => xs.getD j 0)) (List.perm_append_comm (l₁ := ([(t, .inr (7, [.null, .int 0, .int 0, .int 0]))] : va_W)) (l₂ := wSB kl sb row xs)) (fun _ _ => (List.perm_append_comm (l₁ := ([(t, .inr (7, [.null, .int 0, .int 0, .int 0]))] : va_W)) (l₂ := wSB kl sb row xs))) rfl rfl (Nat.le_of_ble_eq_true rfl) dJ0_init_db425_5 ⟨Nat.le_of_ble_eq_true rfl, Nat.le_of_ble_eq_true rfl⟩ (fun _ a1 ha => ?_)
  have ha := Eq.symm ha
  subst ha
  refine a_astore_n C [(3, .ref row), (0, .ref t), (1, .ref sb), (2, .null)] dJ0_init_db425_8 rfl (by decide) rfl ?_
  refine a_aload_n C 2 dJ0_init_db425_9 rfl rfl ?_
  refine g_Ui (mc1 := 0) (ms1 := 0) C 0 ([(t, .inr (7, [.null, .int 0, .int 0, .int 0]))]) ([(t, .inr (7, [.null, .int 0, .int 0, .int 0])), (sb, .inr (8, [.ref row, .int 0, .int 0, .int (nI xs.length)])), (row, .inl (kl, 16, .inl fun j => xs.getD j 0))]) kc_J4_length_8abf5 kn_J4 kl_J0_549 km_J5_length_8abf5 (va_Decl.of (C.1.2.2.2.2 _ ki_J5_length_8abf5) (C.1.2.2.2.2 _ kc_J5_length_8abf5)) (C.1.2.2.2.2 _ kvv_J5_length_8abf5) ki_J4_length_8abf5 hdU_J5_length_8abf5 (gj C) (gr C 1 (ci := 8) (C1 := RJ4) rfl rfl) ⟨rfl, rfl⟩ ⟨Nat.le_of_ble_eq_true rfl, Nat.le_of_ble_eq_true rfl⟩ (c_J4_length l D J kc ki kb kl kd sb row (nI xs.length) (fun j => xs.getD j 0)) (List.perm_append_comm (l₁ := ([(t, .inr (7, [.null, .int 0, .int 0, .int 0]))] : va_W)) (l₂ := wSB kl sb row xs)) (List.perm_append_comm (l₁ := ([(t, .inr (7, [.null, .int 0, .int 0, .int 0]))] : va_W)) (l₂ := wSB kl sb row xs)) rfl rfl (Nat.le_of_ble_eq_true rfl) dJ0_init_db425_10 ⟨Nat.le_of_ble_eq_true rfl, Nat.le_of_ble_eq_true rfl⟩ ?_
  refine a_istore C [(4, .int (nI xs.length)), (3, .ref row), (0, .ref t), (1, .ref sb), (2, .null)] dJ0_init_db425_13 (by decide) rfl ?_
  refine a_aload_n C 3 dJ0_init_db425_15 rfl rfl ?_
  refine g_Ui (mc1 := 0) (ms1 := 0) C 0 ([(t, .inr (7, [.null, .int 0, .int 0, .int 0]))]) ([(t, .inr (7, [.null, .int 0, .int 0, .int 0])), (sb, .inr (8, [.ref row, .int 0, .int 0, .int (nI xs.length)])), (row, .inl (kl, 16, .inl fun j => xs.getD j 0))]) kc_J5_isLatin1_aae02 kn_J5 kl_J0_1047 km_J5_isLatin1_aae02 (va_Decl.of (C.1.2.2.2.2 _ ki_J5_isLatin1_aae02) (C.1.2.2.2.2 _ kc_J5_isLatin1_aae02)) (C.1.2.2.2.2 _ kvv_J5_isLatin1_aae02) ki_J5_isLatin1_aae02 hdU_J5_isLatin1_aae02 (gj C) (gr C 1 (ci := 8) (C1 := RJ4) rfl rfl) ⟨rfl, rfl⟩ ⟨Nat.le_of_ble_eq_true rfl, Nat.le_of_ble_eq_true rfl⟩ (c_J5_isLatin1 l D J kc ki kb kl kd sb row (nI xs.length) (fun j => xs.getD j 0)) (List.perm_append_comm (l₁ := ([(t, .inr (7, [.null, .int 0, .int 0, .int 0]))] : va_W)) (l₂ := wSB kl sb row xs)) (List.perm_append_comm (l₁ := ([(t, .inr (7, [.null, .int 0, .int 0, .int 0]))] : va_W)) (l₂ := wSB kl sb row xs)) rfl rfl (Nat.le_of_ble_eq_true rfl) dJ0_init_db425_16 ⟨Nat.le_of_ble_eq_true rfl, Nat.le_of_ble_eq_true rfl⟩ ?_
  refine a_if_eq C (tgt := 41) dJ0_init_db425_19 (by decide) (hF := (if_neg (by decide) : (if (1 : Int32) = 0 then (none : Option Unit) else some ()) = some ())) (fun _ hF => nomatch hF) (fun _ _ => ?_)
  refine a_aload_n C 2 dJ0_init_db425_22 rfl rfl ?_
  refine a_iconst C (v := 0) dJ0_init_db425_23 (by decide) ?_
  refine c_putF C hnm 0 1 iwJ0 tyJ0_ok nmJ0 rfl rfl (by decide) kf_J0_15 rfl rfl rfl rfl (Nat.le_of_ble_eq_true rfl) dJ0_init_db425_24 ?_
  refine a_ws C (ws' := [(t, .inr (7, [.null, .int 0, .int 0, .int 0])), (sb, .inr (8, [.ref row, .int 0, .int 0, .int (nI xs.length)])), (row, .inl (kl, 16, .inl fun j => xs.getD j 0))]) rfl ?_
  refine a_aload_n C 2 dJ0_init_db425_27 rfl rfl ?_
  refine a_aload_n C 1 dJ0_init_db425_28 rfl rfl ?_
  refine a_iconst C (v := 0) dJ0_init_db425_29 (by decide) ?_
  refine a_iload C 0 dJ0_init_db425_30 rfl ?_
  refine g_Sr (mc1 := 1) (ms1 := 10) C 3 ([(t, .inr (7, [.null, .int 0, .int 0, .int 0])), (sb, .inr (8, [.ref row, .int 0, .int 0, .int (nI xs.length)]))]) (fun _ b => [(t, .inr (7, [.null, .int 0, .int 0, .int 0])), (sb, .inr (8, [.ref row, .int 0, .int 0, .int (nI xs.length)])), (row, .inl (kl, 16, .inl fun j => xs.getD j 0)), (b, .inl (kl, xs.length, .inl fun j => xs.getD j 0))]) gS_J0_54 hdS_J7_copyOfRange_39247 (gj C) ⟨rfl, rfl⟩ ⟨Nat.le_of_ble_eq_true rfl, Nat.le_of_ble_eq_true rfl⟩ (c_J7_copyOfB l D J kc ki kb kl kd row xs h0 h hx) (List.perm_append_comm (l₁ := ([(t, .inr (7, [.null, .int 0, .int 0, .int 0])), (sb, .inr (8, [.ref row, .int 0, .int 0, .int (nI xs.length)]))] : va_W)) (l₂ := ([(row, .inl (kl, 16, .inl fun j => xs.getD j 0))] : va_W))) (fun _ b => List.perm_append_comm (l₁ := ([(t, .inr (7, [.null, .int 0, .int 0, .int 0])), (sb, .inr (8, [.ref row, .int 0, .int 0, .int (nI xs.length)]))] : va_W)) (l₂ := ([(row, .inl (kl, 16, .inl fun j => xs.getD j 0)), (b, .inl (kl, xs.length, .inl fun j => xs.getD j 0))] : va_W))) rfl rfl (Nat.le_of_ble_eq_true rfl) dJ0_init_db425_32 ⟨Nat.le_of_ble_eq_true rfl, Nat.le_of_ble_eq_true rfl⟩ (fun _ b _ => ?_)
  refine c_putF C hnm 0 0 iwJ0 tyJ0_ok nmJ0 rfl rfl (by decide) kf_J0_9 rfl rfl rfl rfl (Nat.le_of_ble_eq_true rfl) dJ0_init_db425_35 ?_
  refine a_ws C (ws' := [(t, .inr (7, [.ref b, .int 0, .int 0, .int 0])), (sb, .inr (8, [.ref row, .int 0, .int 0, .int (nI xs.length)])), (row, .inl (kl, 16, .inl fun j => xs.getD j 0)), (b, .inl (kl, xs.length, .inl fun j => xs.getD j 0))]) rfl ?_
  refine a_goto C (tgt := 97) dJ0_init_db425_38 (by decide) ?_
  exact g_vret (w1 := [(t, .inr (7, [.ref b, .int 0, .int 0, .int 0])), (b, .inl (kl, xs.length, .inl fun j => xs.getD j 0))]) (rest := wSB kl sb row xs) C hr dJ0_init_db425_97 ⟨Nat.le_of_ble_eq_true rfl, Nat.le_of_ble_eq_true rfl⟩ (perm_35 _ _ _ _) ⟨b, rfl⟩
theorem hdX_J0_init_db425 : yJ0_init_db425.cls ≠ "java/lang/invoke/MethodHandle" ∧ yJ0_init_db425.cls ≠ "java/lang/invoke/VarHandle" ∧ (parseMethodDescriptor yJ0_init_db425.desc).map (fun d => d.parameters.length) = some 2 := by decide +kernel
set_option maxRecDepth 100000 in
set_option maxHeartbeats 4000000 in
theorem c_J0_initS (l : Launch) (D : va_G) (J : JT) (kc ki kb kl kd : ClassId) (t sb row : Nat) (xs : List Int32) (h0 : 0 < xs.length) (h : xs.length ≤ 10) (hx : ∀ x ∈ xs, 0 ≤ x ∧ x < 128) : aKn l yJ0_init_81219 (aW yJ0_init_81219 cJ0_init_81219 2 none) ({ frames := 4, cells := 1, slots := 10, locals := 130 } : Room) D J (aTy kc ki kb kl kd) [.ref t, .ref sb] ([(t, .inr (7, [.null, .int 0, .int 0, .int 0])), (sb, .inr (8, [.ref row, .int 0, .int 0, .int (nI xs.length)])), (row, .inl (kl, 16, .inl fun j => xs.getD j 0))]) (fun w => ∃ b, w = [(t, .inr (7, [.ref b, .int 0, .int 0, .int 0])), (b, .inl (kl, xs.length, .inl fun j => xs.getD j 0))]) 1 10 := by
  refine aKN_of (own := RJ0) (by decide) rfl (Nat.le_of_ble_eq_true rfl) rfl ?_
  intro p e s m args below meth c C hr
  refine a_aload_n C 0 dJ0_init_81219_0 rfl rfl ?_
  refine a_aload_n C 1 dJ0_init_81219_1 rfl rfl ?_
  refine s_null C dJ0_init_81219_2 ?_
  refine g_Xv (mc1 := 1) (ms1 := 10) C 2 ([]) kl_J0_489 ki_J0_init_db425 kn_J0 kc_J0_init_db425 rfl hdX_J0_init_db425 (gj C) ⟨rfl, rfl⟩ ⟨Nat.le_of_ble_eq_true rfl, Nat.le_of_ble_eq_true rfl⟩ (c_J0_initSB l D J kc ki kb kl kd t sb row xs h0 h hx) (pr0 _) rfl rfl (Nat.le_of_ble_eq_true rfl) dJ0_init_81219_3 ⟨Nat.le_of_ble_eq_true rfl, Nat.le_of_ble_eq_true rfl⟩ (fun w1 hw1 => ?_)
  obtain ⟨b, rfl⟩ := hw1
  exact g_vret (w1 := [(t, .inr (7, [.ref b, .int 0, .int 0, .int 0])), (b, .inl (kl, xs.length, .inl fun j => xs.getD j 0))]) (rest := []) C hr dJ0_init_81219_6 ⟨Nat.le_of_ble_eq_true rfl, Nat.le_of_ble_eq_true rfl⟩ (List.Perm.refl _) ⟨b, rfl⟩
theorem hdX_J0_init_81219 : yJ0_init_81219.cls ≠ "java/lang/invoke/MethodHandle" ∧ yJ0_init_81219.cls ≠ "java/lang/invoke/VarHandle" ∧ (parseMethodDescriptor yJ0_init_81219.desc).map (fun d => d.parameters.length) = some 1 := by decide +kernel
set_option maxRecDepth 100000 in
set_option maxHeartbeats 4000000 in
theorem c_J4_toStr (l : Launch) (D : va_G) (J : JT) (kc ki kb kl kd : ClassId) (sb row : Nat) (xs : List Int32) (h0 : 0 < xs.length) (h : xs.length ≤ 10) (hx : ∀ x ∈ xs, 0 ≤ x ∧ x < 128) : aKR l yJ4_toString_0e30d (aW yJ4_toString_0e30d cJ4_toString_0e30d 1 (some (.object "java/lang/String"))) ({ frames := 5, cells := 2, slots := 14, locals := 151 } : Room) D J (aTy kc ki kb kl kd) [.ref sb] (wSB kl sb row xs) (fun (p1 : List TX) (a : Nat) => Kn (J.2 ++ p1) a xs) (fun p1 _ => cP kl p1) 2 14 := by
  refine aKR_of (own := RJ4) (by decide) rfl (Nat.le_of_ble_eq_true rfl) rfl ?_
  intro p e s m args below meth c C hr
  refine c_new C (ci := 7) (fs := [.null, .int 0, .int 0, .int 0]) iwJ0 tyJ0_ok kk_J4_18 ka_J0 kn_J0 rfl (fun j hj => by rcases (show j = 0 ∨ j = 1 ∨ j = 2 ∨ j = 3 by omega) with rfl | rfl | rfl | rfl <;> rfl) ⟨Nat.le_of_ble_eq_true rfl, Nat.le_of_ble_eq_true rfl⟩ dJ4_toString_0e30d_0 (fun t => ?_)
  refine a_ws C (ws' := [(sb, .inr (8, [.ref row, .int 0, .int 0, .int (nI xs.length)])), (row, .inl (kl, 16, .inl fun j => xs.getD j 0)), (t, .inr (7, [.null, .int 0, .int 0, .int 0]))]) rfl ?_
  refine a_dup C dJ4_toString_0e30d_3 rfl ?_
  refine a_aload_n C 0 dJ4_toString_0e30d_4 rfl rfl ?_
  refine g_Xv (mc1 := 1) (ms1 := 10) C 1 ([]) kl_J4_137 ki_J0_init_81219 kn_J0 kc_J0_init_81219 rfl hdX_J0_init_81219 (gj C) ⟨rfl, rfl⟩ ⟨Nat.le_of_ble_eq_true rfl, Nat.le_of_ble_eq_true rfl⟩ (c_J0_initS l D J kc ki kb kl kd t sb row xs h0 h hx) ((List.perm_append_comm (l₁ := wSB kl sb row xs) (l₂ := ([(t, .inr (7, [.null, .int 0, .int 0, .int 0]))] : va_W))).trans (pr0 _)) rfl rfl (Nat.le_of_ble_eq_true rfl) dJ4_toString_0e30d_5 ⟨Nat.le_of_ble_eq_true rfl, Nat.le_of_ble_eq_true rfl⟩ (fun w1 hw1 => ?_)
  obtain ⟨b, rfl⟩ := hw1
  exact g_rret (rest := []) [⟨(t, b, xs), h, hx⟩] C hr (Or.inl ⟨_, rfl⟩) dJ4_toString_0e30d_8 ⟨Nat.le_of_ble_eq_true rfl, Nat.le_of_ble_eq_true rfl⟩ ⟨⟨(t, b, xs), h, hx⟩, List.mem_append_right _ List.mem_cons_self, rfl, rfl⟩ (by rw [cP_one]; exact List.Perm.refl _)
