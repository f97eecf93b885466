def f_X0_copyFrom (t_lettersF : Nat → Int32) (t_sizesF : Nat → Int32) (o1_lettersF : Nat → Int32) (o1_sizesF : Nat → Int32) (o1_lines : Int32) : Option ((Nat → Int32) × (Nat → Int32) × Int32) := (cpc o1_lettersF t_lettersF 80).bind fun g12_1 => (cpi o1_sizesF t_sizesF 8).bind fun g27_2 => some (g12_1, g27_2, o1_lines)
theorem hd_X0_copyFrom : yX0_copyFrom.cls = RX0 ∧ yX0_copyFrom.cls ≠ "java/lang/invoke/MethodHandle" ∧ yX0_copyFrom.cls ≠ "java/lang/invoke/VarHandle" ∧ (parseMethodDescriptor yX0_copyFrom.desc).map (fun d => d.parameters.length) = some 1 := by decide +kernel
set_option maxRecDepth 100000 in
set_option maxHeartbeats 4000000 in
theorem c_X0_copyFrom (l : Launch) (D : va_G) (J : (Nat → Nat) × (Nat → Nat)) (kc ki kb kl kd : ClassId) (t : Nat) (t_letters : Nat) (t_sizes : Nat) (o1 : Nat) (o1_letters : Nat) (o1_sizes : Nat) (t_lettersF : Nat → Int32) (t_sizesF : Nat → Int32) (t_lines : Int32) (o1_lettersF : Nat → Int32) (o1_sizesF : Nat → Int32) (o1_lines : Int32) (res : (Nat → Int32) × (Nat → Int32) × Int32) (hF : f_X0_copyFrom t_lettersF t_sizesF o1_lettersF o1_sizesF o1_lines = some res) : aKv l yX0_copyFrom (aW yX0_copyFrom cX0_copyFrom 2 none) ({ frames := 1, cells := 0, slots := 0, locals := 60 } : Room) D J (aTy kc ki kb kl kd) [.ref t, .ref o1] (wX0 kc ki t t_letters t_sizes t_lettersF t_sizesF t_lines ++ wX0 kc ki o1 o1_letters o1_sizes o1_lettersF o1_sizesF o1_lines) (fun r => wX0 kc ki t t_letters t_sizes r.1 r.2.1 r.2.2 ++ wX0 kc ki o1 o1_letters o1_sizes o1_lettersF o1_sizesF o1_lines) res := by
  refine aKv_of (own := RX0) (by decide) rfl (Nat.le_of_ble_eq_true rfl) rfl ?_
  intro p e s m args below meth c C hr
  unfold f_X0_copyFrom at hF
  refine a_aload_n C 1 dX0_copyFrom_0 rfl rfl ?_
  refine a_get C 3 0 iwX0 rfl rfl (by decide) kf_X0_9 rfl dX0_copyFrom_1 ?_
  refine a_iconst C (v := 0) dX0_copyFrom_4 (by decide) ?_
  refine a_aload_n C 0 dX0_copyFrom_5 rfl rfl ?_
  refine a_get C 0 0 iwX0 rfl rfl (by decide) kf_X0_9 rfl dX0_copyFrom_6 ?_
  refine a_iconst C (v := 0) dX0_copyFrom_9 (by decide) ?_
  refine a_bipush C (v := 80) dX0_copyFrom_10 (by decide) ?_
  refine a_cpc C 4 1 0 rfl rfl rfl (by decide) kl_X0_47 ⟨Nat.le_of_ble_eq_true rfl, Nat.le_of_ble_eq_true rfl⟩ dX0_copyFrom_12 hF (fun g12_1 eg12_1 hF => ?_)
  refine a_ws C (ws' := wX0 kc ki t t_letters t_sizes g12_1 t_sizesF t_lines ++ wX0 kc ki o1 o1_letters o1_sizes o1_lettersF o1_sizesF o1_lines) rfl ?_
  refine a_aload_n C 1 dX0_copyFrom_15 rfl rfl ?_
  refine a_get C 3 1 iwX0 rfl rfl (by decide) kf_X0_15 rfl dX0_copyFrom_16 ?_
  refine a_iconst C (v := 0) dX0_copyFrom_19 (by decide) ?_
  refine a_aload_n C 0 dX0_copyFrom_20 rfl rfl ?_
  refine a_get C 0 1 iwX0 rfl rfl (by decide) kf_X0_15 rfl dX0_copyFrom_21 ?_
  refine a_iconst C (v := 0) dX0_copyFrom_24 (by decide) ?_
  refine a_bipush C (v := 8) dX0_copyFrom_25 (by decide) ?_
  refine a_cpi C 5 2 1 rfl rfl rfl (by decide) kl_X0_47 ⟨Nat.le_of_ble_eq_true rfl, Nat.le_of_ble_eq_true rfl⟩ dX0_copyFrom_27 hF (fun g27_2 eg27_2 hF => ?_)
  refine a_ws C (ws' := wX0 kc ki t t_letters t_sizes g12_1 g27_2 t_lines ++ wX0 kc ki o1 o1_letters o1_sizes o1_lettersF o1_sizesF o1_lines) rfl ?_
  refine a_aload_n C 0 dX0_copyFrom_30 rfl rfl ?_
  refine a_aload_n C 1 dX0_copyFrom_31 rfl rfl ?_
  refine a_get C 3 2 iwX0 rfl rfl (by decide) kf_X0_19 rfl dX0_copyFrom_32 ?_
  refine a_put C 0 2 iwX0 tyX0_ok nmX0 rfl rfl (by decide) kf_X0_19 rfl rfl rfl (Nat.le_of_ble_eq_true rfl) dX0_copyFrom_35 ?_
  refine a_ws C (ws' := wX0 kc ki t t_letters t_sizes g12_1 g27_2 o1_lines ++ wX0 kc ki o1 o1_letters o1_sizes o1_lettersF o1_sizesF o1_lines) rfl ?_
  exact a_vret C hr dX0_copyFrom_38 hF rfl
def f_X4_size (t_size : Int32) : Option Int32 := some t_size
theorem hd_X4_size : yX4_size.cls = RX4 ∧ yX4_size.cls ≠ "java/lang/invoke/MethodHandle" ∧ yX4_size.cls ≠ "java/lang/invoke/VarHandle" ∧ (parseMethodDescriptor yX4_size.desc).map (fun d => d.parameters.length) = some 0 := by decide +kernel
set_option maxRecDepth 100000 in
set_option maxHeartbeats 4000000 in
theorem c_X4_size (l : Launch) (D : va_G) (J : (Nat → Nat) × (Nat → Nat)) (kc ki kb kl kd : ClassId) (t : Nat) (t_books : Nat) (t_B : Nat → Nat) (t_BL : Nat → Nat) (t_BZ : Nat → Nat) (t_HL : Nat → Nat → Int32) (t_HZ : Nat → Nat → Int32) (t_HN : Nat → Int32) (t_oldest : Int32) (t_size : Int32) (res : Int32) (hF : f_X4_size t_size = some res) : aKi l yX4_size (aW yX4_size cX4_size 1 ((some .int))) ({ frames := 0, cells := 0, slots := 0, locals := 0 } : Room) D J (aTy kc ki kb kl kd) [.ref t] (wX4 kc ki kb t t_books t_B t_BL t_BZ t_HL t_HZ t_HN t_oldest t_size) (fun r => r) (fun _ => wX4 kc ki kb t t_books t_B t_BL t_BZ t_HL t_HZ t_HN t_oldest t_size) res := by
  refine aKi_of (own := RX4) (by decide) rfl (Nat.le_of_ble_eq_true rfl) rfl ?_
  intro p e s m args below meth c C hr
  unfold f_X4_size at hF
  refine a_aload_n C 0 dX4_size_0 rfl rfl ?_
  refine a_get C 0 2 iwX4 rfl rfl (by decide) kf_X4_22 rfl dX4_size_1 ?_
  exact a_iret C hr rfl dX4_size_4 hF rfl rfl
def f_X4_clear : Option Int32 := some 0
theorem hd_X4_clear : yX4_clear.cls = RX4 ∧ yX4_clear.cls ≠ "java/lang/invoke/MethodHandle" ∧ yX4_clear.cls ≠ "java/lang/invoke/VarHandle" ∧ (parseMethodDescriptor yX4_clear.desc).map (fun d => d.parameters.length) = some 0 := by decide +kernel
set_option maxRecDepth 100000 in
set_option maxHeartbeats 4000000 in
theorem c_X4_clear (l : Launch) (D : va_G) (J : (Nat → Nat) × (Nat → Nat)) (kc ki kb kl kd : ClassId) (t : Nat) (t_books : Nat) (t_B : Nat → Nat) (t_BL : Nat → Nat) (t_BZ : Nat → Nat) (t_HL : Nat → Nat → Int32) (t_HZ : Nat → Nat → Int32) (t_HN : Nat → Int32) (t_oldest : Int32) (t_size : Int32) (res : Int32) (hF : f_X4_clear = some res) : aKv l yX4_clear (aW yX4_clear cX4_clear 1 none) ({ frames := 0, cells := 0, slots := 0, locals := 0 } : Room) D J (aTy kc ki kb kl kd) [.ref t] (wX4 kc ki kb t t_books t_B t_BL t_BZ t_HL t_HZ t_HN t_oldest t_size) (fun r => wX4 kc ki kb t t_books t_B t_BL t_BZ t_HL t_HZ t_HN t_oldest r) res := by
  refine aKv_of (own := RX4) (by decide) rfl (Nat.le_of_ble_eq_true rfl) rfl ?_
  intro p e s m args below meth c C hr
  unfold f_X4_clear at hF
  refine a_aload_n C 0 dX4_clear_0 rfl rfl ?_
  refine a_iconst C (v := 0) dX4_clear_1 (by decide) ?_
  refine a_put C 0 2 iwX4 tyX4_ok nmX4 rfl rfl (by decide) kf_X4_22 rfl rfl rfl (Nat.le_of_ble_eq_true rfl) dX4_clear_2 ?_
  refine a_ws C (ws' := wX4 kc ki kb t t_books t_B t_BL t_BZ t_HL t_HZ t_HN t_oldest 0) rfl ?_
  exact a_vret C hr dX4_clear_5 hF rfl
theorem cs_X4_25 : GoodIn WW (wsV RX4 25 RX0 yX0_copyFrom (aW yX0_copyFrom cX0_copyFrom 2 none)) := gdV kl_X4_25 ki_X0_copyFrom kv_X0_copyFrom kn_X0 kc_X0_copyFrom
def f_X4_keep (t_HL : Nat → Nat → Int32) (t_HZ : Nat → Nat → Int32) (t_HN : Nat → Int32) (t_oldest : Int32) (t_size : Int32) (o1_lettersF : Nat → Int32) (o1_sizesF : Nat → Int32) (o1_lines : Int32) : Option ((Nat → Nat → Int32) × (Nat → Nat → Int32) × (Nat → Int32) × Int32 × Int32) := (hix ((t_oldest + t_size) - (t_oldest + t_size) / 8 * 8)).bind fun j16_1 => (f_X0_copyFrom (t_HL j16_1) (t_HZ j16_1) o1_lettersF o1_sizesF o1_lines).bind fun r18_2 => if 8 ≤ t_size then (some (va_up t_HL j16_1 r18_2.1, va_up t_HZ j16_1 r18_2.2.1, va_up t_HN j16_1 r18_2.2.2, (t_oldest + 1) - (t_oldest + 1) / 8 * 8, t_size)) else (some (va_up t_HL j16_1 r18_2.1, va_up t_HZ j16_1 r18_2.2.1, va_up t_HN j16_1 r18_2.2.2, t_oldest, t_size + 1))
theorem hd_X4_keep : yX4_keep.cls = RX4 ∧ yX4_keep.cls ≠ "java/lang/invoke/MethodHandle" ∧ yX4_keep.cls ≠ "java/lang/invoke/VarHandle" ∧ (parseMethodDescriptor yX4_keep.desc).map (fun d => d.parameters.length) = some 1 := by decide +kernel
set_option maxRecDepth 100000 in
set_option maxHeartbeats 4000000 in
theorem c_X4_keep (l : Launch) (D : va_G) (J : (Nat → Nat) × (Nat → Nat)) (kc ki kb kl kd : ClassId) (t : Nat) (t_books : Nat) (t_B : Nat → Nat) (t_BL : Nat → Nat) (t_BZ : Nat → Nat) (o1 : Nat) (o1_letters : Nat) (o1_sizes : Nat) (t_HL : Nat → Nat → Int32) (t_HZ : Nat → Nat → Int32) (t_HN : Nat → Int32) (t_oldest : Int32) (t_size : Int32) (o1_lettersF : Nat → Int32) (o1_sizesF : Nat → Int32) (o1_lines : Int32) (res : (Nat → Nat → Int32) × (Nat → Nat → Int32) × (Nat → Int32) × Int32 × Int32) (hF : f_X4_keep t_HL t_HZ t_HN t_oldest t_size o1_lettersF o1_sizesF o1_lines = some res) : aKv l yX4_keep (aW yX4_keep cX4_keep 2 none) ({ frames := 2, cells := 0, slots := 0, locals := 81 } : Room) D J (aTy kc ki kb kl kd) [.ref t, .ref o1] (wX4 kc ki kb t t_books t_B t_BL t_BZ t_HL t_HZ t_HN t_oldest t_size ++ wX0 kc ki o1 o1_letters o1_sizes o1_lettersF o1_sizesF o1_lines) (fun r => wX4 kc ki kb t t_books t_B t_BL t_BZ r.1 r.2.1 r.2.2.1 r.2.2.2.1 r.2.2.2.2 ++ wX0 kc ki o1 o1_letters o1_sizes o1_lettersF o1_sizesF o1_lines) res := by
  refine aKv_of (own := RX4) (by decide) rfl (Nat.le_of_ble_eq_true rfl) rfl ?_
  intro p e s m args below meth c C hr
  unfold f_X4_keep at hF
  refine a_aload_n C 0 dX4_keep_0 rfl rfl ?_
  refine a_get C 0 0 iwX4 rfl rfl (by decide) kf_X4_11 rfl dX4_keep_1 ?_
  refine a_aload_n C 0 dX4_keep_4 rfl rfl ?_
  refine a_get C 0 1 iwX4 rfl rfl (by decide) kf_X4_18 rfl dX4_keep_5 ?_
  refine a_aload_n C 0 dX4_keep_8 rfl rfl ?_
  refine a_get C 0 2 iwX4 rfl rfl (by decide) kf_X4_22 rfl dX4_keep_9 ?_
  refine a_iadd C dX4_keep_12 ?_
  refine a_bipush C (v := 8) dX4_keep_13 (by decide) ?_
  refine a_irem C dX4_keep_15 (by decide) ?_
  refine a_aald C 1 2 rfl rfl dX4_keep_16 hF (fun j16_1 hj16_1 ej16_1 hF => ?_)
  refine a_aload_n C 1 dX4_keep_17 rfl rfl ?_
  rcases (show j16_1 = 0 ∨ j16_1 = 1 ∨ j16_1 = 2 ∨ j16_1 = 3 ∨ j16_1 = 4 ∨ j16_1 = 5 ∨ j16_1 = 6 ∨ j16_1 = 7 by omega) with rfl | rfl | rfl | rfl | rfl | rfl | rfl | rfl
  · refine a_callVv C 1 [2, 3, 4, 26, 27, 28] 2 cs_X4_25 hd_X0_copyFrom ⟨rfl, rfl⟩ ⟨Nat.le_of_ble_eq_true rfl, Nat.le_of_ble_eq_true rfl⟩ (fun r h => c_X0_copyFrom l D J kc ki kb kl kd (t_B 0) (t_BL 0) (t_BZ 0) o1 o1_letters o1_sizes (t_HL 0) (t_HZ 0) (t_HN 0) o1_lettersF o1_sizesF o1_lines r h) rfl rfl rfl (fun _ => rfl) rfl rfl rfl (Nat.le_of_ble_eq_true rfl) dX4_keep_18 ⟨Nat.zero_le _, Nat.zero_le _⟩ hF (fun r18_2 er18_2 hF => ?_)
    refine a_ws C (ws' := wX4 kc ki kb t t_books t_B t_BL t_BZ (va_up t_HL 0 r18_2.1) (va_up t_HZ 0 r18_2.2.1) (va_up t_HN 0 r18_2.2.2) t_oldest t_size ++ wX0 kc ki o1 o1_letters o1_sizes o1_lettersF o1_sizesF o1_lines) rfl ?_
    refine a_aload_n C 0 dX4_keep_21 rfl rfl ?_
    refine a_get C 0 2 iwX4 rfl rfl (by decide) kf_X4_22 rfl dX4_keep_22 ?_
    refine a_bipush C (v := 8) dX4_keep_25 (by decide) ?_
    refine a_ic_ge C (tgt := 43) dX4_keep_27 (by decide) hF (fun c27_3 hF => ?_) (fun c27_3 hF => ?_)
    · refine a_aload_n C 0 dX4_keep_43 rfl rfl ?_
      refine a_aload_n C 0 dX4_keep_44 rfl rfl ?_
      refine a_get C 0 1 iwX4 rfl rfl (by decide) kf_X4_18 rfl dX4_keep_45 ?_
      refine a_iconst C (v := 1) dX4_keep_48 (by decide) ?_
      refine a_iadd C dX4_keep_49 ?_
      refine a_bipush C (v := 8) dX4_keep_50 (by decide) ?_
      refine a_irem C dX4_keep_52 (by decide) ?_
      refine a_put C 0 1 iwX4 tyX4_ok nmX4 rfl rfl (by decide) kf_X4_18 rfl rfl rfl (Nat.le_of_ble_eq_true rfl) dX4_keep_53 ?_
      refine a_ws C (ws' := wX4 kc ki kb t t_books t_B t_BL t_BZ (va_up t_HL 0 r18_2.1) (va_up t_HZ 0 r18_2.2.1) (va_up t_HN 0 r18_2.2.2) ((t_oldest + 1) - (t_oldest + 1) / 8 * 8) t_size ++ wX0 kc ki o1 o1_letters o1_sizes o1_lettersF o1_sizesF o1_lines) rfl ?_
      exact a_vret C hr dX4_keep_56 hF rfl
    refine a_aload_n C 0 dX4_keep_30 rfl rfl ?_
    refine a_dup C dX4_keep_31 rfl ?_
    refine a_get C 0 2 iwX4 rfl rfl (by decide) kf_X4_22 rfl dX4_keep_32 ?_
    refine a_iconst C (v := 1) dX4_keep_35 (by decide) ?_
    refine a_iadd C dX4_keep_36 ?_
    refine a_put C 0 2 iwX4 tyX4_ok nmX4 rfl rfl (by decide) kf_X4_22 rfl rfl rfl (Nat.le_of_ble_eq_true rfl) dX4_keep_37 ?_
    refine a_ws C (ws' := wX4 kc ki kb t t_books t_B t_BL t_BZ (va_up t_HL 0 r18_2.1) (va_up t_HZ 0 r18_2.2.1) (va_up t_HN 0 r18_2.2.2) t_oldest (t_size + 1) ++ wX0 kc ki o1 o1_letters o1_sizes o1_lettersF o1_sizesF o1_lines) rfl ?_
    refine a_goto C (tgt := 56) dX4_keep_40 (by decide) ?_
    exact a_vret C hr dX4_keep_56 hF rfl
  · refine a_callVv C 1 [5, 6, 7, 26, 27, 28] 5 cs_X4_25 hd_X0_copyFrom ⟨rfl, rfl⟩ ⟨Nat.le_of_ble_eq_true rfl, Nat.le_of_ble_eq_true rfl⟩ (fun r h => c_X0_copyFrom l D J kc ki kb kl kd (t_B 1) (t_BL 1) (t_BZ 1) o1 o1_letters o1_sizes (t_HL 1) (t_HZ 1) (t_HN 1) o1_lettersF o1_sizesF o1_lines r h) rfl rfl rfl (fun _ => rfl) rfl rfl rfl (Nat.le_of_ble_eq_true rfl) dX4_keep_18 ⟨Nat.zero_le _, Nat.zero_le _⟩ hF (fun r18_2 er18_2 hF => ?_)
    refine a_ws C (ws' := wX4 kc ki kb t t_books t_B t_BL t_BZ (va_up t_HL 1 r18_2.1) (va_up t_HZ 1 r18_2.2.1) (va_up t_HN 1 r18_2.2.2) t_oldest t_size ++ wX0 kc ki o1 o1_letters o1_sizes o1_lettersF o1_sizesF o1_lines) rfl ?_
    refine a_aload_n C 0 dX4_keep_21 rfl rfl ?_
    refine a_get C 0 2 iwX4 rfl rfl (by decide) kf_X4_22 rfl dX4_keep_22 ?_
    refine a_bipush C (v := 8) dX4_keep_25 (by decide) ?_
    refine a_ic_ge C (tgt := 43) dX4_keep_27 (by decide) hF (fun c27_3 hF => ?_) (fun c27_3 hF => ?_)
    · refine a_aload_n C 0 dX4_keep_43 rfl rfl ?_
      refine a_aload_n C 0 dX4_keep_44 rfl rfl ?_
      refine a_get C 0 1 iwX4 rfl rfl (by decide) kf_X4_18 rfl dX4_keep_45 ?_
      refine a_iconst C (v := 1) dX4_keep_48 (by decide) ?_
      refine a_iadd C dX4_keep_49 ?_
      refine a_bipush C (v := 8) dX4_keep_50 (by decide) ?_
      refine a_irem C dX4_keep_52 (by decide) ?_
      refine a_put C 0 1 iwX4 tyX4_ok nmX4 rfl rfl (by decide) kf_X4_18 rfl rfl rfl (Nat.le_of_ble_eq_true rfl) dX4_keep_53 ?_
      refine a_ws C (ws' := wX4 kc ki kb t t_books t_B t_BL t_BZ (va_up t_HL 1 r18_2.1) (va_up t_HZ 1 r18_2.2.1) (va_up t_HN 1 r18_2.2.2) ((t_oldest + 1) - (t_oldest + 1) / 8 * 8) t_size ++ wX0 kc ki o1 o1_letters o1_sizes o1_lettersF o1_sizesF o1_lines) rfl ?_
      exact a_vret C hr dX4_keep_56 hF rfl
    refine a_aload_n C 0 dX4_keep_30 rfl rfl ?_
    refine a_dup C dX4_keep_31 rfl ?_
    refine a_get C 0 2 iwX4 rfl rfl (by decide) kf_X4_22 rfl dX4_keep_32 ?_
    refine a_iconst C (v := 1) dX4_keep_35 (by decide) ?_
    refine a_iadd C dX4_keep_36 ?_
    refine a_put C 0 2 iwX4 tyX4_ok nmX4 rfl rfl (by decide) kf_X4_22 rfl rfl rfl (Nat.le_of_ble_eq_true rfl) dX4_keep_37 ?_
    refine a_ws C (ws' := wX4 kc ki kb t t_books t_B t_BL t_BZ (va_up t_HL 1 r18_2.1) (va_up t_HZ 1 r18_2.2.1) (va_up t_HN 1 r18_2.2.2) t_oldest (t_size + 1) ++ wX0 kc ki o1 o1_letters o1_sizes o1_lettersF o1_sizesF o1_lines) rfl ?_
    refine a_goto C (tgt := 56) dX4_keep_40 (by decide) ?_
    exact a_vret C hr dX4_keep_56 hF rfl
  · refine a_callVv C 1 [8, 9, 10, 26, 27, 28] 8 cs_X4_25 hd_X0_copyFrom ⟨rfl, rfl⟩ ⟨Nat.le_of_ble_eq_true rfl, Nat.le_of_ble_eq_true rfl⟩ (fun r h => c_X0_copyFrom l D J kc ki kb kl kd (t_B 2) (t_BL 2) (t_BZ 2) o1 o1_letters o1_sizes (t_HL 2) (t_HZ 2) (t_HN 2) o1_lettersF o1_sizesF o1_lines r h) rfl rfl rfl (fun _ => rfl) rfl rfl rfl (Nat.le_of_ble_eq_true rfl) dX4_keep_18 ⟨Nat.zero_le _, Nat.zero_le _⟩ hF (fun r18_2 er18_2 hF => ?_)
    refine a_ws C (ws' := wX4 kc ki kb t t_books t_B t_BL t_BZ (va_up t_HL 2 r18_2.1) (va_up t_HZ 2 r18_2.2.1) (va_up t_HN 2 r18_2.2.2) t_oldest t_size ++ wX0 kc ki o1 o1_letters o1_sizes o1_lettersF o1_sizesF o1_lines) rfl ?_
    refine a_aload_n C 0 dX4_keep_21 rfl rfl ?_
    refine a_get C 0 2 iwX4 rfl rfl (by decide) kf_X4_22 rfl dX4_keep_22 ?_
    refine a_bipush C (v := 8) dX4_keep_25 (by decide) ?_
    refine a_ic_ge C (tgt := 43) dX4_keep_27 (by decide) hF (fun c27_3 hF => ?_) (fun c27_3 hF => ?_)
    · refine a_aload_n C 0 dX4_keep_43 rfl rfl ?_
      refine a_aload_n C 0 dX4_keep_44 rfl rfl ?_
      refine a_get C 0 1 iwX4 rfl rfl (by decide) kf_X4_18 rfl dX4_keep_45 ?_
      refine a_iconst C (v := 1) dX4_keep_48 (by decide) ?_
      refine a_iadd C dX4_keep_49 ?_
      refine a_bipush C (v := 8) dX4_keep_50 (by decide) ?_
      refine a_irem C dX4_keep_52 (by decide) ?_
      refine a_put C 0 1 iwX4 tyX4_ok nmX4 rfl rfl (by decide) kf_X4_18 rfl rfl rfl (Nat.le_of_ble_eq_true rfl) dX4_keep_53 ?_
      refine a_ws C (ws' := wX4 kc ki kb t t_books t_B t_BL t_BZ (va_up t_HL 2 r18_2.1) (va_up t_HZ 2 r18_2.2.1) (va_up t_HN 2 r18_2.2.2) ((t_oldest + 1) - (t_oldest + 1) / 8 * 8) t_size ++ wX0 kc ki o1 o1_letters o1_sizes o1_lettersF o1_sizesF o1_lines) rfl ?_
      exact a_vret C hr dX4_keep_56 hF rfl
    refine a_aload_n C 0 dX4_keep_30 rfl rfl ?_
    refine a_dup C dX4_keep_31 rfl ?_
    refine a_get C 0 2 iwX4 rfl rfl (by decide) kf_X4_22 rfl dX4_keep_32 ?_
    refine a_iconst C (v := 1) dX4_keep_35 (by decide) ?_
    refine a_iadd C dX4_keep_36 ?_
    refine a_put C 0 2 iwX4 tyX4_ok nmX4 rfl rfl (by decide) kf_X4_22 rfl rfl rfl (Nat.le_of_ble_eq_true rfl) dX4_keep_37 ?_
    refine a_ws C (ws' := wX4 kc ki kb t t_books t_B t_BL t_BZ (va_up t_HL 2 r18_2.1) (va_up t_HZ 2 r18_2.2.1) (va_up t_HN 2 r18_2.2.2) t_oldest (t_size + 1) ++ wX0 kc ki o1 o1_letters o1_sizes o1_lettersF o1_sizesF o1_lines) rfl ?_
    refine a_goto C (tgt := 56) dX4_keep_40 (by decide) ?_
    exact a_vret C hr dX4_keep_56 hF rfl
  · refine a_callVv C 1 [11, 12, 13, 26, 27, 28] 11 cs_X4_25 hd_X0_copyFrom ⟨rfl, rfl⟩ ⟨Nat.le_of_ble_eq_true rfl, Nat.le_of_ble_eq_true rfl⟩ (fun r h => c_X0_copyFrom l D J kc ki kb kl kd (t_B 3) (t_BL 3) (t_BZ 3) o1 o1_letters o1_sizes (t_HL 3) (t_HZ 3) (t_HN 3) o1_lettersF o1_sizesF o1_lines r h) rfl rfl rfl (fun _ => rfl) rfl rfl rfl (Nat.le_of_ble_eq_true rfl) dX4_keep_18 ⟨Nat.zero_le _, Nat.zero_le _⟩ hF (fun r18_2 er18_2 hF => ?_)
    refine a_ws C (ws' := wX4 kc ki kb t t_books t_B t_BL t_BZ (va_up t_HL 3 r18_2.1) (va_up t_HZ 3 r18_2.2.1) (va_up t_HN 3 r18_2.2.2) t_oldest t_size ++ wX0 kc ki o1 o1_letters o1_sizes o1_lettersF o1_sizesF o1_lines) rfl ?_
    refine a_aload_n C 0 dX4_keep_21 rfl rfl ?_
    refine a_get C 0 2 iwX4 rfl rfl (by decide) kf_X4_22 rfl dX4_keep_22 ?_
    refine a_bipush C (v := 8) dX4_keep_25 (by decide) ?_
    refine a_ic_ge C (tgt := 43) dX4_keep_27 (by decide) hF (fun c27_3 hF => ?_) (fun c27_3 hF => ?_)
    · refine a_aload_n C 0 dX4_keep_43 rfl rfl ?_
      refine a_aload_n C 0 dX4_keep_44 rfl rfl ?_
      refine a_get C 0 1 iwX4 rfl rfl (by decide) kf_X4_18 rfl dX4_keep_45 ?_
      refine a_iconst C (v := 1) dX4_keep_48 (by decide) ?_
      refine a_iadd C dX4_keep_49 ?_
      refine a_bipush C (v := 8) dX4_keep_50 (by decide) ?_
      refine a_irem C dX4_keep_52 (by decide) ?_
      refine a_put C 0 1 iwX4 tyX4_ok nmX4 rfl rfl (by decide) kf_X4_18 rfl rfl rfl (Nat.le_of_ble_eq_true rfl) dX4_keep_53 ?_
      refine a_ws C (ws' := wX4 kc ki kb t t_books t_B t_BL t_BZ (va_up t_HL 3 r18_2.1) (va_up t_HZ 3 r18_2.2.1) (va_up t_HN 3 r18_2.2.2) ((t_oldest + 1) - (t_oldest + 1) / 8 * 8) t_size ++ wX0 kc ki o1 o1_letters o1_sizes o1_lettersF o1_sizesF o1_lines) rfl ?_
      exact a_vret C hr dX4_keep_56 hF rfl
    refine a_aload_n C 0 dX4_keep_30 rfl rfl ?_
    refine a_dup C dX4_keep_31 rfl ?_
    refine a_get C 0 2 iwX4 rfl rfl (by decide) kf_X4_22 rfl dX4_keep_32 ?_
    refine a_iconst C (v := 1) dX4_keep_35 (by decide) ?_
    refine a_iadd C dX4_keep_36 ?_
    refine a_put C 0 2 iwX4 tyX4_ok nmX4 rfl rfl (by decide) kf_X4_22 rfl rfl rfl (Nat.le_of_ble_eq_true rfl) dX4_keep_37 ?_
    refine a_ws C (ws' := wX4 kc ki kb t t_books t_B t_BL t_BZ (va_up t_HL 3 r18_2.1) (va_up t_HZ 3 r18_2.2.1) (va_up t_HN 3 r18_2.2.2) t_oldest (t_size + 1) ++ wX0 kc ki o1 o1_letters o1_sizes o1_lettersF o1_sizesF o1_lines) rfl ?_
    refine a_goto C (tgt := 56) dX4_keep_40 (by decide) ?_
    exact a_vret C hr dX4_keep_56 hF rfl
  · refine a_callVv C 1 [14, 15, 16, 26, 27, 28] 14 cs_X4_25 hd_X0_copyFrom ⟨rfl, rfl⟩ ⟨Nat.le_of_ble_eq_true rfl, Nat.le_of_ble_eq_true rfl⟩ (fun r h => c_X0_copyFrom l D J kc ki kb kl kd (t_B 4) (t_BL 4) (t_BZ 4) o1 o1_letters o1_sizes (t_HL 4) (t_HZ 4) (t_HN 4) o1_lettersF o1_sizesF o1_lines r h) rfl rfl rfl (fun _ => rfl) rfl rfl rfl (Nat.le_of_ble_eq_true rfl) dX4_keep_18 ⟨Nat.zero_le _, Nat.zero_le _⟩ hF (fun r18_2 er18_2 hF => ?_)
    refine a_ws C (ws' := wX4 kc ki kb t t_books t_B t_BL t_BZ (va_up t_HL 4 r18_2.1) (va_up t_HZ 4 r18_2.2.1) (va_up t_HN 4 r18_2.2.2) t_oldest t_size ++ wX0 kc ki o1 o1_letters o1_sizes o1_lettersF o1_sizesF o1_lines) rfl ?_
    refine a_aload_n C 0 dX4_keep_21 rfl rfl ?_
    refine a_get C 0 2 iwX4 rfl rfl (by decide) kf_X4_22 rfl dX4_keep_22 ?_
    refine a_bipush C (v := 8) dX4_keep_25 (by decide) ?_
    refine a_ic_ge C (tgt := 43) dX4_keep_27 (by decide) hF (fun c27_3 hF => ?_) (fun c27_3 hF => ?_)
    · refine a_aload_n C 0 dX4_keep_43 rfl rfl ?_
      refine a_aload_n C 0 dX4_keep_44 rfl rfl ?_
      refine a_get C 0 1 iwX4 rfl rfl (by decide) kf_X4_18 rfl dX4_keep_45 ?_
      refine a_iconst C (v := 1) dX4_keep_48 (by decide) ?_
      refine a_iadd C dX4_keep_49 ?_
      refine a_bipush C (v := 8) dX4_keep_50 (by decide) ?_
      refine a_irem C dX4_keep_52 (by decide) ?_
      refine a_put C 0 1 iwX4 tyX4_ok nmX4 rfl rfl (by decide) kf_X4_18 rfl rfl rfl (Nat.le_of_ble_eq_true rfl) dX4_keep_53 ?_
      refine a_ws C (ws' := wX4 kc ki kb t t_books t_B t_BL t_BZ (va_up t_HL 4 r18_2.1) (va_up t_HZ 4 r18_2.2.1) (va_up t_HN 4 r18_2.2.2) ((t_oldest + 1) - (t_oldest + 1) / 8 * 8) t_size ++ wX0 kc ki o1 o1_letters o1_sizes o1_lettersF o1_sizesF o1_lines) rfl ?_
      exact a_vret C hr dX4_keep_56 hF rfl
    refine a_aload_n C 0 dX4_keep_30 rfl rfl ?_
    refine a_dup C dX4_keep_31 rfl ?_
    refine a_get C 0 2 iwX4 rfl rfl (by decide) kf_X4_22 rfl dX4_keep_32 ?_
    refine a_iconst C (v := 1) dX4_keep_35 (by decide) ?_
    refine a_iadd C dX4_keep_36 ?_
    refine a_put C 0 2 iwX4 tyX4_ok nmX4 rfl rfl (by decide) kf_X4_22 rfl rfl rfl (Nat.le_of_ble_eq_true rfl) dX4_keep_37 ?_
    refine a_ws C (ws' := wX4 kc ki kb t t_books t_B t_BL t_BZ (va_up t_HL 4 r18_2.1) (va_up t_HZ 4 r18_2.2.1) (va_up t_HN 4 r18_2.2.2) t_oldest (t_size + 1) ++ wX0 kc ki o1 o1_letters o1_sizes o1_lettersF o1_sizesF o1_lines) rfl ?_
    refine a_goto C (tgt := 56) dX4_keep_40 (by decide) ?_
    exact a_vret C hr dX4_keep_56 hF rfl
  · refine a_callVv C 1 [17, 18, 19, 26, 27, 28] 17 cs_X4_25 hd_X0_copyFrom ⟨rfl, rfl⟩ ⟨Nat.le_of_ble_eq_true rfl, Nat.le_of_ble_eq_true rfl⟩ (fun r h => c_X0_copyFrom l D J kc ki kb kl kd (t_B 5) (t_BL 5) (t_BZ 5) o1 o1_letters o1_sizes (t_HL 5) (t_HZ 5) (t_HN 5) o1_lettersF o1_sizesF o1_lines r h) rfl rfl rfl (fun _ => rfl) rfl rfl rfl (Nat.le_of_ble_eq_true rfl) dX4_keep_18 ⟨Nat.zero_le _, Nat.zero_le _⟩ hF (fun r18_2 er18_2 hF => ?_)
    refine a_ws C (ws' := wX4 kc ki kb t t_books t_B t_BL t_BZ (va_up t_HL 5 r18_2.1) (va_up t_HZ 5 r18_2.2.1) (va_up t_HN 5 r18_2.2.2) t_oldest t_size ++ wX0 kc ki o1 o1_letters o1_sizes o1_lettersF o1_sizesF o1_lines) rfl ?_
    refine a_aload_n C 0 dX4_keep_21 rfl rfl ?_
    refine a_get C 0 2 iwX4 rfl rfl (by decide) kf_X4_22 rfl dX4_keep_22 ?_
    refine a_bipush C (v := 8) dX4_keep_25 (by decide) ?_
    refine a_ic_ge C (tgt := 43) dX4_keep_27 (by decide) hF (fun c27_3 hF => ?_) (fun c27_3 hF => ?_)
    · refine a_aload_n C 0 dX4_keep_43 rfl rfl ?_
      refine a_aload_n C 0 dX4_keep_44 rfl rfl ?_
      refine a_get C 0 1 iwX4 rfl rfl (by decide) kf_X4_18 rfl dX4_keep_45 ?_
      refine a_iconst C (v := 1) dX4_keep_48 (by decide) ?_
      refine a_iadd C dX4_keep_49 ?_
      refine a_bipush C (v := 8) dX4_keep_50 (by decide) ?_
      refine a_irem C dX4_keep_52 (by decide) ?_
      refine a_put C 0 1 iwX4 tyX4_ok nmX4 rfl rfl (by decide) kf_X4_18 rfl rfl rfl (Nat.le_of_ble_eq_true rfl) dX4_keep_53 ?_
      refine a_ws C (ws' := wX4 kc ki kb t t_books t_B t_BL t_BZ (va_up t_HL 5 r18_2.1) (va_up t_HZ 5 r18_2.2.1) (va_up t_HN 5 r18_2.2.2) ((t_oldest + 1) - (t_oldest + 1) / 8 * 8) t_size ++ wX0 kc ki o1 o1_letters o1_sizes o1_lettersF o1_sizesF o1_lines) rfl ?_
      exact a_vret C hr dX4_keep_56 hF rfl
    refine a_aload_n C 0 dX4_keep_30 rfl rfl ?_
    refine a_dup C dX4_keep_31 rfl ?_
    refine a_get C 0 2 iwX4 rfl rfl (by decide) kf_X4_22 rfl dX4_keep_32 ?_
    refine a_iconst C (v := 1) dX4_keep_35 (by decide) ?_
    refine a_iadd C dX4_keep_36 ?_
    refine a_put C 0 2 iwX4 tyX4_ok nmX4 rfl rfl (by decide) kf_X4_22 rfl rfl rfl (Nat.le_of_ble_eq_true rfl) dX4_keep_37 ?_
    refine a_ws C (ws' := wX4 kc ki kb t t_books t_B t_BL t_BZ (va_up t_HL 5 r18_2.1) (va_up t_HZ 5 r18_2.2.1) (va_up t_HN 5 r18_2.2.2) t_oldest (t_size + 1) ++ wX0 kc ki o1 o1_letters o1_sizes o1_lettersF o1_sizesF o1_lines) rfl ?_
    refine a_goto C (tgt := 56) dX4_keep_40 (by decide) ?_
    exact a_vret C hr dX4_keep_56 hF rfl
  · refine a_callVv C 1 [20, 21, 22, 26, 27, 28] 20 cs_X4_25 hd_X0_copyFrom ⟨rfl, rfl⟩ ⟨Nat.le_of_ble_eq_true rfl, Nat.le_of_ble_eq_true rfl⟩ (fun r h => c_X0_copyFrom l D J kc ki kb kl kd (t_B 6) (t_BL 6) (t_BZ 6) o1 o1_letters o1_sizes (t_HL 6) (t_HZ 6) (t_HN 6) o1_lettersF o1_sizesF o1_lines r h) rfl rfl rfl (fun _ => rfl) rfl rfl rfl (Nat.le_of_ble_eq_true rfl) dX4_keep_18 ⟨Nat.zero_le _, Nat.zero_le _⟩ hF (fun r18_2 er18_2 hF => ?_)
    refine a_ws C (ws' := wX4 kc ki kb t t_books t_B t_BL t_BZ (va_up t_HL 6 r18_2.1) (va_up t_HZ 6 r18_2.2.1) (va_up t_HN 6 r18_2.2.2) t_oldest t_size ++ wX0 kc ki o1 o1_letters o1_sizes o1_lettersF o1_sizesF o1_lines) rfl ?_
    refine a_aload_n C 0 dX4_keep_21 rfl rfl ?_
    refine a_get C 0 2 iwX4 rfl rfl (by decide) kf_X4_22 rfl dX4_keep_22 ?_
    refine a_bipush C (v := 8) dX4_keep_25 (by decide) ?_
    refine a_ic_ge C (tgt := 43) dX4_keep_27 (by decide) hF (fun c27_3 hF => ?_) (fun c27_3 hF => ?_)
    · refine a_aload_n C 0 dX4_keep_43 rfl rfl ?_
      refine a_aload_n C 0 dX4_keep_44 rfl rfl ?_
      refine a_get C 0 1 iwX4 rfl rfl (by decide) kf_X4_18 rfl dX4_keep_45 ?_
      refine a_iconst C (v := 1) dX4_keep_48 (by decide) ?_
      refine a_iadd C dX4_keep_49 ?_
      refine a_bipush C (v := 8) dX4_keep_50 (by decide) ?_
      refine a_irem C dX4_keep_52 (by decide) ?_
      refine a_put C 0 1 iwX4 tyX4_ok nmX4 rfl rfl (by decide) kf_X4_18 rfl rfl rfl (Nat.le_of_ble_eq_true rfl) dX4_keep_53 ?_
      refine a_ws C (ws' := wX4 kc ki kb t t_books t_B t_BL t_BZ (va_up t_HL 6 r18_2.1) (va_up t_HZ 6 r18_2.2.1) (va_up t_HN 6 r18_2.2.2) ((t_oldest + 1) - (t_oldest + 1) / 8 * 8) t_size ++ wX0 kc ki o1 o1_letters o1_sizes o1_lettersF o1_sizesF o1_lines) rfl ?_
      exact a_vret C hr dX4_keep_56 hF rfl
    refine a_aload_n C 0 dX4_keep_30 rfl rfl ?_
    refine a_dup C dX4_keep_31 rfl ?_
    refine a_get C 0 2 iwX4 rfl rfl (by decide) kf_X4_22 rfl dX4_keep_32 ?_
    refine a_iconst C (v := 1) dX4_keep_35 (by decide) ?_
    refine a_iadd C dX4_keep_36 ?_
    refine a_put C 0 2 iwX4 tyX4_ok nmX4 rfl rfl (by decide) kf_X4_22 rfl rfl rfl (Nat.le_of_ble_eq_true rfl) dX4_keep_37 ?_
    refine a_ws C (ws' := wX4 kc ki kb t t_books t_B t_BL t_BZ (va_up t_HL 6 r18_2.1) (va_up t_HZ 6 r18_2.2.1) (va_up t_HN 6 r18_2.2.2) t_oldest (t_size + 1) ++ wX0 kc ki o1 o1_letters o1_sizes o1_lettersF o1_sizesF o1_lines) rfl ?_
    refine a_goto C (tgt := 56) dX4_keep_40 (by decide) ?_
    exact a_vret C hr dX4_keep_56 hF rfl
  · refine a_callVv C 1 [23, 24, 25, 26, 27, 28] 23 cs_X4_25 hd_X0_copyFrom ⟨rfl, rfl⟩ ⟨Nat.le_of_ble_eq_true rfl, Nat.le_of_ble_eq_true rfl⟩ (fun r h => c_X0_copyFrom l D J kc ki kb kl kd (t_B 7) (t_BL 7) (t_BZ 7) o1 o1_letters o1_sizes (t_HL 7) (t_HZ 7) (t_HN 7) o1_lettersF o1_sizesF o1_lines r h) rfl rfl rfl (fun _ => rfl) rfl rfl rfl (Nat.le_of_ble_eq_true rfl) dX4_keep_18 ⟨Nat.zero_le _, Nat.zero_le _⟩ hF (fun r18_2 er18_2 hF => ?_)
    refine a_ws C (ws' := wX4 kc ki kb t t_books t_B t_BL t_BZ (va_up t_HL 7 r18_2.1) (va_up t_HZ 7 r18_2.2.1) (va_up t_HN 7 r18_2.2.2) t_oldest t_size ++ wX0 kc ki o1 o1_letters o1_sizes o1_lettersF o1_sizesF o1_lines) rfl ?_
    refine a_aload_n C 0 dX4_keep_21 rfl rfl ?_
    refine a_get C 0 2 iwX4 rfl rfl (by decide) kf_X4_22 rfl dX4_keep_22 ?_
    refine a_bipush C (v := 8) dX4_keep_25 (by decide) ?_
    refine a_ic_ge C (tgt := 43) dX4_keep_27 (by decide) hF (fun c27_3 hF => ?_) (fun c27_3 hF => ?_)
    · refine a_aload_n C 0 dX4_keep_43 rfl rfl ?_
      refine a_aload_n C 0 dX4_keep_44 rfl rfl ?_
      refine a_get C 0 1 iwX4 rfl rfl (by decide) kf_X4_18 rfl dX4_keep_45 ?_
      refine a_iconst C (v := 1) dX4_keep_48 (by decide) ?_
      refine a_iadd C dX4_keep_49 ?_
      refine a_bipush C (v := 8) dX4_keep_50 (by decide) ?_
      refine a_irem C dX4_keep_52 (by decide) ?_
      refine a_put C 0 1 iwX4 tyX4_ok nmX4 rfl rfl (by decide) kf_X4_18 rfl rfl rfl (Nat.le_of_ble_eq_true rfl) dX4_keep_53 ?_
      refine a_ws C (ws' := wX4 kc ki kb t t_books t_B t_BL t_BZ (va_up t_HL 7 r18_2.1) (va_up t_HZ 7 r18_2.2.1) (va_up t_HN 7 r18_2.2.2) ((t_oldest + 1) - (t_oldest + 1) / 8 * 8) t_size ++ wX0 kc ki o1 o1_letters o1_sizes o1_lettersF o1_sizesF o1_lines) rfl ?_
      exact a_vret C hr dX4_keep_56 hF rfl
    refine a_aload_n C 0 dX4_keep_30 rfl rfl ?_
    refine a_dup C dX4_keep_31 rfl ?_
    refine a_get C 0 2 iwX4 rfl rfl (by decide) kf_X4_22 rfl dX4_keep_32 ?_
    refine a_iconst C (v := 1) dX4_keep_35 (by decide) ?_
    refine a_iadd C dX4_keep_36 ?_
    refine a_put C 0 2 iwX4 tyX4_ok nmX4 rfl rfl (by decide) kf_X4_22 rfl rfl rfl (Nat.le_of_ble_eq_true rfl) dX4_keep_37 ?_
    refine a_ws C (ws' := wX4 kc ki kb t t_books t_B t_BL t_BZ (va_up t_HL 7 r18_2.1) (va_up t_HZ 7 r18_2.2.1) (va_up t_HN 7 r18_2.2.2) t_oldest (t_size + 1) ++ wX0 kc ki o1 o1_letters o1_sizes o1_lettersF o1_sizesF o1_lines) rfl ?_
    refine a_goto C (tgt := 56) dX4_keep_40 (by decide) ?_
    exact a_vret C hr dX4_keep_56 hF rfl
def f_X4_takeLatest (t_HL : Nat → Nat → Int32) (t_HZ : Nat → Nat → Int32) (t_HN : Nat → Int32) (t_oldest : Int32) (t_size : Int32) (o1_lettersF : Nat → Int32) (o1_sizesF : Nat → Int32) (o1_lines : Int32) : Option (Int32 × (Nat → Int32) × (Nat → Int32) × Int32) := if t_size ≤ 0 then (some (t_size, o1_lettersF, o1_sizesF, o1_lines)) else ((hix ((t_oldest + (t_size - 1)) - (t_oldest + (t_size - 1)) / 8 * 8)).bind fun j34_2 => (f_X0_copyFrom o1_lettersF o1_sizesF (t_HL j34_2) (t_HZ j34_2) (t_HN j34_2)).bind fun r35_3 => some (t_size - 1, r35_3.1, r35_3.2.1, r35_3.2.2))
theorem hd_X4_takeLatest : yX4_takeLatest.cls = RX4 ∧ yX4_takeLatest.cls ≠ "java/lang/invoke/MethodHandle" ∧ yX4_takeLatest.cls ≠ "java/lang/invoke/VarHandle" ∧ (parseMethodDescriptor yX4_takeLatest.desc).map (fun d => d.parameters.length) = some 1 := by decide +kernel
set_option maxRecDepth 100000 in
set_option maxHeartbeats 4000000 in
theorem c_X4_takeLatest (l : Launch) (D : va_G) (J : (Nat → Nat) × (Nat → Nat)) (kc ki kb kl kd : ClassId) (t : Nat) (t_books : Nat) (t_B : Nat → Nat) (t_BL : Nat → Nat) (t_BZ : Nat → Nat) (o1 : Nat) (o1_letters : Nat) (o1_sizes : Nat) (t_HL : Nat → Nat → Int32) (t_HZ : Nat → Nat → Int32) (t_HN : Nat → Int32) (t_oldest : Int32) (t_size : Int32) (o1_lettersF : Nat → Int32) (o1_sizesF : Nat → Int32) (o1_lines : Int32) (res : Int32 × (Nat → Int32) × (Nat → Int32) × Int32) (hF : f_X4_takeLatest t_HL t_HZ t_HN t_oldest t_size o1_lettersF o1_sizesF o1_lines = some res) : aKv l yX4_takeLatest (aW yX4_takeLatest cX4_takeLatest 2 none) ({ frames := 2, cells := 0, slots := 0, locals := 81 } : Room) D J (aTy kc ki kb kl kd) [.ref t, .ref o1] (wX4 kc ki kb t t_books t_B t_BL t_BZ t_HL t_HZ t_HN t_oldest t_size ++ wX0 kc ki o1 o1_letters o1_sizes o1_lettersF o1_sizesF o1_lines) (fun r => wX4 kc ki kb t t_books t_B t_BL t_BZ t_HL t_HZ t_HN t_oldest r.1 ++ wX0 kc ki o1 o1_letters o1_sizes r.2.1 r.2.2.1 r.2.2.2) res := by
  refine aKv_of (own := RX4) (by decide) rfl (Nat.le_of_ble_eq_true rfl) rfl ?_
  intro p e s m args below meth c C hr
  unfold f_X4_takeLatest at hF
  refine a_aload_n C 0 dX4_takeLatest_0 rfl rfl ?_
  refine a_get C 0 2 iwX4 rfl rfl (by decide) kf_X4_22 rfl dX4_takeLatest_1 ?_
  refine a_if_le C (tgt := 38) dX4_takeLatest_4 (by decide) hF (fun c4_1 hF => ?_) (fun c4_1 hF => ?_)
  · exact a_vret C hr dX4_takeLatest_38 hF rfl
  refine a_aload_n C 0 dX4_takeLatest_7 rfl rfl ?_
  refine a_dup C dX4_takeLatest_8 rfl ?_
  refine a_get C 0 2 iwX4 rfl rfl (by decide) kf_X4_22 rfl dX4_takeLatest_9 ?_
  refine a_iconst C (v := 1) dX4_takeLatest_12 (by decide) ?_
  refine a_isub C dX4_takeLatest_13 ?_
  refine a_put C 0 2 iwX4 tyX4_ok nmX4 rfl rfl (by decide) kf_X4_22 rfl rfl rfl (Nat.le_of_ble_eq_true rfl) dX4_takeLatest_14 ?_
  refine a_ws C (ws' := wX4 kc ki kb t t_books t_B t_BL t_BZ t_HL t_HZ t_HN t_oldest (t_size - 1) ++ wX0 kc ki o1 o1_letters o1_sizes o1_lettersF o1_sizesF o1_lines) rfl ?_
  refine a_aload_n C 1 dX4_takeLatest_17 rfl rfl ?_
  refine a_aload_n C 0 dX4_takeLatest_18 rfl rfl ?_
  refine a_get C 0 0 iwX4 rfl rfl (by decide) kf_X4_11 rfl dX4_takeLatest_19 ?_
  refine a_aload_n C 0 dX4_takeLatest_22 rfl rfl ?_
  refine a_get C 0 1 iwX4 rfl rfl (by decide) kf_X4_18 rfl dX4_takeLatest_23 ?_
  refine a_aload_n C 0 dX4_takeLatest_26 rfl rfl ?_
  refine a_get C 0 2 iwX4 rfl rfl (by decide) kf_X4_22 rfl dX4_takeLatest_27 ?_
  refine a_iadd C dX4_takeLatest_30 ?_
  refine a_bipush C (v := 8) dX4_takeLatest_31 (by decide) ?_
  refine a_irem C dX4_takeLatest_33 (by decide) ?_
  refine a_aald C 1 2 rfl rfl dX4_takeLatest_34 hF (fun j34_2 hj34_2 ej34_2 hF => ?_)
  rcases (show j34_2 = 0 ∨ j34_2 = 1 ∨ j34_2 = 2 ∨ j34_2 = 3 ∨ j34_2 = 4 ∨ j34_2 = 5 ∨ j34_2 = 6 ∨ j34_2 = 7 by omega) with rfl | rfl | rfl | rfl | rfl | rfl | rfl | rfl
  · refine a_callVv C 1 [26, 27, 28, 2, 3, 4] 26 cs_X4_25 hd_X0_copyFrom ⟨rfl, rfl⟩ ⟨Nat.le_of_ble_eq_true rfl, Nat.le_of_ble_eq_true rfl⟩ (fun r h => c_X0_copyFrom l D J kc ki kb kl kd o1 o1_letters o1_sizes (t_B 0) (t_BL 0) (t_BZ 0) o1_lettersF o1_sizesF o1_lines (t_HL 0) (t_HZ 0) (t_HN 0) r h) rfl rfl rfl (fun _ => rfl) rfl rfl rfl (Nat.le_of_ble_eq_true rfl) dX4_takeLatest_35 ⟨Nat.zero_le _, Nat.zero_le _⟩ hF (fun r35_3 er35_3 hF => ?_)
    refine a_ws C (ws' := wX4 kc ki kb t t_books t_B t_BL t_BZ t_HL t_HZ t_HN t_oldest (t_size - 1) ++ wX0 kc ki o1 o1_letters o1_sizes r35_3.1 r35_3.2.1 r35_3.2.2) rfl ?_
    exact a_vret C hr dX4_takeLatest_38 hF rfl
  · refine a_callVv C 1 [26, 27, 28, 5, 6, 7] 26 cs_X4_25 hd_X0_copyFrom ⟨rfl, rfl⟩ ⟨Nat.le_of_ble_eq_true rfl, Nat.le_of_ble_eq_true rfl⟩ (fun r h => c_X0_copyFrom l D J kc ki kb kl kd o1 o1_letters o1_sizes (t_B 1) (t_BL 1) (t_BZ 1) o1_lettersF o1_sizesF o1_lines (t_HL 1) (t_HZ 1) (t_HN 1) r h) rfl rfl rfl (fun _ => rfl) rfl rfl rfl (Nat.le_of_ble_eq_true rfl) dX4_takeLatest_35 ⟨Nat.zero_le _, Nat.zero_le _⟩ hF (fun r35_3 er35_3 hF => ?_)
    refine a_ws C (ws' := wX4 kc ki kb t t_books t_B t_BL t_BZ t_HL t_HZ t_HN t_oldest (t_size - 1) ++ wX0 kc ki o1 o1_letters o1_sizes r35_3.1 r35_3.2.1 r35_3.2.2) rfl ?_
    exact a_vret C hr dX4_takeLatest_38 hF rfl
  · refine a_callVv C 1 [26, 27, 28, 8, 9, 10] 26 cs_X4_25 hd_X0_copyFrom ⟨rfl, rfl⟩ ⟨Nat.le_of_ble_eq_true rfl, Nat.le_of_ble_eq_true rfl⟩ (fun r h => c_X0_copyFrom l D J kc ki kb kl kd o1 o1_letters o1_sizes (t_B 2) (t_BL 2) (t_BZ 2) o1_lettersF o1_sizesF o1_lines (t_HL 2) (t_HZ 2) (t_HN 2) r h) rfl rfl rfl (fun _ => rfl) rfl rfl rfl (Nat.le_of_ble_eq_true rfl) dX4_takeLatest_35 ⟨Nat.zero_le _, Nat.zero_le _⟩ hF (fun r35_3 er35_3 hF => ?_)
    refine a_ws C (ws' := wX4 kc ki kb t t_books t_B t_BL t_BZ t_HL t_HZ t_HN t_oldest (t_size - 1) ++ wX0 kc ki o1 o1_letters o1_sizes r35_3.1 r35_3.2.1 r35_3.2.2) rfl ?_
    exact a_vret C hr dX4_takeLatest_38 hF rfl
  · refine a_callVv C 1 [26, 27, 28, 11, 12, 13] 26 cs_X4_25 hd_X0_copyFrom ⟨rfl, rfl⟩ ⟨Nat.le_of_ble_eq_true rfl, Nat.le_of_ble_eq_true rfl⟩ (fun r h => c_X0_copyFrom l D J kc ki kb kl kd o1 o1_letters o1_sizes (t_B 3) (t_BL 3) (t_BZ 3) o1_lettersF o1_sizesF o1_lines (t_HL 3) (t_HZ 3) (t_HN 3) r h) rfl rfl rfl (fun _ => rfl) rfl rfl rfl (Nat.le_of_ble_eq_true rfl) dX4_takeLatest_35 ⟨Nat.zero_le _, Nat.zero_le _⟩ hF (fun r35_3 er35_3 hF => ?_)
    refine a_ws C (ws' := wX4 kc ki kb t t_books t_B t_BL t_BZ t_HL t_HZ t_HN t_oldest (t_size - 1) ++ wX0 kc ki o1 o1_letters o1_sizes r35_3.1 r35_3.2.1 r35_3.2.2) rfl ?_
    exact a_vret C hr dX4_takeLatest_38 hF rfl
  · refine a_callVv C 1 [26, 27, 28, 14, 15, 16] 26 cs_X4_25 hd_X0_copyFrom ⟨rfl, rfl⟩ ⟨Nat.le_of_ble_eq_true rfl, Nat.le_of_ble_eq_true rfl⟩ (fun r h => c_X0_copyFrom l D J kc ki kb kl kd o1 o1_letters o1_sizes (t_B 4) (t_BL 4) (t_BZ 4) o1_lettersF o1_sizesF o1_lines (t_HL 4) (t_HZ 4) (t_HN 4) r h) rfl rfl rfl (fun _ => rfl) rfl rfl rfl (Nat.le_of_ble_eq_true rfl) dX4_takeLatest_35 ⟨Nat.zero_le _, Nat.zero_le _⟩ hF (fun r35_3 er35_3 hF => ?_)
    refine a_ws C (ws' := wX4 kc ki kb t t_books t_B t_BL t_BZ t_HL t_HZ t_HN t_oldest (t_size - 1) ++ wX0 kc ki o1 o1_letters o1_sizes r35_3.1 r35_3.2.1 r35_3.2.2) rfl ?_
    exact a_vret C hr dX4_takeLatest_38 hF rfl
  · refine a_callVv C 1 [26, 27, 28, 17, 18, 19] 26 cs_X4_25 hd_X0_copyFrom ⟨rfl, rfl⟩ ⟨Nat.le_of_ble_eq_true rfl, Nat.le_of_ble_eq_true rfl⟩ (fun r h => c_X0_copyFrom l D J kc ki kb kl kd o1 o1_letters o1_sizes (t_B 5) (t_BL 5) (t_BZ 5) o1_lettersF o1_sizesF o1_lines (t_HL 5) (t_HZ 5) (t_HN 5) r h) rfl rfl rfl (fun _ => rfl) rfl rfl rfl (Nat.le_of_ble_eq_true rfl) dX4_takeLatest_35 ⟨Nat.zero_le _, Nat.zero_le _⟩ hF (fun r35_3 er35_3 hF => ?_)
    refine a_ws C (ws' := wX4 kc ki kb t t_books t_B t_BL t_BZ t_HL t_HZ t_HN t_oldest (t_size - 1) ++ wX0 kc ki o1 o1_letters o1_sizes r35_3.1 r35_3.2.1 r35_3.2.2) rfl ?_
    exact a_vret C hr dX4_takeLatest_38 hF rfl
  · refine a_callVv C 1 [26, 27, 28, 20, 21, 22] 26 cs_X4_25 hd_X0_copyFrom ⟨rfl, rfl⟩ ⟨Nat.le_of_ble_eq_true rfl, Nat.le_of_ble_eq_true rfl⟩ (fun r h => c_X0_copyFrom l D J kc ki kb kl kd o1 o1_letters o1_sizes (t_B 6) (t_BL 6) (t_BZ 6) o1_lettersF o1_sizesF o1_lines (t_HL 6) (t_HZ 6) (t_HN 6) r h) rfl rfl rfl (fun _ => rfl) rfl rfl rfl (Nat.le_of_ble_eq_true rfl) dX4_takeLatest_35 ⟨Nat.zero_le _, Nat.zero_le _⟩ hF (fun r35_3 er35_3 hF => ?_)
    refine a_ws C (ws' := wX4 kc ki kb t t_books t_B t_BL t_BZ t_HL t_HZ t_HN t_oldest (t_size - 1) ++ wX0 kc ki o1 o1_letters o1_sizes r35_3.1 r35_3.2.1 r35_3.2.2) rfl ?_
    exact a_vret C hr dX4_takeLatest_38 hF rfl
  · refine a_callVv C 1 [26, 27, 28, 23, 24, 25] 26 cs_X4_25 hd_X0_copyFrom ⟨rfl, rfl⟩ ⟨Nat.le_of_ble_eq_true rfl, Nat.le_of_ble_eq_true rfl⟩ (fun r h => c_X0_copyFrom l D J kc ki kb kl kd o1 o1_letters o1_sizes (t_B 7) (t_BL 7) (t_BZ 7) o1_lettersF o1_sizesF o1_lines (t_HL 7) (t_HZ 7) (t_HN 7) r h) rfl rfl rfl (fun _ => rfl) rfl rfl rfl (Nat.le_of_ble_eq_true rfl) dX4_takeLatest_35 ⟨Nat.zero_le _, Nat.zero_le _⟩ hF (fun r35_3 er35_3 hF => ?_)
    refine a_ws C (ws' := wX4 kc ki kb t t_books t_B t_BL t_BZ t_HL t_HZ t_HN t_oldest (t_size - 1) ++ wX0 kc ki o1 o1_letters o1_sizes r35_3.1 r35_3.2.1 r35_3.2.2) rfl ?_
    exact a_vret C hr dX4_takeLatest_38 hF rfl
def f_J6_bitCount_0f7a4 (p0 : Int32) : Option Int32 := some ((((((((p0 - ((ush p0 1) &&& 1431655765)) &&& 858993459) + ((ush (p0 - ((ush p0 1) &&& 1431655765)) 2) &&& 858993459)) + (ush (((p0 - ((ush p0 1) &&& 1431655765)) &&& 858993459) + ((ush (p0 - ((ush p0 1) &&& 1431655765)) 2) &&& 858993459)) 4)) &&& 252645135) + (ush (((((p0 - ((ush p0 1) &&& 1431655765)) &&& 858993459) + ((ush (p0 - ((ush p0 1) &&& 1431655765)) 2) &&& 858993459)) + (ush (((p0 - ((ush p0 1) &&& 1431655765)) &&& 858993459) + ((ush (p0 - ((ush p0 1) &&& 1431655765)) 2) &&& 858993459)) 4)) &&& 252645135) 8)) + (ush ((((((p0 - ((ush p0 1) &&& 1431655765)) &&& 858993459) + ((ush (p0 - ((ush p0 1) &&& 1431655765)) 2) &&& 858993459)) + (ush (((p0 - ((ush p0 1) &&& 1431655765)) &&& 858993459) + ((ush (p0 - ((ush p0 1) &&& 1431655765)) 2) &&& 858993459)) 4)) &&& 252645135) + (ush (((((p0 - ((ush p0 1) &&& 1431655765)) &&& 858993459) + ((ush (p0 - ((ush p0 1) &&& 1431655765)) 2) &&& 858993459)) + (ush (((p0 - ((ush p0 1) &&& 1431655765)) &&& 858993459) + ((ush (p0 - ((ush p0 1) &&& 1431655765)) 2) &&& 858993459)) 4)) &&& 252645135) 8)) 16)) &&& 63)
theorem hd_J6_bitCount_0f7a4 : yJ6_bitCount_0f7a4.cls ≠ "java/lang/invoke/MethodHandle" ∧ yJ6_bitCount_0f7a4.cls ≠ "java/lang/invoke/VarHandle" ∧ (parseMethodDescriptor yJ6_bitCount_0f7a4.desc).map (fun d => d.parameters.length) = some 1 := by decide +kernel
set_option maxRecDepth 100000 in
set_option maxHeartbeats 4000000 in
theorem c_J6_bitCount_0f7a4 (l : Launch) (D : va_G) (J : (Nat → Nat) × (Nat → Nat)) (kc ki kb kl kd : ClassId) (p0 : Int32) (res : Int32) (hF : f_J6_bitCount_0f7a4 p0 = some res) : aKi l yJ6_bitCount_0f7a4 (aW yJ6_bitCount_0f7a4 cJ6_bitCount_0f7a4 1 ((some .int))) ({ frames := 0, cells := 0, slots := 0, locals := 0 } : Room) D J (aTy kc ki kb kl kd) [.int p0] ([]) (fun r => r) (fun _ => []) res := by
  refine aKi_of (own := RJ6) (by decide) rfl (Nat.le_of_ble_eq_true rfl) rfl ?_
  intro p e s m args below meth c C hr
  unfold f_J6_bitCount_0f7a4 at hF
  refine a_iload_n C 0 dJ6_bitCount_0f7a4_0 rfl rfl ?_
  refine a_iload_n C 0 dJ6_bitCount_0f7a4_1 rfl rfl ?_
  refine a_iconst C (v := 1) dJ6_bitCount_0f7a4_2 (by decide) ?_
  refine a_iushr C dJ6_bitCount_0f7a4_3 ?_
  refine a_ldcw C (v := 1431655765) kj_265 dJ6_bitCount_0f7a4_4 ?_
  refine a_iand C dJ6_bitCount_0f7a4_7 ?_
  refine a_isub C dJ6_bitCount_0f7a4_8 ?_
  refine a_istore_n C [(0, .int (p0 - ((ush p0 1) &&& 1431655765)))] dJ6_bitCount_0f7a4_9 rfl (by decide) rfl ?_
  refine a_iload_n C 0 dJ6_bitCount_0f7a4_10 rfl rfl ?_
  refine a_ldcw C (v := 858993459) kj_266 dJ6_bitCount_0f7a4_11 ?_
  refine a_iand C dJ6_bitCount_0f7a4_14 ?_
  refine a_iload_n C 0 dJ6_bitCount_0f7a4_15 rfl rfl ?_
  refine a_iconst C (v := 2) dJ6_bitCount_0f7a4_16 (by decide) ?_
  refine a_iushr C dJ6_bitCount_0f7a4_17 ?_
  refine a_ldcw C (v := 858993459) kj_266 dJ6_bitCount_0f7a4_18 ?_
  refine a_iand C dJ6_bitCount_0f7a4_21 ?_
  refine a_iadd C dJ6_bitCount_0f7a4_22 ?_
  refine a_istore_n C [(0, .int (((p0 - ((ush p0 1) &&& 1431655765)) &&& 858993459) + ((ush (p0 - ((ush p0 1) &&& 1431655765)) 2) &&& 858993459)))] dJ6_bitCount_0f7a4_23 rfl (by decide) rfl ?_
  refine a_iload_n C 0 dJ6_bitCount_0f7a4_24 rfl rfl ?_
  refine a_iload_n C 0 dJ6_bitCount_0f7a4_25 rfl rfl ?_
  refine a_iconst C (v := 4) dJ6_bitCount_0f7a4_26 (by decide) ?_
  refine a_iushr C dJ6_bitCount_0f7a4_27 ?_
  refine a_iadd C dJ6_bitCount_0f7a4_28 ?_
  refine a_ldcw C (v := 252645135) kj_267 dJ6_bitCount_0f7a4_29 ?_
  refine a_iand C dJ6_bitCount_0f7a4_32 ?_
  refine a_istore_n C [(0, .int (((((p0 - ((ush p0 1) &&& 1431655765)) &&& 858993459) + ((ush (p0 - ((ush p0 1) &&& 1431655765)) 2) &&& 858993459)) + (ush (((p0 - ((ush p0 1) &&& 1431655765)) &&& 858993459) + ((ush (p0 - ((ush p0 1) &&& 1431655765)) 2) &&& 858993459)) 4)) &&& 252645135))] dJ6_bitCount_0f7a4_33 rfl (by decide) rfl ?_
  refine a_iload_n C 0 dJ6_bitCount_0f7a4_34 rfl rfl ?_
  refine a_iload_n C 0 dJ6_bitCount_0f7a4_35 rfl rfl ?_
  refine a_bipush C (v := 8) dJ6_bitCount_0f7a4_36 (by decide) ?_
  refine a_iushr C dJ6_bitCount_0f7a4_38 ?_
  refine a_iadd C dJ6_bitCount_0f7a4_39 ?_
  refine a_istore_n C [(0, .int ((((((p0 - ((ush p0 1) &&& 1431655765)) &&& 858993459) + ((ush (p0 - ((ush p0 1) &&& 1431655765)) 2) &&& 858993459)) + (ush (((p0 - ((ush p0 1) &&& 1431655765)) &&& 858993459) + ((ush (p0 - ((ush p0 1) &&& 1431655765)) 2) &&& 858993459)) 4)) &&& 252645135) + (ush (((((p0 - ((ush p0 1) &&& 1431655765)) &&& 858993459) + ((ush (p0 - ((ush p0 1) &&& 1431655765)) 2) &&& 858993459)) + (ush (((p0 - ((ush p0 1) &&& 1431655765)) &&& 858993459) + ((ush (p0 - ((ush p0 1) &&& 1431655765)) 2) &&& 858993459)) 4)) &&& 252645135) 8)))] dJ6_bitCount_0f7a4_40 rfl (by decide) rfl ?_
  refine a_iload_n C 0 dJ6_bitCount_0f7a4_41 rfl rfl ?_
  refine a_iload_n C 0 dJ6_bitCount_0f7a4_42 rfl rfl ?_
  refine a_bipush C (v := 16) dJ6_bitCount_0f7a4_43 (by decide) ?_
  refine a_iushr C dJ6_bitCount_0f7a4_45 ?_
  refine a_iadd C dJ6_bitCount_0f7a4_46 ?_
  refine a_istore_n C [(0, .int (((((((p0 - ((ush p0 1) &&& 1431655765)) &&& 858993459) + ((ush (p0 - ((ush p0 1) &&& 1431655765)) 2) &&& 858993459)) + (ush (((p0 - ((ush p0 1) &&& 1431655765)) &&& 858993459) + ((ush (p0 - ((ush p0 1) &&& 1431655765)) 2) &&& 858993459)) 4)) &&& 252645135) + (ush (((((p0 - ((ush p0 1) &&& 1431655765)) &&& 858993459) + ((ush (p0 - ((ush p0 1) &&& 1431655765)) 2) &&& 858993459)) + (ush (((p0 - ((ush p0 1) &&& 1431655765)) &&& 858993459) + ((ush (p0 - ((ush p0 1) &&& 1431655765)) 2) &&& 858993459)) 4)) &&& 252645135) 8)) + (ush ((((((p0 - ((ush p0 1) &&& 1431655765)) &&& 858993459) + ((ush (p0 - ((ush p0 1) &&& 1431655765)) 2) &&& 858993459)) + (ush (((p0 - ((ush p0 1) &&& 1431655765)) &&& 858993459) + ((ush (p0 - ((ush p0 1) &&& 1431655765)) 2) &&& 858993459)) 4)) &&& 252645135) + (ush (((((p0 - ((ush p0 1) &&& 1431655765)) &&& 858993459) + ((ush (p0 - ((ush p0 1) &&& 1431655765)) 2) &&& 858993459)) + (ush (((p0 - ((ush p0 1) &&& 1431655765)) &&& 858993459) + ((ush (p0 - ((ush p0 1) &&& 1431655765)) 2) &&& 858993459)) 4)) &&& 252645135) 8)) 16)))] dJ6_bitCount_0f7a4_47 rfl (by decide) rfl ?_
  refine a_iload_n C 0 dJ6_bitCount_0f7a4_48 rfl rfl ?_
  refine a_bipush C (v := 63) dJ6_bitCount_0f7a4_49 (by decide) ?_
  refine a_iand C dJ6_bitCount_0f7a4_51 ?_
  exact a_iret C hr rfl dJ6_bitCount_0f7a4_52 hF rfl rfl
def f_X2_commandCount (t_count : Int32) : Option Int32 := some t_count
theorem hd_X2_commandCount : yX2_commandCount.cls = RX2 ∧ yX2_commandCount.cls ≠ "java/lang/invoke/MethodHandle" ∧ yX2_commandCount.cls ≠ "java/lang/invoke/VarHandle" ∧ (parseMethodDescriptor yX2_commandCount.desc).map (fun d => d.parameters.length) = some 0 := by decide +kernel
set_option maxRecDepth 100000 in
set_option maxHeartbeats 4000000 in
theorem c_X2_commandCount (l : Launch) (D : va_G) (J : (Nat → Nat) × (Nat → Nat)) (kc ki kb kl kd : ClassId) (t : Nat) (t_starts : Nat) (t_startsF : Nat → Int32) (t_count : Int32) (t_shape : Nat) (t_step : Int32) (res : Int32) (hF : f_X2_commandCount t_count = some res) : aKi l yX2_commandCount (aW yX2_commandCount cX2_commandCount 1 ((some .int))) ({ frames := 0, cells := 0, slots := 0, locals := 0 } : Room) D J (aTy kc ki kb kl kd) [.ref t] (wX2 J ki t t_starts t_startsF t_count t_shape t_step) (fun r => r) (fun _ => wX2 J ki t t_starts t_startsF t_count t_shape t_step) res := by
  refine aKi_of (own := RX2) (by decide) rfl (Nat.le_of_ble_eq_true rfl) rfl ?_
  intro p e s m args below meth c C hr
  unfold f_X2_commandCount at hF
  refine a_aload_n C 0 dX2_commandCount_0 rfl rfl ?_
  refine a_get C 0 1 iwX2 rfl rfl (by decide) kf_X2_15 rfl dX2_commandCount_1 ?_
  exact a_iret C hr rfl dX2_commandCount_4 hF rfl rfl
def f_X2_startCommand_J29 (q_t_startsF : Nat → Int32) (q_t_count : Int32) : Option ((Nat → Int32) × Int32 × Nat × Int32) := some (q_t_startsF, q_t_count, 0, 0)
def f_X2_startCommand (t_startsF : Nat → Int32) (t_count : Int32) (p1 : Int32) : Option ((Nat → Int32) × Int32 × Nat × Int32) := if 60 ≤ t_count then (f_X2_startCommand_J29 t_startsF t_count) else ((sti t_startsF 60 t_count p1).bind fun g18_2 => f_X2_startCommand_J29 g18_2 (t_count + 1))
theorem hd_X2_startCommand : yX2_startCommand.cls = RX2 ∧ yX2_startCommand.cls ≠ "java/lang/invoke/MethodHandle" ∧ yX2_startCommand.cls ≠ "java/lang/invoke/VarHandle" ∧ (parseMethodDescriptor yX2_startCommand.desc).map (fun d => d.parameters.length) = some 1 := by decide +kernel
set_option maxRecDepth 100000 in
set_option maxHeartbeats 4000000 in
theorem c_X2_startCommand (l : Launch) (D : va_G) (J : (Nat → Nat) × (Nat → Nat)) (kc ki kb kl kd : ClassId) (t : Nat) (t_starts : Nat) (t_startsF : Nat → Int32) (t_count : Int32) (t_shape : Nat) (t_step : Int32) (p1 : Int32) (res : (Nat → Int32) × Int32 × Nat × Int32) (hF : f_X2_startCommand t_startsF t_count p1 = some res) : aKv l yX2_startCommand (aW yX2_startCommand cX2_startCommand 2 none) ({ frames := 0, cells := 0, slots := 0, locals := 0 } : Room) D J (aTy kc ki kb kl kd) [.ref t, .int p1] (wX2 J ki t t_starts t_startsF t_count t_shape t_step) (fun r => wX2 J ki t t_starts r.1 r.2.1 r.2.2.1 r.2.2.2) res := by
  refine aKv_of (own := RX2) (by decide) rfl (Nat.le_of_ble_eq_true rfl) rfl ?_
  intro p e s m args below meth c C hr
  have hJ29 : ∀ (q_t_startsF : Nat → Int32) (q_t_count : Int32) (q_t_shape : Nat) (q_t_step : Int32), f_X2_startCommand_J29 q_t_startsF q_t_count = some res → aT p l e ({ frames := 0, cells := 0, slots := 0, locals := 0 } : Room) s m args below meth c (MQ below (aQv D (wX2 J ki t t_starts t_startsF t_count t_shape t_step) s.heap.size (fun r => wX2 J ki t t_starts r.1 r.2.1 r.2.2.1 r.2.2.2) res) args s 0 0 (va_A (wX2 J ki t t_starts t_startsF t_count t_shape t_step) s.heap.size)) D (va_A (wX2 J ki t t_starts t_startsF t_count t_shape t_step) s.heap.size) 2 0 0 29 [(0, .ref t)] [] (wX2 J ki t t_starts q_t_startsF q_t_count q_t_shape q_t_step) := by
    intro q_t_startsF q_t_count q_t_shape q_t_step hF
    unfold f_X2_startCommand_J29 at hF
    refine a_aload_n C 0 dX2_startCommand_29 rfl rfl ?_
    refine a_ldcS C (i := 0) rfl dX2_startCommand_30 ?_
    refine a_put C 0 2 iwX2 tyX2_ok nmX2 rfl rfl (by decide) kf_X2_21 rfl rfl rfl (Nat.le_of_ble_eq_true rfl) dX2_startCommand_32 ?_
    refine a_ws C (ws' := wX2 J ki t t_starts q_t_startsF q_t_count 0 q_t_step) rfl ?_
    refine a_aload_n C 0 dX2_startCommand_35 rfl rfl ?_
    refine a_iconst C (v := 0) dX2_startCommand_36 (by decide) ?_
    refine a_put C 0 3 iwX2 tyX2_ok nmX2 rfl rfl (by decide) kf_X2_25 rfl rfl rfl (Nat.le_of_ble_eq_true rfl) dX2_startCommand_37 ?_
    refine a_ws C (ws' := wX2 J ki t t_starts q_t_startsF q_t_count 0 0) rfl ?_
    exact a_vret C hr dX2_startCommand_40 hF rfl
  unfold f_X2_startCommand at hF
  refine a_aload_n C 0 dX2_startCommand_0 rfl rfl ?_
  refine a_get C 0 1 iwX2 rfl rfl (by decide) kf_X2_15 rfl dX2_startCommand_1 ?_
  refine a_bipush C (v := 60) dX2_startCommand_4 (by decide) ?_
  refine a_ic_ge C (tgt := 29) dX2_startCommand_6 (by decide) hF (fun c6_1 hF => ?_) (fun c6_1 hF => ?_)
  · refine a_sub C [0] [(0, .ref t)] rfl ?_
    exact hJ29 t_startsF t_count t_shape t_step hF
  refine a_aload_n C 0 dX2_startCommand_9 rfl rfl ?_
  refine a_get C 0 0 iwX2 rfl rfl (by decide) kf_X2_9 rfl dX2_startCommand_10 ?_
  refine a_aload_n C 0 dX2_startCommand_13 rfl rfl ?_
  refine a_get C 0 1 iwX2 rfl rfl (by decide) kf_X2_15 rfl dX2_startCommand_14 ?_
  refine a_iload_n C 1 dX2_startCommand_17 rfl rfl ?_
  refine a_iast C 1 1 rfl rfl dX2_startCommand_18 hF (fun g18_2 eg18_2 hF => ?_)
  refine a_ws C (ws' := wX2 J ki t t_starts g18_2 t_count t_shape t_step) rfl ?_
  refine a_aload_n C 0 dX2_startCommand_19 rfl rfl ?_
  refine a_dup C dX2_startCommand_20 rfl ?_
  refine a_get C 0 1 iwX2 rfl rfl (by decide) kf_X2_15 rfl dX2_startCommand_21 ?_
  refine a_iconst C (v := 1) dX2_startCommand_24 (by decide) ?_
  refine a_iadd C dX2_startCommand_25 ?_
  refine a_put C 0 1 iwX2 tyX2_ok nmX2 rfl rfl (by decide) kf_X2_15 rfl rfl rfl (Nat.le_of_ble_eq_true rfl) dX2_startCommand_26 ?_
  refine a_ws C (ws' := wX2 J ki t t_starts g18_2 (t_count + 1) t_shape t_step) rfl ?_
  refine a_sub C [0] [(0, .ref t)] rfl ?_
  exact hJ29 g18_2 (t_count + 1) t_shape t_step hF
def f_X2_isWhole (t_shape : Nat) (t_step : Int32) : Option Int32 := if t_step ≤ 0 then (some 0) else ((slen t_shape).bind fun v15_2 => if v15_2 ≤ t_step then (some 1) else ((schr t_shape t_step).bind fun v29_4 => if ¬ v29_4 = 109 then (some 0) else (some 1)))
theorem hd_X2_isWhole : yX2_isWhole.cls = RX2 ∧ yX2_isWhole.cls ≠ "java/lang/invoke/MethodHandle" ∧ yX2_isWhole.cls ≠ "java/lang/invoke/VarHandle" ∧ (parseMethodDescriptor yX2_isWhole.desc).map (fun d => d.parameters.length) = some 0 := by decide +kernel
set_option maxRecDepth 100000 in
set_option maxHeartbeats 4000000 in
theorem c_X2_isWhole (l : Launch) (D : va_G) (J : (Nat → Nat) × (Nat → Nat)) (kc ki kb kl kd : ClassId) (t : Nat) (t_starts : Nat) (t_startsF : Nat → Int32) (t_count : Int32) (t_shape : Nat) (t_step : Int32) (res : Int32) (hF : f_X2_isWhole t_shape t_step = some res) : aKi l yX2_isWhole (aW yX2_isWhole cX2_isWhole 1 ((some .boolean))) ({ frames := 4, cells := 0, slots := 0, locals := 120 } : Room) D J (aTy kc ki kb kl kd) [.ref t] (wX2 J ki t t_starts t_startsF t_count t_shape t_step) (fun r => r) (fun _ => wX2 J ki t t_starts t_startsF t_count t_shape t_step) res := by
  refine aKi_of (own := RX2) (by decide) rfl (Nat.le_of_ble_eq_true rfl) rfl ?_
  intro p e s m args below meth c C hr
  unfold f_X2_isWhole at hF
  refine a_aload_n C 0 dX2_isWhole_0 rfl rfl ?_
  refine a_get C 0 3 iwX2 rfl rfl (by decide) kf_X2_25 rfl dX2_isWhole_1 ?_
  refine a_if_le C (tgt := 41) dX2_isWhole_4 (by decide) hF (fun c4_1 hF => ?_) (fun c4_1 hF => ?_)
  · refine a_iconst C (v := 0) dX2_isWhole_41 (by decide) ?_
    exact a_iret C hr rfl dX2_isWhole_42 hF rfl rfl
  refine a_aload_n C 0 dX2_isWhole_7 rfl rfl ?_
  refine a_get C 0 3 iwX2 rfl rfl (by decide) kf_X2_25 rfl dX2_isWhole_8 ?_
  refine a_aload_n C 0 dX2_isWhole_11 rfl rfl ?_
  refine a_get C 0 2 iwX2 rfl rfl (by decide) kf_X2_21 rfl dX2_isWhole_12 ?_
  refine a_slen C dX2_isWhole_15 kl_X2_59 ⟨Nat.le_of_ble_eq_true rfl, Nat.le_of_ble_eq_true rfl⟩ (Nat.le_of_ble_eq_true rfl) ⟨Nat.zero_le _, Nat.zero_le _⟩ hF (fun v15_2 ev15_2 hF => ?_)
  refine a_ic_ge C (tgt := 37) dX2_isWhole_18 (by decide) hF (fun c18_3 hF => ?_) (fun c18_3 hF => ?_)
  · refine a_iconst C (v := 1) dX2_isWhole_37 (by decide) ?_
    refine a_goto C (tgt := 42) dX2_isWhole_38 (by decide) ?_
    exact a_iret C hr rfl dX2_isWhole_42 hF rfl rfl
  refine a_aload_n C 0 dX2_isWhole_21 rfl rfl ?_
  refine a_get C 0 2 iwX2 rfl rfl (by decide) kf_X2_21 rfl dX2_isWhole_22 ?_
  refine a_aload_n C 0 dX2_isWhole_25 rfl rfl ?_
  refine a_get C 0 3 iwX2 rfl rfl (by decide) kf_X2_25 rfl dX2_isWhole_26 ?_
  refine a_schr C dX2_isWhole_29 kl_X2_60 ⟨Nat.le_of_ble_eq_true rfl, Nat.le_of_ble_eq_true rfl⟩ (Nat.le_of_ble_eq_true rfl) ⟨Nat.zero_le _, Nat.zero_le _⟩ hF (fun v29_4 ev29_4 hF => ?_)
  refine a_bipush C (v := 109) dX2_isWhole_32 (by decide) ?_
  refine a_ic_ne C (tgt := 41) dX2_isWhole_34 (by decide) hF (fun c34_5 hF => ?_) (fun c34_5 hF => ?_)
  · refine a_iconst C (v := 0) dX2_isWhole_41 (by decide) ?_
    exact a_iret C hr rfl dX2_isWhole_42 hF rfl rfl
  refine a_iconst C (v := 1) dX2_isWhole_37 (by decide) ?_
  refine a_goto C (tgt := 42) dX2_isWhole_38 (by decide) ?_
  exact a_iret C hr rfl dX2_isWhole_42 hF rfl rfl
def f_X2_shapeOf (p0 : Int32) : Option Nat := if p0 = 43 then (some 1) else (if p0 = 45 then (some 2) else (if p0 = 61 then (some 4) else (if p0 = 106 then (some 3) else (if p0 = 116 then (some 2) else (if p0 = 120 then (some 3) else (some 0))))))
theorem hd_X2_shapeOf : yX2_shapeOf.cls ≠ "java/lang/invoke/MethodHandle" ∧ yX2_shapeOf.cls ≠ "java/lang/invoke/VarHandle" ∧ (parseMethodDescriptor yX2_shapeOf.desc).map (fun d => d.parameters.length) = some 1 := by decide +kernel
set_option maxRecDepth 100000 in
set_option maxHeartbeats 4000000 in
theorem c_X2_shapeOf (l : Launch) (D : va_G) (J : (Nat → Nat) × (Nat → Nat)) (kc ki kb kl kd : ClassId) (p0 : Int32) (res : Nat) (hF : f_X2_shapeOf p0 = some res) : aKs l yX2_shapeOf (aW yX2_shapeOf cX2_shapeOf 1 ((some (.object "java/lang/String")))) ({ frames := 0, cells := 0, slots := 0, locals := 0 } : Room) D J (aTy kc ki kb kl kd) [.int p0] ([]) (fun r => r) (fun _ => []) res := by
  refine aKs_of (own := RX2) (by decide) rfl (Nat.le_of_ble_eq_true rfl) rfl ?_
  intro p e s m args below meth c C hr
  unfold f_X2_shapeOf at hF
  refine a_iload_n C 0 dX2_shapeOf_0 rfl rfl ?_
  refine a_lkcase C (tgt := 60) (v := 43) dX2_shapeOf_1 (by decide) rfl (by decide) hF (fun c1_1 hF => ?_) (fun c1_1 hF => ?_)
  · refine a_ldcS C (i := 1) rfl dX2_shapeOf_60 ?_
    exact a_aret C hr dX2_shapeOf_62 hF rfl rfl
  refine a_lkcase C (tgt := 63) (v := 45) dX2_shapeOf_1 (by decide) rfl (by decide) hF (fun c1_2 hF => ?_) (fun c1_2 hF => ?_)
  · refine a_ldcS C (i := 2) rfl dX2_shapeOf_63 ?_
    exact a_aret C hr dX2_shapeOf_65 hF rfl rfl
  refine a_lkcase C (tgt := 69) (v := 61) dX2_shapeOf_1 (by decide) rfl (by decide) hF (fun c1_3 hF => ?_) (fun c1_3 hF => ?_)
  · refine a_ldcS C (i := 4) rfl dX2_shapeOf_69 ?_
    exact a_aret C hr dX2_shapeOf_71 hF rfl rfl
  refine a_lkcase C (tgt := 66) (v := 106) dX2_shapeOf_1 (by decide) rfl (by decide) hF (fun c1_4 hF => ?_) (fun c1_4 hF => ?_)
  · refine a_ldcS C (i := 3) rfl dX2_shapeOf_66 ?_
    exact a_aret C hr dX2_shapeOf_68 hF rfl rfl
  refine a_lkcase C (tgt := 63) (v := 116) dX2_shapeOf_1 (by decide) rfl (by decide) hF (fun c1_5 hF => ?_) (fun c1_5 hF => ?_)
  · refine a_ldcS C (i := 2) rfl dX2_shapeOf_63 ?_
    exact a_aret C hr dX2_shapeOf_65 hF rfl rfl
  refine a_lkcase C (tgt := 66) (v := 120) dX2_shapeOf_1 (by decide) rfl (by decide) hF (fun c1_6 hF => ?_) (fun c1_6 hF => ?_)
  · refine a_ldcS C (i := 3) rfl dX2_shapeOf_66 ?_
    exact a_aret C hr dX2_shapeOf_68 hF rfl rfl
  refine a_lkdef C (tgt := 72) (off := 71) dX2_shapeOf_1 (by decide) ((lv_osw (a := 43) c1_1 (by decide)).trans ((lv_osw (a := 45) c1_2 (by decide)).trans ((lv_osw (a := 61) c1_3 (by decide)).trans ((lv_osw (a := 106) c1_4 (by decide)).trans ((lv_osw (a := 116) c1_5 (by decide)).trans ((lv_osw (a := 120) c1_6 (by decide)).trans (rfl))))))) (by decide) ?_
  refine a_ldcS C (i := 0) rfl dX2_shapeOf_72 ?_
  exact a_aret C hr dX2_shapeOf_74 hF rfl rfl
def f_X2_fits (p0 : Int32) (p1 : Int32) : Option Int32 := if ¬ p1 = 100 then ((f_X8_isSmallLetter p0).bind fun r27_2 => (rz r27_2).bind fun _ => some r27_2) else (if p0 < 48 then (some 0) else (if 57 < p0 then (some 0) else (some 1)))
theorem hd_X2_fits : yX2_fits.cls ≠ "java/lang/invoke/MethodHandle" ∧ yX2_fits.cls ≠ "java/lang/invoke/VarHandle" ∧ (parseMethodDescriptor yX2_fits.desc).map (fun d => d.parameters.length) = some 2 := by decide +kernel
set_option maxRecDepth 100000 in
set_option maxHeartbeats 4000000 in
theorem c_X2_fits (l : Launch) (D : va_G) (J : (Nat → Nat) × (Nat → Nat)) (kc ki kb kl kd : ClassId) (p0 p1 : Int32) (res : Int32) (hF : f_X2_fits p0 p1 = some res) : aKi l yX2_fits (aW yX2_fits cX2_fits 2 ((some .boolean))) ({ frames := 1, cells := 0, slots := 0, locals := 20 } : Room) D J (aTy kc ki kb kl kd) [.int p0, .int p1] ([]) (fun r => r) (fun _ => []) res := by
  refine aKi_of (own := RX2) (by decide) rfl (Nat.le_of_ble_eq_true rfl) rfl ?_
  intro p e s m args below meth c C hr
  unfold f_X2_fits at hF
  refine a_iload_n C 1 dX2_fits_0 rfl rfl ?_
  refine a_bipush C (v := 100) dX2_fits_1 (by decide) ?_
  refine a_ic_ne C (tgt := 26) dX2_fits_3 (by decide) hF (fun c3_1 hF => ?_) (fun c3_1 hF => ?_)
  · refine a_iload_n C 0 dX2_fits_26 rfl rfl ?_
    refine a_callN C 1 (good_c _ _ _ _ kc_X8_isSmallLetter) ks_X8_isSmallLetter kn_X8 C.2.1.2.2.1 hd_X8_isSmallLetter ⟨rfl, rfl⟩ ⟨Nat.le_of_ble_eq_true rfl, Nat.le_of_ble_eq_true rfl⟩ (fun r h => c_X8_isSmallLetter l D J kc ki kb kl kd p0 r h) rfl rfl (Nat.le_of_ble_eq_true rfl) dX2_fits_27 ⟨Nat.zero_le _, Nat.zero_le _⟩ hF (fun r27_2 er27_2 hF => ?_)
    refine a_rz hF (fun n30_3 hF => ?_)
    exact a_iret C hr n30_3 dX2_fits_30 hF rfl rfl
  refine a_iload_n C 0 dX2_fits_6 rfl rfl ?_
  refine a_bipush C (v := 48) dX2_fits_7 (by decide) ?_
  refine a_ic_lt C (tgt := 22) dX2_fits_9 (by decide) hF (fun c9_4 hF => ?_) (fun c9_4 hF => ?_)
  · refine a_iconst C (v := 0) dX2_fits_22 (by decide) ?_
    refine a_goto C (tgt := 30) dX2_fits_23 (by decide) ?_
    exact a_iret C hr rfl dX2_fits_30 hF rfl rfl
  refine a_iload_n C 0 dX2_fits_12 rfl rfl ?_
  refine a_bipush C (v := 57) dX2_fits_13 (by decide) ?_
  refine a_ic_gt C (tgt := 22) dX2_fits_15 (by decide) hF (fun c15_5 hF => ?_) (fun c15_5 hF => ?_)
  · refine a_iconst C (v := 0) dX2_fits_22 (by decide) ?_
    refine a_goto C (tgt := 30) dX2_fits_23 (by decide) ?_
    exact a_iret C hr rfl dX2_fits_30 hF rfl rfl
  refine a_iconst C (v := 1) dX2_fits_18 (by decide) ?_
  refine a_goto C (tgt := 30) dX2_fits_19 (by decide) ?_
  exact a_iret C hr rfl dX2_fits_30 hF rfl rfl
theorem cs_X2_63 : GoodIn WW (va_wsS RX2 63 yX2_fits (aW yX2_fits cX2_fits 2 ((some .boolean)))) := gdS kl_X2_63 ks_X2_fits kn_X2 kc_X2_fits
theorem cs_X2_50 : GoodIn WW (va_wsS RX2 50 yX2_shapeOf (aW yX2_shapeOf cX2_shapeOf 1 ((some (.object "java/lang/String"))))) := gdS kl_X2_50 ks_X2_shapeOf kn_X2 kc_X2_shapeOf
theorem cs_X2_46 : GoodIn WW (wsV RX2 46 RX2 yX2_isWhole (aW yX2_isWhole cX2_isWhole 1 ((some .boolean)))) := gdV kl_X2_46 ki_X2_isWhole kv_X2_isWhole kn_X2 kc_X2_isWhole
theorem cs_X2_28 : GoodIn WW (wsV RX2 28 RX2 yX2_startCommand (aW yX2_startCommand cX2_startCommand 2 none)) := gdV kl_X2_28 ki_X2_startCommand kv_X2_startCommand kn_X2 kc_X2_startCommand
def f_X2_takes_J22 (q_t_startsF : Nat → Int32) (q_t_count : Int32) (q_t_shape : Nat) (q_t_step : Int32) (p1 : Int32) : Option (Int32 × (Nat → Int32) × Int32 × Nat × Int32) := if ¬ (q_t_step + 1) = 1 then ((slen q_t_shape).bind fun v72_3 => if v72_3 < (q_t_step + 1) then (some (0, q_t_startsF, q_t_count, q_t_shape, q_t_step + 1)) else ((schr q_t_shape ((q_t_step + 1) - 1)).bind fun v89_5 => (f_X2_fits p1 v89_5).bind fun r92_6 => if r92_6 = 0 then (some (0, q_t_startsF, q_t_count, q_t_shape, q_t_step + 1)) else (some (1, q_t_startsF, q_t_count, q_t_shape, q_t_step + 1)))) else ((f_X2_shapeOf p1).bind fun r42_8 => (semp r42_8).bind fun v52_9 => if ¬ v52_9 = 0 then (some (0, q_t_startsF, q_t_count, r42_8, q_t_step + 1)) else (some (1, q_t_startsF, q_t_count, r42_8, q_t_step + 1)))
def f_X2_takes (t_startsF : Nat → Int32) (t_count : Int32) (t_shape : Nat) (t_step : Int32) (p1 : Int32) (p2 : Int32) : Option (Int32 × (Nat → Int32) × Int32 × Nat × Int32) := if ¬ p1 = 59 then (f_X2_takes_J22 t_startsF t_count t_shape t_step p1) else ((f_X2_isWhole t_shape t_step).bind fun r7_11 => if r7_11 = 0 then (f_X2_takes_J22 t_startsF t_count t_shape t_step p1) else ((f_X2_startCommand t_startsF t_count (p2 + 1)).bind fun r17_13 => some (1, r17_13.1, r17_13.2.1, r17_13.2.2.1, r17_13.2.2.2)))
theorem hd_X2_takes : yX2_takes.cls = RX2 ∧ yX2_takes.cls ≠ "java/lang/invoke/MethodHandle" ∧ yX2_takes.cls ≠ "java/lang/invoke/VarHandle" ∧ (parseMethodDescriptor yX2_takes.desc).map (fun d => d.parameters.length) = some 2 := by decide +kernel
set_option maxRecDepth 100000 in
set_option maxHeartbeats 4000000 in
theorem c_X2_takes (l : Launch) (D : va_G) (J : (Nat → Nat) × (Nat → Nat)) (kc ki kb kl kd : ClassId) (t : Nat) (t_starts : Nat) (t_startsF : Nat → Int32) (t_count : Int32) (t_shape : Nat) (t_step : Int32) (p1 p2 : Int32) (res : Int32 × (Nat → Int32) × Int32 × Nat × Int32) (hF : f_X2_takes t_startsF t_count t_shape t_step p1 p2 = some res) : aKi l yX2_takes (aW yX2_takes cX2_takes 3 ((some .boolean))) ({ frames := 5, cells := 0, slots := 0, locals := 140 } : Room) D J (aTy kc ki kb kl kd) [.ref t, .int p1, .int p2] (wX2 J ki t t_starts t_startsF t_count t_shape t_step) (fun r => r.1) (fun r => wX2 J ki t t_starts r.2.1 r.2.2.1 r.2.2.2.1 r.2.2.2.2) res := by
  refine aKi_of (own := RX2) (by decide) rfl (Nat.le_of_ble_eq_true rfl) rfl ?_
  intro p e s m args below meth c C hr
  have hJ22 : ∀ (q_t_startsF : Nat → Int32) (q_t_count : Int32) (q_t_shape : Nat) (q_t_step : Int32), f_X2_takes_J22 q_t_startsF q_t_count q_t_shape q_t_step p1 = some res → aT p l e ({ frames := 5, cells := 0, slots := 0, locals := 140 } : Room) s m args below meth c (MQ below (aQi D (wX2 J ki t t_starts t_startsF t_count t_shape t_step) s.heap.size (fun r => r.1) (fun r => wX2 J ki t t_starts r.2.1 r.2.2.1 r.2.2.2.1 r.2.2.2.2) res) args s 0 0 (va_A (wX2 J ki t t_starts t_startsF t_count t_shape t_step) s.heap.size)) D (va_A (wX2 J ki t t_starts t_startsF t_count t_shape t_step) s.heap.size) 3 0 0 22 [(0, .ref t), (1, .int p1)] [] (wX2 J ki t t_starts q_t_startsF q_t_count q_t_shape q_t_step) := by
    intro q_t_startsF q_t_count q_t_shape q_t_step hF
    unfold f_X2_takes_J22 at hF
    refine a_aload_n C 0 dX2_takes_22 rfl rfl ?_
    refine a_dup C dX2_takes_23 rfl ?_
    refine a_get C 0 3 iwX2 rfl rfl (by decide) kf_X2_25 rfl dX2_takes_24 ?_
    refine a_iconst C (v := 1) dX2_takes_27 (by decide) ?_
    refine a_iadd C dX2_takes_28 ?_
    refine a_put C 0 3 iwX2 tyX2_ok nmX2 rfl rfl (by decide) kf_X2_25 rfl rfl rfl (Nat.le_of_ble_eq_true rfl) dX2_takes_29 ?_
    refine a_ws C (ws' := wX2 J ki t t_starts q_t_startsF q_t_count q_t_shape (q_t_step + 1)) rfl ?_
    refine a_aload_n C 0 dX2_takes_32 rfl rfl ?_
    refine a_get C 0 3 iwX2 rfl rfl (by decide) kf_X2_25 rfl dX2_takes_33 ?_
    refine a_iconst C (v := 1) dX2_takes_36 (by decide) ?_
    refine a_ic_ne C (tgt := 64) dX2_takes_37 (by decide) hF (fun c37_2 hF => ?_) (fun c37_2 hF => ?_)
    · refine a_aload_n C 0 dX2_takes_64 rfl rfl ?_
      refine a_get C 0 3 iwX2 rfl rfl (by decide) kf_X2_25 rfl dX2_takes_65 ?_
      refine a_aload_n C 0 dX2_takes_68 rfl rfl ?_
      refine a_get C 0 2 iwX2 rfl rfl (by decide) kf_X2_21 rfl dX2_takes_69 ?_
      refine a_slen C dX2_takes_72 kl_X2_59 ⟨Nat.le_of_ble_eq_true rfl, Nat.le_of_ble_eq_true rfl⟩ (Nat.le_of_ble_eq_true rfl) ⟨Nat.zero_le _, Nat.zero_le _⟩ hF (fun v72_3 ev72_3 hF => ?_)
      refine a_ic_gt C (tgt := 102) dX2_takes_75 (by decide) hF (fun c75_4 hF => ?_) (fun c75_4 hF => ?_)
      · refine a_iconst C (v := 0) dX2_takes_102 (by decide) ?_
        exact a_iret C hr rfl dX2_takes_103 hF rfl rfl
      refine a_iload_n C 1 dX2_takes_78 rfl rfl ?_
      refine a_aload_n C 0 dX2_takes_79 rfl rfl ?_
      refine a_get C 0 2 iwX2 rfl rfl (by decide) kf_X2_21 rfl dX2_takes_80 ?_
      refine a_aload_n C 0 dX2_takes_83 rfl rfl ?_
      refine a_get C 0 3 iwX2 rfl rfl (by decide) kf_X2_25 rfl dX2_takes_84 ?_
      refine a_iconst C (v := 1) dX2_takes_87 (by decide) ?_
      refine a_isub C dX2_takes_88 ?_
      refine a_schr C dX2_takes_89 kl_X2_60 ⟨Nat.le_of_ble_eq_true rfl, Nat.le_of_ble_eq_true rfl⟩ (Nat.le_of_ble_eq_true rfl) ⟨Nat.zero_le _, Nat.zero_le _⟩ hF (fun v89_5 ev89_5 hF => ?_)
      refine a_callSir C 2 [] cs_X2_63 hd_X2_fits ⟨rfl, rfl⟩ ⟨Nat.le_of_ble_eq_true rfl, Nat.le_of_ble_eq_true rfl⟩ (fun r h => c_X2_fits l D J kc ki kb kl kd p1 v89_5 r h) rfl rfl rfl rfl (Nat.le_of_ble_eq_true rfl) dX2_takes_92 ⟨Nat.zero_le _, Nat.zero_le _⟩ hF (fun r92_6 er92_6 hF => ?_)
      refine a_if_eq C (tgt := 102) dX2_takes_95 (by decide) hF (fun c95_7 hF => ?_) (fun c95_7 hF => ?_)
      · refine a_iconst C (v := 0) dX2_takes_102 (by decide) ?_
        exact a_iret C hr rfl dX2_takes_103 hF rfl rfl
      refine a_iconst C (v := 1) dX2_takes_98 (by decide) ?_
      refine a_goto C (tgt := 103) dX2_takes_99 (by decide) ?_
      exact a_iret C hr rfl dX2_takes_103 hF rfl rfl
    refine a_aload_n C 0 dX2_takes_40 rfl rfl ?_
    refine a_iload_n C 1 dX2_takes_41 rfl rfl ?_
    refine a_callSsr C 1 [] cs_X2_50 hd_X2_shapeOf ⟨rfl, rfl⟩ ⟨Nat.le_of_ble_eq_true rfl, Nat.le_of_ble_eq_true rfl⟩ (fun r h => c_X2_shapeOf l D J kc ki kb kl kd p1 r h) rfl rfl rfl rfl (Nat.le_of_ble_eq_true rfl) dX2_takes_42 ⟨Nat.zero_le _, Nat.zero_le _⟩ hF (fun r42_8 er42_8 hF => ?_)
    refine a_put C 0 2 iwX2 tyX2_ok nmX2 rfl rfl (by decide) kf_X2_21 rfl rfl rfl (Nat.le_of_ble_eq_true rfl) dX2_takes_45 ?_
    refine a_ws C (ws' := wX2 J ki t t_starts q_t_startsF q_t_count r42_8 (q_t_step + 1)) rfl ?_
    refine a_aload_n C 0 dX2_takes_48 rfl rfl ?_
    refine a_get C 0 2 iwX2 rfl rfl (by decide) kf_X2_21 rfl dX2_takes_49 ?_
    refine a_semp C dX2_takes_52 kl_X2_54 ⟨Nat.le_of_ble_eq_true rfl, Nat.le_of_ble_eq_true rfl⟩ (Nat.le_of_ble_eq_true rfl) ⟨Nat.zero_le _, Nat.zero_le _⟩ hF (fun v52_9 ev52_9 hF => ?_)
    refine a_if_ne C (tgt := 62) dX2_takes_55 (by decide) hF (fun c55_10 hF => ?_) (fun c55_10 hF => ?_)
    · refine a_iconst C (v := 0) dX2_takes_62 (by decide) ?_
      exact a_iret C hr rfl dX2_takes_63 hF rfl rfl
    refine a_iconst C (v := 1) dX2_takes_58 (by decide) ?_
    refine a_goto C (tgt := 63) dX2_takes_59 (by decide) ?_
    exact a_iret C hr rfl dX2_takes_63 hF rfl rfl
  unfold f_X2_takes at hF
  refine a_iload_n C 1 dX2_takes_0 rfl rfl ?_
  refine a_bipush C (v := 59) dX2_takes_1 (by decide) ?_
  refine a_ic_ne C (tgt := 22) dX2_takes_3 (by decide) hF (fun c3_1 hF => ?_) (fun c3_1 hF => ?_)
  · refine a_sub C [0, 1] [(0, .ref t), (1, .int p1)] rfl ?_
    exact hJ22 t_startsF t_count t_shape t_step hF
  refine a_aload_n C 0 dX2_takes_6 rfl rfl ?_
  refine a_callVir C 0 [0, 1] 0 cs_X2_46 hd_X2_isWhole ⟨rfl, rfl⟩ ⟨Nat.le_of_ble_eq_true rfl, Nat.le_of_ble_eq_true rfl⟩ (fun r h => c_X2_isWhole l D J kc ki kb kl kd t t_starts t_startsF t_count t_shape t_step r h) rfl rfl rfl rfl rfl rfl (Nat.le_of_ble_eq_true rfl) dX2_takes_7 ⟨Nat.zero_le _, Nat.zero_le _⟩ hF (fun r7_11 er7_11 hF => ?_)
  refine a_if_eq C (tgt := 22) dX2_takes_10 (by decide) hF (fun c10_12 hF => ?_) (fun c10_12 hF => ?_)
  · refine a_sub C [0, 1] [(0, .ref t), (1, .int p1)] rfl ?_
    exact hJ22 t_startsF t_count t_shape t_step hF
  refine a_aload_n C 0 dX2_takes_13 rfl rfl ?_
  refine a_iload_n C 2 dX2_takes_14 rfl rfl ?_
  refine a_iconst C (v := 1) dX2_takes_15 (by decide) ?_
  refine a_iadd C dX2_takes_16 ?_
  refine a_callVv C 1 [0, 1] 0 cs_X2_28 hd_X2_startCommand ⟨rfl, rfl⟩ ⟨Nat.le_of_ble_eq_true rfl, Nat.le_of_ble_eq_true rfl⟩ (fun r h => c_X2_startCommand l D J kc ki kb kl kd t t_starts t_startsF t_count t_shape t_step (p2 + 1) r h) rfl rfl rfl (fun _ => rfl) rfl rfl rfl (Nat.le_of_ble_eq_true rfl) dX2_takes_17 ⟨Nat.zero_le _, Nat.zero_le _⟩ hF (fun r17_13 er17_13 hF => ?_)
  refine a_ws C (ws' := wX2 J ki t t_starts r17_13.1 r17_13.2.1 r17_13.2.2.1 r17_13.2.2.2) rfl ?_
  refine a_iconst C (v := 1) dX2_takes_20 (by decide) ?_
  exact a_iret C hr rfl dX2_takes_21 hF rfl rfl
theorem cs_X2_32 : GoodIn WW (wsV RX2 32 RX7 yX7_length (aW yX7_length cX7_length 1 ((some .int)))) := gdV kl_X2_32 ki_X7_length kv_X7_length kn_X7 kc_X7_length
theorem cs_X2_38 : GoodIn WW (wsV RX2 38 RX7 yX7_characterAt (aW yX7_characterAt cX7_characterAt 2 ((some .char)))) := gdV kl_X2_38 ki_X7_characterAt kv_X7_characterAt kn_X7 kc_X7_characterAt
theorem cs_X2_42 : GoodIn WW (wsV RX2 42 RX2 yX2_takes (aW yX2_takes cX2_takes 3 ((some .boolean)))) := gdV kl_X2_42 ki_X2_takes kv_X2_takes kn_X2 kc_X2_takes
def f_X2_read_L12 (o1_charactersF : Nat → Int32) (o1_length : Int32) : Nat → Int32 → (Nat → Int32) → Int32 → Nat → Int32 → (Int32 → (Nat → Int32) → Int32 → Nat → Int32 → Option (Int32 × (Nat → Int32) × Int32 × Nat × Int32)) → Option (Int32 × (Nat → Int32) × Int32 × Nat × Int32)
  | 0, _, _, _, _, _, _ => none
  | fuel + 1, x2, q_t_startsF, q_t_count, q_t_shape, q_t_step, k => (f_X7_length o1_length).bind fun r14_2 => if r14_2 ≤ x2 then (k x2 q_t_startsF q_t_count q_t_shape q_t_step) else ((f_X7_characterAt o1_charactersF o1_length x2).bind fun r23_4 => (f_X2_takes q_t_startsF q_t_count q_t_shape q_t_step r23_4 x2).bind fun r27_5 => if ¬ r27_5.1 = 0 then (f_X2_read_L12 o1_charactersF o1_length fuel (x2 + 1) r27_5.2.1 r27_5.2.2.1 r27_5.2.2.2.1 r27_5.2.2.2.2 k) else (some (x2, r27_5.2.1, r27_5.2.2.1, r27_5.2.2.2.1, r27_5.2.2.2.2)))
def f_X2_read (t_startsF : Nat → Int32) (o1_charactersF : Nat → Int32) (o1_length : Int32) : Option (Int32 × (Nat → Int32) × Int32 × Nat × Int32) := (f_X2_startCommand t_startsF 0 0).bind fun r7_1 => f_X2_read_L12 o1_charactersF o1_length 1000 0 r7_1.1 r7_1.2.1 r7_1.2.2.1 r7_1.2.2.2 (fun x2_12_7 q_t_startsF_12_8 q_t_count_12_9 q_t_shape_12_10 q_t_step_12_11 => (f_X2_isWhole q_t_shape_12_10 q_t_step_12_11).bind fun r42_12 => if r42_12 = 0 then ((f_X7_length o1_length).bind fun r53_14 => some (r53_14, q_t_startsF_12_8, q_t_count_12_9, q_t_shape_12_10, q_t_step_12_11)) else (some ((-1), q_t_startsF_12_8, q_t_count_12_9, q_t_shape_12_10, q_t_step_12_11)))
theorem hd_X2_read : yX2_read.cls = RX2 ∧ yX2_read.cls ≠ "java/lang/invoke/MethodHandle" ∧ yX2_read.cls ≠ "java/lang/invoke/VarHandle" ∧ (parseMethodDescriptor yX2_read.desc).map (fun d => d.parameters.length) = some 1 := by decide +kernel
set_option maxRecDepth 100000 in
set_option maxHeartbeats 4000000 in
theorem c_X2_read (l : Launch) (D : va_G) (J : (Nat → Nat) × (Nat → Nat)) (kc ki kb kl kd : ClassId) (t : Nat) (t_starts : Nat) (o1 : Nat) (o1_characters : Nat) (t_startsF : Nat → Int32) (t_count : Int32) (t_shape : Nat) (t_step : Int32) (o1_charactersF : Nat → Int32) (o1_length : Int32) (res : Int32 × (Nat → Int32) × Int32 × Nat × Int32) (hF : f_X2_read t_startsF o1_charactersF o1_length = some res) : aKi l yX2_read (aW yX2_read cX2_read 3 ((some .int))) ({ frames := 6, cells := 0, slots := 0, locals := 162 } : Room) D J (aTy kc ki kb kl kd) [.ref t, .ref o1] (wX2 J ki t t_starts t_startsF t_count t_shape t_step ++ wX7 kc o1 o1_characters o1_charactersF o1_length) (fun r => r.1) (fun r => wX2 J ki t t_starts r.2.1 r.2.2.1 r.2.2.2.1 r.2.2.2.2 ++ wX7 kc o1 o1_characters o1_charactersF o1_length) res := by
  refine aKi_of (own := RX2) (by decide) rfl (Nat.le_of_ble_eq_true rfl) rfl ?_
  intro p e s m args below meth c C hr
  have hI12 : ∀ (fuel : Nat) (x2 : Int32) (q_t_startsF : Nat → Int32) (q_t_count : Int32) (q_t_shape : Nat) (q_t_step : Int32) (k : Int32 → (Nat → Int32) → Int32 → Nat → Int32 → Option (Int32 × (Nat → Int32) × Int32 × Nat × Int32)), f_X2_read_L12 o1_charactersF o1_length fuel x2 q_t_startsF q_t_count q_t_shape q_t_step k = some res → (∀ (x2 : Int32) (q_t_startsF : Nat → Int32) (q_t_count : Int32) (q_t_shape : Nat) (q_t_step : Int32), k x2 q_t_startsF q_t_count q_t_shape q_t_step = some res → aT p l e ({ frames := 6, cells := 0, slots := 0, locals := 162 } : Room) s m args below meth c (MQ below (aQi D (wX2 J ki t t_starts t_startsF t_count t_shape t_step ++ wX7 kc o1 o1_characters o1_charactersF o1_length) s.heap.size (fun r => r.1) (fun r => wX2 J ki t t_starts r.2.1 r.2.2.1 r.2.2.2.1 r.2.2.2.2 ++ wX7 kc o1 o1_characters o1_charactersF o1_length) res) args s 0 0 (va_A (wX2 J ki t t_starts t_startsF t_count t_shape t_step ++ wX7 kc o1 o1_characters o1_charactersF o1_length) s.heap.size)) D (va_A (wX2 J ki t t_starts t_startsF t_count t_shape t_step ++ wX7 kc o1 o1_characters o1_charactersF o1_length) s.heap.size) 3 0 0 41 [(0, .ref t), (1, .ref o1)] [] (wX2 J ki t t_starts q_t_startsF q_t_count q_t_shape q_t_step ++ wX7 kc o1 o1_characters o1_charactersF o1_length)) → aT p l e ({ frames := 6, cells := 0, slots := 0, locals := 162 } : Room) s m args below meth c (MQ below (aQi D (wX2 J ki t t_starts t_startsF t_count t_shape t_step ++ wX7 kc o1 o1_characters o1_charactersF o1_length) s.heap.size (fun r => r.1) (fun r => wX2 J ki t t_starts r.2.1 r.2.2.1 r.2.2.2.1 r.2.2.2.2 ++ wX7 kc o1 o1_characters o1_charactersF o1_length) res) args s 0 0 (va_A (wX2 J ki t t_starts t_startsF t_count t_shape t_step ++ wX7 kc o1 o1_characters o1_charactersF o1_length) s.heap.size)) D (va_A (wX2 J ki t t_starts t_startsF t_count t_shape t_step ++ wX7 kc o1 o1_characters o1_charactersF o1_length) s.heap.size) 3 0 0 12 [(0, .ref t), (1, .ref o1), (2, .int x2)] [] (wX2 J ki t t_starts q_t_startsF q_t_count q_t_shape q_t_step ++ wX7 kc o1 o1_characters o1_charactersF o1_length) := by
    intro fuel
    induction fuel with
    | zero => intro x2 q_t_startsF q_t_count q_t_shape q_t_step k hF hX; exact nomatch hF
    | succ fuel ih =>
      intro x2 q_t_startsF q_t_count q_t_shape q_t_step k hF hX
      rw [f_X2_read_L12] at hF
      refine a_iload_n C 2 dX2_read_12 rfl rfl ?_
      refine a_aload_n C 1 dX2_read_13 rfl rfl ?_
      refine a_callVir C 0 [2, 3] 2 cs_X2_32 hd_X7_length ⟨rfl, rfl⟩ ⟨Nat.le_of_ble_eq_true rfl, Nat.le_of_ble_eq_true rfl⟩ (fun r h => c_X7_length l D J kc ki kb kl kd o1 o1_characters o1_charactersF o1_length r h) rfl rfl rfl rfl rfl rfl (Nat.le_of_ble_eq_true rfl) dX2_read_14 ⟨Nat.zero_le _, Nat.zero_le _⟩ hF (fun r14_2 er14_2 hF => ?_)
      refine a_ic_ge C (tgt := 41) dX2_read_17 (by decide) hF (fun c17_3 hF => ?_) (fun c17_3 hF => ?_)
      · refine a_sub C [0, 1] [(0, .ref t), (1, .ref o1)] rfl ?_
        exact hX x2 q_t_startsF q_t_count q_t_shape q_t_step hF
      refine a_aload_n C 0 dX2_read_20 rfl rfl ?_
      refine a_aload_n C 1 dX2_read_21 rfl rfl ?_
      refine a_iload_n C 2 dX2_read_22 rfl rfl ?_
      refine a_callVir C 1 [2, 3] 2 cs_X2_38 hd_X7_characterAt ⟨rfl, rfl⟩ ⟨Nat.le_of_ble_eq_true rfl, Nat.le_of_ble_eq_true rfl⟩ (fun r h => c_X7_characterAt l D J kc ki kb kl kd o1 o1_characters o1_charactersF o1_length x2 r h) rfl rfl rfl rfl rfl rfl (Nat.le_of_ble_eq_true rfl) dX2_read_23 ⟨Nat.zero_le _, Nat.zero_le _⟩ hF (fun r23_4 er23_4 hF => ?_)
      refine a_iload_n C 2 dX2_read_26 rfl rfl ?_
      refine a_callVi C 2 [0, 1] 0 cs_X2_42 hd_X2_takes ⟨rfl, rfl⟩ ⟨Nat.le_of_ble_eq_true rfl, Nat.le_of_ble_eq_true rfl⟩ (fun r h => c_X2_takes l D J kc ki kb kl kd t t_starts q_t_startsF q_t_count q_t_shape q_t_step r23_4 x2 r h) rfl rfl rfl (fun _ => rfl) rfl rfl rfl (Nat.le_of_ble_eq_true rfl) dX2_read_27 ⟨Nat.zero_le _, Nat.zero_le _⟩ hF (fun r27_5 er27_5 hF => ?_)
      refine a_ws C (ws' := wX2 J ki t t_starts r27_5.2.1 r27_5.2.2.1 r27_5.2.2.2.1 r27_5.2.2.2.2 ++ wX7 kc o1 o1_characters o1_charactersF o1_length) rfl ?_
      refine a_if_ne C (tgt := 35) dX2_read_30 (by decide) hF (fun c30_6 hF => ?_) (fun c30_6 hF => ?_)
      · refine a_iinc C 2 [(2, .int (x2 + 1)), (0, .ref t), (1, .ref o1)] dX2_read_35 rfl rfl (by decide) rfl ?_
        refine a_goto C (tgt := 12) dX2_read_38 (by decide) ?_
        refine a_sub C [1, 2, 0] [(0, .ref t), (1, .ref o1), (2, .int (x2 + 1))] rfl ?_
        exact ih (x2 + 1) r27_5.2.1 r27_5.2.2.1 r27_5.2.2.2.1 r27_5.2.2.2.2 k hF hX
      refine a_iload_n C 2 dX2_read_33 rfl rfl ?_
      exact a_iret C hr rfl dX2_read_34 hF rfl rfl
  unfold f_X2_read at hF
  refine a_aload_n C 0 dX2_read_0 rfl rfl ?_
  refine a_iconst C (v := 0) dX2_read_1 (by decide) ?_
  refine a_put C 0 1 iwX2 tyX2_ok nmX2 rfl rfl (by decide) kf_X2_15 rfl rfl rfl (Nat.le_of_ble_eq_true rfl) dX2_read_2 ?_
  refine a_ws C (ws' := wX2 J ki t t_starts t_startsF 0 t_shape t_step ++ wX7 kc o1 o1_characters o1_charactersF o1_length) rfl ?_
  refine a_aload_n C 0 dX2_read_5 rfl rfl ?_
  refine a_iconst C (v := 0) dX2_read_6 (by decide) ?_
  refine a_callVv C 1 [0, 1] 0 cs_X2_28 hd_X2_startCommand ⟨rfl, rfl⟩ ⟨Nat.le_of_ble_eq_true rfl, Nat.le_of_ble_eq_true rfl⟩ (fun r h => c_X2_startCommand l D J kc ki kb kl kd t t_starts t_startsF 0 t_shape t_step 0 r h) rfl rfl rfl (fun _ => rfl) rfl rfl rfl (Nat.le_of_ble_eq_true rfl) dX2_read_7 ⟨Nat.zero_le _, Nat.zero_le _⟩ hF (fun r7_1 er7_1 hF => ?_)
  refine a_ws C (ws' := wX2 J ki t t_starts r7_1.1 r7_1.2.1 r7_1.2.2.1 r7_1.2.2.2 ++ wX7 kc o1 o1_characters o1_charactersF o1_length) rfl ?_
  refine a_iconst C (v := 0) dX2_read_10 (by decide) ?_
  refine a_istore_n C [(2, .int 0), (0, .ref t), (1, .ref o1)] dX2_read_11 rfl (by decide) rfl ?_
  refine a_sub C [1, 2, 0] [(0, .ref t), (1, .ref o1), (2, .int 0)] rfl ?_
  refine hI12 1000 0 r7_1.1 r7_1.2.1 r7_1.2.2.1 r7_1.2.2.2 _ hF (fun x2_12_7 q_t_startsF_12_8 q_t_count_12_9 q_t_shape_12_10 q_t_step_12_11 hF => ?_)
  refine a_aload_n C 0 dX2_read_41 rfl rfl ?_
  refine a_callVir C 0 [0, 1] 0 cs_X2_46 hd_X2_isWhole ⟨rfl, rfl⟩ ⟨Nat.le_of_ble_eq_true rfl, Nat.le_of_ble_eq_true rfl⟩ (fun r h => c_X2_isWhole l D J kc ki kb kl kd t t_starts q_t_startsF_12_8 q_t_count_12_9 q_t_shape_12_10 q_t_step_12_11 r h) rfl rfl rfl rfl rfl rfl (Nat.le_of_ble_eq_true rfl) dX2_read_42 ⟨Nat.zero_le _, Nat.zero_le _⟩ hF (fun r42_12 er42_12 hF => ?_)
  refine a_if_eq C (tgt := 52) dX2_read_45 (by decide) hF (fun c45_13 hF => ?_) (fun c45_13 hF => ?_)
  · refine a_aload_n C 1 dX2_read_52 rfl rfl ?_
    refine a_callVir C 0 [2, 3] 2 cs_X2_32 hd_X7_length ⟨rfl, rfl⟩ ⟨Nat.le_of_ble_eq_true rfl, Nat.le_of_ble_eq_true rfl⟩ (fun r h => c_X7_length l D J kc ki kb kl kd o1 o1_characters o1_charactersF o1_length r h) rfl rfl rfl rfl rfl rfl (Nat.le_of_ble_eq_true rfl) dX2_read_53 ⟨Nat.zero_le _, Nat.zero_le _⟩ hF (fun r53_14 er53_14 hF => ?_)
    exact a_iret C hr rfl dX2_read_56 hF rfl rfl
  refine a_iconst C (v := (-1)) dX2_read_48 (by decide) ?_
  refine a_goto C (tgt := 56) dX2_read_49 (by decide) ?_
  exact a_iret C hr rfl dX2_read_56 hF rfl rfl
def f_X2_endOf (t_startsF : Nat → Int32) (t_count : Int32) (o2_length : Int32) (p1 : Int32) : Option Int32 := if t_count ≤ (p1 + 1) then ((f_X7_length o2_length).bind fun r24_2 => some r24_2) else ((ldi t_startsF 60 (p1 + 1)).bind fun v17_3 => some (v17_3 - 1))
theorem hd_X2_endOf : yX2_endOf.cls = RX2 ∧ yX2_endOf.cls ≠ "java/lang/invoke/MethodHandle" ∧ yX2_endOf.cls ≠ "java/lang/invoke/VarHandle" ∧ (parseMethodDescriptor yX2_endOf.desc).map (fun d => d.parameters.length) = some 2 := by decide +kernel
set_option maxRecDepth 100000 in
set_option maxHeartbeats 4000000 in
theorem c_X2_endOf (l : Launch) (D : va_G) (J : (Nat → Nat) × (Nat → Nat)) (kc ki kb kl kd : ClassId) (t : Nat) (t_starts : Nat) (o2 : Nat) (o2_characters : Nat) (t_startsF : Nat → Int32) (t_count : Int32) (t_shape : Nat) (t_step : Int32) (o2_charactersF : Nat → Int32) (o2_length : Int32) (p1 : Int32) (res : Int32) (hF : f_X2_endOf t_startsF t_count o2_length p1 = some res) : aKi l yX2_endOf (aW yX2_endOf cX2_endOf 3 ((some .int))) ({ frames := 1, cells := 0, slots := 0, locals := 20 } : Room) D J (aTy kc ki kb kl kd) [.ref t, .int p1, .ref o2] (wX2 J ki t t_starts t_startsF t_count t_shape t_step ++ wX7 kc o2 o2_characters o2_charactersF o2_length) (fun r => r) (fun _ => wX2 J ki t t_starts t_startsF t_count t_shape t_step ++ wX7 kc o2 o2_characters o2_charactersF o2_length) res := by
  refine aKi_of (own := RX2) (by decide) rfl (Nat.le_of_ble_eq_true rfl) rfl ?_
  intro p e s m args below meth c C hr
  unfold f_X2_endOf at hF
  refine a_iload_n C 1 dX2_endOf_0 rfl rfl ?_
  refine a_iconst C (v := 1) dX2_endOf_1 (by decide) ?_
  refine a_iadd C dX2_endOf_2 ?_
  refine a_aload_n C 0 dX2_endOf_3 rfl rfl ?_
  refine a_get C 0 1 iwX2 rfl rfl (by decide) kf_X2_15 rfl dX2_endOf_4 ?_
  refine a_ic_ge C (tgt := 23) dX2_endOf_7 (by decide) hF (fun c7_1 hF => ?_) (fun c7_1 hF => ?_)
  · refine a_aload_n C 2 dX2_endOf_23 rfl rfl ?_
    refine a_callVir C 0 [2, 3] 2 cs_X2_32 hd_X7_length ⟨rfl, rfl⟩ ⟨Nat.le_of_ble_eq_true rfl, Nat.le_of_ble_eq_true rfl⟩ (fun r h => c_X7_length l D J kc ki kb kl kd o2 o2_characters o2_charactersF o2_length r h) rfl rfl rfl rfl rfl rfl (Nat.le_of_ble_eq_true rfl) dX2_endOf_24 ⟨Nat.zero_le _, Nat.zero_le _⟩ hF (fun r24_2 er24_2 hF => ?_)
    exact a_iret C hr rfl dX2_endOf_27 hF rfl rfl
  refine a_aload_n C 0 dX2_endOf_10 rfl rfl ?_
  refine a_get C 0 0 iwX2 rfl rfl (by decide) kf_X2_9 rfl dX2_endOf_11 ?_
  refine a_iload_n C 1 dX2_endOf_14 rfl rfl ?_
  refine a_iconst C (v := 1) dX2_endOf_15 (by decide) ?_
  refine a_iadd C dX2_endOf_16 ?_
  refine a_iald C 1 1 rfl rfl dX2_endOf_17 hF (fun v17_3 ev17_3 hF => ?_)
  refine a_iconst C (v := 1) dX2_endOf_18 (by decide) ?_
  refine a_isub C dX2_endOf_19 ?_
  refine a_goto C (tgt := 27) dX2_endOf_20 (by decide) ?_
  exact a_iret C hr rfl dX2_endOf_27 hF rfl rfl
theorem cs_X2_89 : GoodIn WW (wsV RX2 89 RX7 yX7_digitAt (aW yX7_digitAt cX7_digitAt 2 ((some .int)))) := gdV kl_X2_89 ki_X7_digitAt kv_X7_digitAt kn_X7 kc_X7_digitAt
theorem cs_X2_93 : GoodIn WW (wsV RX2 93 RX2 yX2_endOf (aW yX2_endOf cX2_endOf 3 ((some .int)))) := gdV kl_X2_93 ki_X2_endOf kv_X2_endOf kn_X2 kc_X2_endOf
theorem cs_X2_97 : GoodIn WW (va_wsS RX2 97 yX1_addWord (aW yX1_addWord cX1_addWord 7 ((some .boolean)))) := gdS kl_X2_97 ks_X1_addWord kn_X1 kc_X1_addWord
theorem cs_X2_103 : GoodIn WW (va_wsS RX2 103 yX1_cutLine (aW yX1_cutLine cX1_cutLine 3 ((some .boolean)))) := gdS kl_X2_103 ks_X1_cutLine kn_X1 kc_X1_cutLine
theorem cs_X2_107 : GoodIn WW (va_wsS RX2 107 yX1_changeLetter (aW yX1_changeLetter cX1_changeLetter 5 ((some .boolean)))) := gdS kl_X2_107 ks_X1_changeLetter kn_X1 kc_X1_changeLetter
theorem cs_X2_115 : GoodIn WW (va_wsS RX2 115 yX1_joinLines (aW yX1_joinLines cX1_joinLines 6 ((some .boolean)))) := gdS kl_X2_115 ks_X1_joinLines kn_X1 kc_X1_joinLines
theorem cs_X2_111 : GoodIn WW (va_wsS RX2 111 yX1_swapLines (aW yX1_swapLines cX1_swapLines 4 ((some .boolean)))) := gdS kl_X2_111 ks_X1_swapLines kn_X1 kc_X1_swapLines
theorem cs_X2_118 : GoodIn WW (va_wsS RX2 118 yX1_turnLine (aW yX1_turnLine cX1_turnLine 3 ((some .boolean)))) := gdS kl_X2_118 ks_X1_turnLine kn_X1 kc_X1_turnLine
def f_X2_carryOutOne (t_startsF : Nat → Int32) (t_count : Int32) (o1_charactersF : Nat → Int32) (o1_length : Int32) (o3_lettersF : Nat → Int32) (o3_sizesF : Nat → Int32) (o3_lines : Int32) (o4_reasonsF : Nat → Int32) (o4_detailsF : Nat → Int32) (o4_count : Int32) (p2 : Int32) : Option (Int32 × (Nat → Int32) × (Nat → Int32) × Int32 × (Nat → Int32) × (Nat → Int32) × Int32) := (ldi t_startsF 60 p2).bind fun v5_1 => (f_X7_digitAt o1_charactersF o1_length (v5_1 + 1)).bind fun r13_2 => (f_X7_digitAt o1_charactersF o1_length (v5_1 + 2)).bind fun r23_3 => (f_X7_characterAt o1_charactersF o1_length v5_1).bind fun r31_4 => if r31_4 = 43 then ((f_X2_endOf t_startsF t_count o1_length p2).bind fun r95_5 => (f_X1_addWord o3_lettersF o3_sizesF o3_lines o4_reasonsF o4_detailsF o4_count o1_charactersF o1_length (v5_1 + 1) r95_5).bind fun r98_6 => (rz r98_6.1).bind fun _ => some (r98_6.1, r98_6.2.1, r98_6.2.2.1, r98_6.2.2.2.1, r98_6.2.2.2.2.1, r98_6.2.2.2.2.2.1, r98_6.2.2.2.2.2.2)) else (if r31_4 = 45 then ((f_X1_cutLine o3_lettersF o3_sizesF o3_lines o4_reasonsF o4_detailsF o4_count r13_2).bind fun r107_9 => (rz r107_9.1).bind fun _ => some (r107_9.1, r107_9.2.1, r107_9.2.2.1, r107_9.2.2.2.1, r107_9.2.2.2.2.1, r107_9.2.2.2.2.2.1, r107_9.2.2.2.2.2.2)) else (if r31_4 = 61 then ((f_X7_characterAt o1_charactersF o1_length (v5_1 + 3)).bind fun r123_12 => (f_X1_changeLetter o3_lettersF o3_sizesF o3_lines o4_reasonsF o4_detailsF o4_count r13_2 r23_3 r123_12).bind fun r126_13 => (rz r126_13.1).bind fun _ => some (r126_13.1, r126_13.2.1, o3_sizesF, o3_lines, r126_13.2.2.1, r126_13.2.2.2.1, r126_13.2.2.2.2)) else (if r31_4 = 106 then ((f_X1_joinLines o3_lettersF o3_sizesF o3_lines o4_reasonsF o4_detailsF o4_count r13_2 r23_3).bind fun r148_16 => (rz r148_16.1).bind fun _ => some (r148_16.1, r148_16.2.1, r148_16.2.2.1, r148_16.2.2.2.1, r148_16.2.2.2.2.1, r148_16.2.2.2.2.2.1, r148_16.2.2.2.2.2.2)) else (if r31_4 = 120 then ((f_X1_swapLines o3_lettersF o3_sizesF o3_lines o4_reasonsF o4_detailsF o4_count r13_2 r23_3).bind fun r137_19 => (rz r137_19.1).bind fun _ => some (r137_19.1, r137_19.2.1, r137_19.2.2.1, o3_lines, r137_19.2.2.2.1, r137_19.2.2.2.2.1, r137_19.2.2.2.2.2)) else ((f_X1_turnLine o3_lettersF o3_sizesF o3_lines o4_reasonsF o4_detailsF o4_count r13_2).bind fun r157_22 => (rz r157_22.1).bind fun _ => some (r157_22.1, r157_22.2.1, o3_sizesF, o3_lines, r157_22.2.2.1, r157_22.2.2.2.1, r157_22.2.2.2.2))))))
theorem hd_X2_carryOutOne : yX2_carryOutOne.cls = RX2 ∧ yX2_carryOutOne.cls ≠ "java/lang/invoke/MethodHandle" ∧ yX2_carryOutOne.cls ≠ "java/lang/invoke/VarHandle" ∧ (parseMethodDescriptor yX2_carryOutOne.desc).map (fun d => d.parameters.length) = some 4 := by decide +kernel
set_option maxRecDepth 100000 in
set_option maxHeartbeats 4000000 in
theorem c_X2_carryOutOne (l : Launch) (D : va_G) (J : (Nat → Nat) × (Nat → Nat)) (kc ki kb kl kd : ClassId) (t : Nat) (t_starts : Nat) (o1 : Nat) (o1_characters : Nat) (o3 : Nat) (o3_letters : Nat) (o3_sizes : Nat) (o4 : Nat) (o4_reasons : Nat) (o4_details : Nat) (t_startsF : Nat → Int32) (t_count : Int32) (t_shape : Nat) (t_step : Int32) (o1_charactersF : Nat → Int32) (o1_length : Int32) (o3_lettersF : Nat → Int32) (o3_sizesF : Nat → Int32) (o3_lines : Int32) (o4_reasonsF : Nat → Int32) (o4_detailsF : Nat → Int32) (o4_count : Int32) (p2 : Int32) (res : Int32 × (Nat → Int32) × (Nat → Int32) × Int32 × (Nat → Int32) × (Nat → Int32) × Int32) (hF : f_X2_carryOutOne t_startsF t_count o1_charactersF o1_length o3_lettersF o3_sizesF o3_lines o4_reasonsF o4_detailsF o4_count p2 = some res) : aKi l yX2_carryOutOne (aW yX2_carryOutOne cX2_carryOutOne 8 ((some .boolean))) ({ frames := 4, cells := 0, slots := 0, locals := 93 } : Room) D J (aTy kc ki kb kl kd) [.ref t, .ref o1, .int p2, .ref o3, .ref o4] (wX2 J ki t t_starts t_startsF t_count t_shape t_step ++ wX7 kc o1 o1_characters o1_charactersF o1_length ++ wX0 kc ki o3 o3_letters o3_sizes o3_lettersF o3_sizesF o3_lines ++ wX6 ki o4 o4_reasons o4_details o4_reasonsF o4_detailsF o4_count) (fun r => r.1) (fun r => wX2 J ki t t_starts t_startsF t_count t_shape t_step ++ wX7 kc o1 o1_characters o1_charactersF o1_length ++ wX0 kc ki o3 o3_letters o3_sizes r.2.1 r.2.2.1 r.2.2.2.1 ++ wX6 ki o4 o4_reasons o4_details r.2.2.2.2.1 r.2.2.2.2.2.1 r.2.2.2.2.2.2) res := by
  refine aKi_of (own := RX2) (by decide) rfl (Nat.le_of_ble_eq_true rfl) rfl ?_
  intro p e s m args below meth c C hr
  unfold f_X2_carryOutOne at hF
  refine a_aload_n C 0 dX2_carryOutOne_0 rfl rfl ?_
  refine a_get C 0 0 iwX2 rfl rfl (by decide) kf_X2_9 rfl dX2_carryOutOne_1 ?_
  refine a_iload_n C 2 dX2_carryOutOne_4 rfl rfl ?_
  refine a_iald C 1 1 rfl rfl dX2_carryOutOne_5 hF (fun v5_1 ev5_1 hF => ?_)
  refine a_istore C [(5, .int v5_1), (0, .ref t), (1, .ref o1), (2, .int p2), (3, .ref o3), (4, .ref o4)] dX2_carryOutOne_6 (by decide) rfl ?_
  refine a_aload_n C 2 dX2_carryOutOne_8 rfl rfl ?_
  refine a_iload C 0 dX2_carryOutOne_9 rfl ?_
  refine a_iconst C (v := 1) dX2_carryOutOne_11 (by decide) ?_
  refine a_iadd C dX2_carryOutOne_12 ?_
  refine a_callVir C 1 [2, 3] 2 cs_X2_89 hd_X7_digitAt ⟨rfl, rfl⟩ ⟨Nat.le_of_ble_eq_true rfl, Nat.le_of_ble_eq_true rfl⟩ (fun r h => c_X7_digitAt l D J kc ki kb kl kd o1 o1_characters o1_charactersF o1_length (v5_1 + 1) r h) rfl rfl rfl rfl rfl rfl (Nat.le_of_ble_eq_true rfl) dX2_carryOutOne_13 ⟨Nat.zero_le _, Nat.zero_le _⟩ hF (fun r13_2 er13_2 hF => ?_)
  refine a_istore C [(6, .int r13_2), (5, .int v5_1), (0, .ref t), (1, .ref o1), (2, .int p2), (3, .ref o3), (4, .ref o4)] dX2_carryOutOne_16 (by decide) rfl ?_
  refine a_aload_n C 3 dX2_carryOutOne_18 rfl rfl ?_
  refine a_iload C 1 dX2_carryOutOne_19 rfl ?_
  refine a_iconst C (v := 2) dX2_carryOutOne_21 (by decide) ?_
  refine a_iadd C dX2_carryOutOne_22 ?_
  refine a_callVir C 1 [2, 3] 2 cs_X2_89 hd_X7_digitAt ⟨rfl, rfl⟩ ⟨Nat.le_of_ble_eq_true rfl, Nat.le_of_ble_eq_true rfl⟩ (fun r h => c_X7_digitAt l D J kc ki kb kl kd o1 o1_characters o1_charactersF o1_length (v5_1 + 2) r h) rfl rfl rfl rfl rfl rfl (Nat.le_of_ble_eq_true rfl) dX2_carryOutOne_23 ⟨Nat.zero_le _, Nat.zero_le _⟩ hF (fun r23_3 er23_3 hF => ?_)
  refine a_istore C [(7, .int r23_3), (6, .int r13_2), (5, .int v5_1), (0, .ref t), (1, .ref o1), (2, .int p2), (3, .ref o3), (4, .ref o4)] dX2_carryOutOne_26 (by decide) rfl ?_
  refine a_aload_n C 4 dX2_carryOutOne_28 rfl rfl ?_
  refine a_iload C 2 dX2_carryOutOne_29 rfl ?_
  refine a_callVir C 1 [2, 3] 2 cs_X2_38 hd_X7_characterAt ⟨rfl, rfl⟩ ⟨Nat.le_of_ble_eq_true rfl, Nat.le_of_ble_eq_true rfl⟩ (fun r h => c_X7_characterAt l D J kc ki kb kl kd o1 o1_characters o1_charactersF o1_length v5_1 r h) rfl rfl rfl rfl rfl rfl (Nat.le_of_ble_eq_true rfl) dX2_carryOutOne_31 ⟨Nat.zero_le _, Nat.zero_le _⟩ hF (fun r31_4 er31_4 hF => ?_)
  refine a_lkcase C (tgt := 84) (v := 43) dX2_carryOutOne_34 (by decide) rfl (by decide) hF (fun c34_8 hF => ?_) (fun c34_8 hF => ?_)
  · refine a_aload_n C 6 dX2_carryOutOne_84 rfl rfl ?_
    refine a_aload C 7 dX2_carryOutOne_85 rfl ?_
    refine a_aload_n C 4 dX2_carryOutOne_87 rfl rfl ?_
    refine a_iload C 2 dX2_carryOutOne_88 rfl ?_
    refine a_iconst C (v := 1) dX2_carryOutOne_90 (by decide) ?_
    refine a_iadd C dX2_carryOutOne_91 ?_
    refine a_aload_n C 3 dX2_carryOutOne_92 rfl rfl ?_
    refine a_iload_n C 5 dX2_carryOutOne_93 rfl rfl ?_
    refine a_aload_n C 4 dX2_carryOutOne_94 rfl rfl ?_
    refine a_callVir C 2 [0, 1, 2, 3] 0 cs_X2_93 hd_X2_endOf ⟨rfl, rfl⟩ ⟨Nat.le_of_ble_eq_true rfl, Nat.le_of_ble_eq_true rfl⟩ (fun r h => c_X2_endOf l D J kc ki kb kl kd t t_starts o1 o1_characters t_startsF t_count t_shape t_step o1_charactersF o1_length p2 r h) rfl rfl rfl rfl rfl rfl (Nat.le_of_ble_eq_true rfl) dX2_carryOutOne_95 ⟨Nat.zero_le _, Nat.zero_le _⟩ hF (fun r95_5 er95_5 hF => ?_)
    refine a_callSi C 5 [4, 5, 6, 7, 8, 9, 2, 3] cs_X2_97 hd_X1_addWord ⟨rfl, rfl⟩ ⟨Nat.le_of_ble_eq_true rfl, Nat.le_of_ble_eq_true rfl⟩ (fun r h => c_X1_addWord l D J kc ki kb kl kd o3 o3_letters o3_sizes o4 o4_reasons o4_details o1 o1_characters o3_lettersF o3_sizesF o3_lines o4_reasonsF o4_detailsF o4_count o1_charactersF o1_length (v5_1 + 1) r95_5 r h) rfl (fun _ => rfl) rfl rfl rfl (Nat.le_of_ble_eq_true rfl) dX2_carryOutOne_98 ⟨Nat.zero_le _, Nat.zero_le _⟩ hF (fun r98_6 er98_6 hF => ?_)
    refine a_ws C (ws' := wX2 J ki t t_starts t_startsF t_count t_shape t_step ++ wX7 kc o1 o1_characters o1_charactersF o1_length ++ wX0 kc ki o3 o3_letters o3_sizes r98_6.2.1 r98_6.2.2.1 r98_6.2.2.2.1 ++ wX6 ki o4 o4_reasons o4_details r98_6.2.2.2.2.1 r98_6.2.2.2.2.2.1 r98_6.2.2.2.2.2.2) rfl ?_
    refine a_rz hF (fun n101_7 hF => ?_)
    exact a_iret C hr n101_7 dX2_carryOutOne_101 hF rfl rfl
  refine a_lkcase C (tgt := 102) (v := 45) dX2_carryOutOne_34 (by decide) rfl (by decide) hF (fun c34_11 hF => ?_) (fun c34_11 hF => ?_)
  · refine a_aload_n C 6 dX2_carryOutOne_102 rfl rfl ?_
    refine a_aload C 7 dX2_carryOutOne_103 rfl ?_
    refine a_iload C 1 dX2_carryOutOne_105 rfl ?_
    refine a_callSi C 3 [4, 5, 6, 7, 8, 9] cs_X2_103 hd_X1_cutLine ⟨rfl, rfl⟩ ⟨Nat.le_of_ble_eq_true rfl, Nat.le_of_ble_eq_true rfl⟩ (fun r h => c_X1_cutLine l D J kc ki kb kl kd o3 o3_letters o3_sizes o4 o4_reasons o4_details o3_lettersF o3_sizesF o3_lines o4_reasonsF o4_detailsF o4_count r13_2 r h) rfl (fun _ => rfl) rfl rfl rfl (Nat.le_of_ble_eq_true rfl) dX2_carryOutOne_107 ⟨Nat.zero_le _, Nat.zero_le _⟩ hF (fun r107_9 er107_9 hF => ?_)
    refine a_ws C (ws' := wX2 J ki t t_starts t_startsF t_count t_shape t_step ++ wX7 kc o1 o1_characters o1_charactersF o1_length ++ wX0 kc ki o3 o3_letters o3_sizes r107_9.2.1 r107_9.2.2.1 r107_9.2.2.2.1 ++ wX6 ki o4 o4_reasons o4_details r107_9.2.2.2.2.1 r107_9.2.2.2.2.2.1 r107_9.2.2.2.2.2.2) rfl ?_
    refine a_rz hF (fun n110_10 hF => ?_)
    exact a_iret C hr n110_10 dX2_carryOutOne_110 hF rfl rfl
  refine a_lkcase C (tgt := 111) (v := 61) dX2_carryOutOne_34 (by decide) rfl (by decide) hF (fun c34_15 hF => ?_) (fun c34_15 hF => ?_)
  · refine a_aload_n C 6 dX2_carryOutOne_111 rfl rfl ?_
    refine a_aload C 7 dX2_carryOutOne_112 rfl ?_
    refine a_iload C 1 dX2_carryOutOne_114 rfl ?_
    refine a_iload C 0 dX2_carryOutOne_116 rfl ?_
    refine a_aload_n C 4 dX2_carryOutOne_118 rfl rfl ?_
    refine a_iload C 2 dX2_carryOutOne_119 rfl ?_
    refine a_iconst C (v := 3) dX2_carryOutOne_121 (by decide) ?_
    refine a_iadd C dX2_carryOutOne_122 ?_
    refine a_callVir C 1 [2, 3] 2 cs_X2_38 hd_X7_characterAt ⟨rfl, rfl⟩ ⟨Nat.le_of_ble_eq_true rfl, Nat.le_of_ble_eq_true rfl⟩ (fun r h => c_X7_characterAt l D J kc ki kb kl kd o1 o1_characters o1_charactersF o1_length (v5_1 + 3) r h) rfl rfl rfl rfl rfl rfl (Nat.le_of_ble_eq_true rfl) dX2_carryOutOne_123 ⟨Nat.zero_le _, Nat.zero_le _⟩ hF (fun r123_12 er123_12 hF => ?_)
    refine a_callSi C 5 [4, 5, 6, 7, 8, 9] cs_X2_107 hd_X1_changeLetter ⟨rfl, rfl⟩ ⟨Nat.le_of_ble_eq_true rfl, Nat.le_of_ble_eq_true rfl⟩ (fun r h => c_X1_changeLetter l D J kc ki kb kl kd o3 o3_letters o3_sizes o4 o4_reasons o4_details o3_lettersF o3_sizesF o3_lines o4_reasonsF o4_detailsF o4_count r13_2 r23_3 r123_12 r h) rfl (fun _ => rfl) rfl rfl rfl (Nat.le_of_ble_eq_true rfl) dX2_carryOutOne_126 ⟨Nat.zero_le _, Nat.zero_le _⟩ hF (fun r126_13 er126_13 hF => ?_)
    refine a_ws C (ws' := wX2 J ki t t_starts t_startsF t_count t_shape t_step ++ wX7 kc o1 o1_characters o1_charactersF o1_length ++ wX0 kc ki o3 o3_letters o3_sizes r126_13.2.1 o3_sizesF o3_lines ++ wX6 ki o4 o4_reasons o4_details r126_13.2.2.1 r126_13.2.2.2.1 r126_13.2.2.2.2) rfl ?_
    refine a_rz hF (fun n129_14 hF => ?_)
    exact a_iret C hr n129_14 dX2_carryOutOne_129 hF rfl rfl
  refine a_lkcase C (tgt := 141) (v := 106) dX2_carryOutOne_34 (by decide) rfl (by decide) hF (fun c34_18 hF => ?_) (fun c34_18 hF => ?_)
  · refine a_aload_n C 6 dX2_carryOutOne_141 rfl rfl ?_
    refine a_aload C 7 dX2_carryOutOne_142 rfl ?_
    refine a_iload C 1 dX2_carryOutOne_144 rfl ?_
    refine a_iload C 0 dX2_carryOutOne_146 rfl ?_
    refine a_callSi C 4 [4, 5, 6, 7, 8, 9] cs_X2_115 hd_X1_joinLines ⟨rfl, rfl⟩ ⟨Nat.le_of_ble_eq_true rfl, Nat.le_of_ble_eq_true rfl⟩ (fun r h => c_X1_joinLines l D J kc ki kb kl kd o3 o3_letters o3_sizes o4 o4_reasons o4_details o3_lettersF o3_sizesF o3_lines o4_reasonsF o4_detailsF o4_count r13_2 r23_3 r h) rfl (fun _ => rfl) rfl rfl rfl (Nat.le_of_ble_eq_true rfl) dX2_carryOutOne_148 ⟨Nat.zero_le _, Nat.zero_le _⟩ hF (fun r148_16 er148_16 hF => ?_)
    refine a_ws C (ws' := wX2 J ki t t_starts t_startsF t_count t_shape t_step ++ wX7 kc o1 o1_characters o1_charactersF o1_length ++ wX0 kc ki o3 o3_letters o3_sizes r148_16.2.1 r148_16.2.2.1 r148_16.2.2.2.1 ++ wX6 ki o4 o4_reasons o4_details r148_16.2.2.2.2.1 r148_16.2.2.2.2.2.1 r148_16.2.2.2.2.2.2) rfl ?_
    refine a_rz hF (fun n151_17 hF => ?_)
    exact a_iret C hr n151_17 dX2_carryOutOne_151 hF rfl rfl
  refine a_lkcase C (tgt := 130) (v := 120) dX2_carryOutOne_34 (by decide) rfl (by decide) hF (fun c34_21 hF => ?_) (fun c34_21 hF => ?_)
  · refine a_aload_n C 6 dX2_carryOutOne_130 rfl rfl ?_
    refine a_aload C 7 dX2_carryOutOne_131 rfl ?_
    refine a_iload C 1 dX2_carryOutOne_133 rfl ?_
    refine a_iload C 0 dX2_carryOutOne_135 rfl ?_
    refine a_callSi C 4 [4, 5, 6, 7, 8, 9] cs_X2_111 hd_X1_swapLines ⟨rfl, rfl⟩ ⟨Nat.le_of_ble_eq_true rfl, Nat.le_of_ble_eq_true rfl⟩ (fun r h => c_X1_swapLines l D J kc ki kb kl kd o3 o3_letters o3_sizes o4 o4_reasons o4_details o3_lettersF o3_sizesF o3_lines o4_reasonsF o4_detailsF o4_count r13_2 r23_3 r h) rfl (fun _ => rfl) rfl rfl rfl (Nat.le_of_ble_eq_true rfl) dX2_carryOutOne_137 ⟨Nat.zero_le _, Nat.zero_le _⟩ hF (fun r137_19 er137_19 hF => ?_)
    refine a_ws C (ws' := wX2 J ki t t_starts t_startsF t_count t_shape t_step ++ wX7 kc o1 o1_characters o1_charactersF o1_length ++ wX0 kc ki o3 o3_letters o3_sizes r137_19.2.1 r137_19.2.2.1 o3_lines ++ wX6 ki o4 o4_reasons o4_details r137_19.2.2.2.1 r137_19.2.2.2.2.1 r137_19.2.2.2.2.2) rfl ?_
    refine a_rz hF (fun n140_20 hF => ?_)
    exact a_iret C hr n140_20 dX2_carryOutOne_140 hF rfl rfl
  refine a_lkdef C (tgt := 152) (off := 118) dX2_carryOutOne_34 (by decide) ((lv_osw (a := 43) c34_8 (by decide)).trans ((lv_osw (a := 45) c34_11 (by decide)).trans ((lv_osw (a := 61) c34_15 (by decide)).trans ((lv_osw (a := 106) c34_18 (by decide)).trans ((lv_osw (a := 120) c34_21 (by decide)).trans (rfl)))))) (by decide) ?_
  refine a_aload_n C 6 dX2_carryOutOne_152 rfl rfl ?_
  refine a_aload C 7 dX2_carryOutOne_153 rfl ?_
  refine a_iload C 1 dX2_carryOutOne_155 rfl ?_
  refine a_callSi C 3 [4, 5, 6, 7, 8, 9] cs_X2_118 hd_X1_turnLine ⟨rfl, rfl⟩ ⟨Nat.le_of_ble_eq_true rfl, Nat.le_of_ble_eq_true rfl⟩ (fun r h => c_X1_turnLine l D J kc ki kb kl kd o3 o3_letters o3_sizes o4 o4_reasons o4_details o3_lettersF o3_sizesF o3_lines o4_reasonsF o4_detailsF o4_count r13_2 r h) rfl (fun _ => rfl) rfl rfl rfl (Nat.le_of_ble_eq_true rfl) dX2_carryOutOne_157 ⟨Nat.zero_le _, Nat.zero_le _⟩ hF (fun r157_22 er157_22 hF => ?_)
  refine a_ws C (ws' := wX2 J ki t t_starts t_startsF t_count t_shape t_step ++ wX7 kc o1 o1_characters o1_charactersF o1_length ++ wX0 kc ki o3 o3_letters o3_sizes r157_22.2.1 o3_sizesF o3_lines ++ wX6 ki o4 o4_reasons o4_details r157_22.2.2.1 r157_22.2.2.2.1 r157_22.2.2.2.2) rfl ?_
  refine a_rz hF (fun n160_23 hF => ?_)
  exact a_iret C hr n160_23 dX2_carryOutOne_160 hF rfl rfl
theorem cs_X2_79 : GoodIn WW (wsV RX2 79 RX2 yX2_carryOutOne (aW yX2_carryOutOne cX2_carryOutOne 8 ((some .boolean)))) := gdV kl_X2_79 ki_X2_carryOutOne kv_X2_carryOutOne kn_X2 kc_X2_carryOutOne
theorem cs_X2_83 : GoodIn WW (wsV RX2 83 RX6 yX6_keepOnTop (aW yX6_keepOnTop cX6_keepOnTop 4 none)) := gdV kl_X2_83 ki_X6_keepOnTop kv_X6_keepOnTop kn_X6 kc_X6_keepOnTop
def f_X2_carryOut_L3 (t_startsF : Nat → Int32) (t_count : Int32) (o1_charactersF : Nat → Int32) (o1_length : Int32) : Nat → Int32 → (Nat → Int32) → (Nat → Int32) → Int32 → (Nat → Int32) → (Nat → Int32) → Int32 → (Int32 → (Nat → Int32) → (Nat → Int32) → Int32 → (Nat → Int32) → (Nat → Int32) → Int32 → Option (Int32 × (Nat → Int32) × (Nat → Int32) × Int32 × (Nat → Int32) × (Nat → Int32) × Int32)) → Option (Int32 × (Nat → Int32) × (Nat → Int32) × Int32 × (Nat → Int32) × (Nat → Int32) × Int32)
  | 0, _, _, _, _, _, _, _, _ => none
  | fuel + 1, x4, q_o2_lettersF, q_o2_sizesF, q_o2_lines, q_o3_reasonsF, q_o3_detailsF, q_o3_count, k => if t_count ≤ x4 then (k x4 q_o2_lettersF q_o2_sizesF q_o2_lines q_o3_reasonsF q_o3_detailsF q_o3_count) else ((f_X2_carryOutOne t_startsF t_count o1_charactersF o1_length q_o2_lettersF q_o2_sizesF q_o2_lines q_o3_reasonsF q_o3_detailsF q_o3_count x4).bind fun r18_2 => if ¬ r18_2.1 = 0 then (f_X2_carryOut_L3 t_startsF t_count o1_charactersF o1_length fuel (x4 + 1) r18_2.2.1 r18_2.2.2.1 r18_2.2.2.2.1 r18_2.2.2.2.2.1 r18_2.2.2.2.2.2.1 r18_2.2.2.2.2.2.2 k) else ((f_X6_keepOnTop r18_2.2.2.2.2.1 r18_2.2.2.2.2.2.1 r18_2.2.2.2.2.2.2 10 x4).bind fun r29_4 => some (0, r18_2.2.1, r18_2.2.2.1, r18_2.2.2.2.1, r29_4.1, r29_4.2.1, r29_4.2.2)))
def f_X2_carryOut (t_startsF : Nat → Int32) (t_count : Int32) (o1_charactersF : Nat → Int32) (o1_length : Int32) (o2_lettersF : Nat → Int32) (o2_sizesF : Nat → Int32) (o2_lines : Int32) (o3_reasonsF : Nat → Int32) (o3_detailsF : Nat → Int32) (o3_count : Int32) : Option (Int32 × (Nat → Int32) × (Nat → Int32) × Int32 × (Nat → Int32) × (Nat → Int32) × Int32) := f_X2_carryOut_L3 t_startsF t_count o1_charactersF o1_length 1000 0 o2_lettersF o2_sizesF o2_lines o3_reasonsF o3_detailsF o3_count (fun x4_3_5 q_o2_lettersF_3_6 q_o2_sizesF_3_7 q_o2_lines_3_8 q_o3_reasonsF_3_9 q_o3_detailsF_3_10 q_o3_count_3_11 => some (1, q_o2_lettersF_3_6, q_o2_sizesF_3_7, q_o2_lines_3_8, q_o3_reasonsF_3_9, q_o3_detailsF_3_10, q_o3_count_3_11))
theorem hd_X2_carryOut : yX2_carryOut.cls = RX2 ∧ yX2_carryOut.cls ≠ "java/lang/invoke/MethodHandle" ∧ yX2_carryOut.cls ≠ "java/lang/invoke/VarHandle" ∧ (parseMethodDescriptor yX2_carryOut.desc).map (fun d => d.parameters.length) = some 3 := by decide +kernel
set_option maxRecDepth 100000 in
set_option maxHeartbeats 4000000 in
theorem c_X2_carryOut (l : Launch) (D : va_G) (J : (Nat → Nat) × (Nat → Nat)) (kc ki kb kl kd : ClassId) (t : Nat) (t_starts : Nat) (o1 : Nat) (o1_characters : Nat) (o2 : Nat) (o2_letters : Nat) (o2_sizes : Nat) (o3 : Nat) (o3_reasons : Nat) (o3_details : Nat) (t_startsF : Nat → Int32) (t_count : Int32) (t_shape : Nat) (t_step : Int32) (o1_charactersF : Nat → Int32) (o1_length : Int32) (o2_lettersF : Nat → Int32) (o2_sizesF : Nat → Int32) (o2_lines : Int32) (o3_reasonsF : Nat → Int32) (o3_detailsF : Nat → Int32) (o3_count : Int32) (res : Int32 × (Nat → Int32) × (Nat → Int32) × Int32 × (Nat → Int32) × (Nat → Int32) × Int32) (hF : f_X2_carryOut t_startsF t_count o1_charactersF o1_length o2_lettersF o2_sizesF o2_lines o3_reasonsF o3_detailsF o3_count = some res) : aKi l yX2_carryOut (aW yX2_carryOut cX2_carryOut 5 ((some .boolean))) ({ frames := 5, cells := 0, slots := 0, locals := 120 } : Room) D J (aTy kc ki kb kl kd) [.ref t, .ref o1, .ref o2, .ref o3] (wX2 J ki t t_starts t_startsF t_count t_shape t_step ++ wX7 kc o1 o1_characters o1_charactersF o1_length ++ wX0 kc ki o2 o2_letters o2_sizes o2_lettersF o2_sizesF o2_lines ++ wX6 ki o3 o3_reasons o3_details o3_reasonsF o3_detailsF o3_count) (fun r => r.1) (fun r => wX2 J ki t t_starts t_startsF t_count t_shape t_step ++ wX7 kc o1 o1_characters o1_charactersF o1_length ++ wX0 kc ki o2 o2_letters o2_sizes r.2.1 r.2.2.1 r.2.2.2.1 ++ wX6 ki o3 o3_reasons o3_details r.2.2.2.2.1 r.2.2.2.2.2.1 r.2.2.2.2.2.2) res := by
  refine aKi_of (own := RX2) (by decide) rfl (Nat.le_of_ble_eq_true rfl) rfl ?_
  intro p e s m args below meth c C hr
  have hI3 : ∀ (fuel : Nat) (x4 : Int32) (q_o2_lettersF : Nat → Int32) (q_o2_sizesF : Nat → Int32) (q_o2_lines : Int32) (q_o3_reasonsF : Nat → Int32) (q_o3_detailsF : Nat → Int32) (q_o3_count : Int32) (k : Int32 → (Nat → Int32) → (Nat → Int32) → Int32 → (Nat → Int32) → (Nat → Int32) → Int32 → Option (Int32 × (Nat → Int32) × (Nat → Int32) × Int32 × (Nat → Int32) × (Nat → Int32) × Int32)), f_X2_carryOut_L3 t_startsF t_count o1_charactersF o1_length fuel x4 q_o2_lettersF q_o2_sizesF q_o2_lines q_o3_reasonsF q_o3_detailsF q_o3_count k = some res → (∀ (x4 : Int32) (q_o2_lettersF : Nat → Int32) (q_o2_sizesF : Nat → Int32) (q_o2_lines : Int32) (q_o3_reasonsF : Nat → Int32) (q_o3_detailsF : Nat → Int32) (q_o3_count : Int32), k x4 q_o2_lettersF q_o2_sizesF q_o2_lines q_o3_reasonsF q_o3_detailsF q_o3_count = some res → aT p l e ({ frames := 5, cells := 0, slots := 0, locals := 120 } : Room) s m args below meth c (MQ below (aQi D (wX2 J ki t t_starts t_startsF t_count t_shape t_step ++ wX7 kc o1 o1_characters o1_charactersF o1_length ++ wX0 kc ki o2 o2_letters o2_sizes o2_lettersF o2_sizesF o2_lines ++ wX6 ki o3 o3_reasons o3_details o3_reasonsF o3_detailsF o3_count) s.heap.size (fun r => r.1) (fun r => wX2 J ki t t_starts t_startsF t_count t_shape t_step ++ wX7 kc o1 o1_characters o1_charactersF o1_length ++ wX0 kc ki o2 o2_letters o2_sizes r.2.1 r.2.2.1 r.2.2.2.1 ++ wX6 ki o3 o3_reasons o3_details r.2.2.2.2.1 r.2.2.2.2.2.1 r.2.2.2.2.2.2) res) args s 0 0 (va_A (wX2 J ki t t_starts t_startsF t_count t_shape t_step ++ wX7 kc o1 o1_characters o1_charactersF o1_length ++ wX0 kc ki o2 o2_letters o2_sizes o2_lettersF o2_sizesF o2_lines ++ wX6 ki o3 o3_reasons o3_details o3_reasonsF o3_detailsF o3_count) s.heap.size)) D (va_A (wX2 J ki t t_starts t_startsF t_count t_shape t_step ++ wX7 kc o1 o1_characters o1_charactersF o1_length ++ wX0 kc ki o2 o2_letters o2_sizes o2_lettersF o2_sizesF o2_lines ++ wX6 ki o3 o3_reasons o3_details o3_reasonsF o3_detailsF o3_count) s.heap.size) 5 0 0 40 [] [] (wX2 J ki t t_starts t_startsF t_count t_shape t_step ++ wX7 kc o1 o1_characters o1_charactersF o1_length ++ wX0 kc ki o2 o2_letters o2_sizes q_o2_lettersF q_o2_sizesF q_o2_lines ++ wX6 ki o3 o3_reasons o3_details q_o3_reasonsF q_o3_detailsF q_o3_count)) → aT p l e ({ frames := 5, cells := 0, slots := 0, locals := 120 } : Room) s m args below meth c (MQ below (aQi D (wX2 J ki t t_starts t_startsF t_count t_shape t_step ++ wX7 kc o1 o1_characters o1_charactersF o1_length ++ wX0 kc ki o2 o2_letters o2_sizes o2_lettersF o2_sizesF o2_lines ++ wX6 ki o3 o3_reasons o3_details o3_reasonsF o3_detailsF o3_count) s.heap.size (fun r => r.1) (fun r => wX2 J ki t t_starts t_startsF t_count t_shape t_step ++ wX7 kc o1 o1_characters o1_charactersF o1_length ++ wX0 kc ki o2 o2_letters o2_sizes r.2.1 r.2.2.1 r.2.2.2.1 ++ wX6 ki o3 o3_reasons o3_details r.2.2.2.2.1 r.2.2.2.2.2.1 r.2.2.2.2.2.2) res) args s 0 0 (va_A (wX2 J ki t t_starts t_startsF t_count t_shape t_step ++ wX7 kc o1 o1_characters o1_charactersF o1_length ++ wX0 kc ki o2 o2_letters o2_sizes o2_lettersF o2_sizesF o2_lines ++ wX6 ki o3 o3_reasons o3_details o3_reasonsF o3_detailsF o3_count) s.heap.size)) D (va_A (wX2 J ki t t_starts t_startsF t_count t_shape t_step ++ wX7 kc o1 o1_characters o1_charactersF o1_length ++ wX0 kc ki o2 o2_letters o2_sizes o2_lettersF o2_sizesF o2_lines ++ wX6 ki o3 o3_reasons o3_details o3_reasonsF o3_detailsF o3_count) s.heap.size) 5 0 0 3 [(0, .ref t), (1, .ref o1), (2, .ref o2), (3, .ref o3), (4, .int x4)] [] (wX2 J ki t t_starts t_startsF t_count t_shape t_step ++ wX7 kc o1 o1_characters o1_charactersF o1_length ++ wX0 kc ki o2 o2_letters o2_sizes q_o2_lettersF q_o2_sizesF q_o2_lines ++ wX6 ki o3 o3_reasons o3_details q_o3_reasonsF q_o3_detailsF q_o3_count) := by
    intro fuel
    induction fuel with
    | zero => intro x4 q_o2_lettersF q_o2_sizesF q_o2_lines q_o3_reasonsF q_o3_detailsF q_o3_count k hF hX; exact nomatch hF
    | succ fuel ih =>
      intro x4 q_o2_lettersF q_o2_sizesF q_o2_lines q_o3_reasonsF q_o3_detailsF q_o3_count k hF hX
      rw [f_X2_carryOut_L3] at hF
      refine a_iload C 4 dX2_carryOut_3 rfl ?_
      refine a_aload_n C 0 dX2_carryOut_5 rfl rfl ?_
      refine a_get C 0 1 iwX2 rfl rfl (by decide) kf_X2_15 rfl dX2_carryOut_6 ?_
      refine a_ic_ge C (tgt := 40) dX2_carryOut_9 (by decide) hF (fun c9_1 hF => ?_) (fun c9_1 hF => ?_)
      · refine a_sub C [] [] rfl ?_
        exact hX x4 q_o2_lettersF q_o2_sizesF q_o2_lines q_o3_reasonsF q_o3_detailsF q_o3_count hF
      refine a_aload_n C 0 dX2_carryOut_12 rfl rfl ?_
      refine a_aload_n C 1 dX2_carryOut_13 rfl rfl ?_
      refine a_iload C 4 dX2_carryOut_14 rfl ?_
      refine a_aload_n C 2 dX2_carryOut_16 rfl rfl ?_
      refine a_aload_n C 3 dX2_carryOut_17 rfl rfl ?_
      refine a_callVi C 4 [0, 1, 2, 3, 4, 5, 6, 7, 8, 9] 0 cs_X2_79 hd_X2_carryOutOne ⟨rfl, rfl⟩ ⟨Nat.le_of_ble_eq_true rfl, Nat.le_of_ble_eq_true rfl⟩ (fun r h => c_X2_carryOutOne l D J kc ki kb kl kd t t_starts o1 o1_characters o2 o2_letters o2_sizes o3 o3_reasons o3_details t_startsF t_count t_shape t_step o1_charactersF o1_length q_o2_lettersF q_o2_sizesF q_o2_lines q_o3_reasonsF q_o3_detailsF q_o3_count x4 r h) rfl rfl rfl (fun _ => rfl) rfl rfl rfl (Nat.le_of_ble_eq_true rfl) dX2_carryOut_18 ⟨Nat.zero_le _, Nat.zero_le _⟩ hF (fun r18_2 er18_2 hF => ?_)
      refine a_ws C (ws' := wX2 J ki t t_starts t_startsF t_count t_shape t_step ++ wX7 kc o1 o1_characters o1_charactersF o1_length ++ wX0 kc ki o2 o2_letters o2_sizes r18_2.2.1 r18_2.2.2.1 r18_2.2.2.2.1 ++ wX6 ki o3 o3_reasons o3_details r18_2.2.2.2.2.1 r18_2.2.2.2.2.2.1 r18_2.2.2.2.2.2.2) rfl ?_
      refine a_if_ne C (tgt := 34) dX2_carryOut_21 (by decide) hF (fun c21_3 hF => ?_) (fun c21_3 hF => ?_)
      · refine a_iinc C 4 [(4, .int (x4 + 1)), (0, .ref t), (1, .ref o1), (2, .ref o2), (3, .ref o3)] dX2_carryOut_34 rfl rfl (by decide) rfl ?_
        refine a_goto C (tgt := 3) dX2_carryOut_37 (by decide) ?_
        refine a_sub C [1, 2, 3, 4, 0] [(0, .ref t), (1, .ref o1), (2, .ref o2), (3, .ref o3), (4, .int (x4 + 1))] rfl ?_
        exact ih (x4 + 1) r18_2.2.1 r18_2.2.2.1 r18_2.2.2.2.1 r18_2.2.2.2.2.1 r18_2.2.2.2.2.2.1 r18_2.2.2.2.2.2.2 k hF hX
      refine a_aload_n C 3 dX2_carryOut_24 rfl rfl ?_
      refine a_bipush C (v := 10) dX2_carryOut_25 (by decide) ?_
      refine a_iload C 4 dX2_carryOut_27 rfl ?_
      refine a_callVv C 2 [7, 8, 9] 7 cs_X2_83 hd_X6_keepOnTop ⟨rfl, rfl⟩ ⟨Nat.le_of_ble_eq_true rfl, Nat.le_of_ble_eq_true rfl⟩ (fun r h => c_X6_keepOnTop l D J kc ki kb kl kd o3 o3_reasons o3_details r18_2.2.2.2.2.1 r18_2.2.2.2.2.2.1 r18_2.2.2.2.2.2.2 10 x4 r h) rfl rfl rfl (fun _ => rfl) rfl rfl rfl (Nat.le_of_ble_eq_true rfl) dX2_carryOut_29 ⟨Nat.zero_le _, Nat.zero_le _⟩ hF (fun r29_4 er29_4 hF => ?_)
      refine a_ws C (ws' := wX2 J ki t t_starts t_startsF t_count t_shape t_step ++ wX7 kc o1 o1_characters o1_charactersF o1_length ++ wX0 kc ki o2 o2_letters o2_sizes r18_2.2.1 r18_2.2.2.1 r18_2.2.2.2.1 ++ wX6 ki o3 o3_reasons o3_details r29_4.1 r29_4.2.1 r29_4.2.2) rfl ?_
      refine a_iconst C (v := 0) dX2_carryOut_32 (by decide) ?_
      exact a_iret C hr rfl dX2_carryOut_33 hF rfl rfl
  unfold f_X2_carryOut at hF
  refine a_iconst C (v := 0) dX2_carryOut_0 (by decide) ?_
  refine a_istore C [(4, .int 0), (0, .ref t), (1, .ref o1), (2, .ref o2), (3, .ref o3)] dX2_carryOut_1 (by decide) rfl ?_
  refine a_sub C [1, 2, 3, 4, 0] [(0, .ref t), (1, .ref o1), (2, .ref o2), (3, .ref o3), (4, .int 0)] rfl ?_
  refine hI3 1000 0 o2_lettersF o2_sizesF o2_lines o3_reasonsF o3_detailsF o3_count _ hF (fun x4_3_5 q_o2_lettersF_3_6 q_o2_sizesF_3_7 q_o2_lines_3_8 q_o3_reasonsF_3_9 q_o3_detailsF_3_10 q_o3_count_3_11 hF => ?_)
  refine a_iconst C (v := 1) dX2_carryOut_40 (by decide) ?_
  exact a_iret C hr rfl dX2_carryOut_41 hF rfl rfl
