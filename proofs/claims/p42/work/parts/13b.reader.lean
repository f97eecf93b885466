def f_X0_copyFrom (t_lettersF : Nat → Int32) (t_sizesF : Nat → Int32) (o1_lettersF : Nat → Int32) (o1_sizesF : Nat → Int32) (o1_lines : Int32) : Option ((Nat → Int32) × (Nat → Int32) × Int32) := (cpc o1_lettersF t_lettersF 80).bind fun g12_1 => (cpi o1_sizesF t_sizesF 8).bind fun g27_2 => some (g12_1, g27_2, o1_lines)
theorem hd_X0_copyFrom : yX0_copyFrom.cls = RX0 ∧ yX0_copyFrom.cls ≠ "java/lang/invoke/MethodHandle" ∧ yX0_copyFrom.cls ≠ "java/lang/invoke/VarHandle" ∧ (parseMethodDescriptor yX0_copyFrom.desc).map (fun d => d.parameters.length) = some 1 := by decide +kernel
set_option maxRecDepth 100000 in
set_option maxHeartbeats 4000000 in
theorem c_X0_copyFrom (l : Launch) (D : va_G) (J : JT) (kc ki kb kl kd : ClassId) (t : Nat) (t_letters : Nat) (t_sizes : Nat) (o1 : Nat) (o1_letters : Nat) (o1_sizes : Nat) (t_lettersF : Nat → Int32) (t_sizesF : Nat → Int32) (t_lines : Int32) (o1_lettersF : Nat → Int32) (o1_sizesF : Nat → Int32) (o1_lines : Int32) (res : (Nat → Int32) × (Nat → Int32) × Int32) (hF : f_X0_copyFrom t_lettersF t_sizesF o1_lettersF o1_sizesF o1_lines = some res) : aKv l yX0_copyFrom (aW yX0_copyFrom cX0_copyFrom 2 none) ({ frames := 1, cells := 0, slots := 0, locals := 60 } : Room) D J (aTy kc ki kb kl kd) [.ref t, .ref o1] (wX0 kc ki t t_letters t_sizes t_lettersF t_sizesF t_lines ++ wX0 kc ki o1 o1_letters o1_sizes o1_lettersF o1_sizesF o1_lines) (fun r => wX0 kc ki t t_letters t_sizes r.1 r.2.1 r.2.2 ++ wX0 kc ki o1 o1_letters o1_sizes o1_lettersF o1_sizesF o1_lines) res := by
  refine aKv_of (own := RX0) (by decide) rfl (Nat.le_of_ble_eq_true rfl) rfl ?_
  intro p e s m args below meth c C hr
  unfold f_X0_copyFrom at hF
  refine a_aload_n C 1 dX0_copyFrom_0 rfl rfl ?_
  refine a_get C 3 0 iwX0 rfl rfl (by decide) kf_X0_9 rfl dX0_copyFrom_1 ?_
  refine a_iconst C (v := 0) dX0_copyFrom_4 (by decide) ?_
  refine a_aload_n C 0 dX0_copyFrom_5 rfl rfl ?_
  refine a_get C 0 0 iwX0 rfl rfl (by decide) kf_X0_9 rfl dX0_copyFrom_6 ?_
  refine a_iconst C (v := 0) dX0_copyFrom_9 (by decide) ?_
  refine a_bipush C (v := 80) dX0_copyFrom_10 (by decide) ?_
  refine a_cpc C 4 1 0 rfl rfl rfl (by decide) kl_X0_47 ⟨Nat.le_of_ble_eq_true rfl, Nat.le_of_ble_eq_true rfl⟩ dX0_copyFrom_12 hF (fun g12_1 eg12_1 hF => ?_)
  refine a_ws C (ws' := wX0 kc ki t t_letters t_sizes g12_1 t_sizesF t_lines ++ wX0 kc ki o1 o1_letters o1_sizes o1_lettersF o1_sizesF o1_lines) rfl ?_
  refine a_aload_n C 1 dX0_copyFrom_15 rfl rfl ?_
  refine a_get C 3 1 iwX0 rfl rfl (by decide) kf_X0_15 rfl dX0_copyFrom_16 ?_
  refine a_iconst C (v := 0) dX0_copyFrom_19 (by decide) ?_
  refine a_aload_n C 0 dX0_copyFrom_20 rfl rfl ?_
  refine a_get C 0 1 iwX0 rfl rfl (by decide) kf_X0_15 rfl dX0_copyFrom_21 ?_
  refine a_iconst C (v := 0) dX0_copyFrom_24 (by decide) ?_
  refine a_bipush C (v := 8) dX0_copyFrom_25 (by decide) ?_
  refine a_cpi C 5 2 1 rfl rfl rfl (by decide) kl_X0_47 ⟨Nat.le_of_ble_eq_true rfl, Nat.le_of_ble_eq_true rfl⟩ dX0_copyFrom_27 hF (fun g27_2 eg27_2 hF => ?_)
  refine a_ws C (ws' := wX0 kc ki t t_letters t_sizes g12_1 g27_2 t_lines ++ wX0 kc ki o1 o1_letters o1_sizes o1_lettersF o1_sizesF o1_lines) rfl ?_
  refine a_aload_n C 0 dX0_copyFrom_30 rfl rfl ?_
  refine a_aload_n C 1 dX0_copyFrom_31 rfl rfl ?_
  refine a_get C 3 2 iwX0 rfl rfl (by decide) kf_X0_19 rfl dX0_copyFrom_32 ?_
  refine a_put C 0 2 iwX0 tyX0_ok nmX0 rfl rfl (by decide) kf_X0_19 rfl rfl rfl (Nat.le_of_ble_eq_true rfl) dX0_copyFrom_35 ?_
  refine a_ws C (ws' := wX0 kc ki t t_letters t_sizes g12_1 g27_2 o1_lines ++ wX0 kc ki o1 o1_letters o1_sizes o1_lettersF o1_sizesF o1_lines) rfl ?_
  exact a_vret C hr dX0_copyFrom_38 hF rfl
def f_X4_size (t_size : Int32) : Option Int32 := some t_size
theorem hd_X4_size : yX4_size.cls = RX4 ∧ yX4_size.cls ≠ "java/lang/invoke/MethodHandle" ∧ yX4_size.cls ≠ "java/lang/invoke/VarHandle" ∧ (parseMethodDescriptor yX4_size.desc).map (fun d => d.parameters.length) = some 0 := by decide +kernel
set_option maxRecDepth 100000 in
set_option maxHeartbeats 4000000 in
theorem c_X4_size (l : Launch) (D : va_G) (J : JT) (kc ki kb kl kd : ClassId) (t : Nat) (t_books : Nat) (t_B : Nat → Nat) (t_BL : Nat → Nat) (t_BZ : Nat → Nat) (t_HL : Nat → Nat → Int32) (t_HZ : Nat → Nat → Int32) (t_HN : Nat → Int32) (t_oldest : Int32) (t_size : Int32) (res : Int32) (hF : f_X4_size t_size = some res) : aKi l yX4_size (aW yX4_size cX4_size 1 ((some .int))) ({ frames := 0, cells := 0, slots := 0, locals := 0 } : Room) D J (aTy kc ki kb kl kd) [.ref t] (wX4 kc ki kb t t_books t_B t_BL t_BZ t_HL t_HZ t_HN t_oldest t_size) (fun r => r) (fun _ => wX4 kc ki kb t t_books t_B t_BL t_BZ t_HL t_HZ t_HN t_oldest t_size) res := by
  refine aKi_of (own := RX4) (by decide) rfl (Nat.le_of_ble_eq_true rfl) rfl ?_
  intro p e s m args below meth c C hr
  unfold f_X4_size at hF
  refine a_aload_n C 0 dX4_size_0 rfl rfl ?_
  refine a_get C 0 2 iwX4 rfl rfl (by decide) kf_X4_22 rfl dX4_size_1 ?_
  exact a_iret C hr rfl dX4_size_4 hF rfl rfl
theorem cs_X4_25 : GoodIn WW (wsV RX4 25 RX0 yX0_copyFrom (aW yX0_copyFrom cX0_copyFrom 2 none)) := gdV kl_X4_25 ki_X0_copyFrom kv_X0_copyFrom kn_X0 kc_X0_copyFrom
def f_X4_keep (t_HL : Nat → Nat → Int32) (t_HZ : Nat → Nat → Int32) (t_HN : Nat → Int32) (t_oldest : Int32) (t_size : Int32) (o1_lettersF : Nat → Int32) (o1_sizesF : Nat → Int32) (o1_lines : Int32) : Option ((Nat → Nat → Int32) × (Nat → Nat → Int32) × (Nat → Int32) × Int32 × Int32) := (hix ((t_oldest + t_size) - (t_oldest + t_size) / 8 * 8)).bind fun j16_1 => (f_X0_copyFrom (t_HL j16_1) (t_HZ j16_1) o1_lettersF o1_sizesF o1_lines).bind fun r18_2 => if 8 ≤ t_size then (some (va_up t_HL j16_1 r18_2.1, va_up t_HZ j16_1 r18_2.2.1, va_up t_HN j16_1 r18_2.2.2, (t_oldest + 1) - (t_oldest + 1) / 8 * 8, t_size)) else (some (va_up t_HL j16_1 r18_2.1, va_up t_HZ j16_1 r18_2.2.1, va_up t_HN j16_1 r18_2.2.2, t_oldest, t_size + 1))
theorem hd_X4_keep : yX4_keep.cls = RX4 ∧ yX4_keep.cls ≠ "java/lang/invoke/MethodHandle" ∧ yX4_keep.cls ≠ "java/lang/invoke/VarHandle" ∧ (parseMethodDescriptor yX4_keep.desc).map (fun d => d.parameters.length) = some 1 := by decide +kernel
set_option maxRecDepth 100000 in
set_option maxHeartbeats 4000000 in
theorem c_X4_keep (l : Launch) (D : va_G) (J : JT) (kc ki kb kl kd : ClassId) (t : Nat) (t_books : Nat) (t_B : Nat → Nat) (t_BL : Nat → Nat) (t_BZ : Nat → Nat) (o1 : Nat) (o1_letters : Nat) (o1_sizes : Nat) (t_HL : Nat → Nat → Int32) (t_HZ : Nat → Nat → Int32) (t_HN : Nat → Int32) (t_oldest : Int32) (t_size : Int32) (o1_lettersF : Nat → Int32) (o1_sizesF : Nat → Int32) (o1_lines : Int32) (res : (Nat → Nat → Int32) × (Nat → Nat → Int32) × (Nat → Int32) × Int32 × Int32) (hF : f_X4_keep t_HL t_HZ t_HN t_oldest t_size o1_lettersF o1_sizesF o1_lines = some res) : aKv l yX4_keep (aW yX4_keep cX4_keep 2 none) ({ frames := 2, cells := 0, slots := 0, locals := 81 } : Room) D J (aTy kc ki kb kl kd) [.ref t, .ref o1] (wX4 kc ki kb t t_books t_B t_BL t_BZ t_HL t_HZ t_HN t_oldest t_size ++ wX0 kc ki o1 o1_letters o1_sizes o1_lettersF o1_sizesF o1_lines) (fun r => wX4 kc ki kb t t_books t_B t_BL t_BZ r.1 r.2.1 r.2.2.1 r.2.2.2.1 r.2.2.2.2 ++ wX0 kc ki o1 o1_letters o1_sizes o1_lettersF o1_sizesF o1_lines) res := by
  refine aKv_of (own := RX4) (by decide) rfl (Nat.le_of_ble_eq_true rfl) rfl ?_
  intro p e s m args below meth c C hr
  unfold f_X4_keep at hF
  refine a_aload_n C 0 dX4_keep_0 rfl rfl ?_
  refine a_get C 0 0 iwX4 rfl rfl (by decide) kf_X4_11 rfl dX4_keep_1 ?_
  refine a_aload_n C 0 dX4_keep_4 rfl rfl ?_
  refine a_get C 0 1 iwX4 rfl rfl (by decide) kf_X4_18 rfl dX4_keep_5 ?_
  refine a_aload_n C 0 dX4_keep_8 rfl rfl ?_
  refine a_get C 0 2 iwX4 rfl rfl (by decide) kf_X4_22 rfl dX4_keep_9 ?_
  refine a_iadd C dX4_keep_12 ?_
  refine a_bipush C (v := 8) dX4_keep_13 (by decide) ?_
  refine a_irem C dX4_keep_15 (by decide) ?_
  refine a_aald C 1 2 rfl rfl dX4_keep_16 hF (fun j16_1 hj16_1 ej16_1 hF => ?_)
  refine a_aload_n C 1 dX4_keep_17 rfl rfl ?_
  rcases (show j16_1 = 0 ∨ j16_1 = 1 ∨ j16_1 = 2 ∨ j16_1 = 3 ∨ j16_1 = 4 ∨ j16_1 = 5 ∨ j16_1 = 6 ∨ j16_1 = 7 by omega) with rfl | rfl | rfl | rfl | rfl | rfl | rfl | rfl
  · refine a_callVv C 1 [2, 3, 4, 26, 27, 28] 2 cs_X4_25 hd_X0_copyFrom ⟨rfl, rfl⟩ ⟨Nat.le_of_ble_eq_true rfl, Nat.le_of_ble_eq_true rfl⟩ (fun r h => c_X0_copyFrom l D J kc ki kb kl kd (t_B 0) (t_BL 0) (t_BZ 0) o1 o1_letters o1_sizes (t_HL 0) (t_HZ 0) (t_HN 0) o1_lettersF o1_sizesF o1_lines r h) rfl rfl rfl (fun _ => rfl) rfl rfl rfl (Nat.le_of_ble_eq_true rfl) dX4_keep_18 ⟨Nat.zero_le _, Nat.zero_le _⟩ hF (fun r18_2 er18_2 hF => ?_)
    refine a_ws C (ws' := wX4 kc ki kb t t_books t_B t_BL t_BZ (va_up t_HL 0 r18_2.1) (va_up t_HZ 0 r18_2.2.1) (va_up t_HN 0 r18_2.2.2) t_oldest t_size ++ wX0 kc ki o1 o1_letters o1_sizes o1_lettersF o1_sizesF o1_lines) rfl ?_
    refine a_aload_n C 0 dX4_keep_21 rfl rfl ?_
    refine a_get C 0 2 iwX4 rfl rfl (by decide) kf_X4_22 rfl dX4_keep_22 ?_
    refine a_bipush C (v := 8) dX4_keep_25 (by decide) ?_
    refine a_ic_ge C (tgt := 43) dX4_keep_27 (by decide) hF (fun c27_3 hF => ?_) (fun c27_3 hF => ?_)
    · refine a_aload_n C 0 dX4_keep_43 rfl rfl ?_
      refine a_aload_n C 0 dX4_keep_44 rfl rfl ?_
      refine a_get C 0 1 iwX4 rfl rfl (by decide) kf_X4_18 rfl dX4_keep_45 ?_
      refine a_iconst C (v := 1) dX4_keep_48 (by decide) ?_
      refine a_iadd C dX4_keep_49 ?_
      refine a_bipush C (v := 8) dX4_keep_50 (by decide) ?_
      refine a_irem C dX4_keep_52 (by decide) ?_
      refine a_put C 0 1 iwX4 tyX4_ok nmX4 rfl rfl (by decide) kf_X4_18 rfl rfl rfl (Nat.le_of_ble_eq_true rfl) dX4_keep_53 ?_
      refine a_ws C (ws' := wX4 kc ki kb t t_books t_B t_BL t_BZ (va_up t_HL 0 r18_2.1) (va_up t_HZ 0 r18_2.2.1) (va_up t_HN 0 r18_2.2.2) ((t_oldest + 1) - (t_oldest + 1) / 8 * 8) t_size ++ wX0 kc ki o1 o1_letters o1_sizes o1_lettersF o1_sizesF o1_lines) rfl ?_
      exact a_vret C hr dX4_keep_56 hF rfl
    refine a_aload_n C 0 dX4_keep_30 rfl rfl ?_
    refine a_dup C dX4_keep_31 rfl ?_
    refine a_get C 0 2 iwX4 rfl rfl (by decide) kf_X4_22 rfl dX4_keep_32 ?_
    refine a_iconst C (v := 1) dX4_keep_35 (by decide) ?_
    refine a_iadd C dX4_keep_36 ?_
    refine a_put C 0 2 iwX4 tyX4_ok nmX4 rfl rfl (by decide) kf_X4_22 rfl rfl rfl (Nat.le_of_ble_eq_true rfl) dX4_keep_37 ?_
    refine a_ws C (ws' := wX4 kc ki kb t t_books t_B t_BL t_BZ (va_up t_HL 0 r18_2.1) (va_up t_HZ 0 r18_2.2.1) (va_up t_HN 0 r18_2.2.2) t_oldest (t_size + 1) ++ wX0 kc ki o1 o1_letters o1_sizes o1_lettersF o1_sizesF o1_lines) rfl ?_
    refine a_goto C (tgt := 56) dX4_keep_40 (by decide) ?_
    exact a_vret C hr dX4_keep_56 hF rfl
  · refine a_callVv C 1 [5, 6, 7, 26, 27, 28] 5 cs_X4_25 hd_X0_copyFrom ⟨rfl, rfl⟩ ⟨Nat.le_of_ble_eq_true rfl, Nat.le_of_ble_eq_true rfl⟩ (fun r h => c_X0_copyFrom l D J kc ki kb kl kd (t_B 1) (t_BL 1) (t_BZ 1) o1 o1_letters o1_sizes (t_HL 1) (t_HZ 1) (t_HN 1) o1_lettersF o1_sizesF o1_lines r h) rfl rfl rfl (fun _ => rfl) rfl rfl rfl (Nat.le_of_ble_eq_true rfl) dX4_keep_18 ⟨Nat.zero_le _, Nat.zero_le _⟩ hF (fun r18_2 er18_2 hF => ?_)
    refine a_ws C (ws' := wX4 kc ki kb t t_books t_B t_BL t_BZ (va_up t_HL 1 r18_2.1) (va_up t_HZ 1 r18_2.2.1) (va_up t_HN 1 r18_2.2.2) t_oldest t_size ++ wX0 kc ki o1 o1_letters o1_sizes o1_lettersF o1_sizesF o1_lines) rfl ?_
    refine a_aload_n C 0 dX4_keep_21 rfl rfl ?_
    refine a_get C 0 2 iwX4 rfl rfl (by decide) kf_X4_22 rfl dX4_keep_22 ?_
    refine a_bipush C (v := 8) dX4_keep_25 (by decide) ?_
    refine a_ic_ge C (tgt := 43) dX4_keep_27 (by decide) hF (fun c27_3 hF => ?_) (fun c27_3 hF => ?_)
    · refine a_aload_n C 0 dX4_keep_43 rfl rfl ?_
      refine a_aload_n C 0 dX4_keep_44 rfl rfl ?_
      refine a_get C 0 1 iwX4 rfl rfl (by decide) kf_X4_18 rfl dX4_keep_45 ?_
      refine a_iconst C (v := 1) dX4_keep_48 (by decide) ?_
      refine a_iadd C dX4_keep_49 ?_
      refine a_bipush C (v := 8) dX4_keep_50 (by decide) ?_
      refine a_irem C dX4_keep_52 (by decide) ?_
      refine a_put C 0 1 iwX4 tyX4_ok nmX4 rfl rfl (by decide) kf_X4_18 rfl rfl rfl (Nat.le_of_ble_eq_true rfl) dX4_keep_53 ?_
      refine a_ws C (ws' := wX4 kc ki kb t t_books t_B t_BL t_BZ (va_up t_HL 1 r18_2.1) (va_up t_HZ 1 r18_2.2.1) (va_up t_HN 1 r18_2.2.2) ((t_oldest + 1) - (t_oldest + 1) / 8 * 8) t_size ++ wX0 kc ki o1 o1_letters o1_sizes o1_lettersF o1_sizesF o1_lines) rfl ?_
      exact a_vret C hr dX4_keep_56 hF rfl
    refine a_aload_n C 0 dX4_keep_30 rfl rfl ?_
    refine a_dup C dX4_keep_31 rfl ?_
    refine a_get C 0 2 iwX4 rfl rfl (by decide) kf_X4_22 rfl dX4_keep_32 ?_
    refine a_iconst C (v := 1) dX4_keep_35 (by decide) ?_
    refine a_iadd C dX4_keep_36 ?_
    refine a_put C 0 2 iwX4 tyX4_ok nmX4 rfl rfl (by decide) kf_X4_22 rfl rfl rfl (Nat.le_of_ble_eq_true rfl) dX4_keep_37 ?_
    refine a_ws C (ws' := wX4 kc ki kb t t_books t_B t_BL t_BZ (va_up t_HL 1 r18_2.1) (va_up t_HZ 1 r18_2.2.1) (va_up t_HN 1 r18_2.2.2) t_oldest (t_size + 1) ++ wX0 kc ki o1 o1_letters o1_sizes o1_lettersF o1_sizesF o1_lines) rfl ?_
    refine a_goto C (tgt := 56) dX4_keep_40 (by decide) ?_
    exact a_vret C hr dX4_keep_56 hF rfl
  · refine a_callVv C 1 [8, 9, 10, 26, 27, 28] 8 cs_X4_25 hd_X0_copyFrom ⟨rfl, rfl⟩ ⟨Nat.le_of_ble_eq_true rfl, Nat.le_of_ble_eq_true rfl⟩ (fun r h => c_X0_copyFrom l D J kc ki kb kl kd (t_B 2) (t_BL 2) (t_BZ 2) o1 o1_letters o1_sizes (t_HL 2) (t_HZ 2) (t_HN 2) o1_lettersF o1_sizesF o1_lines r h) rfl rfl rfl (fun _ => rfl) rfl rfl rfl (Nat.le_of_ble_eq_true rfl) dX4_keep_18 ⟨Nat.zero_le _, Nat.zero_le _⟩ hF (fun r18_2 er18_2 hF => ?_)
    refine a_ws C (ws' := wX4 kc ki kb t t_books t_B t_BL t_BZ (va_up t_HL 2 r18_2.1) (va_up t_HZ 2 r18_2.2.1) (va_up t_HN 2 r18_2.2.2) t_oldest t_size ++ wX0 kc ki o1 o1_letters o1_sizes o1_lettersF o1_sizesF o1_lines) rfl ?_
    refine a_aload_n C 0 dX4_keep_21 rfl rfl ?_
    refine a_get C 0 2 iwX4 rfl rfl (by decide) kf_X4_22 rfl dX4_keep_22 ?_
    refine a_bipush C (v := 8) dX4_keep_25 (by decide) ?_
    refine a_ic_ge C (tgt := 43) dX4_keep_27 (by decide) hF (fun c27_3 hF => ?_) (fun c27_3 hF => ?_)
    · refine a_aload_n C 0 dX4_keep_43 rfl rfl ?_
      refine a_aload_n C 0 dX4_keep_44 rfl rfl ?_
      refine a_get C 0 1 iwX4 rfl rfl (by decide) kf_X4_18 rfl dX4_keep_45 ?_
      refine a_iconst C (v := 1) dX4_keep_48 (by decide) ?_
      refine a_iadd C dX4_keep_49 ?_
      refine a_bipush C (v := 8) dX4_keep_50 (by decide) ?_
      refine a_irem C dX4_keep_52 (by decide) ?_
      refine a_put C 0 1 iwX4 tyX4_ok nmX4 rfl rfl (by decide) kf_X4_18 rfl rfl rfl (Nat.le_of_ble_eq_true rfl) dX4_keep_53 ?_
      refine a_ws C (ws' := wX4 kc ki kb t t_books t_B t_BL t_BZ (va_up t_HL 2 r18_2.1) (va_up t_HZ 2 r18_2.2.1) (va_up t_HN 2 r18_2.2.2) ((t_oldest + 1) - (t_oldest + 1) / 8 * 8) t_size ++ wX0 kc ki o1 o1_letters o1_sizes o1_lettersF o1_sizesF o1_lines) rfl ?_
      exact a_vret C hr dX4_keep_56 hF rfl
    refine a_aload_n C 0 dX4_keep_30 rfl rfl ?_
    refine a_dup C dX4_keep_31 rfl ?_
    refine a_get C 0 2 iwX4 rfl rfl (by decide) kf_X4_22 rfl dX4_keep_32 ?_
    refine a_iconst C (v := 1) dX4_keep_35 (by decide) ?_
    refine a_iadd C dX4_keep_36 ?_
    refine a_put C 0 2 iwX4 tyX4_ok nmX4 rfl rfl (by decide) kf_X4_22 rfl rfl rfl (Nat.le_of_ble_eq_true rfl) dX4_keep_37 ?_
    refine a_ws C (ws' := wX4 kc ki kb t t_books t_B t_BL t_BZ (va_up t_HL 2 r18_2.1) (va_up t_HZ 2 r18_2.2.1) (va_up t_HN 2 r18_2.2.2) t_oldest (t_size + 1) ++ wX0 kc ki o1 o1_letters o1_sizes o1_lettersF o1_sizesF o1_lines) rfl ?_
    refine a_goto C (tgt := 56) dX4_keep_40 (by decide) ?_
    exact a_vret C hr dX4_keep_56 hF rfl
  · refine a_callVv C 1 [11, 12, 13, 26, 27, 28] 11 cs_X4_25 hd_X0_copyFrom ⟨rfl, rfl⟩ ⟨Nat.le_of_ble_eq_true rfl, Nat.le_of_ble_eq_true rfl⟩ (fun r h => c_X0_copyFrom l D J kc ki kb kl kd (t_B 3) (t_BL 3) (t_BZ 3) o1 o1_letters o1_sizes (t_HL 3) (t_HZ 3) (t_HN 3) o1_lettersF o1_sizesF o1_lines r h) rfl rfl rfl (fun _ => rfl) rfl rfl rfl (Nat.le_of_ble_eq_true rfl) dX4_keep_18 ⟨Nat.zero_le _, Nat.zero_le _⟩ hF (fun r18_2 er18_2 hF => ?_)
    refine a_ws C (ws' := wX4 kc ki kb t t_books t_B t_BL t_BZ (va_up t_HL 3 r18_2.1) (va_up t_HZ 3 r18_2.2.1) (va_up t_HN 3 r18_2.2.2) t_oldest t_size ++ wX0 kc ki o1 o1_letters o1_sizes o1_lettersF o1_sizesF o1_lines) rfl ?_
    refine a_aload_n C 0 dX4_keep_21 rfl rfl ?_
    refine a_get C 0 2 iwX4 rfl rfl (by decide) kf_X4_22 rfl dX4_keep_22 ?_
    refine a_bipush C (v := 8) dX4_keep_25 (by decide) ?_
    refine a_ic_ge C (tgt := 43) dX4_keep_27 (by decide) hF (fun c27_3 hF => ?_) (fun c27_3 hF => ?_)
    · refine a_aload_n C 0 dX4_keep_43 rfl rfl ?_
      refine a_aload_n C 0 dX4_keep_44 rfl rfl ?_
      refine a_get C 0 1 iwX4 rfl rfl (by decide) kf_X4_18 rfl dX4_keep_45 ?_
      refine a_iconst C (v := 1) dX4_keep_48 (by decide) ?_
      refine a_iadd C dX4_keep_49 ?_
      refine a_bipush C (v := 8) dX4_keep_50 (by decide) ?_
      refine a_irem C dX4_keep_52 (by decide) ?_
      refine a_put C 0 1 iwX4 tyX4_ok nmX4 rfl rfl (by decide) kf_X4_18 rfl rfl rfl (Nat.le_of_ble_eq_true rfl) dX4_keep_53 ?_
      refine a_ws C (ws' := wX4 kc ki kb t t_books t_B t_BL t_BZ (va_up t_HL 3 r18_2.1) (va_up t_HZ 3 r18_2.2.1) (va_up t_HN 3 r18_2.2.2) ((t_oldest + 1) - (t_oldest + 1) / 8 * 8) t_size ++ wX0 kc ki o1 o1_letters o1_sizes o1_lettersF o1_sizesF o1_lines) rfl ?_
      exact a_vret C hr dX4_keep_56 hF rfl
    refine a_aload_n C 0 dX4_keep_30 rfl rfl ?_
    refine a_dup C dX4_keep_31 rfl ?_
    refine a_get C 0 2 iwX4 rfl rfl (by decide) kf_X4_22 rfl dX4_keep_32 ?_
    refine a_iconst C (v := 1) dX4_keep_35 (by decide) ?_
    refine a_iadd C dX4_keep_36 ?_
    refine a_put C 0 2 iwX4 tyX4_ok nmX4 rfl rfl (by decide) kf_X4_22 rfl rfl rfl (Nat.le_of_ble_eq_true rfl) dX4_keep_37 ?_
    refine a_ws C (ws' := wX4 kc ki kb t t_books t_B t_BL t_BZ (va_up t_HL 3 r18_2.1) (va_up t_HZ 3 r18_2.2.1) (va_up t_HN 3 r18_2.2.2) t_oldest (t_size + 1) ++ wX0 kc ki o1 o1_letters o1_sizes o1_lettersF o1_sizesF o1_lines) rfl ?_
    refine a_goto C (tgt := 56) dX4_keep_40 (by decide) ?_
    exact a_vret C hr dX4_keep_56 hF rfl
  · refine a_callVv C 1 [14, 15, 16, 26, 27, 28] 14 cs_X4_25 hd_X0_copyFrom ⟨rfl, rfl⟩ ⟨Nat.le_of_ble_eq_true rfl, Nat.le_of_ble_eq_true rfl⟩ (fun r h => c_X0_copyFrom l D J kc ki kb kl kd (t_B 4) (t_BL 4) (t_BZ 4) o1 o1_letters o1_sizes (t_HL 4) (t_HZ 4) (t_HN 4) o1_lettersF o1_sizesF o1_lines r h) rfl rfl rfl (fun _ => rfl) rfl rfl rfl (Nat.le_of_ble_eq_true rfl) dX4_keep_18 ⟨Nat.zero_le _, Nat.zero_le _⟩ hF (fun r18_2 er18_2 hF => ?_)
    refine a_ws C (ws' := wX4 kc ki kb t t_books t_B t_BL t_BZ (va_up t_HL 4 r18_2.1) (va_up t_HZ 4 r18_2.2.1) (va_up t_HN 4 r18_2.2.2) t_oldest t_size ++ wX0 kc ki o1 o1_letters o1_sizes o1_lettersF o1_sizesF o1_lines) rfl ?_
    refine a_aload_n C 0 dX4_keep_21 rfl rfl ?_
    refine a_get C 0 2 iwX4 rfl rfl (by decide) kf_X4_22 rfl dX4_keep_22 ?_
    refine a_bipush C (v := 8) dX4_keep_25 (by decide) ?_
    refine a_ic_ge C (tgt := 43) dX4_keep_27 (by decide) hF (fun c27_3 hF => ?_) (fun c27_3 hF => ?_)
    · refine a_aload_n C 0 dX4_keep_43 rfl rfl ?_
      refine a_aload_n C 0 dX4_keep_44 rfl rfl ?_
      refine a_get C 0 1 iwX4 rfl rfl (by decide) kf_X4_18 rfl dX4_keep_45 ?_
      refine a_iconst C (v := 1) dX4_keep_48 (by decide) ?_
      refine a_iadd C dX4_keep_49 ?_
      refine a_bipush C (v := 8) dX4_keep_50 (by decide) ?_
      refine a_irem C dX4_keep_52 (by decide) ?_
      refine a_put C 0 1 iwX4 tyX4_ok nmX4 rfl rfl (by decide) kf_X4_18 rfl rfl rfl (Nat.le_of_ble_eq_true rfl) dX4_keep_53 ?_
      refine a_ws C (ws' := wX4 kc ki kb t t_books t_B t_BL t_BZ (va_up t_HL 4 r18_2.1) (va_up t_HZ 4 r18_2.2.1) (va_up t_HN 4 r18_2.2.2) ((t_oldest + 1) - (t_oldest + 1) / 8 * 8) t_size ++ wX0 kc ki o1 o1_letters o1_sizes o1_lettersF o1_sizesF o1_lines) rfl ?_
      exact a_vret C hr dX4_keep_56 hF rfl
    refine a_aload_n C 0 dX4_keep_30 rfl rfl ?_
    refine a_dup C dX4_keep_31 rfl ?_
    refine a_get C 0 2 iwX4 rfl rfl (by decide) kf_X4_22 rfl dX4_keep_32 ?_
    refine a_iconst C (v := 1) dX4_keep_35 (by decide) ?_
    refine a_iadd C dX4_keep_36 ?_
    refine a_put C 0 2 iwX4 tyX4_ok nmX4 rfl rfl (by decide) kf_X4_22 rfl rfl rfl (Nat.le_of_ble_eq_true rfl) dX4_keep_37 ?_
    refine a_ws C (ws' := wX4 kc ki kb t t_books t_B t_BL t_BZ (va_up t_HL 4 r18_2.1) (va_up t_HZ 4 r18_2.2.1) (va_up t_HN 4 r18_2.2.2) t_oldest (t_size + 1) ++ wX0 kc ki o1 o1_letters o1_sizes o1_lettersF o1_sizesF o1_lines) rfl ?_
    refine a_goto C (tgt := 56) dX4_keep_40 (by decide) ?_
    exact a_vret C hr dX4_keep_56 hF rfl
  · refine a_callVv C 1 [17, 18, 19, 26, 27, 28] 17 cs_X4_25 hd_X0_copyFrom ⟨rfl, rfl⟩ ⟨Nat.le_of_ble_eq_true rfl, Nat.le_of_ble_eq_true rfl⟩ (fun r h => c_X0_copyFrom l D J kc ki kb kl kd (t_B 5) (t_BL 5) (t_BZ 5) o1 o1_letters o1_sizes (t_HL 5) (t_HZ 5) (t_HN 5) o1_lettersF o1_sizesF o1_lines r h) rfl rfl rfl (fun _ => rfl) rfl rfl rfl (Nat.le_of_ble_eq_true rfl) dX4_keep_18 ⟨Nat.zero_le _, Nat.zero_le _⟩ hF (fun r18_2 er18_2 hF => ?_)
    refine a_ws C (ws' := wX4 kc ki kb t t_books t_B t_BL t_BZ (va_up t_HL 5 r18_2.1) (va_up t_HZ 5 r18_2.2.1) (va_up t_HN 5 r18_2.2.2) t_oldest t_size ++ wX0 kc ki o1 o1_letters o1_sizes o1_lettersF o1_sizesF o1_lines) rfl ?_
    refine a_aload_n C 0 dX4_keep_21 rfl rfl ?_
    refine a_get C 0 2 iwX4 rfl rfl (by decide) kf_X4_22 rfl dX4_keep_22 ?_
    refine a_bipush C (v := 8) dX4_keep_25 (by decide) ?_
    refine a_ic_ge C (tgt := 43) dX4_keep_27 (by decide) hF (fun c27_3 hF => ?_) (fun c27_3 hF => ?_)
    · refine a_aload_n C 0 dX4_keep_43 rfl rfl ?_
      refine a_aload_n C 0 dX4_keep_44 rfl rfl ?_
      refine a_get C 0 1 iwX4 rfl rfl (by decide) kf_X4_18 rfl dX4_keep_45 ?_
      refine a_iconst C (v := 1) dX4_keep_48 (by decide) ?_
      refine a_iadd C dX4_keep_49 ?_
      refine a_bipush C (v := 8) dX4_keep_50 (by decide) ?_
      refine a_irem C dX4_keep_52 (by decide) ?_
      refine a_put C 0 1 iwX4 tyX4_ok nmX4 rfl rfl (by decide) kf_X4_18 rfl rfl rfl (Nat.le_of_ble_eq_true rfl) dX4_keep_53 ?_
      refine a_ws C (ws' := wX4 kc ki kb t t_books t_B t_BL t_BZ (va_up t_HL 5 r18_2.1) (va_up t_HZ 5 r18_2.2.1) (va_up t_HN 5 r18_2.2.2) ((t_oldest + 1) - (t_oldest + 1) / 8 * 8) t_size ++ wX0 kc ki o1 o1_letters o1_sizes o1_lettersF o1_sizesF o1_lines) rfl ?_
      exact a_vret C hr dX4_keep_56 hF rfl
    refine a_aload_n C 0 dX4_keep_30 rfl rfl ?_
    refine a_dup C dX4_keep_31 rfl ?_
    refine a_get C 0 2 iwX4 rfl rfl (by decide) kf_X4_22 rfl dX4_keep_32 ?_
    refine a_iconst C (v := 1) dX4_keep_35 (by decide) ?_
    refine a_iadd C dX4_keep_36 ?_
    refine a_put C 0 2 iwX4 tyX4_ok nmX4 rfl rfl (by decide) kf_X4_22 rfl rfl rfl (Nat.le_of_ble_eq_true rfl) dX4_keep_37 ?_
    refine a_ws C (ws' := wX4 kc ki kb t t_books t_B t_BL t_BZ (va_up t_HL 5 r18_2.1) (va_up t_HZ 5 r18_2.2.1) (va_up t_HN 5 r18_2.2.2) t_oldest (t_size + 1) ++ wX0 kc ki o1 o1_letters o1_sizes o1_lettersF o1_sizesF o1_lines) rfl ?_
    refine a_goto C (tgt := 56) dX4_keep_40 (by decide) ?_
    exact a_vret C hr dX4_keep_56 hF rfl
  · refine a_callVv C 1 [20, 21, 22, 26, 27, 28] 20 cs_X4_25 hd_X0_copyFrom ⟨rfl, rfl⟩ ⟨Nat.le_of_ble_eq_true rfl, Nat.le_of_ble_eq_true rfl⟩ (fun r h => c_X0_copyFrom l D J kc ki kb kl kd (t_B 6) (t_BL 6) (t_BZ 6) o1 o1_letters o1_sizes (t_HL 6) (t_HZ 6) (t_HN 6) o1_lettersF o1_sizesF o1_lines r h) rfl rfl rfl (fun _ => rfl) rfl rfl rfl (Nat.le_of_ble_eq_true rfl) dX4_keep_18 ⟨Nat.zero_le _, Nat.zero_le _⟩ hF (fun r18_2 er18_2 hF => ?_)
    refine a_ws C (ws' := wX4 kc ki kb t t_books t_B t_BL t_BZ (va_up t_HL 6 r18_2.1) (va_up t_HZ 6 r18_2.2.1) (va_up t_HN 6 r18_2.2.2) t_oldest t_size ++ wX0 kc ki o1 o1_letters o1_sizes o1_lettersF o1_sizesF o1_lines) rfl ?_
    refine a_aload_n C 0 dX4_keep_21 rfl rfl ?_
    refine a_get C 0 2 iwX4 rfl rfl (by decide) kf_X4_22 rfl dX4_keep_22 ?_
    refine a_bipush C (v := 8) dX4_keep_25 (by decide) ?_
    refine a_ic_ge C (tgt := 43) dX4_keep_27 (by decide) hF (fun c27_3 hF => ?_) (fun c27_3 hF => ?_)
    · refine a_aload_n C 0 dX4_keep_43 rfl rfl ?_
      refine a_aload_n C 0 dX4_keep_44 rfl rfl ?_
      refine a_get C 0 1 iwX4 rfl rfl (by decide) kf_X4_18 rfl dX4_keep_45 ?_
      refine a_iconst C (v := 1) dX4_keep_48 (by decide) ?_
      refine a_iadd C dX4_keep_49 ?_
      refine a_bipush C (v := 8) dX4_keep_50 (by decide) ?_
      refine a_irem C dX4_keep_52 (by decide) ?_
      refine a_put C 0 1 iwX4 tyX4_ok nmX4 rfl rfl (by decide) kf_X4_18 rfl rfl rfl (Nat.le_of_ble_eq_true rfl) dX4_keep_53 ?_
      refine a_ws C (ws' := wX4 kc ki kb t t_books t_B t_BL t_BZ (va_up t_HL 6 r18_2.1) (va_up t_HZ 6 r18_2.2.1) (va_up t_HN 6 r18_2.2.2) ((t_oldest + 1) - (t_oldest + 1) / 8 * 8) t_size ++ wX0 kc ki o1 o1_letters o1_sizes o1_lettersF o1_sizesF o1_lines) rfl ?_
      exact a_vret C hr dX4_keep_56 hF rfl
    refine a_aload_n C 0 dX4_keep_30 rfl rfl ?_
    refine a_dup C dX4_keep_31 rfl ?_
    refine a_get C 0 2 iwX4 rfl rfl (by decide) kf_X4_22 rfl dX4_keep_32 ?_
    refine a_iconst C (v := 1) dX4_keep_35 (by decide) ?_
    refine a_iadd C dX4_keep_36 ?_
    refine a_put C 0 2 iwX4 tyX4_ok nmX4 rfl rfl (by decide) kf_X4_22 rfl rfl rfl (Nat.le_of_ble_eq_true rfl) dX4_keep_37 ?_
    refine a_ws C (ws' := wX4 kc ki kb t t_books t_B t_BL t_BZ (va_up t_HL 6 r18_2.1) (va_up t_HZ 6 r18_2.2.1) (va_up t_HN 6 r18_2.2.2) t_oldest (t_size + 1) ++ wX0 kc ki o1 o1_letters o1_sizes o1_lettersF o1_sizesF o1_lines) rfl ?_
    refine a_goto C (tgt := 56) dX4_keep_40 (by decide) ?_
    exact a_vret C hr dX4_keep_56 hF rfl
  · refine a_callVv C 1 [23, 24, 25, 26, 27, 28] 23 cs_X4_25 hd_X0_copyFrom ⟨rfl, rfl⟩ ⟨Nat.le_of_ble_eq_true rfl, Nat.le_of_ble_eq_true rfl⟩ (fun r h => c_X0_copyFrom l D J kc ki kb kl kd (t_B 7) (t_BL 7) (t_BZ 7) o1 o1_letters o1_sizes (t_HL 7) (t_HZ 7) (t_HN 7) o1_lettersF o1_sizesF o1_lines r h) rfl rfl rfl (fun _ => rfl) rfl rfl rfl (Nat.le_of_ble_eq_true rfl) dX4_keep_18 ⟨Nat.zero_le _, Nat.zero_le _⟩ hF (fun r18_2 er18_2 hF => ?_)
    refine a_ws C (ws' := wX4 kc ki kb t t_books t_B t_BL t_BZ (va_up t_HL 7 r18_2.1) (va_up t_HZ 7 r18_2.2.1) (va_up t_HN 7 r18_2.2.2) t_oldest t_size ++ wX0 kc ki o1 o1_letters o1_sizes o1_lettersF o1_sizesF o1_lines) rfl ?_
    refine a_aload_n C 0 dX4_keep_21 rfl rfl ?_
    refine a_get C 0 2 iwX4 rfl rfl (by decide) kf_X4_22 rfl dX4_keep_22 ?_
    refine a_bipush C (v := 8) dX4_keep_25 (by decide) ?_
    refine a_ic_ge C (tgt := 43) dX4_keep_27 (by decide) hF (fun c27_3 hF => ?_) (fun c27_3 hF => ?_)
    · refine a_aload_n C 0 dX4_keep_43 rfl rfl ?_
      refine a_aload_n C 0 dX4_keep_44 rfl rfl ?_
      refine a_get C 0 1 iwX4 rfl rfl (by decide) kf_X4_18 rfl dX4_keep_45 ?_
      refine a_iconst C (v := 1) dX4_keep_48 (by decide) ?_
      refine a_iadd C dX4_keep_49 ?_
      refine a_bipush C (v := 8) dX4_keep_50 (by decide) ?_
      refine a_irem C dX4_keep_52 (by decide) ?_
      refine a_put C 0 1 iwX4 tyX4_ok nmX4 rfl rfl (by decide) kf_X4_18 rfl rfl rfl (Nat.le_of_ble_eq_true rfl) dX4_keep_53 ?_
      refine a_ws C (ws' := wX4 kc ki kb t t_books t_B t_BL t_BZ (va_up t_HL 7 r18_2.1) (va_up t_HZ 7 r18_2.2.1) (va_up t_HN 7 r18_2.2.2) ((t_oldest + 1) - (t_oldest + 1) / 8 * 8) t_size ++ wX0 kc ki o1 o1_letters o1_sizes o1_lettersF o1_sizesF o1_lines) rfl ?_
      exact a_vret C hr dX4_keep_56 hF rfl
    refine a_aload_n C 0 dX4_keep_30 rfl rfl ?_
    refine a_dup C dX4_keep_31 rfl ?_
    refine a_get C 0 2 iwX4 rfl rfl (by decide) kf_X4_22 rfl dX4_keep_32 ?_
    refine a_iconst C (v := 1) dX4_keep_35 (by decide) ?_
    refine a_iadd C dX4_keep_36 ?_
    refine a_put C 0 2 iwX4 tyX4_ok nmX4 rfl rfl (by decide) kf_X4_22 rfl rfl rfl (Nat.le_of_ble_eq_true rfl) dX4_keep_37 ?_
    refine a_ws C (ws' := wX4 kc ki kb t t_books t_B t_BL t_BZ (va_up t_HL 7 r18_2.1) (va_up t_HZ 7 r18_2.2.1) (va_up t_HN 7 r18_2.2.2) t_oldest (t_size + 1) ++ wX0 kc ki o1 o1_letters o1_sizes o1_lettersF o1_sizesF o1_lines) rfl ?_
    refine a_goto C (tgt := 56) dX4_keep_40 (by decide) ?_
    exact a_vret C hr dX4_keep_56 hF rfl
def f_J6_bitCount_0f7a4 (p0 : Int32) : Option Int32 := some ((((((((p0 - ((ush p0 1) &&& 1431655765)) &&& 858993459) + ((ush (p0 - ((ush p0 1) &&& 1431655765)) 2) &&& 858993459)) + (ush (((p0 - ((ush p0 1) &&& 1431655765)) &&& 858993459) + ((ush (p0 - ((ush p0 1) &&& 1431655765)) 2) &&& 858993459)) 4)) &&& 252645135) + (ush (((((p0 - ((ush p0 1) &&& 1431655765)) &&& 858993459) + ((ush (p0 - ((ush p0 1) &&& 1431655765)) 2) &&& 858993459)) + (ush (((p0 - ((ush p0 1) &&& 1431655765)) &&& 858993459) + ((ush (p0 - ((ush p0 1) &&& 1431655765)) 2) &&& 858993459)) 4)) &&& 252645135) 8)) + (ush ((((((p0 - ((ush p0 1) &&& 1431655765)) &&& 858993459) + ((ush (p0 - ((ush p0 1) &&& 1431655765)) 2) &&& 858993459)) + (ush (((p0 - ((ush p0 1) &&& 1431655765)) &&& 858993459) + ((ush (p0 - ((ush p0 1) &&& 1431655765)) 2) &&& 858993459)) 4)) &&& 252645135) + (ush (((((p0 - ((ush p0 1) &&& 1431655765)) &&& 858993459) + ((ush (p0 - ((ush p0 1) &&& 1431655765)) 2) &&& 858993459)) + (ush (((p0 - ((ush p0 1) &&& 1431655765)) &&& 858993459) + ((ush (p0 - ((ush p0 1) &&& 1431655765)) 2) &&& 858993459)) 4)) &&& 252645135) 8)) 16)) &&& 63)
theorem hd_J6_bitCount_0f7a4 : yJ6_bitCount_0f7a4.cls ≠ "java/lang/invoke/MethodHandle" ∧ yJ6_bitCount_0f7a4.cls ≠ "java/lang/invoke/VarHandle" ∧ (parseMethodDescriptor yJ6_bitCount_0f7a4.desc).map (fun d => d.parameters.length) = some 1 := by decide +kernel
set_option maxRecDepth 100000 in
set_option maxHeartbeats 4000000 in
theorem c_J6_bitCount_0f7a4 (l : Launch) (D : va_G) (J : JT) (kc ki kb kl kd : ClassId) (p0 : Int32) (res : Int32) (hF : f_J6_bitCount_0f7a4 p0 = some res) : aKi l yJ6_bitCount_0f7a4 (aW yJ6_bitCount_0f7a4 cJ6_bitCount_0f7a4 1 ((some .int))) ({ frames := 0, cells := 0, slots := 0, locals := 0 } : Room) D J (aTy kc ki kb kl kd) [.int p0] ([]) (fun r => r) (fun _ => []) res := by
  refine aKi_of (own := RJ6) (by decide) rfl (Nat.le_of_ble_eq_true rfl) rfl ?_
  intro p e s m args below meth c C hr
  unfold f_J6_bitCount_0f7a4 at hF
  refine a_iload_n C 0 dJ6_bitCount_0f7a4_0 rfl rfl ?_
  refine a_iload_n C 0 dJ6_bitCount_0f7a4_1 rfl rfl ?_
  refine a_iconst C (v := 1) dJ6_bitCount_0f7a4_2 (by decide) ?_
  refine a_iushr C dJ6_bitCount_0f7a4_3 ?_
  refine a_ldcw C (v := 1431655765) kj_265 dJ6_bitCount_0f7a4_4 ?_
  refine a_iand C dJ6_bitCount_0f7a4_7 ?_
  refine a_isub C dJ6_bitCount_0f7a4_8 ?_
  refine a_istore_n C [(0, .int (p0 - ((ush p0 1) &&& 1431655765)))] dJ6_bitCount_0f7a4_9 rfl (by decide) rfl ?_
  refine a_iload_n C 0 dJ6_bitCount_0f7a4_10 rfl rfl ?_
  refine a_ldcw C (v := 858993459) kj_266 dJ6_bitCount_0f7a4_11 ?_
  refine a_iand C dJ6_bitCount_0f7a4_14 ?_
  refine a_iload_n C 0 dJ6_bitCount_0f7a4_15 rfl rfl ?_
  refine a_iconst C (v := 2) dJ6_bitCount_0f7a4_16 (by decide) ?_
  refine a_iushr C dJ6_bitCount_0f7a4_17 ?_
  refine a_ldcw C (v := 858993459) kj_266 dJ6_bitCount_0f7a4_18 ?_
  refine a_iand C dJ6_bitCount_0f7a4_21 ?_
  refine a_iadd C dJ6_bitCount_0f7a4_22 ?_
  refine a_istore_n C [(0, .int (((p0 - ((ush p0 1) &&& 1431655765)) &&& 858993459) + ((ush (p0 - ((ush p0 1) &&& 1431655765)) 2) &&& 858993459)))] dJ6_bitCount_0f7a4_23 rfl (by decide) rfl ?_
  refine a_iload_n C 0 dJ6_bitCount_0f7a4_24 rfl rfl ?_
  refine a_iload_n C 0 dJ6_bitCount_0f7a4_25 rfl rfl ?_
  refine a_iconst C (v := 4) dJ6_bitCount_0f7a4_26 (by decide) ?_
  refine a_iushr C dJ6_bitCount_0f7a4_27 ?_
  refine a_iadd C dJ6_bitCount_0f7a4_28 ?_
  refine a_ldcw C (v := 252645135) kj_267 dJ6_bitCount_0f7a4_29 ?_
  refine a_iand C dJ6_bitCount_0f7a4_32 ?_
  refine a_istore_n C [(0, .int (((((p0 - ((ush p0 1) &&& 1431655765)) &&& 858993459) + ((ush (p0 - ((ush p0 1) &&& 1431655765)) 2) &&& 858993459)) + (ush (((p0 - ((ush p0 1) &&& 1431655765)) &&& 858993459) + ((ush (p0 - ((ush p0 1) &&& 1431655765)) 2) &&& 858993459)) 4)) &&& 252645135))] dJ6_bitCount_0f7a4_33 rfl (by decide) rfl ?_
  refine a_iload_n C 0 dJ6_bitCount_0f7a4_34 rfl rfl ?_
  refine a_iload_n C 0 dJ6_bitCount_0f7a4_35 rfl rfl ?_
  refine a_bipush C (v := 8) dJ6_bitCount_0f7a4_36 (by decide) ?_
  refine a_iushr C dJ6_bitCount_0f7a4_38 ?_
  refine a_iadd C dJ6_bitCount_0f7a4_39 ?_
  refine a_istore_n C [(0, .int ((((((p0 - ((ush p0 1) &&& 1431655765)) &&& 858993459) + ((ush (p0 - ((ush p0 1) &&& 1431655765)) 2) &&& 858993459)) + (ush (((p0 - ((ush p0 1) &&& 1431655765)) &&& 858993459) + ((ush (p0 - ((ush p0 1) &&& 1431655765)) 2) &&& 858993459)) 4)) &&& 252645135) + (ush (((((p0 - ((ush p0 1) &&& 1431655765)) &&& 858993459) + ((ush (p0 - ((ush p0 1) &&& 1431655765)) 2) &&& 858993459)) + (ush (((p0 - ((ush p0 1) &&& 1431655765)) &&& 858993459) + ((ush (p0 - ((ush p0 1) &&& 1431655765)) 2) &&& 858993459)) 4)) &&& 252645135) 8)))] dJ6_bitCount_0f7a4_40 rfl (by decide) rfl ?_
  refine a_iload_n C 0 dJ6_bitCount_0f7a4_41 rfl rfl ?_
  refine a_iload_n C 0 dJ6_bitCount_0f7a4_42 rfl rfl ?_
  refine a_bipush C (v := 16) dJ6_bitCount_0f7a4_43 (by decide) ?_
  refine a_iushr C dJ6_bitCount_0f7a4_45 ?_
  refine a_iadd C dJ6_bitCount_0f7a4_46 ?_
  refine a_istore_n C [(0, .int (((((((p0 - ((ush p0 1) &&& 1431655765)) &&& 858993459) + ((ush (p0 - ((ush p0 1) &&& 1431655765)) 2) &&& 858993459)) + (ush (((p0 - ((ush p0 1) &&& 1431655765)) &&& 858993459) + ((ush (p0 - ((ush p0 1) &&& 1431655765)) 2) &&& 858993459)) 4)) &&& 252645135) + (ush (((((p0 - ((ush p0 1) &&& 1431655765)) &&& 858993459) + ((ush (p0 - ((ush p0 1) &&& 1431655765)) 2) &&& 858993459)) + (ush (((p0 - ((ush p0 1) &&& 1431655765)) &&& 858993459) + ((ush (p0 - ((ush p0 1) &&& 1431655765)) 2) &&& 858993459)) 4)) &&& 252645135) 8)) + (ush ((((((p0 - ((ush p0 1) &&& 1431655765)) &&& 858993459) + ((ush (p0 - ((ush p0 1) &&& 1431655765)) 2) &&& 858993459)) + (ush (((p0 - ((ush p0 1) &&& 1431655765)) &&& 858993459) + ((ush (p0 - ((ush p0 1) &&& 1431655765)) 2) &&& 858993459)) 4)) &&& 252645135) + (ush (((((p0 - ((ush p0 1) &&& 1431655765)) &&& 858993459) + ((ush (p0 - ((ush p0 1) &&& 1431655765)) 2) &&& 858993459)) + (ush (((p0 - ((ush p0 1) &&& 1431655765)) &&& 858993459) + ((ush (p0 - ((ush p0 1) &&& 1431655765)) 2) &&& 858993459)) 4)) &&& 252645135) 8)) 16)))] dJ6_bitCount_0f7a4_47 rfl (by decide) rfl ?_
  refine a_iload_n C 0 dJ6_bitCount_0f7a4_48 rfl rfl ?_
  refine a_bipush C (v := 63) dJ6_bitCount_0f7a4_49 (by decide) ?_
  refine a_iand C dJ6_bitCount_0f7a4_51 ?_
  exact a_iret C hr rfl dJ6_bitCount_0f7a4_52 hF rfl rfl
