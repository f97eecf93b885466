def f_X8_isSmallLetter (p0 : Int32) : Option Int32 := if p0 < 97 then (some 0) else (if 122 < p0 then (some 0) else (some 1))
theorem hd_X8_isSmallLetter : yX8_isSmallLetter.cls ≠ "java/lang/invoke/MethodHandle" ∧ yX8_isSmallLetter.cls ≠ "java/lang/invoke/VarHandle" ∧ (parseMethodDescriptor yX8_isSmallLetter.desc).map (fun d => d.parameters.length) = some 1 := by decide +kernel
set_option maxRecDepth 100000 in
set_option maxHeartbeats 4000000 in
theorem c_X8_isSmallLetter (l : Launch) (D : va_G) (J : JT) (kc ki kb kl kd : ClassId) (p0 : Int32) (res : Int32) (hF : f_X8_isSmallLetter p0 = some res) : aKi l yX8_isSmallLetter (aW yX8_isSmallLetter cX8_isSmallLetter 1 ((some .boolean))) ({ frames := 0, cells := 0, slots := 0, locals := 0 } : Room) D J (aTy kc ki kb kl kd) [.int p0] ([]) (fun r => r) (fun _ => []) res := by
  refine aKi_of (own := RX8) (by decide) rfl (Nat.le_of_ble_eq_true rfl) rfl ?_
  intro p e s m args below meth c C hr
  unfold f_X8_isSmallLetter at hF
  refine a_iload_n C 0 dX8_isSmallLetter_0 rfl rfl ?_
  refine a_bipush C (v := 97) dX8_isSmallLetter_1 (by decide) ?_
  refine a_ic_lt C (tgt := 16) dX8_isSmallLetter_3 (by decide) hF (fun c3_1 hF => ?_) (fun c3_1 hF => ?_)
  · refine a_iconst C (v := 0) dX8_isSmallLetter_16 (by decide) ?_
    exact a_iret C hr rfl dX8_isSmallLetter_17 hF rfl rfl
  refine a_iload_n C 0 dX8_isSmallLetter_6 rfl rfl ?_
  refine a_bipush C (v := 122) dX8_isSmallLetter_7 (by decide) ?_
  refine a_ic_gt C (tgt := 16) dX8_isSmallLetter_9 (by decide) hF (fun c9_2 hF => ?_) (fun c9_2 hF => ?_)
  · refine a_iconst C (v := 0) dX8_isSmallLetter_16 (by decide) ?_
    exact a_iret C hr rfl dX8_isSmallLetter_17 hF rfl rfl
  refine a_iconst C (v := 1) dX8_isSmallLetter_12 (by decide) ?_
  refine a_goto C (tgt := 17) dX8_isSmallLetter_13 (by decide) ?_
  exact a_iret C hr rfl dX8_isSmallLetter_17 hF rfl rfl
def f_X6_reasonCount (t_count : Int32) : Option Int32 := some t_count
theorem hd_X6_reasonCount : yX6_reasonCount.cls = RX6 ∧ yX6_reasonCount.cls ≠ "java/lang/invoke/MethodHandle" ∧ yX6_reasonCount.cls ≠ "java/lang/invoke/VarHandle" ∧ (parseMethodDescriptor yX6_reasonCount.desc).map (fun d => d.parameters.length) = some 0 := by decide +kernel
set_option maxRecDepth 100000 in
set_option maxHeartbeats 4000000 in
theorem c_X6_reasonCount (l : Launch) (D : va_G) (J : JT) (kc ki kb kl kd : ClassId) (t : Nat) (t_reasons : Nat) (t_details : Nat) (t_reasonsF : Nat → Int32) (t_detailsF : Nat → Int32) (t_count : Int32) (res : Int32) (hF : f_X6_reasonCount t_count = some res) : aKi l yX6_reasonCount (aW yX6_reasonCount cX6_reasonCount 1 ((some .int))) ({ frames := 0, cells := 0, slots := 0, locals := 0 } : Room) D J (aTy kc ki kb kl kd) [.ref t] (wX6 ki t t_reasons t_details t_reasonsF t_detailsF t_count) (fun r => r) (fun _ => wX6 ki t t_reasons t_details t_reasonsF t_detailsF t_count) res := by
  refine aKi_of (own := RX6) (by decide) rfl (Nat.le_of_ble_eq_true rfl) rfl ?_
  intro p e s m args below meth c C hr
  unfold f_X6_reasonCount at hF
  refine a_aload_n C 0 dX6_reasonCount_0 rfl rfl ?_
  refine a_get C 0 2 iwX6 rfl rfl (by decide) kf_X6_18 rfl dX6_reasonCount_1 ?_
  exact a_iret C hr rfl dX6_reasonCount_4 hF rfl rfl
def f_X6_reasonAt (t_reasonsF : Nat → Int32) (t_count : Int32) (p1 : Int32) : Option Int32 := if p1 < 0 then (some 0) else (if t_count ≤ p1 then (some 0) else ((ldi t_reasonsF 3 p1).bind fun v17_3 => some v17_3))
theorem hd_X6_reasonAt : yX6_reasonAt.cls = RX6 ∧ yX6_reasonAt.cls ≠ "java/lang/invoke/MethodHandle" ∧ yX6_reasonAt.cls ≠ "java/lang/invoke/VarHandle" ∧ (parseMethodDescriptor yX6_reasonAt.desc).map (fun d => d.parameters.length) = some 1 := by decide +kernel
set_option maxRecDepth 100000 in
set_option maxHeartbeats 4000000 in
theorem c_X6_reasonAt (l : Launch) (D : va_G) (J : JT) (kc ki kb kl kd : ClassId) (t : Nat) (t_reasons : Nat) (t_details : Nat) (t_reasonsF : Nat → Int32) (t_detailsF : Nat → Int32) (t_count : Int32) (p1 : Int32) (res : Int32) (hF : f_X6_reasonAt t_reasonsF t_count p1 = some res) : aKi l yX6_reasonAt (aW yX6_reasonAt cX6_reasonAt 2 ((some .int))) ({ frames := 0, cells := 0, slots := 0, locals := 0 } : Room) D J (aTy kc ki kb kl kd) [.ref t, .int p1] (wX6 ki t t_reasons t_details t_reasonsF t_detailsF t_count) (fun r => r) (fun _ => wX6 ki t t_reasons t_details t_reasonsF t_detailsF t_count) res := by
  refine aKi_of (own := RX6) (by decide) rfl (Nat.le_of_ble_eq_true rfl) rfl ?_
  intro p e s m args below meth c C hr
  unfold f_X6_reasonAt at hF
  refine a_iload_n C 1 dX6_reasonAt_0 rfl rfl ?_
  refine a_if_lt C (tgt := 21) dX6_reasonAt_1 (by decide) hF (fun c1_1 hF => ?_) (fun c1_1 hF => ?_)
  · refine a_iconst C (v := 0) dX6_reasonAt_21 (by decide) ?_
    exact a_iret C hr rfl dX6_reasonAt_22 hF rfl rfl
  refine a_iload_n C 1 dX6_reasonAt_4 rfl rfl ?_
  refine a_aload_n C 0 dX6_reasonAt_5 rfl rfl ?_
  refine a_get C 0 2 iwX6 rfl rfl (by decide) kf_X6_18 rfl dX6_reasonAt_6 ?_
  refine a_ic_ge C (tgt := 21) dX6_reasonAt_9 (by decide) hF (fun c9_2 hF => ?_) (fun c9_2 hF => ?_)
  · refine a_iconst C (v := 0) dX6_reasonAt_21 (by decide) ?_
    exact a_iret C hr rfl dX6_reasonAt_22 hF rfl rfl
  refine a_aload_n C 0 dX6_reasonAt_12 rfl rfl ?_
  refine a_get C 0 0 iwX6 rfl rfl (by decide) kf_X6_9 rfl dX6_reasonAt_13 ?_
  refine a_iload_n C 1 dX6_reasonAt_16 rfl rfl ?_
  refine a_iald C 1 1 rfl rfl dX6_reasonAt_17 hF (fun v17_3 ev17_3 hF => ?_)
  refine a_goto C (tgt := 22) dX6_reasonAt_18 (by decide) ?_
  exact a_iret C hr rfl dX6_reasonAt_22 hF rfl rfl
def f_X6_detailAt (t_detailsF : Nat → Int32) (t_count : Int32) (p1 : Int32) : Option Int32 := if p1 < 0 then (some 0) else (if t_count ≤ p1 then (some 0) else ((ldi t_detailsF 3 p1).bind fun v17_3 => some v17_3))
theorem hd_X6_detailAt : yX6_detailAt.cls = RX6 ∧ yX6_detailAt.cls ≠ "java/lang/invoke/MethodHandle" ∧ yX6_detailAt.cls ≠ "java/lang/invoke/VarHandle" ∧ (parseMethodDescriptor yX6_detailAt.desc).map (fun d => d.parameters.length) = some 1 := by decide +kernel
set_option maxRecDepth 100000 in
set_option maxHeartbeats 4000000 in
theorem c_X6_detailAt (l : Launch) (D : va_G) (J : JT) (kc ki kb kl kd : ClassId) (t : Nat) (t_reasons : Nat) (t_details : Nat) (t_reasonsF : Nat → Int32) (t_detailsF : Nat → Int32) (t_count : Int32) (p1 : Int32) (res : Int32) (hF : f_X6_detailAt t_detailsF t_count p1 = some res) : aKi l yX6_detailAt (aW yX6_detailAt cX6_detailAt 2 ((some .int))) ({ frames := 0, cells := 0, slots := 0, locals := 0 } : Room) D J (aTy kc ki kb kl kd) [.ref t, .int p1] (wX6 ki t t_reasons t_details t_reasonsF t_detailsF t_count) (fun r => r) (fun _ => wX6 ki t t_reasons t_details t_reasonsF t_detailsF t_count) res := by
  refine aKi_of (own := RX6) (by decide) rfl (Nat.le_of_ble_eq_true rfl) rfl ?_
  intro p e s m args below meth c C hr
  unfold f_X6_detailAt at hF
  refine a_iload_n C 1 dX6_detailAt_0 rfl rfl ?_
  refine a_if_lt C (tgt := 21) dX6_detailAt_1 (by decide) hF (fun c1_1 hF => ?_) (fun c1_1 hF => ?_)
  · refine a_iconst C (v := 0) dX6_detailAt_21 (by decide) ?_
    exact a_iret C hr rfl dX6_detailAt_22 hF rfl rfl
  refine a_iload_n C 1 dX6_detailAt_4 rfl rfl ?_
  refine a_aload_n C 0 dX6_detailAt_5 rfl rfl ?_
  refine a_get C 0 2 iwX6 rfl rfl (by decide) kf_X6_18 rfl dX6_detailAt_6 ?_
  refine a_ic_ge C (tgt := 21) dX6_detailAt_9 (by decide) hF (fun c9_2 hF => ?_) (fun c9_2 hF => ?_)
  · refine a_iconst C (v := 0) dX6_detailAt_21 (by decide) ?_
    exact a_iret C hr rfl dX6_detailAt_22 hF rfl rfl
  refine a_aload_n C 0 dX6_detailAt_12 rfl rfl ?_
  refine a_get C 0 1 iwX6 rfl rfl (by decide) kf_X6_15 rfl dX6_detailAt_13 ?_
  refine a_iload_n C 1 dX6_detailAt_16 rfl rfl ?_
  refine a_iald C 2 1 rfl rfl dX6_detailAt_17 hF (fun v17_3 ev17_3 hF => ?_)
  refine a_goto C (tgt := 22) dX6_detailAt_18 (by decide) ?_
  exact a_iret C hr rfl dX6_detailAt_22 hF rfl rfl
def f_X6_keep (t_reasonsF : Nat → Int32) (t_detailsF : Nat → Int32) (p1 : Int32) (p2 : Int32) : Option ((Nat → Int32) × (Nat → Int32) × Int32) := (sti t_reasonsF 3 0 p1).bind fun g6_1 => (sti t_detailsF 3 0 p2).bind fun g13_2 => some (g6_1, g13_2, 1)
theorem hd_X6_keep : yX6_keep.cls = RX6 ∧ yX6_keep.cls ≠ "java/lang/invoke/MethodHandle" ∧ yX6_keep.cls ≠ "java/lang/invoke/VarHandle" ∧ (parseMethodDescriptor yX6_keep.desc).map (fun d => d.parameters.length) = some 2 := by decide +kernel
set_option maxRecDepth 100000 in
set_option maxHeartbeats 4000000 in
theorem c_X6_keep (l : Launch) (D : va_G) (J : JT) (kc ki kb kl kd : ClassId) (t : Nat) (t_reasons : Nat) (t_details : Nat) (t_reasonsF : Nat → Int32) (t_detailsF : Nat → Int32) (t_count : Int32) (p1 p2 : Int32) (res : (Nat → Int32) × (Nat → Int32) × Int32) (hF : f_X6_keep t_reasonsF t_detailsF p1 p2 = some res) : aKv l yX6_keep (aW yX6_keep cX6_keep 3 none) ({ frames := 0, cells := 0, slots := 0, locals := 0 } : Room) D J (aTy kc ki kb kl kd) [.ref t, .int p1, .int p2] (wX6 ki t t_reasons t_details t_reasonsF t_detailsF t_count) (fun r => wX6 ki t t_reasons t_details r.1 r.2.1 r.2.2) res := by
  refine aKv_of (own := RX6) (by decide) rfl (Nat.le_of_ble_eq_true rfl) rfl ?_
  intro p e s m args below meth c C hr
  unfold f_X6_keep at hF
  refine a_aload_n C 0 dX6_keep_0 rfl rfl ?_
  refine a_get C 0 0 iwX6 rfl rfl (by decide) kf_X6_9 rfl dX6_keep_1 ?_
  refine a_iconst C (v := 0) dX6_keep_4 (by decide) ?_
  refine a_iload_n C 1 dX6_keep_5 rfl rfl ?_
  refine a_iast C 1 1 rfl rfl dX6_keep_6 hF (fun g6_1 eg6_1 hF => ?_)
  refine a_ws C (ws' := wX6 ki t t_reasons t_details g6_1 t_detailsF t_count) rfl ?_
  refine a_aload_n C 0 dX6_keep_7 rfl rfl ?_
  refine a_get C 0 1 iwX6 rfl rfl (by decide) kf_X6_15 rfl dX6_keep_8 ?_
  refine a_iconst C (v := 0) dX6_keep_11 (by decide) ?_
  refine a_iload_n C 2 dX6_keep_12 rfl rfl ?_
  refine a_iast C 2 1 rfl rfl dX6_keep_13 hF (fun g13_2 eg13_2 hF => ?_)
  refine a_ws C (ws' := wX6 ki t t_reasons t_details g6_1 g13_2 t_count) rfl ?_
  refine a_aload_n C 0 dX6_keep_14 rfl rfl ?_
  refine a_iconst C (v := 1) dX6_keep_15 (by decide) ?_
  refine a_put C 0 2 iwX6 tyX6_ok nmX6 rfl rfl (by decide) kf_X6_18 rfl rfl rfl (Nat.le_of_ble_eq_true rfl) dX6_keep_16 ?_
  refine a_ws C (ws' := wX6 ki t t_reasons t_details g6_1 g13_2 1) rfl ?_
  exact a_vret C hr dX6_keep_19 hF rfl
def f_X6_keepCause (t_reasonsF : Nat → Int32) (t_detailsF : Nat → Int32) (t_count : Int32) (p1 : Int32) (p2 : Int32) : Option ((Nat → Int32) × (Nat → Int32) × Int32) := if 3 ≤ t_count then (some (t_reasonsF, t_detailsF, t_count)) else ((sti t_reasonsF 3 t_count p1).bind fun g17_2 => (sti t_detailsF 3 t_count p2).bind fun g27_3 => some (g17_2, g27_3, t_count + 1))
theorem hd_X6_keepCause : yX6_keepCause.cls = RX6 ∧ yX6_keepCause.cls ≠ "java/lang/invoke/MethodHandle" ∧ yX6_keepCause.cls ≠ "java/lang/invoke/VarHandle" ∧ (parseMethodDescriptor yX6_keepCause.desc).map (fun d => d.parameters.length) = some 2 := by decide +kernel
set_option maxRecDepth 100000 in
set_option maxHeartbeats 4000000 in
theorem c_X6_keepCause (l : Launch) (D : va_G) (J : JT) (kc ki kb kl kd : ClassId) (t : Nat) (t_reasons : Nat) (t_details : Nat) (t_reasonsF : Nat → Int32) (t_detailsF : Nat → Int32) (t_count : Int32) (p1 p2 : Int32) (res : (Nat → Int32) × (Nat → Int32) × Int32) (hF : f_X6_keepCause t_reasonsF t_detailsF t_count p1 p2 = some res) : aKv l yX6_keepCause (aW yX6_keepCause cX6_keepCause 3 none) ({ frames := 0, cells := 0, slots := 0, locals := 0 } : Room) D J (aTy kc ki kb kl kd) [.ref t, .int p1, .int p2] (wX6 ki t t_reasons t_details t_reasonsF t_detailsF t_count) (fun r => wX6 ki t t_reasons t_details r.1 r.2.1 r.2.2) res := by
  refine aKv_of (own := RX6) (by decide) rfl (Nat.le_of_ble_eq_true rfl) rfl ?_
  intro p e s m args below meth c C hr
  unfold f_X6_keepCause at hF
  refine a_aload_n C 0 dX6_keepCause_0 rfl rfl ?_
  refine a_get C 0 2 iwX6 rfl rfl (by decide) kf_X6_18 rfl dX6_keepCause_1 ?_
  refine a_iconst C (v := 3) dX6_keepCause_4 (by decide) ?_
  refine a_ic_ge C (tgt := 38) dX6_keepCause_5 (by decide) hF (fun c5_1 hF => ?_) (fun c5_1 hF => ?_)
  · exact a_vret C hr dX6_keepCause_38 hF rfl
  refine a_aload_n C 0 dX6_keepCause_8 rfl rfl ?_
  refine a_get C 0 0 iwX6 rfl rfl (by decide) kf_X6_9 rfl dX6_keepCause_9 ?_
  refine a_aload_n C 0 dX6_keepCause_12 rfl rfl ?_
  refine a_get C 0 2 iwX6 rfl rfl (by decide) kf_X6_18 rfl dX6_keepCause_13 ?_
  refine a_iload_n C 1 dX6_keepCause_16 rfl rfl ?_
  refine a_iast C 1 1 rfl rfl dX6_keepCause_17 hF (fun g17_2 eg17_2 hF => ?_)
  refine a_ws C (ws' := wX6 ki t t_reasons t_details g17_2 t_detailsF t_count) rfl ?_
  refine a_aload_n C 0 dX6_keepCause_18 rfl rfl ?_
  refine a_get C 0 1 iwX6 rfl rfl (by decide) kf_X6_15 rfl dX6_keepCause_19 ?_
  refine a_aload_n C 0 dX6_keepCause_22 rfl rfl ?_
  refine a_get C 0 2 iwX6 rfl rfl (by decide) kf_X6_18 rfl dX6_keepCause_23 ?_
  refine a_iload_n C 2 dX6_keepCause_26 rfl rfl ?_
  refine a_iast C 2 1 rfl rfl dX6_keepCause_27 hF (fun g27_3 eg27_3 hF => ?_)
  refine a_ws C (ws' := wX6 ki t t_reasons t_details g17_2 g27_3 t_count) rfl ?_
  refine a_aload_n C 0 dX6_keepCause_28 rfl rfl ?_
  refine a_dup C dX6_keepCause_29 rfl ?_
  refine a_get C 0 2 iwX6 rfl rfl (by decide) kf_X6_18 rfl dX6_keepCause_30 ?_
  refine a_iconst C (v := 1) dX6_keepCause_33 (by decide) ?_
  refine a_iadd C dX6_keepCause_34 ?_
  refine a_put C 0 2 iwX6 tyX6_ok nmX6 rfl rfl (by decide) kf_X6_18 rfl rfl rfl (Nat.le_of_ble_eq_true rfl) dX6_keepCause_35 ?_
  refine a_ws C (ws' := wX6 ki t t_reasons t_details g17_2 g27_3 (t_count + 1)) rfl ?_
  exact a_vret C hr dX6_keepCause_38 hF rfl
def f_X7_length (t_length : Int32) : Option Int32 := some t_length
theorem hd_X7_length : yX7_length.cls = RX7 ∧ yX7_length.cls ≠ "java/lang/invoke/MethodHandle" ∧ yX7_length.cls ≠ "java/lang/invoke/VarHandle" ∧ (parseMethodDescriptor yX7_length.desc).map (fun d => d.parameters.length) = some 0 := by decide +kernel
set_option maxRecDepth 100000 in
set_option maxHeartbeats 4000000 in
theorem c_X7_length (l : Launch) (D : va_G) (J : JT) (kc ki kb kl kd : ClassId) (t : Nat) (t_characters : Nat) (t_charactersF : Nat → Int32) (t_length : Int32) (res : Int32) (hF : f_X7_length t_length = some res) : aKi l yX7_length (aW yX7_length cX7_length 1 ((some .int))) ({ frames := 0, cells := 0, slots := 0, locals := 0 } : Room) D J (aTy kc ki kb kl kd) [.ref t] (wX7 kc t t_characters t_charactersF t_length) (fun r => r) (fun _ => wX7 kc t t_characters t_charactersF t_length) res := by
  refine aKi_of (own := RX7) (by decide) rfl (Nat.le_of_ble_eq_true rfl) rfl ?_
  intro p e s m args below meth c C hr
  unfold f_X7_length at hF
  refine a_aload_n C 0 dX7_length_0 rfl rfl ?_
  refine a_get C 0 1 iwX7 rfl rfl (by decide) kf_X7_15 rfl dX7_length_1 ?_
  exact a_iret C hr rfl dX7_length_4 hF rfl rfl
def f_X7_isFull (t_length : Int32) : Option Int32 := if t_length < 60 then (some 0) else (some 1)
theorem hd_X7_isFull : yX7_isFull.cls = RX7 ∧ yX7_isFull.cls ≠ "java/lang/invoke/MethodHandle" ∧ yX7_isFull.cls ≠ "java/lang/invoke/VarHandle" ∧ (parseMethodDescriptor yX7_isFull.desc).map (fun d => d.parameters.length) = some 0 := by decide +kernel
set_option maxRecDepth 100000 in
set_option maxHeartbeats 4000000 in
theorem c_X7_isFull (l : Launch) (D : va_G) (J : JT) (kc ki kb kl kd : ClassId) (t : Nat) (t_characters : Nat) (t_charactersF : Nat → Int32) (t_length : Int32) (res : Int32) (hF : f_X7_isFull t_length = some res) : aKi l yX7_isFull (aW yX7_isFull cX7_isFull 1 ((some .boolean))) ({ frames := 0, cells := 0, slots := 0, locals := 0 } : Room) D J (aTy kc ki kb kl kd) [.ref t] (wX7 kc t t_characters t_charactersF t_length) (fun r => r) (fun _ => wX7 kc t t_characters t_charactersF t_length) res := by
  refine aKi_of (own := RX7) (by decide) rfl (Nat.le_of_ble_eq_true rfl) rfl ?_
  intro p e s m args below meth c C hr
  unfold f_X7_isFull at hF
  refine a_aload_n C 0 dX7_isFull_0 rfl rfl ?_
  refine a_get C 0 1 iwX7 rfl rfl (by decide) kf_X7_15 rfl dX7_isFull_1 ?_
  refine a_bipush C (v := 60) dX7_isFull_4 (by decide) ?_
  refine a_ic_lt C (tgt := 13) dX7_isFull_6 (by decide) hF (fun c6_1 hF => ?_) (fun c6_1 hF => ?_)
  · refine a_iconst C (v := 0) dX7_isFull_13 (by decide) ?_
    exact a_iret C hr rfl dX7_isFull_14 hF rfl rfl
  refine a_iconst C (v := 1) dX7_isFull_9 (by decide) ?_
  refine a_goto C (tgt := 14) dX7_isFull_10 (by decide) ?_
  exact a_iret C hr rfl dX7_isFull_14 hF rfl rfl
def f_X7_put (t_charactersF : Nat → Int32) (t_length : Int32) (p1 : Int32) : Option ((Nat → Int32) × Int32) := if 60 ≤ t_length then (some (t_charactersF, t_length)) else ((stc t_charactersF 60 t_length p1).bind fun g18_2 => some (g18_2, t_length + 1))
theorem hd_X7_put : yX7_put.cls = RX7 ∧ yX7_put.cls ≠ "java/lang/invoke/MethodHandle" ∧ yX7_put.cls ≠ "java/lang/invoke/VarHandle" ∧ (parseMethodDescriptor yX7_put.desc).map (fun d => d.parameters.length) = some 1 := by decide +kernel
set_option maxRecDepth 100000 in
set_option maxHeartbeats 4000000 in
theorem c_X7_put (l : Launch) (D : va_G) (J : JT) (kc ki kb kl kd : ClassId) (t : Nat) (t_characters : Nat) (t_charactersF : Nat → Int32) (t_length : Int32) (p1 : Int32) (res : (Nat → Int32) × Int32) (hF : f_X7_put t_charactersF t_length p1 = some res) : aKv l yX7_put (aW yX7_put cX7_put 2 none) ({ frames := 0, cells := 0, slots := 0, locals := 0 } : Room) D J (aTy kc ki kb kl kd) [.ref t, .int p1] (wX7 kc t t_characters t_charactersF t_length) (fun r => wX7 kc t t_characters r.1 r.2) res := by
  refine aKv_of (own := RX7) (by decide) rfl (Nat.le_of_ble_eq_true rfl) rfl ?_
  intro p e s m args below meth c C hr
  unfold f_X7_put at hF
  refine a_aload_n C 0 dX7_put_0 rfl rfl ?_
  refine a_get C 0 1 iwX7 rfl rfl (by decide) kf_X7_15 rfl dX7_put_1 ?_
  refine a_bipush C (v := 60) dX7_put_4 (by decide) ?_
  refine a_ic_ge C (tgt := 29) dX7_put_6 (by decide) hF (fun c6_1 hF => ?_) (fun c6_1 hF => ?_)
  · exact a_vret C hr dX7_put_29 hF rfl
  refine a_aload_n C 0 dX7_put_9 rfl rfl ?_
  refine a_get C 0 0 iwX7 rfl rfl (by decide) kf_X7_9 rfl dX7_put_10 ?_
  refine a_aload_n C 0 dX7_put_13 rfl rfl ?_
  refine a_get C 0 1 iwX7 rfl rfl (by decide) kf_X7_15 rfl dX7_put_14 ?_
  refine a_iload_n C 1 dX7_put_17 rfl rfl ?_
  refine a_cast C 1 0 rfl rfl dX7_put_18 hF (fun g18_2 eg18_2 hF => ?_)
  refine a_ws C (ws' := wX7 kc t t_characters g18_2 t_length) rfl ?_
  refine a_aload_n C 0 dX7_put_19 rfl rfl ?_
  refine a_dup C dX7_put_20 rfl ?_
  refine a_get C 0 1 iwX7 rfl rfl (by decide) kf_X7_15 rfl dX7_put_21 ?_
  refine a_iconst C (v := 1) dX7_put_24 (by decide) ?_
  refine a_iadd C dX7_put_25 ?_
  refine a_put C 0 1 iwX7 tyX7_ok nmX7 rfl rfl (by decide) kf_X7_15 rfl rfl rfl (Nat.le_of_ble_eq_true rfl) dX7_put_26 ?_
  refine a_ws C (ws' := wX7 kc t t_characters g18_2 (t_length + 1)) rfl ?_
  exact a_vret C hr dX7_put_29 hF rfl
def f_X7_clear : Option Int32 := some 0
theorem hd_X7_clear : yX7_clear.cls = RX7 ∧ yX7_clear.cls ≠ "java/lang/invoke/MethodHandle" ∧ yX7_clear.cls ≠ "java/lang/invoke/VarHandle" ∧ (parseMethodDescriptor yX7_clear.desc).map (fun d => d.parameters.length) = some 0 := by decide +kernel
set_option maxRecDepth 100000 in
set_option maxHeartbeats 4000000 in
theorem c_X7_clear (l : Launch) (D : va_G) (J : JT) (kc ki kb kl kd : ClassId) (t : Nat) (t_characters : Nat) (t_charactersF : Nat → Int32) (t_length : Int32) (res : Int32) (hF : f_X7_clear = some res) : aKv l yX7_clear (aW yX7_clear cX7_clear 1 none) ({ frames := 0, cells := 0, slots := 0, locals := 0 } : Room) D J (aTy kc ki kb kl kd) [.ref t] (wX7 kc t t_characters t_charactersF t_length) (fun r => wX7 kc t t_characters t_charactersF r) res := by
  refine aKv_of (own := RX7) (by decide) rfl (Nat.le_of_ble_eq_true rfl) rfl ?_
  intro p e s m args below meth c C hr
  unfold f_X7_clear at hF
  refine a_aload_n C 0 dX7_clear_0 rfl rfl ?_
  refine a_iconst C (v := 0) dX7_clear_1 (by decide) ?_
  refine a_put C 0 1 iwX7 tyX7_ok nmX7 rfl rfl (by decide) kf_X7_15 rfl rfl rfl (Nat.le_of_ble_eq_true rfl) dX7_clear_2 ?_
  refine a_ws C (ws' := wX7 kc t t_characters t_charactersF 0) rfl ?_
  exact a_vret C hr dX7_clear_5 hF rfl
def f_X7_characterAt (t_charactersF : Nat → Int32) (t_length : Int32) (p1 : Int32) : Option Int32 := if p1 < 0 then (some 0) else (if t_length ≤ p1 then (some 0) else ((ldc t_charactersF 60 p1).bind fun v17_3 => (rc v17_3).bind fun _ => some v17_3))
theorem hd_X7_characterAt : yX7_characterAt.cls = RX7 ∧ yX7_characterAt.cls ≠ "java/lang/invoke/MethodHandle" ∧ yX7_characterAt.cls ≠ "java/lang/invoke/VarHandle" ∧ (parseMethodDescriptor yX7_characterAt.desc).map (fun d => d.parameters.length) = some 1 := by decide +kernel
set_option maxRecDepth 100000 in
set_option maxHeartbeats 4000000 in
theorem c_X7_characterAt (l : Launch) (D : va_G) (J : JT) (kc ki kb kl kd : ClassId) (t : Nat) (t_characters : Nat) (t_charactersF : Nat → Int32) (t_length : Int32) (p1 : Int32) (res : Int32) (hF : f_X7_characterAt t_charactersF t_length p1 = some res) : aKi l yX7_characterAt (aW yX7_characterAt cX7_characterAt 2 ((some .char))) ({ frames := 0, cells := 0, slots := 0, locals := 0 } : Room) D J (aTy kc ki kb kl kd) [.ref t, .int p1] (wX7 kc t t_characters t_charactersF t_length) (fun r => r) (fun _ => wX7 kc t t_characters t_charactersF t_length) res := by
  refine aKi_of (own := RX7) (by decide) rfl (Nat.le_of_ble_eq_true rfl) rfl ?_
  intro p e s m args below meth c C hr
  unfold f_X7_characterAt at hF
  refine a_iload_n C 1 dX7_characterAt_0 rfl rfl ?_
  refine a_if_lt C (tgt := 21) dX7_characterAt_1 (by decide) hF (fun c1_1 hF => ?_) (fun c1_1 hF => ?_)
  · refine a_iconst C (v := 0) dX7_characterAt_21 (by decide) ?_
    exact a_iret C hr rfl dX7_characterAt_22 hF rfl rfl
  refine a_iload_n C 1 dX7_characterAt_4 rfl rfl ?_
  refine a_aload_n C 0 dX7_characterAt_5 rfl rfl ?_
  refine a_get C 0 1 iwX7 rfl rfl (by decide) kf_X7_15 rfl dX7_characterAt_6 ?_
  refine a_ic_ge C (tgt := 21) dX7_characterAt_9 (by decide) hF (fun c9_2 hF => ?_) (fun c9_2 hF => ?_)
  · refine a_iconst C (v := 0) dX7_characterAt_21 (by decide) ?_
    exact a_iret C hr rfl dX7_characterAt_22 hF rfl rfl
  refine a_aload_n C 0 dX7_characterAt_12 rfl rfl ?_
  refine a_get C 0 0 iwX7 rfl rfl (by decide) kf_X7_9 rfl dX7_characterAt_13 ?_
  refine a_iload_n C 1 dX7_characterAt_16 rfl rfl ?_
  refine a_cald C 1 0 rfl rfl dX7_characterAt_17 hF (fun v17_3 ev17_3 hF => ?_)
  refine a_goto C (tgt := 22) dX7_characterAt_18 (by decide) ?_
  refine a_rc hF (fun n22_4 hF => ?_)
  exact a_iret C hr n22_4 dX7_characterAt_22 hF rfl rfl
theorem cs_X7_19 : GoodIn WW (wsV RX7 19 RX7 yX7_put (aW yX7_put cX7_put 2 none)) := gdV kl_X7_19 ki_X7_put kv_X7_put kn_X7 kc_X7_put
def f_X7_putDigit (t_charactersF : Nat → Int32) (t_length : Int32) (p1 : Int32) : Option ((Nat → Int32) × Int32) := (f_X7_put t_charactersF t_length (((48 + p1).toUInt32 % 65536).toInt32)).bind fun r6_1 => some (r6_1.1, r6_1.2)
theorem hd_X7_putDigit : yX7_putDigit.cls = RX7 ∧ yX7_putDigit.cls ≠ "java/lang/invoke/MethodHandle" ∧ yX7_putDigit.cls ≠ "java/lang/invoke/VarHandle" ∧ (parseMethodDescriptor yX7_putDigit.desc).map (fun d => d.parameters.length) = some 1 := by decide +kernel
set_option maxRecDepth 100000 in
set_option maxHeartbeats 4000000 in
theorem c_X7_putDigit (l : Launch) (D : va_G) (J : JT) (kc ki kb kl kd : ClassId) (t : Nat) (t_characters : Nat) (t_charactersF : Nat → Int32) (t_length : Int32) (p1 : Int32) (res : (Nat → Int32) × Int32) (hF : f_X7_putDigit t_charactersF t_length p1 = some res) : aKv l yX7_putDigit (aW yX7_putDigit cX7_putDigit 2 none) ({ frames := 1, cells := 0, slots := 0, locals := 21 } : Room) D J (aTy kc ki kb kl kd) [.ref t, .int p1] (wX7 kc t t_characters t_charactersF t_length) (fun r => wX7 kc t t_characters r.1 r.2) res := by
  refine aKv_of (own := RX7) (by decide) rfl (Nat.le_of_ble_eq_true rfl) rfl ?_
  intro p e s m args below meth c C hr
  unfold f_X7_putDigit at hF
  refine a_aload_n C 0 dX7_putDigit_0 rfl rfl ?_
  refine a_bipush C (v := 48) dX7_putDigit_1 (by decide) ?_
  refine a_iload_n C 1 dX7_putDigit_3 rfl rfl ?_
  refine a_iadd C dX7_putDigit_4 ?_
  refine a_i2c C dX7_putDigit_5 ?_
  refine a_callVv C 1 [0, 1] 0 cs_X7_19 hd_X7_put ⟨rfl, rfl⟩ ⟨Nat.le_of_ble_eq_true rfl, Nat.le_of_ble_eq_true rfl⟩ (fun r h => c_X7_put l D J kc ki kb kl kd t t_characters t_charactersF t_length (((48 + p1).toUInt32 % 65536).toInt32) r h) rfl rfl rfl (fun _ => rfl) rfl rfl rfl (Nat.le_of_ble_eq_true rfl) dX7_putDigit_6 ⟨Nat.zero_le _, Nat.zero_le _⟩ hF (fun r6_1 er6_1 hF => ?_)
  refine a_ws C (ws' := wX7 kc t t_characters r6_1.1 r6_1.2) rfl ?_
  exact a_vret C hr dX7_putDigit_9 hF rfl
theorem cs_X7_27 : GoodIn WW (wsV RX7 27 RX0 yX0_letterAt (aW yX0_letterAt cX0_letterAt 3 ((some .char)))) := gdV kl_X7_27 ki_X0_letterAt kv_X0_letterAt kn_X0 kc_X0_letterAt
def f_X7_putLetters_L3 (p2 : Int32) (p3 : Int32) (p4 : Int32) (o1_lettersF : Nat → Int32) (o1_sizesF : Nat → Int32) (o1_lines : Int32) : Nat → Int32 → (Nat → Int32) → Int32 → (Int32 → (Nat → Int32) → Int32 → Option ((Nat → Int32) × Int32)) → Option ((Nat → Int32) × Int32)
  | 0, _, _, _, _ => none
  | fuel + 1, x5, q_t_charactersF, q_t_length, k => if p4 ≤ x5 then (k x5 q_t_charactersF q_t_length) else ((f_X0_letterAt o1_lettersF o1_sizesF o1_lines p2 (p3 + x5)).bind fun r17_2 => (f_X7_put q_t_charactersF q_t_length r17_2).bind fun r20_3 => f_X7_putLetters_L3 p2 p3 p4 o1_lettersF o1_sizesF o1_lines fuel (x5 + 1) r20_3.1 r20_3.2 k)
def f_X7_putLetters (t_charactersF : Nat → Int32) (t_length : Int32) (o1_lettersF : Nat → Int32) (o1_sizesF : Nat → Int32) (o1_lines : Int32) (p2 : Int32) (p3 : Int32) (p4 : Int32) : Option ((Nat → Int32) × Int32) := f_X7_putLetters_L3 p2 p3 p4 o1_lettersF o1_sizesF o1_lines 1000 0 t_charactersF t_length (fun x5_3_4 q_t_charactersF_3_5 q_t_length_3_6 => some (q_t_charactersF_3_5, q_t_length_3_6))
theorem hd_X7_putLetters : yX7_putLetters.cls = RX7 ∧ yX7_putLetters.cls ≠ "java/lang/invoke/MethodHandle" ∧ yX7_putLetters.cls ≠ "java/lang/invoke/VarHandle" ∧ (parseMethodDescriptor yX7_putLetters.desc).map (fun d => d.parameters.length) = some 4 := by decide +kernel
set_option maxRecDepth 100000 in
set_option maxHeartbeats 4000000 in
theorem c_X7_putLetters (l : Launch) (D : va_G) (J : JT) (kc ki kb kl kd : ClassId) (t : Nat) (t_characters : Nat) (o1 : Nat) (o1_letters : Nat) (o1_sizes : Nat) (t_charactersF : Nat → Int32) (t_length : Int32) (o1_lettersF : Nat → Int32) (o1_sizesF : Nat → Int32) (o1_lines : Int32) (p2 p3 p4 : Int32) (res : (Nat → Int32) × Int32) (hF : f_X7_putLetters t_charactersF t_length o1_lettersF o1_sizesF o1_lines p2 p3 p4 = some res) : aKv l yX7_putLetters (aW yX7_putLetters cX7_putLetters 6 none) ({ frames := 2, cells := 0, slots := 0, locals := 44 } : Room) D J (aTy kc ki kb kl kd) [.ref t, .ref o1, .int p2, .int p3, .int p4] (wX7 kc t t_characters t_charactersF t_length ++ wX0 kc ki o1 o1_letters o1_sizes o1_lettersF o1_sizesF o1_lines) (fun r => wX7 kc t t_characters r.1 r.2 ++ wX0 kc ki o1 o1_letters o1_sizes o1_lettersF o1_sizesF o1_lines) res := by
  refine aKv_of (own := RX7) (by decide) rfl (Nat.le_of_ble_eq_true rfl) rfl ?_
  intro p e s m args below meth c C hr
  have hI3 : ∀ (fuel : Nat) (x5 : Int32) (q_t_charactersF : Nat → Int32) (q_t_length : Int32) (k : Int32 → (Nat → Int32) → Int32 → Option ((Nat → Int32) × Int32)), f_X7_putLetters_L3 p2 p3 p4 o1_lettersF o1_sizesF o1_lines fuel x5 q_t_charactersF q_t_length k = some res → (∀ (x5 : Int32) (q_t_charactersF : Nat → Int32) (q_t_length : Int32), k x5 q_t_charactersF q_t_length = some res → aT p l e ({ frames := 2, cells := 0, slots := 0, locals := 44 } : Room) s m args below meth c (MQ below (aQv D (wX7 kc t t_characters t_charactersF t_length ++ wX0 kc ki o1 o1_letters o1_sizes o1_lettersF o1_sizesF o1_lines) s.heap.size (fun r => wX7 kc t t_characters r.1 r.2 ++ wX0 kc ki o1 o1_letters o1_sizes o1_lettersF o1_sizesF o1_lines) res) args s 0 0 (va_A (wX7 kc t t_characters t_charactersF t_length ++ wX0 kc ki o1 o1_letters o1_sizes o1_lettersF o1_sizesF o1_lines) s.heap.size)) D (va_A (wX7 kc t t_characters t_charactersF t_length ++ wX0 kc ki o1 o1_letters o1_sizes o1_lettersF o1_sizesF o1_lines) s.heap.size) 6 0 0 29 [] [] (wX7 kc t t_characters q_t_charactersF q_t_length ++ wX0 kc ki o1 o1_letters o1_sizes o1_lettersF o1_sizesF o1_lines)) → aT p l e ({ frames := 2, cells := 0, slots := 0, locals := 44 } : Room) s m args below meth c (MQ below (aQv D (wX7 kc t t_characters t_charactersF t_length ++ wX0 kc ki o1 o1_letters o1_sizes o1_lettersF o1_sizesF o1_lines) s.heap.size (fun r => wX7 kc t t_characters r.1 r.2 ++ wX0 kc ki o1 o1_letters o1_sizes o1_lettersF o1_sizesF o1_lines) res) args s 0 0 (va_A (wX7 kc t t_characters t_charactersF t_length ++ wX0 kc ki o1 o1_letters o1_sizes o1_lettersF o1_sizesF o1_lines) s.heap.size)) D (va_A (wX7 kc t t_characters t_charactersF t_length ++ wX0 kc ki o1 o1_letters o1_sizes o1_lettersF o1_sizesF o1_lines) s.heap.size) 6 0 0 3 [(0, .ref t), (1, .ref o1), (2, .int p2), (3, .int p3), (4, .int p4), (5, .int x5)] [] (wX7 kc t t_characters q_t_charactersF q_t_length ++ wX0 kc ki o1 o1_letters o1_sizes o1_lettersF o1_sizesF o1_lines) := by
    intro fuel
    induction fuel with
    | zero => intro x5 q_t_charactersF q_t_length k hF hX; exact nomatch hF
    | succ fuel ih =>
      intro x5 q_t_charactersF q_t_length k hF hX
      rw [f_X7_putLetters_L3] at hF
      refine a_iload C 5 dX7_putLetters_3 rfl ?_
      refine a_iload C 4 dX7_putLetters_5 rfl ?_
      refine a_ic_ge C (tgt := 29) dX7_putLetters_7 (by decide) hF (fun c7_1 hF => ?_) (fun c7_1 hF => ?_)
      · refine a_sub C [] [] rfl ?_
        exact hX x5 q_t_charactersF q_t_length hF
      refine a_aload_n C 0 dX7_putLetters_10 rfl rfl ?_
      refine a_aload_n C 1 dX7_putLetters_11 rfl rfl ?_
      refine a_iload_n C 2 dX7_putLetters_12 rfl rfl ?_
      refine a_iload_n C 3 dX7_putLetters_13 rfl rfl ?_
      refine a_iload C 5 dX7_putLetters_14 rfl ?_
      refine a_iadd C dX7_putLetters_16 ?_
      refine a_callVir C 2 [2, 3, 4] 2 cs_X7_27 hd_X0_letterAt ⟨rfl, rfl⟩ ⟨Nat.le_of_ble_eq_true rfl, Nat.le_of_ble_eq_true rfl⟩ (fun r h => c_X0_letterAt l D J kc ki kb kl kd o1 o1_letters o1_sizes o1_lettersF o1_sizesF o1_lines p2 (p3 + x5) r h) rfl rfl rfl rfl rfl rfl (Nat.le_of_ble_eq_true rfl) dX7_putLetters_17 ⟨Nat.zero_le _, Nat.zero_le _⟩ hF (fun r17_2 er17_2 hF => ?_)
      refine a_callVv C 1 [0, 1] 0 cs_X7_19 hd_X7_put ⟨rfl, rfl⟩ ⟨Nat.le_of_ble_eq_true rfl, Nat.le_of_ble_eq_true rfl⟩ (fun r h => c_X7_put l D J kc ki kb kl kd t t_characters q_t_charactersF q_t_length r17_2 r h) rfl rfl rfl (fun _ => rfl) rfl rfl rfl (Nat.le_of_ble_eq_true rfl) dX7_putLetters_20 ⟨Nat.zero_le _, Nat.zero_le _⟩ hF (fun r20_3 er20_3 hF => ?_)
      refine a_ws C (ws' := wX7 kc t t_characters r20_3.1 r20_3.2 ++ wX0 kc ki o1 o1_letters o1_sizes o1_lettersF o1_sizesF o1_lines) rfl ?_
      refine a_iinc C 5 [(5, .int (x5 + 1)), (0, .ref t), (1, .ref o1), (2, .int p2), (3, .int p3), (4, .int p4)] dX7_putLetters_23 rfl rfl (by decide) rfl ?_
      refine a_goto C (tgt := 3) dX7_putLetters_26 (by decide) ?_
      refine a_sub C [1, 2, 3, 4, 5, 0] [(0, .ref t), (1, .ref o1), (2, .int p2), (3, .int p3), (4, .int p4), (5, .int (x5 + 1))] rfl ?_
      exact ih (x5 + 1) r20_3.1 r20_3.2 k hF hX
  unfold f_X7_putLetters at hF
  refine a_iconst C (v := 0) dX7_putLetters_0 (by decide) ?_
  refine a_istore C [(5, .int 0), (0, .ref t), (1, .ref o1), (2, .int p2), (3, .int p3), (4, .int p4)] dX7_putLetters_1 (by decide) rfl ?_
  refine a_sub C [1, 2, 3, 4, 5, 0] [(0, .ref t), (1, .ref o1), (2, .int p2), (3, .int p3), (4, .int p4), (5, .int 0)] rfl ?_
  refine hI3 1000 0 t_charactersF t_length _ hF (fun x5_3_4 q_t_charactersF_3_5 q_t_length_3_6 hF => ?_)
  exact a_vret C hr dX7_putLetters_29 hF rfl
def f_X7_isWord_L20 (t_charactersF : Nat → Int32) (t_length : Int32) : Nat → Int32 → (Int32 → Option Int32) → Option Int32
  | 0, _, _ => none
  | fuel + 1, x1, k => if t_length ≤ x1 then (k x1) else ((ldc t_charactersF 60 x1).bind fun v33_4 => (f_X8_isSmallLetter v33_4).bind fun r34_5 => if ¬ r34_5 = 0 then (f_X7_isWord_L20 t_charactersF t_length fuel (x1 + 1) k) else (some 0))
def f_X7_isWord (t_charactersF : Nat → Int32) (t_length : Int32) : Option Int32 := if t_length = 0 then (some 0) else (if t_length ≤ 10 then (f_X7_isWord_L20 t_charactersF t_length 1000 0 (fun x1_20_7 => some 1)) else (some 0))
theorem hd_X7_isWord : yX7_isWord.cls = RX7 ∧ yX7_isWord.cls ≠ "java/lang/invoke/MethodHandle" ∧ yX7_isWord.cls ≠ "java/lang/invoke/VarHandle" ∧ (parseMethodDescriptor yX7_isWord.desc).map (fun d => d.parameters.length) = some 0 := by decide +kernel
set_option maxRecDepth 100000 in
set_option maxHeartbeats 4000000 in
theorem c_X7_isWord (l : Launch) (D : va_G) (J : JT) (kc ki kb kl kd : ClassId) (t : Nat) (t_characters : Nat) (t_charactersF : Nat → Int32) (t_length : Int32) (res : Int32) (hF : f_X7_isWord t_charactersF t_length = some res) : aKi l yX7_isWord (aW yX7_isWord cX7_isWord 2 ((some .boolean))) ({ frames := 1, cells := 0, slots := 0, locals := 20 } : Room) D J (aTy kc ki kb kl kd) [.ref t] (wX7 kc t t_characters t_charactersF t_length) (fun r => r) (fun _ => wX7 kc t t_characters t_charactersF t_length) res := by
  refine aKi_of (own := RX7) (by decide) rfl (Nat.le_of_ble_eq_true rfl) rfl ?_
  intro p e s m args below meth c C hr
  have hI20 : ∀ (fuel : Nat) (x1 : Int32) (k : Int32 → Option Int32), f_X7_isWord_L20 t_charactersF t_length fuel x1 k = some res → (∀ (x1 : Int32), k x1 = some res → aT p l e ({ frames := 1, cells := 0, slots := 0, locals := 20 } : Room) s m args below meth c (MQ below (aQi D (wX7 kc t t_characters t_charactersF t_length) s.heap.size (fun r => r) (fun _ => wX7 kc t t_characters t_charactersF t_length) res) args s 0 0 (va_A (wX7 kc t t_characters t_charactersF t_length) s.heap.size)) D (va_A (wX7 kc t t_characters t_charactersF t_length) s.heap.size) 2 0 0 48 [] [] (wX7 kc t t_characters t_charactersF t_length)) → aT p l e ({ frames := 1, cells := 0, slots := 0, locals := 20 } : Room) s m args below meth c (MQ below (aQi D (wX7 kc t t_characters t_charactersF t_length) s.heap.size (fun r => r) (fun _ => wX7 kc t t_characters t_charactersF t_length) res) args s 0 0 (va_A (wX7 kc t t_characters t_charactersF t_length) s.heap.size)) D (va_A (wX7 kc t t_characters t_charactersF t_length) s.heap.size) 2 0 0 20 [(0, .ref t), (1, .int x1)] [] (wX7 kc t t_characters t_charactersF t_length) := by
    intro fuel
    induction fuel with
    | zero => intro x1 k hF hX; exact nomatch hF
    | succ fuel ih =>
      intro x1 k hF hX
      rw [f_X7_isWord_L20] at hF
      refine a_iload_n C 1 dX7_isWord_20 rfl rfl ?_
      refine a_aload_n C 0 dX7_isWord_21 rfl rfl ?_
      refine a_get C 0 1 iwX7 rfl rfl (by decide) kf_X7_15 rfl dX7_isWord_22 ?_
      refine a_ic_ge C (tgt := 48) dX7_isWord_25 (by decide) hF (fun c25_3 hF => ?_) (fun c25_3 hF => ?_)
      · refine a_sub C [] [] rfl ?_
        exact hX x1 hF
      refine a_aload_n C 0 dX7_isWord_28 rfl rfl ?_
      refine a_get C 0 0 iwX7 rfl rfl (by decide) kf_X7_9 rfl dX7_isWord_29 ?_
      refine a_iload_n C 1 dX7_isWord_32 rfl rfl ?_
      refine a_cald C 1 0 rfl rfl dX7_isWord_33 hF (fun v33_4 ev33_4 hF => ?_)
      refine a_callN C 1 (good_c _ _ _ _ kc_X8_isSmallLetter) ks_X8_isSmallLetter kn_X8 C.2.1.2.2 hd_X8_isSmallLetter ⟨rfl, rfl⟩ ⟨Nat.le_of_ble_eq_true rfl, Nat.le_of_ble_eq_true rfl⟩ (fun r h => c_X8_isSmallLetter l D J kc ki kb kl kd v33_4 r h) rfl rfl (Nat.le_of_ble_eq_true rfl) dX7_isWord_34 ⟨Nat.zero_le _, Nat.zero_le _⟩ hF (fun r34_5 er34_5 hF => ?_)
      refine a_if_ne C (tgt := 42) dX7_isWord_37 (by decide) hF (fun c37_6 hF => ?_) (fun c37_6 hF => ?_)
      · refine a_iinc C 1 [(1, .int (x1 + 1)), (0, .ref t)] dX7_isWord_42 rfl rfl (by decide) rfl ?_
        refine a_goto C (tgt := 20) dX7_isWord_45 (by decide) ?_
        refine a_sub C [1, 0] [(0, .ref t), (1, .int (x1 + 1))] rfl ?_
        exact ih (x1 + 1) k hF hX
      refine a_iconst C (v := 0) dX7_isWord_40 (by decide) ?_
      exact a_iret C hr rfl dX7_isWord_41 hF rfl rfl
  unfold f_X7_isWord at hF
  refine a_aload_n C 0 dX7_isWord_0 rfl rfl ?_
  refine a_get C 0 1 iwX7 rfl rfl (by decide) kf_X7_15 rfl dX7_isWord_1 ?_
  refine a_if_eq C (tgt := 16) dX7_isWord_4 (by decide) hF (fun c4_1 hF => ?_) (fun c4_1 hF => ?_)
  · refine a_iconst C (v := 0) dX7_isWord_16 (by decide) ?_
    exact a_iret C hr rfl dX7_isWord_17 hF rfl rfl
  refine a_aload_n C 0 dX7_isWord_7 rfl rfl ?_
  refine a_get C 0 1 iwX7 rfl rfl (by decide) kf_X7_15 rfl dX7_isWord_8 ?_
  refine a_bipush C (v := 10) dX7_isWord_11 (by decide) ?_
  refine a_ic_le C (tgt := 18) dX7_isWord_13 (by decide) hF (fun c13_2 hF => ?_) (fun c13_2 hF => ?_)
  · refine a_iconst C (v := 0) dX7_isWord_18 (by decide) ?_
    refine a_istore_n C [(1, .int 0), (0, .ref t)] dX7_isWord_19 rfl (by decide) rfl ?_
    refine a_sub C [1, 0] [(0, .ref t), (1, .int 0)] rfl ?_
    refine hI20 1000 0 _ hF (fun x1_20_7 hF => ?_)
    refine a_iconst C (v := 1) dX7_isWord_48 (by decide) ?_
    exact a_iret C hr rfl dX7_isWord_49 hF rfl rfl
  refine a_iconst C (v := 0) dX7_isWord_16 (by decide) ?_
  exact a_iret C hr rfl dX7_isWord_17 hF rfl rfl
