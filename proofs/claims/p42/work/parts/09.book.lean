def f_X0_lines (t_lines : Int32) : Option Int32 := some t_lines
theorem hd_X0_lines : yX0_lines.cls = RX0 ∧ yX0_lines.cls ≠ "java/lang/invoke/MethodHandle" ∧ yX0_lines.cls ≠ "java/lang/invoke/VarHandle" ∧ (parseMethodDescriptor yX0_lines.desc).map (fun d => d.parameters.length) = some 0 := by decide +kernel
set_option maxRecDepth 100000 in
set_option maxHeartbeats 4000000 in
theorem c_X0_lines (l : Launch) (D : va_G) (J : JT) (kc ki kb kl kd : ClassId) (t : Nat) (t_letters : Nat) (t_sizes : Nat) (t_lettersF : Nat → Int32) (t_sizesF : Nat → Int32) (t_lines : Int32) (res : Int32) (hF : f_X0_lines t_lines = some res) : aKi l yX0_lines (aW yX0_lines cX0_lines 1 ((some .int))) ({ frames := 0, cells := 0, slots := 0, locals := 0 } : Room) D J (aTy kc ki kb kl kd) [.ref t] (wX0 kc ki t t_letters t_sizes t_lettersF t_sizesF t_lines) (fun r => r) (fun _ => wX0 kc ki t t_letters t_sizes t_lettersF t_sizesF t_lines) res := by
  refine aKi_of (own := RX0) (by decide) rfl (Nat.le_of_ble_eq_true rfl) rfl ?_
  intro p e s m args below meth c C hr
  unfold f_X0_lines at hF
  refine a_aload_n C 0 dX0_lines_0 rfl rfl ?_
  refine a_get C 0 2 iwX0 rfl rfl (by decide) kf_X0_19 rfl dX0_lines_1 ?_
  exact a_iret C hr rfl dX0_lines_4 hF rfl rfl
def f_X0_hasLine (t_lines : Int32) (p1 : Int32) : Option Int32 := if p1 < 0 then (some 0) else (if t_lines ≤ p1 then (some 0) else (some 1))
theorem hd_X0_hasLine : yX0_hasLine.cls = RX0 ∧ yX0_hasLine.cls ≠ "java/lang/invoke/MethodHandle" ∧ yX0_hasLine.cls ≠ "java/lang/invoke/VarHandle" ∧ (parseMethodDescriptor yX0_hasLine.desc).map (fun d => d.parameters.length) = some 1 := by decide +kernel
set_option maxRecDepth 100000 in
set_option maxHeartbeats 4000000 in
theorem c_X0_hasLine (l : Launch) (D : va_G) (J : JT) (kc ki kb kl kd : ClassId) (t : Nat) (t_letters : Nat) (t_sizes : Nat) (t_lettersF : Nat → Int32) (t_sizesF : Nat → Int32) (t_lines : Int32) (p1 : Int32) (res : Int32) (hF : f_X0_hasLine t_lines p1 = some res) : aKi l yX0_hasLine (aW yX0_hasLine cX0_hasLine 2 ((some .boolean))) ({ frames := 0, cells := 0, slots := 0, locals := 0 } : Room) D J (aTy kc ki kb kl kd) [.ref t, .int p1] (wX0 kc ki t t_letters t_sizes t_lettersF t_sizesF t_lines) (fun r => r) (fun _ => wX0 kc ki t t_letters t_sizes t_lettersF t_sizesF t_lines) res := by
  refine aKi_of (own := RX0) (by decide) rfl (Nat.le_of_ble_eq_true rfl) rfl ?_
  intro p e s m args below meth c C hr
  unfold f_X0_hasLine at hF
  refine a_iload_n C 1 dX0_hasLine_0 rfl rfl ?_
  refine a_if_lt C (tgt := 16) dX0_hasLine_1 (by decide) hF (fun c1_1 hF => ?_) (fun c1_1 hF => ?_)
  · refine a_iconst C (v := 0) dX0_hasLine_16 (by decide) ?_
    exact a_iret C hr rfl dX0_hasLine_17 hF rfl rfl
  refine a_iload_n C 1 dX0_hasLine_4 rfl rfl ?_
  refine a_aload_n C 0 dX0_hasLine_5 rfl rfl ?_
  refine a_get C 0 2 iwX0 rfl rfl (by decide) kf_X0_19 rfl dX0_hasLine_6 ?_
  refine a_ic_ge C (tgt := 16) dX0_hasLine_9 (by decide) hF (fun c9_2 hF => ?_) (fun c9_2 hF => ?_)
  · refine a_iconst C (v := 0) dX0_hasLine_16 (by decide) ?_
    exact a_iret C hr rfl dX0_hasLine_17 hF rfl rfl
  refine a_iconst C (v := 1) dX0_hasLine_12 (by decide) ?_
  refine a_goto C (tgt := 17) dX0_hasLine_13 (by decide) ?_
  exact a_iret C hr rfl dX0_hasLine_17 hF rfl rfl
def f_X0_hasPlace (t_sizesF : Nat → Int32) (t_lines : Int32) (p1 : Int32) (p2 : Int32) : Option Int32 := if p1 < 0 then (some 0) else (if t_lines ≤ p1 then (some 0) else (if p2 < 0 then (some 0) else ((ldi t_sizesF 8 p1).bind fun v22_4 => if v22_4 ≤ p2 then (some 0) else (some 1))))
theorem hd_X0_hasPlace : yX0_hasPlace.cls = RX0 ∧ yX0_hasPlace.cls ≠ "java/lang/invoke/MethodHandle" ∧ yX0_hasPlace.cls ≠ "java/lang/invoke/VarHandle" ∧ (parseMethodDescriptor yX0_hasPlace.desc).map (fun d => d.parameters.length) = some 2 := by decide +kernel
set_option maxRecDepth 100000 in
set_option maxHeartbeats 4000000 in
theorem c_X0_hasPlace (l : Launch) (D : va_G) (J : JT) (kc ki kb kl kd : ClassId) (t : Nat) (t_letters : Nat) (t_sizes : Nat) (t_lettersF : Nat → Int32) (t_sizesF : Nat → Int32) (t_lines : Int32) (p1 p2 : Int32) (res : Int32) (hF : f_X0_hasPlace t_sizesF t_lines p1 p2 = some res) : aKi l yX0_hasPlace (aW yX0_hasPlace cX0_hasPlace 3 ((some .boolean))) ({ frames := 0, cells := 0, slots := 0, locals := 0 } : Room) D J (aTy kc ki kb kl kd) [.ref t, .int p1, .int p2] (wX0 kc ki t t_letters t_sizes t_lettersF t_sizesF t_lines) (fun r => r) (fun _ => wX0 kc ki t t_letters t_sizes t_lettersF t_sizesF t_lines) res := by
  refine aKi_of (own := RX0) (by decide) rfl (Nat.le_of_ble_eq_true rfl) rfl ?_
  intro p e s m args below meth c C hr
  unfold f_X0_hasPlace at hF
  refine a_iload_n C 1 dX0_hasPlace_0 rfl rfl ?_
  refine a_if_lt C (tgt := 30) dX0_hasPlace_1 (by decide) hF (fun c1_1 hF => ?_) (fun c1_1 hF => ?_)
  · refine a_iconst C (v := 0) dX0_hasPlace_30 (by decide) ?_
    exact a_iret C hr rfl dX0_hasPlace_31 hF rfl rfl
  refine a_iload_n C 1 dX0_hasPlace_4 rfl rfl ?_
  refine a_aload_n C 0 dX0_hasPlace_5 rfl rfl ?_
  refine a_get C 0 2 iwX0 rfl rfl (by decide) kf_X0_19 rfl dX0_hasPlace_6 ?_
  refine a_ic_ge C (tgt := 30) dX0_hasPlace_9 (by decide) hF (fun c9_2 hF => ?_) (fun c9_2 hF => ?_)
  · refine a_iconst C (v := 0) dX0_hasPlace_30 (by decide) ?_
    exact a_iret C hr rfl dX0_hasPlace_31 hF rfl rfl
  refine a_iload_n C 2 dX0_hasPlace_12 rfl rfl ?_
  refine a_if_lt C (tgt := 30) dX0_hasPlace_13 (by decide) hF (fun c13_3 hF => ?_) (fun c13_3 hF => ?_)
  · refine a_iconst C (v := 0) dX0_hasPlace_30 (by decide) ?_
    exact a_iret C hr rfl dX0_hasPlace_31 hF rfl rfl
  refine a_iload_n C 2 dX0_hasPlace_16 rfl rfl ?_
  refine a_aload_n C 0 dX0_hasPlace_17 rfl rfl ?_
  refine a_get C 0 1 iwX0 rfl rfl (by decide) kf_X0_15 rfl dX0_hasPlace_18 ?_
  refine a_iload_n C 1 dX0_hasPlace_21 rfl rfl ?_
  refine a_iald C 2 1 rfl rfl dX0_hasPlace_22 hF (fun v22_4 ev22_4 hF => ?_)
  refine a_ic_ge C (tgt := 30) dX0_hasPlace_23 (by decide) hF (fun c23_5 hF => ?_) (fun c23_5 hF => ?_)
  · refine a_iconst C (v := 0) dX0_hasPlace_30 (by decide) ?_
    exact a_iret C hr rfl dX0_hasPlace_31 hF rfl rfl
  refine a_iconst C (v := 1) dX0_hasPlace_26 (by decide) ?_
  refine a_goto C (tgt := 31) dX0_hasPlace_27 (by decide) ?_
  exact a_iret C hr rfl dX0_hasPlace_31 hF rfl rfl
theorem cs_X0_23 : GoodIn WW (wsV RX0 23 RX0 yX0_hasLine (aW yX0_hasLine cX0_hasLine 2 ((some .boolean)))) := gdV kl_X0_23 ki_X0_hasLine kv_X0_hasLine kn_X0 kc_X0_hasLine
def f_X0_size (t_sizesF : Nat → Int32) (t_lines : Int32) (p1 : Int32) : Option Int32 := (f_X0_hasLine t_lines p1).bind fun r2_1 => if r2_1 = 0 then (some 0) else ((ldi t_sizesF 8 p1).bind fun v13_3 => some v13_3)
theorem hd_X0_size : yX0_size.cls = RX0 ∧ yX0_size.cls ≠ "java/lang/invoke/MethodHandle" ∧ yX0_size.cls ≠ "java/lang/invoke/VarHandle" ∧ (parseMethodDescriptor yX0_size.desc).map (fun d => d.parameters.length) = some 1 := by decide +kernel
set_option maxRecDepth 100000 in
set_option maxHeartbeats 4000000 in
theorem c_X0_size (l : Launch) (D : va_G) (J : JT) (kc ki kb kl kd : ClassId) (t : Nat) (t_letters : Nat) (t_sizes : Nat) (t_lettersF : Nat → Int32) (t_sizesF : Nat → Int32) (t_lines : Int32) (p1 : Int32) (res : Int32) (hF : f_X0_size t_sizesF t_lines p1 = some res) : aKi l yX0_size (aW yX0_size cX0_size 2 ((some .int))) ({ frames := 1, cells := 0, slots := 0, locals := 21 } : Room) D J (aTy kc ki kb kl kd) [.ref t, .int p1] (wX0 kc ki t t_letters t_sizes t_lettersF t_sizesF t_lines) (fun r => r) (fun _ => wX0 kc ki t t_letters t_sizes t_lettersF t_sizesF t_lines) res := by
  refine aKi_of (own := RX0) (by decide) rfl (Nat.le_of_ble_eq_true rfl) rfl ?_
  intro p e s m args below meth c C hr
  unfold f_X0_size at hF
  refine a_aload_n C 0 dX0_size_0 rfl rfl ?_
  refine a_iload_n C 1 dX0_size_1 rfl rfl ?_
  refine a_callVir C 1 [0, 1, 2] 0 cs_X0_23 hd_X0_hasLine ⟨rfl, rfl⟩ ⟨Nat.le_of_ble_eq_true rfl, Nat.le_of_ble_eq_true rfl⟩ (fun r h => c_X0_hasLine l D J kc ki kb kl kd t t_letters t_sizes t_lettersF t_sizesF t_lines p1 r h) rfl rfl rfl rfl rfl rfl (Nat.le_of_ble_eq_true rfl) dX0_size_2 ⟨Nat.zero_le _, Nat.zero_le _⟩ hF (fun r2_1 er2_1 hF => ?_)
  refine a_if_eq C (tgt := 17) dX0_size_5 (by decide) hF (fun c5_2 hF => ?_) (fun c5_2 hF => ?_)
  · refine a_iconst C (v := 0) dX0_size_17 (by decide) ?_
    exact a_iret C hr rfl dX0_size_18 hF rfl rfl
  refine a_aload_n C 0 dX0_size_8 rfl rfl ?_
  refine a_get C 0 1 iwX0 rfl rfl (by decide) kf_X0_15 rfl dX0_size_9 ?_
  refine a_iload_n C 1 dX0_size_12 rfl rfl ?_
  refine a_iald C 2 1 rfl rfl dX0_size_13 hF (fun v13_3 ev13_3 hF => ?_)
  refine a_goto C (tgt := 18) dX0_size_14 (by decide) ?_
  exact a_iret C hr rfl dX0_size_18 hF rfl rfl
theorem cs_X0_27 : GoodIn WW (wsV RX0 27 RX0 yX0_hasPlace (aW yX0_hasPlace cX0_hasPlace 3 ((some .boolean)))) := gdV kl_X0_27 ki_X0_hasPlace kv_X0_hasPlace kn_X0 kc_X0_hasPlace
def f_X0_letterAt (t_lettersF : Nat → Int32) (t_sizesF : Nat → Int32) (t_lines : Int32) (p1 : Int32) (p2 : Int32) : Option Int32 := (f_X0_hasPlace t_sizesF t_lines p1 p2).bind fun r3_1 => if r3_1 = 0 then (some 0) else ((ldc t_lettersF 80 ((p1 * 10) + p2)).bind fun v19_3 => (rc v19_3).bind fun _ => some v19_3)
theorem hd_X0_letterAt : yX0_letterAt.cls = RX0 ∧ yX0_letterAt.cls ≠ "java/lang/invoke/MethodHandle" ∧ yX0_letterAt.cls ≠ "java/lang/invoke/VarHandle" ∧ (parseMethodDescriptor yX0_letterAt.desc).map (fun d => d.parameters.length) = some 2 := by decide +kernel
set_option maxRecDepth 100000 in
set_option maxHeartbeats 4000000 in
theorem c_X0_letterAt (l : Launch) (D : va_G) (J : JT) (kc ki kb kl kd : ClassId) (t : Nat) (t_letters : Nat) (t_sizes : Nat) (t_lettersF : Nat → Int32) (t_sizesF : Nat → Int32) (t_lines : Int32) (p1 p2 : Int32) (res : Int32) (hF : f_X0_letterAt t_lettersF t_sizesF t_lines p1 p2 = some res) : aKi l yX0_letterAt (aW yX0_letterAt cX0_letterAt 3 ((some .char))) ({ frames := 1, cells := 0, slots := 0, locals := 22 } : Room) D J (aTy kc ki kb kl kd) [.ref t, .int p1, .int p2] (wX0 kc ki t t_letters t_sizes t_lettersF t_sizesF t_lines) (fun r => r) (fun _ => wX0 kc ki t t_letters t_sizes t_lettersF t_sizesF t_lines) res := by
  refine aKi_of (own := RX0) (by decide) rfl (Nat.le_of_ble_eq_true rfl) rfl ?_
  intro p e s m args below meth c C hr
  unfold f_X0_letterAt at hF
  refine a_aload_n C 0 dX0_letterAt_0 rfl rfl ?_
  refine a_iload_n C 1 dX0_letterAt_1 rfl rfl ?_
  refine a_iload_n C 2 dX0_letterAt_2 rfl rfl ?_
  refine a_callVir C 2 [0, 1, 2] 0 cs_X0_27 hd_X0_hasPlace ⟨rfl, rfl⟩ ⟨Nat.le_of_ble_eq_true rfl, Nat.le_of_ble_eq_true rfl⟩ (fun r h => c_X0_hasPlace l D J kc ki kb kl kd t t_letters t_sizes t_lettersF t_sizesF t_lines p1 p2 r h) rfl rfl rfl rfl rfl rfl (Nat.le_of_ble_eq_true rfl) dX0_letterAt_3 ⟨Nat.zero_le _, Nat.zero_le _⟩ hF (fun r3_1 er3_1 hF => ?_)
  refine a_if_eq C (tgt := 23) dX0_letterAt_6 (by decide) hF (fun c6_2 hF => ?_) (fun c6_2 hF => ?_)
  · refine a_iconst C (v := 0) dX0_letterAt_23 (by decide) ?_
    exact a_iret C hr rfl dX0_letterAt_24 hF rfl rfl
  refine a_aload_n C 0 dX0_letterAt_9 rfl rfl ?_
  refine a_get C 0 0 iwX0 rfl rfl (by decide) kf_X0_9 rfl dX0_letterAt_10 ?_
  refine a_iload_n C 1 dX0_letterAt_13 rfl rfl ?_
  refine a_bipush C (v := 10) dX0_letterAt_14 (by decide) ?_
  refine a_imul C dX0_letterAt_16 ?_
  refine a_iload_n C 2 dX0_letterAt_17 rfl rfl ?_
  refine a_iadd C dX0_letterAt_18 ?_
  refine a_cald C 1 0 rfl rfl dX0_letterAt_19 hF (fun v19_3 ev19_3 hF => ?_)
  refine a_goto C (tgt := 24) dX0_letterAt_20 (by decide) ?_
  refine a_rc hF (fun n24_4 hF => ?_)
  exact a_iret C hr n24_4 dX0_letterAt_24 hF rfl rfl
def f_X0_setLetter (t_lettersF : Nat → Int32) (t_sizesF : Nat → Int32) (t_lines : Int32) (p1 : Int32) (p2 : Int32) (p3 : Int32) : Option ((Nat → Int32)) := (f_X0_hasPlace t_sizesF t_lines p1 p2).bind fun r3_1 => if r3_1 = 0 then (some t_lettersF) else ((stc t_lettersF 80 ((p1 * 10) + p2) p3).bind fun g20_3 => some g20_3)
theorem hd_X0_setLetter : yX0_setLetter.cls = RX0 ∧ yX0_setLetter.cls ≠ "java/lang/invoke/MethodHandle" ∧ yX0_setLetter.cls ≠ "java/lang/invoke/VarHandle" ∧ (parseMethodDescriptor yX0_setLetter.desc).map (fun d => d.parameters.length) = some 3 := by decide +kernel
set_option maxRecDepth 100000 in
set_option maxHeartbeats 4000000 in
theorem c_X0_setLetter (l : Launch) (D : va_G) (J : JT) (kc ki kb kl kd : ClassId) (t : Nat) (t_letters : Nat) (t_sizes : Nat) (t_lettersF : Nat → Int32) (t_sizesF : Nat → Int32) (t_lines : Int32) (p1 p2 p3 : Int32) (res : (Nat → Int32)) (hF : f_X0_setLetter t_lettersF t_sizesF t_lines p1 p2 p3 = some res) : aKv l yX0_setLetter (aW yX0_setLetter cX0_setLetter 4 none) ({ frames := 1, cells := 0, slots := 0, locals := 22 } : Room) D J (aTy kc ki kb kl kd) [.ref t, .int p1, .int p2, .int p3] (wX0 kc ki t t_letters t_sizes t_lettersF t_sizesF t_lines) (fun r => wX0 kc ki t t_letters t_sizes r t_sizesF t_lines) res := by
  refine aKv_of (own := RX0) (by decide) rfl (Nat.le_of_ble_eq_true rfl) rfl ?_
  intro p e s m args below meth c C hr
  unfold f_X0_setLetter at hF
  refine a_aload_n C 0 dX0_setLetter_0 rfl rfl ?_
  refine a_iload_n C 1 dX0_setLetter_1 rfl rfl ?_
  refine a_iload_n C 2 dX0_setLetter_2 rfl rfl ?_
  refine a_callVir C 2 [0, 1, 2] 0 cs_X0_27 hd_X0_hasPlace ⟨rfl, rfl⟩ ⟨Nat.le_of_ble_eq_true rfl, Nat.le_of_ble_eq_true rfl⟩ (fun r h => c_X0_hasPlace l D J kc ki kb kl kd t t_letters t_sizes t_lettersF t_sizesF t_lines p1 p2 r h) rfl rfl rfl rfl rfl rfl (Nat.le_of_ble_eq_true rfl) dX0_setLetter_3 ⟨Nat.zero_le _, Nat.zero_le _⟩ hF (fun r3_1 er3_1 hF => ?_)
  refine a_if_eq C (tgt := 21) dX0_setLetter_6 (by decide) hF (fun c6_2 hF => ?_) (fun c6_2 hF => ?_)
  · exact a_vret C hr dX0_setLetter_21 hF rfl
  refine a_aload_n C 0 dX0_setLetter_9 rfl rfl ?_
  refine a_get C 0 0 iwX0 rfl rfl (by decide) kf_X0_9 rfl dX0_setLetter_10 ?_
  refine a_iload_n C 1 dX0_setLetter_13 rfl rfl ?_
  refine a_bipush C (v := 10) dX0_setLetter_14 (by decide) ?_
  refine a_imul C dX0_setLetter_16 ?_
  refine a_iload_n C 2 dX0_setLetter_17 rfl rfl ?_
  refine a_iadd C dX0_setLetter_18 ?_
  refine a_iload_n C 3 dX0_setLetter_19 rfl rfl ?_
  refine a_cast C 1 0 rfl rfl dX0_setLetter_20 hF (fun g20_3 eg20_3 hF => ?_)
  refine a_ws C (ws' := wX0 kc ki t t_letters t_sizes g20_3 t_sizesF t_lines) rfl ?_
  exact a_vret C hr dX0_setLetter_21 hF rfl
def f_X0_openLine (t_sizesF : Nat → Int32) (t_lines : Int32) : Option ((Nat → Int32) × Int32) := if 8 ≤ t_lines then (some (t_sizesF, t_lines)) else ((sti t_sizesF 8 t_lines 0).bind fun g18_2 => some (g18_2, t_lines + 1))
theorem hd_X0_openLine : yX0_openLine.cls = RX0 ∧ yX0_openLine.cls ≠ "java/lang/invoke/MethodHandle" ∧ yX0_openLine.cls ≠ "java/lang/invoke/VarHandle" ∧ (parseMethodDescriptor yX0_openLine.desc).map (fun d => d.parameters.length) = some 0 := by decide +kernel
set_option maxRecDepth 100000 in
set_option maxHeartbeats 4000000 in
theorem c_X0_openLine (l : Launch) (D : va_G) (J : JT) (kc ki kb kl kd : ClassId) (t : Nat) (t_letters : Nat) (t_sizes : Nat) (t_lettersF : Nat → Int32) (t_sizesF : Nat → Int32) (t_lines : Int32) (res : (Nat → Int32) × Int32) (hF : f_X0_openLine t_sizesF t_lines = some res) : aKv l yX0_openLine (aW yX0_openLine cX0_openLine 1 none) ({ frames := 0, cells := 0, slots := 0, locals := 0 } : Room) D J (aTy kc ki kb kl kd) [.ref t] (wX0 kc ki t t_letters t_sizes t_lettersF t_sizesF t_lines) (fun r => wX0 kc ki t t_letters t_sizes t_lettersF r.1 r.2) res := by
  refine aKv_of (own := RX0) (by decide) rfl (Nat.le_of_ble_eq_true rfl) rfl ?_
  intro p e s m args below meth c C hr
  unfold f_X0_openLine at hF
  refine a_aload_n C 0 dX0_openLine_0 rfl rfl ?_
  refine a_get C 0 2 iwX0 rfl rfl (by decide) kf_X0_19 rfl dX0_openLine_1 ?_
  refine a_bipush C (v := 8) dX0_openLine_4 (by decide) ?_
  refine a_ic_ge C (tgt := 29) dX0_openLine_6 (by decide) hF (fun c6_1 hF => ?_) (fun c6_1 hF => ?_)
  · exact a_vret C hr dX0_openLine_29 hF rfl
  refine a_aload_n C 0 dX0_openLine_9 rfl rfl ?_
  refine a_get C 0 1 iwX0 rfl rfl (by decide) kf_X0_15 rfl dX0_openLine_10 ?_
  refine a_aload_n C 0 dX0_openLine_13 rfl rfl ?_
  refine a_get C 0 2 iwX0 rfl rfl (by decide) kf_X0_19 rfl dX0_openLine_14 ?_
  refine a_iconst C (v := 0) dX0_openLine_17 (by decide) ?_
  refine a_iast C 2 1 rfl rfl dX0_openLine_18 hF (fun g18_2 eg18_2 hF => ?_)
  refine a_ws C (ws' := wX0 kc ki t t_letters t_sizes t_lettersF g18_2 t_lines) rfl ?_
  refine a_aload_n C 0 dX0_openLine_19 rfl rfl ?_
  refine a_dup C dX0_openLine_20 rfl ?_
  refine a_get C 0 2 iwX0 rfl rfl (by decide) kf_X0_19 rfl dX0_openLine_21 ?_
  refine a_iconst C (v := 1) dX0_openLine_24 (by decide) ?_
  refine a_iadd C dX0_openLine_25 ?_
  refine a_put C 0 2 iwX0 tyX0_ok nmX0 rfl rfl (by decide) kf_X0_19 rfl rfl rfl (Nat.le_of_ble_eq_true rfl) dX0_openLine_26 ?_
  refine a_ws C (ws' := wX0 kc ki t t_letters t_sizes t_lettersF g18_2 (t_lines + 1)) rfl ?_
  exact a_vret C hr dX0_openLine_29 hF rfl
theorem cs_X0_31 : GoodIn WW (wsV RX0 31 RX0 yX0_setLetter (aW yX0_setLetter cX0_setLetter 4 none)) := gdV kl_X0_31 ki_X0_setLetter kv_X0_setLetter kn_X0 kc_X0_setLetter
def f_X0_putLetter (t_lettersF : Nat → Int32) (t_sizesF : Nat → Int32) (t_lines : Int32) (p1 : Int32) (p2 : Int32) : Option ((Nat → Int32) × (Nat → Int32)) := (f_X0_hasLine t_lines p1).bind fun r2_1 => if r2_1 = 0 then (some (t_lettersF, t_sizesF)) else ((ldi t_sizesF 8 p1).bind fun v13_3 => if 10 ≤ v13_3 then (some (t_lettersF, t_sizesF)) else ((ldi t_sizesF 8 p1).bind fun v25_5 => (sti t_sizesF 8 p1 (v25_5 + 1)).bind fun g28_6 => (ldi g28_6 8 p1).bind fun v36_7 => (f_X0_setLetter t_lettersF g28_6 t_lines p1 (v36_7 - 1) p2).bind fun r40_8 => some (r40_8, g28_6)))
theorem hd_X0_putLetter : yX0_putLetter.cls = RX0 ∧ yX0_putLetter.cls ≠ "java/lang/invoke/MethodHandle" ∧ yX0_putLetter.cls ≠ "java/lang/invoke/VarHandle" ∧ (parseMethodDescriptor yX0_putLetter.desc).map (fun d => d.parameters.length) = some 2 := by decide +kernel
set_option maxRecDepth 100000 in
set_option maxHeartbeats 4000000 in
theorem c_X0_putLetter (l : Launch) (D : va_G) (J : JT) (kc ki kb kl kd : ClassId) (t : Nat) (t_letters : Nat) (t_sizes : Nat) (t_lettersF : Nat → Int32) (t_sizesF : Nat → Int32) (t_lines : Int32) (p1 p2 : Int32) (res : (Nat → Int32) × (Nat → Int32)) (hF : f_X0_putLetter t_lettersF t_sizesF t_lines p1 p2 = some res) : aKv l yX0_putLetter (aW yX0_putLetter cX0_putLetter 3 none) ({ frames := 2, cells := 0, slots := 0, locals := 45 } : Room) D J (aTy kc ki kb kl kd) [.ref t, .int p1, .int p2] (wX0 kc ki t t_letters t_sizes t_lettersF t_sizesF t_lines) (fun r => wX0 kc ki t t_letters t_sizes r.1 r.2 t_lines) res := by
  refine aKv_of (own := RX0) (by decide) rfl (Nat.le_of_ble_eq_true rfl) rfl ?_
  intro p e s m args below meth c C hr
  unfold f_X0_putLetter at hF
  refine a_aload_n C 0 dX0_putLetter_0 rfl rfl ?_
  refine a_iload_n C 1 dX0_putLetter_1 rfl rfl ?_
  refine a_callVir C 1 [0, 1, 2] 0 cs_X0_23 hd_X0_hasLine ⟨rfl, rfl⟩ ⟨Nat.le_of_ble_eq_true rfl, Nat.le_of_ble_eq_true rfl⟩ (fun r h => c_X0_hasLine l D J kc ki kb kl kd t t_letters t_sizes t_lettersF t_sizesF t_lines p1 r h) rfl rfl rfl rfl rfl rfl (Nat.le_of_ble_eq_true rfl) dX0_putLetter_2 ⟨Nat.zero_le _, Nat.zero_le _⟩ hF (fun r2_1 er2_1 hF => ?_)
  refine a_if_eq C (tgt := 43) dX0_putLetter_5 (by decide) hF (fun c5_2 hF => ?_) (fun c5_2 hF => ?_)
  · exact a_vret C hr dX0_putLetter_43 hF rfl
  refine a_aload_n C 0 dX0_putLetter_8 rfl rfl ?_
  refine a_get C 0 1 iwX0 rfl rfl (by decide) kf_X0_15 rfl dX0_putLetter_9 ?_
  refine a_iload_n C 1 dX0_putLetter_12 rfl rfl ?_
  refine a_iald C 2 1 rfl rfl dX0_putLetter_13 hF (fun v13_3 ev13_3 hF => ?_)
  refine a_bipush C (v := 10) dX0_putLetter_14 (by decide) ?_
  refine a_ic_ge C (tgt := 43) dX0_putLetter_16 (by decide) hF (fun c16_4 hF => ?_) (fun c16_4 hF => ?_)
  · exact a_vret C hr dX0_putLetter_43 hF rfl
  refine a_aload_n C 0 dX0_putLetter_19 rfl rfl ?_
  refine a_get C 0 1 iwX0 rfl rfl (by decide) kf_X0_15 rfl dX0_putLetter_20 ?_
  refine a_iload_n C 1 dX0_putLetter_23 rfl rfl ?_
  refine a_dup2 C dX0_putLetter_24 rfl rfl ?_
  refine a_iald C 2 1 rfl rfl dX0_putLetter_25 hF (fun v25_5 ev25_5 hF => ?_)
  refine a_iconst C (v := 1) dX0_putLetter_26 (by decide) ?_
  refine a_iadd C dX0_putLetter_27 ?_
  refine a_iast C 2 1 rfl rfl dX0_putLetter_28 hF (fun g28_6 eg28_6 hF => ?_)
  refine a_ws C (ws' := wX0 kc ki t t_letters t_sizes t_lettersF g28_6 t_lines) rfl ?_
  refine a_aload_n C 0 dX0_putLetter_29 rfl rfl ?_
  refine a_iload_n C 1 dX0_putLetter_30 rfl rfl ?_
  refine a_aload_n C 0 dX0_putLetter_31 rfl rfl ?_
  refine a_get C 0 1 iwX0 rfl rfl (by decide) kf_X0_15 rfl dX0_putLetter_32 ?_
  refine a_iload_n C 1 dX0_putLetter_35 rfl rfl ?_
  refine a_iald C 2 1 rfl rfl dX0_putLetter_36 hF (fun v36_7 ev36_7 hF => ?_)
  refine a_iconst C (v := 1) dX0_putLetter_37 (by decide) ?_
  refine a_isub C dX0_putLetter_38 ?_
  refine a_iload_n C 2 dX0_putLetter_39 rfl rfl ?_
  refine a_callVv C 3 [0, 1, 2] 0 cs_X0_31 hd_X0_setLetter ⟨rfl, rfl⟩ ⟨Nat.le_of_ble_eq_true rfl, Nat.le_of_ble_eq_true rfl⟩ (fun r h => c_X0_setLetter l D J kc ki kb kl kd t t_letters t_sizes t_lettersF g28_6 t_lines p1 (v36_7 - 1) p2 r h) rfl rfl rfl (fun _ => rfl) rfl rfl rfl (Nat.le_of_ble_eq_true rfl) dX0_putLetter_40 ⟨Nat.zero_le _, Nat.zero_le _⟩ hF (fun r40_8 er40_8 hF => ?_)
  refine a_ws C (ws' := wX0 kc ki t t_letters t_sizes r40_8 g28_6 t_lines) rfl ?_
  exact a_vret C hr dX0_putLetter_43 hF rfl
def f_X0_exchangeLines_L18 (p1 : Int32) (p2 : Int32) : Nat → Int32 → (Nat → Int32) → (Int32 → (Nat → Int32) → Option ((Nat → Int32) × (Nat → Int32))) → Option ((Nat → Int32) × (Nat → Int32))
  | 0, _, _, _ => none
  | fuel + 1, x3, q_t_lettersF, k => if 10 ≤ x3 then (k x3 q_t_lettersF) else ((ldc q_t_lettersF 80 ((p1 * 10) + x3)).bind fun v34_6 => (ldc q_t_lettersF 80 ((p2 * 10) + x3)).bind fun v57_7 => (stc q_t_lettersF 80 ((p1 * 10) + x3) v57_7).bind fun g58_8 => (stc g58_8 80 ((p2 * 10) + x3) v34_6).bind fun g71_9 => f_X0_exchangeLines_L18 p1 p2 fuel (x3 + 1) g71_9 k)
def f_X0_exchangeLines (t_lettersF : Nat → Int32) (t_sizesF : Nat → Int32) (t_lines : Int32) (p1 : Int32) (p2 : Int32) : Option ((Nat → Int32) × (Nat → Int32)) := (f_X0_hasLine t_lines p1).bind fun r2_1 => if r2_1 = 0 then (some (t_lettersF, t_sizesF)) else ((f_X0_hasLine t_lines p2).bind fun r10_3 => if r10_3 = 0 then (some (t_lettersF, t_sizesF)) else (f_X0_exchangeLines_L18 p1 p2 1000 0 t_lettersF (fun x3_18_10 q_t_lettersF_18_11 => (ldi t_sizesF 8 p1).bind fun v83_12 => (ldi t_sizesF 8 p2).bind fun v95_13 => (sti t_sizesF 8 p1 v95_13).bind fun g96_14 => (sti g96_14 8 p2 v83_12).bind fun g103_15 => some (q_t_lettersF_18_11, g103_15))))
theorem hd_X0_exchangeLines : yX0_exchangeLines.cls = RX0 ∧ yX0_exchangeLines.cls ≠ "java/lang/invoke/MethodHandle" ∧ yX0_exchangeLines.cls ≠ "java/lang/invoke/VarHandle" ∧ (parseMethodDescriptor yX0_exchangeLines.desc).map (fun d => d.parameters.length) = some 2 := by decide +kernel
set_option maxRecDepth 100000 in
set_option maxHeartbeats 4000000 in
theorem c_X0_exchangeLines (l : Launch) (D : va_G) (J : JT) (kc ki kb kl kd : ClassId) (t : Nat) (t_letters : Nat) (t_sizes : Nat) (t_lettersF : Nat → Int32) (t_sizesF : Nat → Int32) (t_lines : Int32) (p1 p2 : Int32) (res : (Nat → Int32) × (Nat → Int32)) (hF : f_X0_exchangeLines t_lettersF t_sizesF t_lines p1 p2 = some res) : aKv l yX0_exchangeLines (aW yX0_exchangeLines cX0_exchangeLines 5 none) ({ frames := 1, cells := 0, slots := 0, locals := 21 } : Room) D J (aTy kc ki kb kl kd) [.ref t, .int p1, .int p2] (wX0 kc ki t t_letters t_sizes t_lettersF t_sizesF t_lines) (fun r => wX0 kc ki t t_letters t_sizes r.1 r.2 t_lines) res := by
  refine aKv_of (own := RX0) (by decide) rfl (Nat.le_of_ble_eq_true rfl) rfl ?_
  intro p e s m args below meth c C hr
  have hI18 : ∀ (q_t_sizesF : Nat → Int32) (fuel : Nat) (x3 : Int32) (q_t_lettersF : Nat → Int32) (k : Int32 → (Nat → Int32) → Option ((Nat → Int32) × (Nat → Int32))), f_X0_exchangeLines_L18 p1 p2 fuel x3 q_t_lettersF k = some res → (∀ (x3 : Int32) (q_t_lettersF : Nat → Int32), k x3 q_t_lettersF = some res → aT p l e ({ frames := 1, cells := 0, slots := 0, locals := 21 } : Room) s m args below meth c (MQ below (aQv D (wX0 kc ki t t_letters t_sizes t_lettersF t_sizesF t_lines) s.heap.size (fun r => wX0 kc ki t t_letters t_sizes r.1 r.2 t_lines) res) args s 0 0 (va_A (wX0 kc ki t t_letters t_sizes t_lettersF t_sizesF t_lines) s.heap.size)) D (va_A (wX0 kc ki t t_letters t_sizes t_lettersF t_sizesF t_lines) s.heap.size) 5 0 0 78 [(0, .ref t), (1, .int p1), (2, .int p2)] [] (wX0 kc ki t t_letters t_sizes q_t_lettersF q_t_sizesF t_lines)) → aT p l e ({ frames := 1, cells := 0, slots := 0, locals := 21 } : Room) s m args below meth c (MQ below (aQv D (wX0 kc ki t t_letters t_sizes t_lettersF t_sizesF t_lines) s.heap.size (fun r => wX0 kc ki t t_letters t_sizes r.1 r.2 t_lines) res) args s 0 0 (va_A (wX0 kc ki t t_letters t_sizes t_lettersF t_sizesF t_lines) s.heap.size)) D (va_A (wX0 kc ki t t_letters t_sizes t_lettersF t_sizesF t_lines) s.heap.size) 5 0 0 18 [(0, .ref t), (1, .int p1), (2, .int p2), (3, .int x3)] [] (wX0 kc ki t t_letters t_sizes q_t_lettersF q_t_sizesF t_lines) := by
    intro q_t_sizesF fuel
    induction fuel with
    | zero => intro x3 q_t_lettersF k hF hX; exact nomatch hF
    | succ fuel ih =>
      intro x3 q_t_lettersF k hF hX
      rw [f_X0_exchangeLines_L18] at hF
      refine a_iload_n C 3 dX0_exchangeLines_18 rfl rfl ?_
      refine a_bipush C (v := 10) dX0_exchangeLines_19 (by decide) ?_
      refine a_ic_ge C (tgt := 78) dX0_exchangeLines_21 (by decide) hF (fun c21_5 hF => ?_) (fun c21_5 hF => ?_)
      · refine a_sub C [0, 1, 2] [(0, .ref t), (1, .int p1), (2, .int p2)] rfl ?_
        exact hX x3 q_t_lettersF hF
      refine a_aload_n C 0 dX0_exchangeLines_24 rfl rfl ?_
      refine a_get C 0 0 iwX0 rfl rfl (by decide) kf_X0_9 rfl dX0_exchangeLines_25 ?_
      refine a_iload_n C 1 dX0_exchangeLines_28 rfl rfl ?_
      refine a_bipush C (v := 10) dX0_exchangeLines_29 (by decide) ?_
      refine a_imul C dX0_exchangeLines_31 ?_
      refine a_iload_n C 3 dX0_exchangeLines_32 rfl rfl ?_
      refine a_iadd C dX0_exchangeLines_33 ?_
      refine a_cald C 1 0 rfl rfl dX0_exchangeLines_34 hF (fun v34_6 ev34_6 hF => ?_)
      refine a_istore C [(4, .int v34_6), (0, .ref t), (1, .int p1), (2, .int p2), (3, .int x3)] dX0_exchangeLines_35 (by decide) rfl ?_
      refine a_aload_n C 1 dX0_exchangeLines_37 rfl rfl ?_
      refine a_get C 0 0 iwX0 rfl rfl (by decide) kf_X0_9 rfl dX0_exchangeLines_38 ?_
      refine a_iload_n C 2 dX0_exchangeLines_41 rfl rfl ?_
      refine a_bipush C (v := 10) dX0_exchangeLines_42 (by decide) ?_
      refine a_imul C dX0_exchangeLines_44 ?_
      refine a_iload_n C 4 dX0_exchangeLines_45 rfl rfl ?_
      refine a_iadd C dX0_exchangeLines_46 ?_
      refine a_aload_n C 1 dX0_exchangeLines_47 rfl rfl ?_
      refine a_get C 0 0 iwX0 rfl rfl (by decide) kf_X0_9 rfl dX0_exchangeLines_48 ?_
      refine a_iload_n C 3 dX0_exchangeLines_51 rfl rfl ?_
      refine a_bipush C (v := 10) dX0_exchangeLines_52 (by decide) ?_
      refine a_imul C dX0_exchangeLines_54 ?_
      refine a_iload_n C 4 dX0_exchangeLines_55 rfl rfl ?_
      refine a_iadd C dX0_exchangeLines_56 ?_
      refine a_cald C 1 0 rfl rfl dX0_exchangeLines_57 hF (fun v57_7 ev57_7 hF => ?_)
      refine a_cast C 1 0 rfl rfl dX0_exchangeLines_58 hF (fun g58_8 eg58_8 hF => ?_)
      refine a_ws C (ws' := wX0 kc ki t t_letters t_sizes g58_8 q_t_sizesF t_lines) rfl ?_
      refine a_aload_n C 1 dX0_exchangeLines_59 rfl rfl ?_
      refine a_get C 0 0 iwX0 rfl rfl (by decide) kf_X0_9 rfl dX0_exchangeLines_60 ?_
      refine a_iload_n C 3 dX0_exchangeLines_63 rfl rfl ?_
      refine a_bipush C (v := 10) dX0_exchangeLines_64 (by decide) ?_
      refine a_imul C dX0_exchangeLines_66 ?_
      refine a_iload_n C 4 dX0_exchangeLines_67 rfl rfl ?_
      refine a_iadd C dX0_exchangeLines_68 ?_
      refine a_iload C 0 dX0_exchangeLines_69 rfl ?_
      refine a_cast C 1 0 rfl rfl dX0_exchangeLines_71 hF (fun g71_9 eg71_9 hF => ?_)
      refine a_ws C (ws' := wX0 kc ki t t_letters t_sizes g71_9 q_t_sizesF t_lines) rfl ?_
      refine a_iinc C 4 [(3, .int (x3 + 1)), (4, .int v34_6), (0, .ref t), (1, .int p1), (2, .int p2)] dX0_exchangeLines_72 rfl rfl (by decide) rfl ?_
      refine a_goto C (tgt := 18) dX0_exchangeLines_75 (by decide) ?_
      refine a_sub C [2, 3, 4, 0] [(0, .ref t), (1, .int p1), (2, .int p2), (3, .int (x3 + 1))] rfl ?_
      exact ih (x3 + 1) g71_9 k hF hX
  unfold f_X0_exchangeLines at hF
  refine a_aload_n C 0 dX0_exchangeLines_0 rfl rfl ?_
  refine a_iload_n C 1 dX0_exchangeLines_1 rfl rfl ?_
  refine a_callVir C 1 [0, 1, 2] 0 cs_X0_23 hd_X0_hasLine ⟨rfl, rfl⟩ ⟨Nat.le_of_ble_eq_true rfl, Nat.le_of_ble_eq_true rfl⟩ (fun r h => c_X0_hasLine l D J kc ki kb kl kd t t_letters t_sizes t_lettersF t_sizesF t_lines p1 r h) rfl rfl rfl rfl rfl rfl (Nat.le_of_ble_eq_true rfl) dX0_exchangeLines_2 ⟨Nat.zero_le _, Nat.zero_le _⟩ hF (fun r2_1 er2_1 hF => ?_)
  refine a_if_eq C (tgt := 104) dX0_exchangeLines_5 (by decide) hF (fun c5_2 hF => ?_) (fun c5_2 hF => ?_)
  · exact a_vret C hr dX0_exchangeLines_104 hF rfl
  refine a_aload_n C 0 dX0_exchangeLines_8 rfl rfl ?_
  refine a_iload_n C 2 dX0_exchangeLines_9 rfl rfl ?_
  refine a_callVir C 1 [0, 1, 2] 0 cs_X0_23 hd_X0_hasLine ⟨rfl, rfl⟩ ⟨Nat.le_of_ble_eq_true rfl, Nat.le_of_ble_eq_true rfl⟩ (fun r h => c_X0_hasLine l D J kc ki kb kl kd t t_letters t_sizes t_lettersF t_sizesF t_lines p2 r h) rfl rfl rfl rfl rfl rfl (Nat.le_of_ble_eq_true rfl) dX0_exchangeLines_10 ⟨Nat.zero_le _, Nat.zero_le _⟩ hF (fun r10_3 er10_3 hF => ?_)
  refine a_if_eq C (tgt := 104) dX0_exchangeLines_13 (by decide) hF (fun c13_4 hF => ?_) (fun c13_4 hF => ?_)
  · exact a_vret C hr dX0_exchangeLines_104 hF rfl
  refine a_iconst C (v := 0) dX0_exchangeLines_16 (by decide) ?_
  refine a_istore_n C [(3, .int 0), (0, .ref t), (1, .int p1), (2, .int p2)] dX0_exchangeLines_17 rfl (by decide) rfl ?_
  refine a_sub C [1, 2, 3, 0] [(0, .ref t), (1, .int p1), (2, .int p2), (3, .int 0)] rfl ?_
  refine hI18 t_sizesF 1000 0 t_lettersF _ hF (fun x3_18_10 q_t_lettersF_18_11 hF => ?_)
  refine a_aload_n C 0 dX0_exchangeLines_78 rfl rfl ?_
  refine a_get C 0 1 iwX0 rfl rfl (by decide) kf_X0_15 rfl dX0_exchangeLines_79 ?_
  refine a_iload_n C 1 dX0_exchangeLines_82 rfl rfl ?_
  refine a_iald C 2 1 rfl rfl dX0_exchangeLines_83 hF (fun v83_12 ev83_12 hF => ?_)
  refine a_istore_n C [(3, .int v83_12), (0, .ref t), (1, .int p1), (2, .int p2)] dX0_exchangeLines_84 rfl (by decide) rfl ?_
  refine a_aload_n C 1 dX0_exchangeLines_85 rfl rfl ?_
  refine a_get C 0 1 iwX0 rfl rfl (by decide) kf_X0_15 rfl dX0_exchangeLines_86 ?_
  refine a_iload_n C 2 dX0_exchangeLines_89 rfl rfl ?_
  refine a_aload_n C 1 dX0_exchangeLines_90 rfl rfl ?_
  refine a_get C 0 1 iwX0 rfl rfl (by decide) kf_X0_15 rfl dX0_exchangeLines_91 ?_
  refine a_iload_n C 3 dX0_exchangeLines_94 rfl rfl ?_
  refine a_iald C 2 1 rfl rfl dX0_exchangeLines_95 hF (fun v95_13 ev95_13 hF => ?_)
  refine a_iast C 2 1 rfl rfl dX0_exchangeLines_96 hF (fun g96_14 eg96_14 hF => ?_)
  refine a_ws C (ws' := wX0 kc ki t t_letters t_sizes q_t_lettersF_18_11 g96_14 t_lines) rfl ?_
  refine a_aload_n C 1 dX0_exchangeLines_97 rfl rfl ?_
  refine a_get C 0 1 iwX0 rfl rfl (by decide) kf_X0_15 rfl dX0_exchangeLines_98 ?_
  refine a_iload_n C 3 dX0_exchangeLines_101 rfl rfl ?_
  refine a_iload_n C 0 dX0_exchangeLines_102 rfl rfl ?_
  refine a_iast C 2 1 rfl rfl dX0_exchangeLines_103 hF (fun g103_15 eg103_15 hF => ?_)
  refine a_ws C (ws' := wX0 kc ki t t_letters t_sizes q_t_lettersF_18_11 g103_15 t_lines) rfl ?_
  exact a_vret C hr dX0_exchangeLines_104 hF rfl
theorem cs_X0_35 : GoodIn WW (wsV RX0 35 RX0 yX0_exchangeLines (aW yX0_exchangeLines cX0_exchangeLines 5 none)) := gdV kl_X0_35 ki_X0_exchangeLines kv_X0_exchangeLines kn_X0 kc_X0_exchangeLines
def f_X0_removeLine_L12 (q_t_lines : Int32) : Nat → Int32 → (Nat → Int32) → (Nat → Int32) → (Int32 → (Nat → Int32) → (Nat → Int32) → Option ((Nat → Int32) × (Nat → Int32) × Int32)) → Option ((Nat → Int32) × (Nat → Int32) × Int32)
  | 0, _, _, _, _ => none
  | fuel + 1, x2, q_t_lettersF, q_t_sizesF, k => if q_t_lines ≤ x2 then (k x2 q_t_lettersF q_t_sizesF) else ((f_X0_exchangeLines q_t_lettersF q_t_sizesF q_t_lines (x2 - 1) x2).bind fun r25_4 => f_X0_removeLine_L12 q_t_lines fuel (x2 + 1) r25_4.1 r25_4.2 k)
def f_X0_removeLine (t_lettersF : Nat → Int32) (t_sizesF : Nat → Int32) (t_lines : Int32) (p1 : Int32) : Option ((Nat → Int32) × (Nat → Int32) × Int32) := (f_X0_hasLine t_lines p1).bind fun r2_1 => if r2_1 = 0 then (some (t_lettersF, t_sizesF, t_lines)) else (f_X0_removeLine_L12 t_lines 1000 (p1 + 1) t_lettersF t_sizesF (fun x2_12_5 q_t_lettersF_12_6 q_t_sizesF_12_7 => some (q_t_lettersF_12_6, q_t_sizesF_12_7, t_lines - 1)))
theorem hd_X0_removeLine : yX0_removeLine.cls = RX0 ∧ yX0_removeLine.cls ≠ "java/lang/invoke/MethodHandle" ∧ yX0_removeLine.cls ≠ "java/lang/invoke/VarHandle" ∧ (parseMethodDescriptor yX0_removeLine.desc).map (fun d => d.parameters.length) = some 1 := by decide +kernel
set_option maxRecDepth 100000 in
set_option maxHeartbeats 4000000 in
theorem c_X0_removeLine (l : Launch) (D : va_G) (J : JT) (kc ki kb kl kd : ClassId) (t : Nat) (t_letters : Nat) (t_sizes : Nat) (t_lettersF : Nat → Int32) (t_sizesF : Nat → Int32) (t_lines : Int32) (p1 : Int32) (res : (Nat → Int32) × (Nat → Int32) × Int32) (hF : f_X0_removeLine t_lettersF t_sizesF t_lines p1 = some res) : aKv l yX0_removeLine (aW yX0_removeLine cX0_removeLine 3 none) ({ frames := 2, cells := 0, slots := 0, locals := 45 } : Room) D J (aTy kc ki kb kl kd) [.ref t, .int p1] (wX0 kc ki t t_letters t_sizes t_lettersF t_sizesF t_lines) (fun r => wX0 kc ki t t_letters t_sizes r.1 r.2.1 r.2.2) res := by
  refine aKv_of (own := RX0) (by decide) rfl (Nat.le_of_ble_eq_true rfl) rfl ?_
  intro p e s m args below meth c C hr
  have hI12 : ∀ (q_t_lines : Int32) (fuel : Nat) (x2 : Int32) (q_t_lettersF : Nat → Int32) (q_t_sizesF : Nat → Int32) (k : Int32 → (Nat → Int32) → (Nat → Int32) → Option ((Nat → Int32) × (Nat → Int32) × Int32)), f_X0_removeLine_L12 q_t_lines fuel x2 q_t_lettersF q_t_sizesF k = some res → (∀ (x2 : Int32) (q_t_lettersF : Nat → Int32) (q_t_sizesF : Nat → Int32), k x2 q_t_lettersF q_t_sizesF = some res → aT p l e ({ frames := 2, cells := 0, slots := 0, locals := 45 } : Room) s m args below meth c (MQ below (aQv D (wX0 kc ki t t_letters t_sizes t_lettersF t_sizesF t_lines) s.heap.size (fun r => wX0 kc ki t t_letters t_sizes r.1 r.2.1 r.2.2) res) args s 0 0 (va_A (wX0 kc ki t t_letters t_sizes t_lettersF t_sizesF t_lines) s.heap.size)) D (va_A (wX0 kc ki t t_letters t_sizes t_lettersF t_sizesF t_lines) s.heap.size) 3 0 0 34 [(0, .ref t)] [] (wX0 kc ki t t_letters t_sizes q_t_lettersF q_t_sizesF q_t_lines)) → aT p l e ({ frames := 2, cells := 0, slots := 0, locals := 45 } : Room) s m args below meth c (MQ below (aQv D (wX0 kc ki t t_letters t_sizes t_lettersF t_sizesF t_lines) s.heap.size (fun r => wX0 kc ki t t_letters t_sizes r.1 r.2.1 r.2.2) res) args s 0 0 (va_A (wX0 kc ki t t_letters t_sizes t_lettersF t_sizesF t_lines) s.heap.size)) D (va_A (wX0 kc ki t t_letters t_sizes t_lettersF t_sizesF t_lines) s.heap.size) 3 0 0 12 [(0, .ref t), (2, .int x2)] [] (wX0 kc ki t t_letters t_sizes q_t_lettersF q_t_sizesF q_t_lines) := by
    intro q_t_lines fuel
    induction fuel with
    | zero => intro x2 q_t_lettersF q_t_sizesF k hF hX; exact nomatch hF
    | succ fuel ih =>
      intro x2 q_t_lettersF q_t_sizesF k hF hX
      rw [f_X0_removeLine_L12] at hF
      refine a_iload_n C 1 dX0_removeLine_12 rfl rfl ?_
      refine a_aload_n C 0 dX0_removeLine_13 rfl rfl ?_
      refine a_get C 0 2 iwX0 rfl rfl (by decide) kf_X0_19 rfl dX0_removeLine_14 ?_
      refine a_ic_ge C (tgt := 34) dX0_removeLine_17 (by decide) hF (fun c17_3 hF => ?_) (fun c17_3 hF => ?_)
      · refine a_sub C [0] [(0, .ref t)] rfl ?_
        exact hX x2 q_t_lettersF q_t_sizesF hF
      refine a_aload_n C 0 dX0_removeLine_20 rfl rfl ?_
      refine a_iload_n C 1 dX0_removeLine_21 rfl rfl ?_
      refine a_iconst C (v := 1) dX0_removeLine_22 (by decide) ?_
      refine a_isub C dX0_removeLine_23 ?_
      refine a_iload_n C 1 dX0_removeLine_24 rfl rfl ?_
      refine a_callVv C 2 [0, 1, 2] 0 cs_X0_35 hd_X0_exchangeLines ⟨rfl, rfl⟩ ⟨Nat.le_of_ble_eq_true rfl, Nat.le_of_ble_eq_true rfl⟩ (fun r h => c_X0_exchangeLines l D J kc ki kb kl kd t t_letters t_sizes q_t_lettersF q_t_sizesF q_t_lines (x2 - 1) x2 r h) rfl rfl rfl (fun _ => rfl) rfl rfl rfl (Nat.le_of_ble_eq_true rfl) dX0_removeLine_25 ⟨Nat.zero_le _, Nat.zero_le _⟩ hF (fun r25_4 er25_4 hF => ?_)
      refine a_ws C (ws' := wX0 kc ki t t_letters t_sizes r25_4.1 r25_4.2 q_t_lines) rfl ?_
      refine a_iinc C 1 [(2, .int (x2 + 1)), (0, .ref t)] dX0_removeLine_28 rfl rfl (by decide) rfl ?_
      refine a_goto C (tgt := 12) dX0_removeLine_31 (by decide) ?_
      refine a_sub C [1, 0] [(0, .ref t), (2, .int (x2 + 1))] rfl ?_
      exact ih (x2 + 1) r25_4.1 r25_4.2 k hF hX
  unfold f_X0_removeLine at hF
  refine a_aload_n C 0 dX0_removeLine_0 rfl rfl ?_
  refine a_iload_n C 1 dX0_removeLine_1 rfl rfl ?_
  refine a_callVir C 1 [0, 1, 2] 0 cs_X0_23 hd_X0_hasLine ⟨rfl, rfl⟩ ⟨Nat.le_of_ble_eq_true rfl, Nat.le_of_ble_eq_true rfl⟩ (fun r h => c_X0_hasLine l D J kc ki kb kl kd t t_letters t_sizes t_lettersF t_sizesF t_lines p1 r h) rfl rfl rfl rfl rfl rfl (Nat.le_of_ble_eq_true rfl) dX0_removeLine_2 ⟨Nat.zero_le _, Nat.zero_le _⟩ hF (fun r2_1 er2_1 hF => ?_)
  refine a_if_eq C (tgt := 44) dX0_removeLine_5 (by decide) hF (fun c5_2 hF => ?_) (fun c5_2 hF => ?_)
  · exact a_vret C hr dX0_removeLine_44 hF rfl
  refine a_iload_n C 1 dX0_removeLine_8 rfl rfl ?_
  refine a_iconst C (v := 1) dX0_removeLine_9 (by decide) ?_
  refine a_iadd C dX0_removeLine_10 ?_
  refine a_istore_n C [(2, .int (p1 + 1)), (0, .ref t), (1, .int p1)] dX0_removeLine_11 rfl (by decide) rfl ?_
  refine a_sub C [1, 0] [(0, .ref t), (2, .int (p1 + 1))] rfl ?_
  refine hI12 t_lines 1000 (p1 + 1) t_lettersF t_sizesF _ hF (fun x2_12_5 q_t_lettersF_12_6 q_t_sizesF_12_7 hF => ?_)
  refine a_aload_n C 0 dX0_removeLine_34 rfl rfl ?_
  refine a_dup C dX0_removeLine_35 rfl ?_
  refine a_get C 0 2 iwX0 rfl rfl (by decide) kf_X0_19 rfl dX0_removeLine_36 ?_
  refine a_iconst C (v := 1) dX0_removeLine_39 (by decide) ?_
  refine a_isub C dX0_removeLine_40 ?_
  refine a_put C 0 2 iwX0 tyX0_ok nmX0 rfl rfl (by decide) kf_X0_19 rfl rfl rfl (Nat.le_of_ble_eq_true rfl) dX0_removeLine_41 ?_
  refine a_ws C (ws' := wX0 kc ki t t_letters t_sizes q_t_lettersF_12_6 q_t_sizesF_12_7 (t_lines - 1)) rfl ?_
  exact a_vret C hr dX0_removeLine_44 hF rfl
theorem cs_X0_39 : GoodIn WW (wsV RX0 39 RX0 yX0_size (aW yX0_size cX0_size 2 ((some .int)))) := gdV kl_X0_39 ki_X0_size kv_X0_size kn_X0 kc_X0_size
theorem cs_X0_43 : GoodIn WW (wsV RX0 43 RX0 yX0_letterAt (aW yX0_letterAt cX0_letterAt 3 ((some .char)))) := gdV kl_X0_43 ki_X0_letterAt kv_X0_letterAt kn_X0 kc_X0_letterAt
def f_X0_reverseLine_L10 (x2 : Int32) (p1 : Int32) (t_sizesF : Nat → Int32) (t_lines : Int32) : Nat → Int32 → (Nat → Int32) → (Int32 → (Nat → Int32) → Option ((Nat → Int32))) → Option ((Nat → Int32))
  | 0, _, _, _ => none
  | fuel + 1, x3, q_t_lettersF, k => if (x2 - x3) ≤ x3 then (k x3 q_t_lettersF) else ((f_X0_letterAt q_t_lettersF t_sizesF t_lines p1 x3).bind fun r20_3 => (f_X0_letterAt q_t_lettersF t_sizesF t_lines p1 (x2 - x3)).bind fun r33_4 => (f_X0_setLetter q_t_lettersF t_sizesF t_lines p1 x3 r33_4).bind fun r36_5 => (f_X0_setLetter r36_5 t_sizesF t_lines p1 (x2 - x3) r20_3).bind fun r46_6 => f_X0_reverseLine_L10 x2 p1 t_sizesF t_lines fuel (x3 + 1) r46_6 k)
def f_X0_reverseLine (t_lettersF : Nat → Int32) (t_sizesF : Nat → Int32) (t_lines : Int32) (p1 : Int32) : Option ((Nat → Int32)) := (f_X0_size t_sizesF t_lines p1).bind fun r2_1 => f_X0_reverseLine_L10 (r2_1 - 1) p1 t_sizesF t_lines 1000 0 t_lettersF (fun x3_10_7 q_t_lettersF_10_8 => some q_t_lettersF_10_8)
theorem hd_X0_reverseLine : yX0_reverseLine.cls = RX0 ∧ yX0_reverseLine.cls ≠ "java/lang/invoke/MethodHandle" ∧ yX0_reverseLine.cls ≠ "java/lang/invoke/VarHandle" ∧ (parseMethodDescriptor yX0_reverseLine.desc).map (fun d => d.parameters.length) = some 1 := by decide +kernel
set_option maxRecDepth 100000 in
set_option maxHeartbeats 4000000 in
theorem c_X0_reverseLine (l : Launch) (D : va_G) (J : JT) (kc ki kb kl kd : ClassId) (t : Nat) (t_letters : Nat) (t_sizes : Nat) (t_lettersF : Nat → Int32) (t_sizesF : Nat → Int32) (t_lines : Int32) (p1 : Int32) (res : (Nat → Int32)) (hF : f_X0_reverseLine t_lettersF t_sizesF t_lines p1 = some res) : aKv l yX0_reverseLine (aW yX0_reverseLine cX0_reverseLine 5 none) ({ frames := 2, cells := 0, slots := 0, locals := 45 } : Room) D J (aTy kc ki kb kl kd) [.ref t, .int p1] (wX0 kc ki t t_letters t_sizes t_lettersF t_sizesF t_lines) (fun r => wX0 kc ki t t_letters t_sizes r t_sizesF t_lines) res := by
  refine aKv_of (own := RX0) (by decide) rfl (Nat.le_of_ble_eq_true rfl) rfl ?_
  intro p e s m args below meth c C hr
  have hI10 : ∀ (x2 : Int32) (fuel : Nat) (x3 : Int32) (q_t_lettersF : Nat → Int32) (k : Int32 → (Nat → Int32) → Option ((Nat → Int32))), f_X0_reverseLine_L10 x2 p1 t_sizesF t_lines fuel x3 q_t_lettersF k = some res → (∀ (x3 : Int32) (q_t_lettersF : Nat → Int32), k x3 q_t_lettersF = some res → aT p l e ({ frames := 2, cells := 0, slots := 0, locals := 45 } : Room) s m args below meth c (MQ below (aQv D (wX0 kc ki t t_letters t_sizes t_lettersF t_sizesF t_lines) s.heap.size (fun r => wX0 kc ki t t_letters t_sizes r t_sizesF t_lines) res) args s 0 0 (va_A (wX0 kc ki t t_letters t_sizes t_lettersF t_sizesF t_lines) s.heap.size)) D (va_A (wX0 kc ki t t_letters t_sizes t_lettersF t_sizesF t_lines) s.heap.size) 5 0 0 55 [] [] (wX0 kc ki t t_letters t_sizes q_t_lettersF t_sizesF t_lines)) → aT p l e ({ frames := 2, cells := 0, slots := 0, locals := 45 } : Room) s m args below meth c (MQ below (aQv D (wX0 kc ki t t_letters t_sizes t_lettersF t_sizesF t_lines) s.heap.size (fun r => wX0 kc ki t t_letters t_sizes r t_sizesF t_lines) res) args s 0 0 (va_A (wX0 kc ki t t_letters t_sizes t_lettersF t_sizesF t_lines) s.heap.size)) D (va_A (wX0 kc ki t t_letters t_sizes t_lettersF t_sizesF t_lines) s.heap.size) 5 0 0 10 [(0, .ref t), (1, .int p1), (2, .int x2), (3, .int x3)] [] (wX0 kc ki t t_letters t_sizes q_t_lettersF t_sizesF t_lines) := by
    intro x2 fuel
    induction fuel with
    | zero => intro x3 q_t_lettersF k hF hX; exact nomatch hF
    | succ fuel ih =>
      intro x3 q_t_lettersF k hF hX
      rw [f_X0_reverseLine_L10] at hF
      refine a_iload_n C 3 dX0_reverseLine_10 rfl rfl ?_
      refine a_iload_n C 2 dX0_reverseLine_11 rfl rfl ?_
      refine a_iload_n C 3 dX0_reverseLine_12 rfl rfl ?_
      refine a_isub C dX0_reverseLine_13 ?_
      refine a_ic_ge C (tgt := 55) dX0_reverseLine_14 (by decide) hF (fun c14_2 hF => ?_) (fun c14_2 hF => ?_)
      · refine a_sub C [] [] rfl ?_
        exact hX x3 q_t_lettersF hF
      refine a_aload_n C 0 dX0_reverseLine_17 rfl rfl ?_
      refine a_iload_n C 1 dX0_reverseLine_18 rfl rfl ?_
      refine a_iload_n C 3 dX0_reverseLine_19 rfl rfl ?_
      refine a_callVir C 2 [0, 1, 2] 0 cs_X0_43 hd_X0_letterAt ⟨rfl, rfl⟩ ⟨Nat.le_of_ble_eq_true rfl, Nat.le_of_ble_eq_true rfl⟩ (fun r h => c_X0_letterAt l D J kc ki kb kl kd t t_letters t_sizes q_t_lettersF t_sizesF t_lines p1 x3 r h) rfl rfl rfl rfl rfl rfl (Nat.le_of_ble_eq_true rfl) dX0_reverseLine_20 ⟨Nat.zero_le _, Nat.zero_le _⟩ hF (fun r20_3 er20_3 hF => ?_)
      refine a_istore C [(4, .int r20_3), (0, .ref t), (1, .int p1), (2, .int x2), (3, .int x3)] dX0_reverseLine_23 (by decide) rfl ?_
      refine a_aload_n C 1 dX0_reverseLine_25 rfl rfl ?_
      refine a_iload_n C 2 dX0_reverseLine_26 rfl rfl ?_
      refine a_iload_n C 4 dX0_reverseLine_27 rfl rfl ?_
      refine a_aload_n C 1 dX0_reverseLine_28 rfl rfl ?_
      refine a_iload_n C 2 dX0_reverseLine_29 rfl rfl ?_
      refine a_iload_n C 3 dX0_reverseLine_30 rfl rfl ?_
      refine a_iload_n C 4 dX0_reverseLine_31 rfl rfl ?_
      refine a_isub C dX0_reverseLine_32 ?_
      refine a_callVir C 2 [0, 1, 2] 0 cs_X0_43 hd_X0_letterAt ⟨rfl, rfl⟩ ⟨Nat.le_of_ble_eq_true rfl, Nat.le_of_ble_eq_true rfl⟩ (fun r h => c_X0_letterAt l D J kc ki kb kl kd t t_letters t_sizes q_t_lettersF t_sizesF t_lines p1 (x2 - x3) r h) rfl rfl rfl rfl rfl rfl (Nat.le_of_ble_eq_true rfl) dX0_reverseLine_33 ⟨Nat.zero_le _, Nat.zero_le _⟩ hF (fun r33_4 er33_4 hF => ?_)
      refine a_callVv C 3 [0, 1, 2] 0 cs_X0_31 hd_X0_setLetter ⟨rfl, rfl⟩ ⟨Nat.le_of_ble_eq_true rfl, Nat.le_of_ble_eq_true rfl⟩ (fun r h => c_X0_setLetter l D J kc ki kb kl kd t t_letters t_sizes q_t_lettersF t_sizesF t_lines p1 x3 r33_4 r h) rfl rfl rfl (fun _ => rfl) rfl rfl rfl (Nat.le_of_ble_eq_true rfl) dX0_reverseLine_36 ⟨Nat.zero_le _, Nat.zero_le _⟩ hF (fun r36_5 er36_5 hF => ?_)
      refine a_ws C (ws' := wX0 kc ki t t_letters t_sizes r36_5 t_sizesF t_lines) rfl ?_
      refine a_aload_n C 1 dX0_reverseLine_39 rfl rfl ?_
      refine a_iload_n C 2 dX0_reverseLine_40 rfl rfl ?_
      refine a_iload_n C 3 dX0_reverseLine_41 rfl rfl ?_
      refine a_iload_n C 4 dX0_reverseLine_42 rfl rfl ?_
      refine a_isub C dX0_reverseLine_43 ?_
      refine a_iload C 0 dX0_reverseLine_44 rfl ?_
      refine a_callVv C 3 [0, 1, 2] 0 cs_X0_31 hd_X0_setLetter ⟨rfl, rfl⟩ ⟨Nat.le_of_ble_eq_true rfl, Nat.le_of_ble_eq_true rfl⟩ (fun r h => c_X0_setLetter l D J kc ki kb kl kd t t_letters t_sizes r36_5 t_sizesF t_lines p1 (x2 - x3) r20_3 r h) rfl rfl rfl (fun _ => rfl) rfl rfl rfl (Nat.le_of_ble_eq_true rfl) dX0_reverseLine_46 ⟨Nat.zero_le _, Nat.zero_le _⟩ hF (fun r46_6 er46_6 hF => ?_)
      refine a_ws C (ws' := wX0 kc ki t t_letters t_sizes r46_6 t_sizesF t_lines) rfl ?_
      refine a_iinc C 4 [(3, .int (x3 + 1)), (4, .int r20_3), (0, .ref t), (1, .int p1), (2, .int x2)] dX0_reverseLine_49 rfl rfl (by decide) rfl ?_
      refine a_goto C (tgt := 10) dX0_reverseLine_52 (by decide) ?_
      refine a_sub C [2, 3, 4, 0] [(0, .ref t), (1, .int p1), (2, .int x2), (3, .int (x3 + 1))] rfl ?_
      exact ih (x3 + 1) r46_6 k hF hX
  unfold f_X0_reverseLine at hF
  refine a_aload_n C 0 dX0_reverseLine_0 rfl rfl ?_
  refine a_iload_n C 1 dX0_reverseLine_1 rfl rfl ?_
  refine a_callVir C 1 [0, 1, 2] 0 cs_X0_39 hd_X0_size ⟨rfl, rfl⟩ ⟨Nat.le_of_ble_eq_true rfl, Nat.le_of_ble_eq_true rfl⟩ (fun r h => c_X0_size l D J kc ki kb kl kd t t_letters t_sizes t_lettersF t_sizesF t_lines p1 r h) rfl rfl rfl rfl rfl rfl (Nat.le_of_ble_eq_true rfl) dX0_reverseLine_2 ⟨Nat.zero_le _, Nat.zero_le _⟩ hF (fun r2_1 er2_1 hF => ?_)
  refine a_iconst C (v := 1) dX0_reverseLine_5 (by decide) ?_
  refine a_isub C dX0_reverseLine_6 ?_
  refine a_istore_n C [(2, .int (r2_1 - 1)), (0, .ref t), (1, .int p1)] dX0_reverseLine_7 rfl (by decide) rfl ?_
  refine a_iconst C (v := 0) dX0_reverseLine_8 (by decide) ?_
  refine a_istore_n C [(3, .int 0), (2, .int (r2_1 - 1)), (0, .ref t), (1, .int p1)] dX0_reverseLine_9 rfl (by decide) rfl ?_
  refine a_sub C [2, 3, 1, 0] [(0, .ref t), (1, .int p1), (2, .int (r2_1 - 1)), (3, .int 0)] rfl ?_
  refine hI10 (r2_1 - 1) 1000 0 t_lettersF _ hF (fun x3_10_7 q_t_lettersF_10_8 hF => ?_)
  exact a_vret C hr dX0_reverseLine_55 hF rfl
def f_X0_sameLetters_L3 (p1 : Int32) (p2 : Int32) (p3 : Int32) (p4 : Int32) (t_lettersF : Nat → Int32) (t_sizesF : Nat → Int32) (t_lines : Int32) : Nat → Int32 → (Int32 → Option Int32) → Option Int32
  | 0, _, _ => none
  | fuel + 1, x5, k => if 10 ≤ x5 then (k x5) else ((f_X0_letterAt t_lettersF t_sizesF t_lines p1 (p2 + x5)).bind fun r16_2 => if r16_2 = 0 then (some x5) else ((f_X0_letterAt t_lettersF t_sizesF t_lines p3 (p4 + x5)).bind fun r35_4 => if r16_2 = r35_4 then (f_X0_sameLetters_L3 p1 p2 p3 p4 t_lettersF t_sizesF t_lines fuel (x5 + 1) k) else (some x5)))
def f_X0_sameLetters (t_lettersF : Nat → Int32) (t_sizesF : Nat → Int32) (t_lines : Int32) (p1 : Int32) (p2 : Int32) (p3 : Int32) (p4 : Int32) : Option Int32 := f_X0_sameLetters_L3 p1 p2 p3 p4 t_lettersF t_sizesF t_lines 1000 0 (fun x5_3_6 => some 10)
theorem hd_X0_sameLetters : yX0_sameLetters.cls = RX0 ∧ yX0_sameLetters.cls ≠ "java/lang/invoke/MethodHandle" ∧ yX0_sameLetters.cls ≠ "java/lang/invoke/VarHandle" ∧ (parseMethodDescriptor yX0_sameLetters.desc).map (fun d => d.parameters.length) = some 4 := by decide +kernel
set_option maxRecDepth 100000 in
set_option maxHeartbeats 4000000 in
theorem c_X0_sameLetters (l : Launch) (D : va_G) (J : JT) (kc ki kb kl kd : ClassId) (t : Nat) (t_letters : Nat) (t_sizes : Nat) (t_lettersF : Nat → Int32) (t_sizesF : Nat → Int32) (t_lines : Int32) (p1 p2 p3 p4 : Int32) (res : Int32) (hF : f_X0_sameLetters t_lettersF t_sizesF t_lines p1 p2 p3 p4 = some res) : aKi l yX0_sameLetters (aW yX0_sameLetters cX0_sameLetters 7 ((some .int))) ({ frames := 2, cells := 0, slots := 0, locals := 44 } : Room) D J (aTy kc ki kb kl kd) [.ref t, .int p1, .int p2, .int p3, .int p4] (wX0 kc ki t t_letters t_sizes t_lettersF t_sizesF t_lines) (fun r => r) (fun _ => wX0 kc ki t t_letters t_sizes t_lettersF t_sizesF t_lines) res := by
  refine aKi_of (own := RX0) (by decide) rfl (Nat.le_of_ble_eq_true rfl) rfl ?_
  intro p e s m args below meth c C hr
  have hI3 : ∀ (fuel : Nat) (x5 : Int32) (k : Int32 → Option Int32), f_X0_sameLetters_L3 p1 p2 p3 p4 t_lettersF t_sizesF t_lines fuel x5 k = some res → (∀ (x5 : Int32), k x5 = some res → aT p l e ({ frames := 2, cells := 0, slots := 0, locals := 44 } : Room) s m args below meth c (MQ below (aQi D (wX0 kc ki t t_letters t_sizes t_lettersF t_sizesF t_lines) s.heap.size (fun r => r) (fun _ => wX0 kc ki t t_letters t_sizes t_lettersF t_sizesF t_lines) res) args s 0 0 (va_A (wX0 kc ki t t_letters t_sizes t_lettersF t_sizesF t_lines) s.heap.size)) D (va_A (wX0 kc ki t t_letters t_sizes t_lettersF t_sizesF t_lines) s.heap.size) 7 0 0 50 [] [] (wX0 kc ki t t_letters t_sizes t_lettersF t_sizesF t_lines)) → aT p l e ({ frames := 2, cells := 0, slots := 0, locals := 44 } : Room) s m args below meth c (MQ below (aQi D (wX0 kc ki t t_letters t_sizes t_lettersF t_sizesF t_lines) s.heap.size (fun r => r) (fun _ => wX0 kc ki t t_letters t_sizes t_lettersF t_sizesF t_lines) res) args s 0 0 (va_A (wX0 kc ki t t_letters t_sizes t_lettersF t_sizesF t_lines) s.heap.size)) D (va_A (wX0 kc ki t t_letters t_sizes t_lettersF t_sizesF t_lines) s.heap.size) 7 0 0 3 [(0, .ref t), (1, .int p1), (2, .int p2), (3, .int p3), (4, .int p4), (5, .int x5)] [] (wX0 kc ki t t_letters t_sizes t_lettersF t_sizesF t_lines) := by
    intro fuel
    induction fuel with
    | zero => intro x5 k hF hX; exact nomatch hF
    | succ fuel ih =>
      intro x5 k hF hX
      rw [f_X0_sameLetters_L3] at hF
      refine a_iload C 5 dX0_sameLetters_3 rfl ?_
      refine a_bipush C (v := 10) dX0_sameLetters_5 (by decide) ?_
      refine a_ic_ge C (tgt := 50) dX0_sameLetters_7 (by decide) hF (fun c7_1 hF => ?_) (fun c7_1 hF => ?_)
      · refine a_sub C [] [] rfl ?_
        exact hX x5 hF
      refine a_aload_n C 0 dX0_sameLetters_10 rfl rfl ?_
      refine a_iload_n C 1 dX0_sameLetters_11 rfl rfl ?_
      refine a_iload_n C 2 dX0_sameLetters_12 rfl rfl ?_
      refine a_iload C 5 dX0_sameLetters_13 rfl ?_
      refine a_iadd C dX0_sameLetters_15 ?_
      refine a_callVir C 2 [0, 1, 2] 0 cs_X0_43 hd_X0_letterAt ⟨rfl, rfl⟩ ⟨Nat.le_of_ble_eq_true rfl, Nat.le_of_ble_eq_true rfl⟩ (fun r h => c_X0_letterAt l D J kc ki kb kl kd t t_letters t_sizes t_lettersF t_sizesF t_lines p1 (p2 + x5) r h) rfl rfl rfl rfl rfl rfl (Nat.le_of_ble_eq_true rfl) dX0_sameLetters_16 ⟨Nat.zero_le _, Nat.zero_le _⟩ hF (fun r16_2 er16_2 hF => ?_)
      refine a_istore C [(6, .int r16_2), (0, .ref t), (1, .int p1), (2, .int p2), (3, .int p3), (4, .int p4), (5, .int x5)] dX0_sameLetters_19 (by decide) rfl ?_
      refine a_iload C 0 dX0_sameLetters_21 rfl ?_
      refine a_if_eq C (tgt := 41) dX0_sameLetters_23 (by decide) hF (fun c23_3 hF => ?_) (fun c23_3 hF => ?_)
      · refine a_iload C 6 dX0_sameLetters_41 rfl ?_
        exact a_iret C hr rfl dX0_sameLetters_43 hF rfl rfl
      refine a_iload C 0 dX0_sameLetters_26 rfl ?_
      refine a_aload_n C 1 dX0_sameLetters_28 rfl rfl ?_
      refine a_iload_n C 4 dX0_sameLetters_29 rfl rfl ?_
      refine a_iload C 5 dX0_sameLetters_30 rfl ?_
      refine a_iload C 6 dX0_sameLetters_32 rfl ?_
      refine a_iadd C dX0_sameLetters_34 ?_
      refine a_callVir C 2 [0, 1, 2] 0 cs_X0_43 hd_X0_letterAt ⟨rfl, rfl⟩ ⟨Nat.le_of_ble_eq_true rfl, Nat.le_of_ble_eq_true rfl⟩ (fun r h => c_X0_letterAt l D J kc ki kb kl kd t t_letters t_sizes t_lettersF t_sizesF t_lines p3 (p4 + x5) r h) rfl rfl rfl rfl rfl rfl (Nat.le_of_ble_eq_true rfl) dX0_sameLetters_35 ⟨Nat.zero_le _, Nat.zero_le _⟩ hF (fun r35_4 er35_4 hF => ?_)
      refine a_ic_eq C (tgt := 44) dX0_sameLetters_38 (by decide) hF (fun c38_5 hF => ?_) (fun c38_5 hF => ?_)
      · refine a_iinc C 6 [(5, .int (x5 + 1)), (6, .int r16_2), (0, .ref t), (1, .int p1), (2, .int p2), (3, .int p3), (4, .int p4)] dX0_sameLetters_44 rfl rfl (by decide) rfl ?_
        refine a_goto C (tgt := 3) dX0_sameLetters_47 (by decide) ?_
        refine a_sub C [2, 3, 4, 5, 6, 0] [(0, .ref t), (1, .int p1), (2, .int p2), (3, .int p3), (4, .int p4), (5, .int (x5 + 1))] rfl ?_
        exact ih (x5 + 1) k hF hX
      refine a_iload C 6 dX0_sameLetters_41 rfl ?_
      exact a_iret C hr rfl dX0_sameLetters_43 hF rfl rfl
  unfold f_X0_sameLetters at hF
  refine a_iconst C (v := 0) dX0_sameLetters_0 (by decide) ?_
  refine a_istore C [(5, .int 0), (0, .ref t), (1, .int p1), (2, .int p2), (3, .int p3), (4, .int p4)] dX0_sameLetters_1 (by decide) rfl ?_
  refine a_sub C [1, 2, 3, 4, 5, 0] [(0, .ref t), (1, .int p1), (2, .int p2), (3, .int p3), (4, .int p4), (5, .int 0)] rfl ?_
  refine hI3 1000 0 _ hF (fun x5_3_6 hF => ?_)
  refine a_bipush C (v := 10) dX0_sameLetters_50 (by decide) ?_
  exact a_iret C hr rfl dX0_sameLetters_52 hF rfl rfl
def f_X0_comesBefore_L3 (p1 : Int32) (p2 : Int32) (p3 : Int32) (p4 : Int32) (t_lettersF : Nat → Int32) (t_sizesF : Nat → Int32) (t_lines : Int32) : Nat → Int32 → (Int32 → Option Int32) → Option Int32
  | 0, _, _ => none
  | fuel + 1, x5, k => if 10 ≤ x5 then (k x5) else ((f_X0_letterAt t_lettersF t_sizesF t_lines p1 (p2 + x5)).bind fun r16_2 => (f_X0_letterAt t_lettersF t_sizesF t_lines p3 (p4 + x5)).bind fun r28_3 => if r16_2 = r28_3 then (f_X0_comesBefore_L3 p1 p2 p3 p4 t_lettersF t_sizesF t_lines fuel (x5 + 1) k) else (if r28_3 ≤ r16_2 then (some 0) else (some 1)))
def f_X0_comesBefore (t_lettersF : Nat → Int32) (t_sizesF : Nat → Int32) (t_lines : Int32) (p1 : Int32) (p2 : Int32) (p3 : Int32) (p4 : Int32) : Option Int32 := f_X0_comesBefore_L3 p1 p2 p3 p4 t_lettersF t_sizesF t_lines 1000 0 (fun x5_3_6 => if p3 ≤ p1 then (some 0) else (some 1))
theorem hd_X0_comesBefore : yX0_comesBefore.cls = RX0 ∧ yX0_comesBefore.cls ≠ "java/lang/invoke/MethodHandle" ∧ yX0_comesBefore.cls ≠ "java/lang/invoke/VarHandle" ∧ (parseMethodDescriptor yX0_comesBefore.desc).map (fun d => d.parameters.length) = some 4 := by decide +kernel
set_option maxRecDepth 100000 in
set_option maxHeartbeats 4000000 in
theorem c_X0_comesBefore (l : Launch) (D : va_G) (J : JT) (kc ki kb kl kd : ClassId) (t : Nat) (t_letters : Nat) (t_sizes : Nat) (t_lettersF : Nat → Int32) (t_sizesF : Nat → Int32) (t_lines : Int32) (p1 p2 p3 p4 : Int32) (res : Int32) (hF : f_X0_comesBefore t_lettersF t_sizesF t_lines p1 p2 p3 p4 = some res) : aKi l yX0_comesBefore (aW yX0_comesBefore cX0_comesBefore 8 ((some .boolean))) ({ frames := 2, cells := 0, slots := 0, locals := 44 } : Room) D J (aTy kc ki kb kl kd) [.ref t, .int p1, .int p2, .int p3, .int p4] (wX0 kc ki t t_letters t_sizes t_lettersF t_sizesF t_lines) (fun r => r) (fun _ => wX0 kc ki t t_letters t_sizes t_lettersF t_sizesF t_lines) res := by
  refine aKi_of (own := RX0) (by decide) rfl (Nat.le_of_ble_eq_true rfl) rfl ?_
  intro p e s m args below meth c C hr
  have hI3 : ∀ (fuel : Nat) (x5 : Int32) (k : Int32 → Option Int32), f_X0_comesBefore_L3 p1 p2 p3 p4 t_lettersF t_sizesF t_lines fuel x5 k = some res → (∀ (x5 : Int32), k x5 = some res → aT p l e ({ frames := 2, cells := 0, slots := 0, locals := 44 } : Room) s m args below meth c (MQ below (aQi D (wX0 kc ki t t_letters t_sizes t_lettersF t_sizesF t_lines) s.heap.size (fun r => r) (fun _ => wX0 kc ki t t_letters t_sizes t_lettersF t_sizesF t_lines) res) args s 0 0 (va_A (wX0 kc ki t t_letters t_sizes t_lettersF t_sizesF t_lines) s.heap.size)) D (va_A (wX0 kc ki t t_letters t_sizes t_lettersF t_sizesF t_lines) s.heap.size) 8 0 0 59 [(1, .int p1), (3, .int p3)] [] (wX0 kc ki t t_letters t_sizes t_lettersF t_sizesF t_lines)) → aT p l e ({ frames := 2, cells := 0, slots := 0, locals := 44 } : Room) s m args below meth c (MQ below (aQi D (wX0 kc ki t t_letters t_sizes t_lettersF t_sizesF t_lines) s.heap.size (fun r => r) (fun _ => wX0 kc ki t t_letters t_sizes t_lettersF t_sizesF t_lines) res) args s 0 0 (va_A (wX0 kc ki t t_letters t_sizes t_lettersF t_sizesF t_lines) s.heap.size)) D (va_A (wX0 kc ki t t_letters t_sizes t_lettersF t_sizesF t_lines) s.heap.size) 8 0 0 3 [(0, .ref t), (1, .int p1), (2, .int p2), (3, .int p3), (4, .int p4), (5, .int x5)] [] (wX0 kc ki t t_letters t_sizes t_lettersF t_sizesF t_lines) := by
    intro fuel
    induction fuel with
    | zero => intro x5 k hF hX; exact nomatch hF
    | succ fuel ih =>
      intro x5 k hF hX
      rw [f_X0_comesBefore_L3] at hF
      refine a_iload C 5 dX0_comesBefore_3 rfl ?_
      refine a_bipush C (v := 10) dX0_comesBefore_5 (by decide) ?_
      refine a_ic_ge C (tgt := 59) dX0_comesBefore_7 (by decide) hF (fun c7_1 hF => ?_) (fun c7_1 hF => ?_)
      · refine a_sub C [1, 3] [(1, .int p1), (3, .int p3)] rfl ?_
        exact hX x5 hF
      refine a_aload_n C 0 dX0_comesBefore_10 rfl rfl ?_
      refine a_iload_n C 1 dX0_comesBefore_11 rfl rfl ?_
      refine a_iload_n C 2 dX0_comesBefore_12 rfl rfl ?_
      refine a_iload C 5 dX0_comesBefore_13 rfl ?_
      refine a_iadd C dX0_comesBefore_15 ?_
      refine a_callVir C 2 [0, 1, 2] 0 cs_X0_43 hd_X0_letterAt ⟨rfl, rfl⟩ ⟨Nat.le_of_ble_eq_true rfl, Nat.le_of_ble_eq_true rfl⟩ (fun r h => c_X0_letterAt l D J kc ki kb kl kd t t_letters t_sizes t_lettersF t_sizesF t_lines p1 (p2 + x5) r h) rfl rfl rfl rfl rfl rfl (Nat.le_of_ble_eq_true rfl) dX0_comesBefore_16 ⟨Nat.zero_le _, Nat.zero_le _⟩ hF (fun r16_2 er16_2 hF => ?_)
      refine a_istore C [(6, .int r16_2), (0, .ref t), (1, .int p1), (2, .int p2), (3, .int p3), (4, .int p4), (5, .int x5)] dX0_comesBefore_19 (by decide) rfl ?_
      refine a_aload_n C 1 dX0_comesBefore_21 rfl rfl ?_
      refine a_iload_n C 4 dX0_comesBefore_22 rfl rfl ?_
      refine a_iload C 5 dX0_comesBefore_23 rfl ?_
      refine a_iload C 6 dX0_comesBefore_25 rfl ?_
      refine a_iadd C dX0_comesBefore_27 ?_
      refine a_callVir C 2 [0, 1, 2] 0 cs_X0_43 hd_X0_letterAt ⟨rfl, rfl⟩ ⟨Nat.le_of_ble_eq_true rfl, Nat.le_of_ble_eq_true rfl⟩ (fun r h => c_X0_letterAt l D J kc ki kb kl kd t t_letters t_sizes t_lettersF t_sizesF t_lines p3 (p4 + x5) r h) rfl rfl rfl rfl rfl rfl (Nat.le_of_ble_eq_true rfl) dX0_comesBefore_28 ⟨Nat.zero_le _, Nat.zero_le _⟩ hF (fun r28_3 er28_3 hF => ?_)
      refine a_istore C [(7, .int r28_3), (6, .int r16_2), (0, .ref t), (1, .int p1), (2, .int p2), (3, .int p3), (4, .int p4), (5, .int x5)] dX0_comesBefore_31 (by decide) rfl ?_
      refine a_iload C 1 dX0_comesBefore_33 rfl ?_
      refine a_iload C 0 dX0_comesBefore_35 rfl ?_
      refine a_ic_eq C (tgt := 53) dX0_comesBefore_37 (by decide) hF (fun c37_4 hF => ?_) (fun c37_4 hF => ?_)
      · refine a_iinc C 7 [(5, .int (x5 + 1)), (7, .int r28_3), (6, .int r16_2), (0, .ref t), (1, .int p1), (2, .int p2), (3, .int p3), (4, .int p4)] dX0_comesBefore_53 rfl rfl (by decide) rfl ?_
        refine a_goto C (tgt := 3) dX0_comesBefore_56 (by decide) ?_
        refine a_sub C [3, 4, 5, 6, 7, 0] [(0, .ref t), (1, .int p1), (2, .int p2), (3, .int p3), (4, .int p4), (5, .int (x5 + 1))] rfl ?_
        exact ih (x5 + 1) k hF hX
      refine a_iload C 1 dX0_comesBefore_40 rfl ?_
      refine a_iload C 0 dX0_comesBefore_42 rfl ?_
      refine a_ic_ge C (tgt := 51) dX0_comesBefore_44 (by decide) hF (fun c44_5 hF => ?_) (fun c44_5 hF => ?_)
      · refine a_iconst C (v := 0) dX0_comesBefore_51 (by decide) ?_
        exact a_iret C hr rfl dX0_comesBefore_52 hF rfl rfl
      refine a_iconst C (v := 1) dX0_comesBefore_47 (by decide) ?_
      refine a_goto C (tgt := 52) dX0_comesBefore_48 (by decide) ?_
      exact a_iret C hr rfl dX0_comesBefore_52 hF rfl rfl
  unfold f_X0_comesBefore at hF
  refine a_iconst C (v := 0) dX0_comesBefore_0 (by decide) ?_
  refine a_istore C [(5, .int 0), (0, .ref t), (1, .int p1), (2, .int p2), (3, .int p3), (4, .int p4)] dX0_comesBefore_1 (by decide) rfl ?_
  refine a_sub C [1, 2, 3, 4, 5, 0] [(0, .ref t), (1, .int p1), (2, .int p2), (3, .int p3), (4, .int p4), (5, .int 0)] rfl ?_
  refine hI3 1000 0 _ hF (fun x5_3_6 hF => ?_)
  refine a_iload_n C 0 dX0_comesBefore_59 rfl rfl ?_
  refine a_iload_n C 1 dX0_comesBefore_60 rfl rfl ?_
  refine a_ic_ge C (tgt := 68) dX0_comesBefore_61 (by decide) hF (fun c61_7 hF => ?_) (fun c61_7 hF => ?_)
  · refine a_iconst C (v := 0) dX0_comesBefore_68 (by decide) ?_
    exact a_iret C hr rfl dX0_comesBefore_69 hF rfl rfl
  refine a_iconst C (v := 1) dX0_comesBefore_64 (by decide) ?_
  refine a_goto C (tgt := 69) dX0_comesBefore_65 (by decide) ?_
  exact a_iret C hr rfl dX0_comesBefore_69 hF rfl rfl
theorem cs_X0_53 : GoodIn WW (wsV RX0 53 RX0 yX0_comesBefore (aW yX0_comesBefore cX0_comesBefore 8 ((some .boolean)))) := gdV kl_X0_53 ki_X0_comesBefore kv_X0_comesBefore kn_X0 kc_X0_comesBefore
def f_X0_countEndingsBefore_L17 (x4 : Int32) (p1 : Int32) (p2 : Int32) (t_lettersF : Nat → Int32) (t_sizesF : Nat → Int32) (t_lines : Int32) : Nat → Int32 → Int32 → (Int32 → Int32 → Option Int32) → Option Int32
  | 0, _, _, _ => none
  | fuel + 1, x3, x5, k => (f_X0_size t_sizesF t_lines x4).bind fun r22_2 => if r22_2 ≤ x5 then (k x3 x5) else ((f_X0_comesBefore t_lettersF t_sizesF t_lines x4 x5 p1 p2).bind fun r35_4 => if r35_4 = 0 then (f_X0_countEndingsBefore_L17 x4 p1 p2 t_lettersF t_sizesF t_lines fuel x3 (x5 + 1) k) else (f_X0_countEndingsBefore_L17 x4 p1 p2 t_lettersF t_sizesF t_lines fuel (x3 + 1) (x5 + 1) k))
def f_X0_countEndingsBefore_L5 (p1 : Int32) (p2 : Int32) (t_lettersF : Nat → Int32) (t_sizesF : Nat → Int32) (t_lines : Int32) : Nat → Int32 → Int32 → (Int32 → Int32 → Option Int32) → Option Int32
  | 0, _, _, _ => none
  | fuel + 1, x3, x4, k => if t_lines ≤ x4 then (k x3 x4) else (f_X0_countEndingsBefore_L17 x4 p1 p2 t_lettersF t_sizesF t_lines 1000 x3 0 (fun x3_17_6 x5_17_7 => f_X0_countEndingsBefore_L5 p1 p2 t_lettersF t_sizesF t_lines fuel x3_17_6 (x4 + 1) k))
def f_X0_countEndingsBefore (t_lettersF : Nat → Int32) (t_sizesF : Nat → Int32) (t_lines : Int32) (p1 : Int32) (p2 : Int32) : Option Int32 := f_X0_countEndingsBefore_L5 p1 p2 t_lettersF t_sizesF t_lines 1000 0 0 (fun x3_5_8 x4_5_9 => some x3_5_8)
theorem hd_X0_countEndingsBefore : yX0_countEndingsBefore.cls = RX0 ∧ yX0_countEndingsBefore.cls ≠ "java/lang/invoke/MethodHandle" ∧ yX0_countEndingsBefore.cls ≠ "java/lang/invoke/VarHandle" ∧ (parseMethodDescriptor yX0_countEndingsBefore.desc).map (fun d => d.parameters.length) = some 2 := by decide +kernel
set_option maxRecDepth 100000 in
set_option maxHeartbeats 4000000 in
theorem c_X0_countEndingsBefore (l : Launch) (D : va_G) (J : JT) (kc ki kb kl kd : ClassId) (t : Nat) (t_letters : Nat) (t_sizes : Nat) (t_lettersF : Nat → Int32) (t_sizesF : Nat → Int32) (t_lines : Int32) (p1 p2 : Int32) (res : Int32) (hF : f_X0_countEndingsBefore t_lettersF t_sizesF t_lines p1 p2 = some res) : aKi l yX0_countEndingsBefore (aW yX0_countEndingsBefore cX0_countEndingsBefore 6 ((some .int))) ({ frames := 3, cells := 0, slots := 0, locals := 71 } : Room) D J (aTy kc ki kb kl kd) [.ref t, .int p1, .int p2] (wX0 kc ki t t_letters t_sizes t_lettersF t_sizesF t_lines) (fun r => r) (fun _ => wX0 kc ki t t_letters t_sizes t_lettersF t_sizesF t_lines) res := by
  refine aKi_of (own := RX0) (by decide) rfl (Nat.le_of_ble_eq_true rfl) rfl ?_
  intro p e s m args below meth c C hr
  have hI17 : ∀ (x4 : Int32) (fuel : Nat) (x3 : Int32) (x5 : Int32) (k : Int32 → Int32 → Option Int32), f_X0_countEndingsBefore_L17 x4 p1 p2 t_lettersF t_sizesF t_lines fuel x3 x5 k = some res → (∀ (x3 : Int32) (x5 : Int32), k x3 x5 = some res → aT p l e ({ frames := 3, cells := 0, slots := 0, locals := 71 } : Room) s m args below meth c (MQ below (aQi D (wX0 kc ki t t_letters t_sizes t_lettersF t_sizesF t_lines) s.heap.size (fun r => r) (fun _ => wX0 kc ki t t_letters t_sizes t_lettersF t_sizesF t_lines) res) args s 0 0 (va_A (wX0 kc ki t t_letters t_sizes t_lettersF t_sizesF t_lines) s.heap.size)) D (va_A (wX0 kc ki t t_letters t_sizes t_lettersF t_sizesF t_lines) s.heap.size) 6 0 0 50 [(0, .ref t), (1, .int p1), (2, .int p2), (3, .int x3), (4, .int x4)] [] (wX0 kc ki t t_letters t_sizes t_lettersF t_sizesF t_lines)) → aT p l e ({ frames := 3, cells := 0, slots := 0, locals := 71 } : Room) s m args below meth c (MQ below (aQi D (wX0 kc ki t t_letters t_sizes t_lettersF t_sizesF t_lines) s.heap.size (fun r => r) (fun _ => wX0 kc ki t t_letters t_sizes t_lettersF t_sizesF t_lines) res) args s 0 0 (va_A (wX0 kc ki t t_letters t_sizes t_lettersF t_sizesF t_lines) s.heap.size)) D (va_A (wX0 kc ki t t_letters t_sizes t_lettersF t_sizesF t_lines) s.heap.size) 6 0 0 17 [(0, .ref t), (1, .int p1), (2, .int p2), (3, .int x3), (4, .int x4), (5, .int x5)] [] (wX0 kc ki t t_letters t_sizes t_lettersF t_sizesF t_lines) := by
    intro x4 fuel
    induction fuel with
    | zero => intro x3 x5 k hF hX; exact nomatch hF
    | succ fuel ih =>
      intro x3 x5 k hF hX
      rw [f_X0_countEndingsBefore_L17] at hF
      refine a_iload C 5 dX0_countEndingsBefore_17 rfl ?_
      refine a_aload_n C 0 dX0_countEndingsBefore_19 rfl rfl ?_
      refine a_iload C 4 dX0_countEndingsBefore_20 rfl ?_
      refine a_callVir C 1 [0, 1, 2] 0 cs_X0_39 hd_X0_size ⟨rfl, rfl⟩ ⟨Nat.le_of_ble_eq_true rfl, Nat.le_of_ble_eq_true rfl⟩ (fun r h => c_X0_size l D J kc ki kb kl kd t t_letters t_sizes t_lettersF t_sizesF t_lines x4 r h) rfl rfl rfl rfl rfl rfl (Nat.le_of_ble_eq_true rfl) dX0_countEndingsBefore_22 ⟨Nat.zero_le _, Nat.zero_le _⟩ hF (fun r22_2 er22_2 hF => ?_)
      refine a_ic_ge C (tgt := 50) dX0_countEndingsBefore_25 (by decide) hF (fun c25_3 hF => ?_) (fun c25_3 hF => ?_)
      · refine a_sub C [0, 1, 2, 3, 4] [(0, .ref t), (1, .int p1), (2, .int p2), (3, .int x3), (4, .int x4)] rfl ?_
        exact hX x3 x5 hF
      refine a_aload_n C 0 dX0_countEndingsBefore_28 rfl rfl ?_
      refine a_iload C 4 dX0_countEndingsBefore_29 rfl ?_
      refine a_iload C 5 dX0_countEndingsBefore_31 rfl ?_
      refine a_iload_n C 1 dX0_countEndingsBefore_33 rfl rfl ?_
      refine a_iload_n C 2 dX0_countEndingsBefore_34 rfl rfl ?_
      refine a_callVir C 4 [0, 1, 2] 0 cs_X0_53 hd_X0_comesBefore ⟨rfl, rfl⟩ ⟨Nat.le_of_ble_eq_true rfl, Nat.le_of_ble_eq_true rfl⟩ (fun r h => c_X0_comesBefore l D J kc ki kb kl kd t t_letters t_sizes t_lettersF t_sizesF t_lines x4 x5 p1 p2 r h) rfl rfl rfl rfl rfl rfl (Nat.le_of_ble_eq_true rfl) dX0_countEndingsBefore_35 ⟨Nat.zero_le _, Nat.zero_le _⟩ hF (fun r35_4 er35_4 hF => ?_)
      refine a_if_eq C (tgt := 44) dX0_countEndingsBefore_38 (by decide) hF (fun c38_5 hF => ?_) (fun c38_5 hF => ?_)
      · refine a_iinc C 5 [(5, .int (x5 + 1)), (0, .ref t), (1, .int p1), (2, .int p2), (3, .int x3), (4, .int x4)] dX0_countEndingsBefore_44 rfl rfl (by decide) rfl ?_
        refine a_goto C (tgt := 17) dX0_countEndingsBefore_47 (by decide) ?_
        refine a_sub C [1, 2, 3, 4, 5, 0] [(0, .ref t), (1, .int p1), (2, .int p2), (3, .int x3), (4, .int x4), (5, .int (x5 + 1))] rfl ?_
        exact ih x3 (x5 + 1) k hF hX
      refine a_iinc C 3 [(3, .int (x3 + 1)), (0, .ref t), (1, .int p1), (2, .int p2), (4, .int x4), (5, .int x5)] dX0_countEndingsBefore_41 rfl rfl (by decide) rfl ?_
      refine a_iinc C 5 [(5, .int (x5 + 1)), (3, .int (x3 + 1)), (0, .ref t), (1, .int p1), (2, .int p2), (4, .int x4)] dX0_countEndingsBefore_44 rfl rfl (by decide) rfl ?_
      refine a_goto C (tgt := 17) dX0_countEndingsBefore_47 (by decide) ?_
      refine a_sub C [2, 3, 4, 1, 5, 0] [(0, .ref t), (1, .int p1), (2, .int p2), (3, .int (x3 + 1)), (4, .int x4), (5, .int (x5 + 1))] rfl ?_
      exact ih (x3 + 1) (x5 + 1) k hF hX
  have hI5 : ∀ (fuel : Nat) (x3 : Int32) (x4 : Int32) (k : Int32 → Int32 → Option Int32), f_X0_countEndingsBefore_L5 p1 p2 t_lettersF t_sizesF t_lines fuel x3 x4 k = some res → (∀ (x3 : Int32) (x4 : Int32), k x3 x4 = some res → aT p l e ({ frames := 3, cells := 0, slots := 0, locals := 71 } : Room) s m args below meth c (MQ below (aQi D (wX0 kc ki t t_letters t_sizes t_lettersF t_sizesF t_lines) s.heap.size (fun r => r) (fun _ => wX0 kc ki t t_letters t_sizes t_lettersF t_sizesF t_lines) res) args s 0 0 (va_A (wX0 kc ki t t_letters t_sizes t_lettersF t_sizesF t_lines) s.heap.size)) D (va_A (wX0 kc ki t t_letters t_sizes t_lettersF t_sizesF t_lines) s.heap.size) 6 0 0 56 [(3, .int x3)] [] (wX0 kc ki t t_letters t_sizes t_lettersF t_sizesF t_lines)) → aT p l e ({ frames := 3, cells := 0, slots := 0, locals := 71 } : Room) s m args below meth c (MQ below (aQi D (wX0 kc ki t t_letters t_sizes t_lettersF t_sizesF t_lines) s.heap.size (fun r => r) (fun _ => wX0 kc ki t t_letters t_sizes t_lettersF t_sizesF t_lines) res) args s 0 0 (va_A (wX0 kc ki t t_letters t_sizes t_lettersF t_sizesF t_lines) s.heap.size)) D (va_A (wX0 kc ki t t_letters t_sizes t_lettersF t_sizesF t_lines) s.heap.size) 6 0 0 5 [(0, .ref t), (1, .int p1), (2, .int p2), (3, .int x3), (4, .int x4)] [] (wX0 kc ki t t_letters t_sizes t_lettersF t_sizesF t_lines) := by
    intro fuel
    induction fuel with
    | zero => intro x3 x4 k hF hX; exact nomatch hF
    | succ fuel ih =>
      intro x3 x4 k hF hX
      rw [f_X0_countEndingsBefore_L5] at hF
      refine a_iload C 4 dX0_countEndingsBefore_5 rfl ?_
      refine a_aload_n C 0 dX0_countEndingsBefore_7 rfl rfl ?_
      refine a_get C 0 2 iwX0 rfl rfl (by decide) kf_X0_19 rfl dX0_countEndingsBefore_8 ?_
      refine a_ic_ge C (tgt := 56) dX0_countEndingsBefore_11 (by decide) hF (fun c11_1 hF => ?_) (fun c11_1 hF => ?_)
      · refine a_sub C [3] [(3, .int x3)] rfl ?_
        exact hX x3 x4 hF
      refine a_iconst C (v := 0) dX0_countEndingsBefore_14 (by decide) ?_
      refine a_istore C [(5, .int 0), (0, .ref t), (1, .int p1), (2, .int p2), (3, .int x3), (4, .int x4)] dX0_countEndingsBefore_15 (by decide) rfl ?_
      refine a_sub C [1, 2, 3, 4, 5, 0] [(0, .ref t), (1, .int p1), (2, .int p2), (3, .int x3), (4, .int x4), (5, .int 0)] rfl ?_
      refine hI17 x4 1000 x3 0 _ hF (fun x3_17_6 x5_17_7 hF => ?_)
      refine a_iinc C 4 [(4, .int (x4 + 1)), (0, .ref t), (1, .int p1), (2, .int p2), (3, .int x3_17_6)] dX0_countEndingsBefore_50 rfl rfl (by decide) rfl ?_
      refine a_goto C (tgt := 5) dX0_countEndingsBefore_53 (by decide) ?_
      refine a_sub C [1, 2, 3, 4, 0] [(0, .ref t), (1, .int p1), (2, .int p2), (3, .int x3_17_6), (4, .int (x4 + 1))] rfl ?_
      exact ih x3_17_6 (x4 + 1) k hF hX
  unfold f_X0_countEndingsBefore at hF
  refine a_iconst C (v := 0) dX0_countEndingsBefore_0 (by decide) ?_
  refine a_istore_n C [(3, .int 0), (0, .ref t), (1, .int p1), (2, .int p2)] dX0_countEndingsBefore_1 rfl (by decide) rfl ?_
  refine a_iconst C (v := 0) dX0_countEndingsBefore_2 (by decide) ?_
  refine a_istore C [(4, .int 0), (3, .int 0), (0, .ref t), (1, .int p1), (2, .int p2)] dX0_countEndingsBefore_3 (by decide) rfl ?_
  refine a_sub C [2, 3, 4, 1, 0] [(0, .ref t), (1, .int p1), (2, .int p2), (3, .int 0), (4, .int 0)] rfl ?_
  refine hI5 1000 0 0 _ hF (fun x3_5_8 x4_5_9 hF => ?_)
  refine a_iload_n C 0 dX0_countEndingsBefore_56 rfl rfl ?_
  exact a_iret C hr rfl dX0_countEndingsBefore_57 hF rfl rfl
theorem cs_X0_57 : GoodIn WW (wsV RX0 57 RX0 yX0_sameLetters (aW yX0_sameLetters cX0_sameLetters 7 ((some .int)))) := gdV kl_X0_57 ki_X0_sameLetters kv_X0_sameLetters kn_X0 kc_X0_sameLetters
def f_X0_isSame (t_lettersF : Nat → Int32) (t_sizesF : Nat → Int32) (t_lines : Int32) (p1 : Int32) (p2 : Int32) : Option Int32 := (f_X0_size t_sizesF t_lines p1).bind fun r2_1 => (f_X0_size t_sizesF t_lines p2).bind fun r9_2 => if ¬ r2_1 = r9_2 then (some 0) else ((f_X0_sameLetters t_lettersF t_sizesF t_lines p1 0 p2 0).bind fun r20_4 => if ¬ r20_4 = r2_1 then (some 0) else (some 1))
theorem hd_X0_isSame : yX0_isSame.cls = RX0 ∧ yX0_isSame.cls ≠ "java/lang/invoke/MethodHandle" ∧ yX0_isSame.cls ≠ "java/lang/invoke/VarHandle" ∧ (parseMethodDescriptor yX0_isSame.desc).map (fun d => d.parameters.length) = some 2 := by decide +kernel
set_option maxRecDepth 100000 in
set_option maxHeartbeats 4000000 in
theorem c_X0_isSame (l : Launch) (D : va_G) (J : JT) (kc ki kb kl kd : ClassId) (t : Nat) (t_letters : Nat) (t_sizes : Nat) (t_lettersF : Nat → Int32) (t_sizesF : Nat → Int32) (t_lines : Int32) (p1 p2 : Int32) (res : Int32) (hF : f_X0_isSame t_lettersF t_sizesF t_lines p1 p2 = some res) : aKi l yX0_isSame (aW yX0_isSame cX0_isSame 4 ((some .boolean))) ({ frames := 3, cells := 0, slots := 0, locals := 70 } : Room) D J (aTy kc ki kb kl kd) [.ref t, .int p1, .int p2] (wX0 kc ki t t_letters t_sizes t_lettersF t_sizesF t_lines) (fun r => r) (fun _ => wX0 kc ki t t_letters t_sizes t_lettersF t_sizesF t_lines) res := by
  refine aKi_of (own := RX0) (by decide) rfl (Nat.le_of_ble_eq_true rfl) rfl ?_
  intro p e s m args below meth c C hr
  unfold f_X0_isSame at hF
  refine a_aload_n C 0 dX0_isSame_0 rfl rfl ?_
  refine a_iload_n C 1 dX0_isSame_1 rfl rfl ?_
  refine a_callVir C 1 [0, 1, 2] 0 cs_X0_39 hd_X0_size ⟨rfl, rfl⟩ ⟨Nat.le_of_ble_eq_true rfl, Nat.le_of_ble_eq_true rfl⟩ (fun r h => c_X0_size l D J kc ki kb kl kd t t_letters t_sizes t_lettersF t_sizesF t_lines p1 r h) rfl rfl rfl rfl rfl rfl (Nat.le_of_ble_eq_true rfl) dX0_isSame_2 ⟨Nat.zero_le _, Nat.zero_le _⟩ hF (fun r2_1 er2_1 hF => ?_)
  refine a_istore_n C [(3, .int r2_1), (0, .ref t), (1, .int p1), (2, .int p2)] dX0_isSame_5 rfl (by decide) rfl ?_
  refine a_iload_n C 0 dX0_isSame_6 rfl rfl ?_
  refine a_aload_n C 1 dX0_isSame_7 rfl rfl ?_
  refine a_iload_n C 3 dX0_isSame_8 rfl rfl ?_
  refine a_callVir C 1 [0, 1, 2] 0 cs_X0_39 hd_X0_size ⟨rfl, rfl⟩ ⟨Nat.le_of_ble_eq_true rfl, Nat.le_of_ble_eq_true rfl⟩ (fun r h => c_X0_size l D J kc ki kb kl kd t t_letters t_sizes t_lettersF t_sizesF t_lines p2 r h) rfl rfl rfl rfl rfl rfl (Nat.le_of_ble_eq_true rfl) dX0_isSame_9 ⟨Nat.zero_le _, Nat.zero_le _⟩ hF (fun r9_2 er9_2 hF => ?_)
  refine a_ic_ne C (tgt := 31) dX0_isSame_12 (by decide) hF (fun c12_3 hF => ?_) (fun c12_3 hF => ?_)
  · refine a_iconst C (v := 0) dX0_isSame_31 (by decide) ?_
    exact a_iret C hr rfl dX0_isSame_32 hF rfl rfl
  refine a_aload_n C 1 dX0_isSame_15 rfl rfl ?_
  refine a_iload_n C 2 dX0_isSame_16 rfl rfl ?_
  refine a_iconst C (v := 0) dX0_isSame_17 (by decide) ?_
  refine a_iload_n C 3 dX0_isSame_18 rfl rfl ?_
  refine a_iconst C (v := 0) dX0_isSame_19 (by decide) ?_
  refine a_callVir C 4 [0, 1, 2] 0 cs_X0_57 hd_X0_sameLetters ⟨rfl, rfl⟩ ⟨Nat.le_of_ble_eq_true rfl, Nat.le_of_ble_eq_true rfl⟩ (fun r h => c_X0_sameLetters l D J kc ki kb kl kd t t_letters t_sizes t_lettersF t_sizesF t_lines p1 0 p2 0 r h) rfl rfl rfl rfl rfl rfl (Nat.le_of_ble_eq_true rfl) dX0_isSame_20 ⟨Nat.zero_le _, Nat.zero_le _⟩ hF (fun r20_4 er20_4 hF => ?_)
  refine a_iload_n C 0 dX0_isSame_23 rfl rfl ?_
  refine a_ic_ne C (tgt := 31) dX0_isSame_24 (by decide) hF (fun c24_5 hF => ?_) (fun c24_5 hF => ?_)
  · refine a_iconst C (v := 0) dX0_isSame_31 (by decide) ?_
    exact a_iret C hr rfl dX0_isSame_32 hF rfl rfl
  refine a_iconst C (v := 1) dX0_isSame_27 (by decide) ?_
  refine a_goto C (tgt := 32) dX0_isSame_28 (by decide) ?_
  exact a_iret C hr rfl dX0_isSame_32 hF rfl rfl
theorem cs_X0_61 : GoodIn WW (wsV RX0 61 RX0 yX0_isSame (aW yX0_isSame cX0_isSame 4 ((some .boolean)))) := gdV kl_X0_61 ki_X0_isSame kv_X0_isSame kn_X0 kc_X0_isSame
def f_X0_countSameLines_L4 (p1 : Int32) (t_lettersF : Nat → Int32) (t_sizesF : Nat → Int32) (t_lines : Int32) : Nat → Int32 → Int32 → (Int32 → Int32 → Option Int32) → Option Int32
  | 0, _, _, _ => none
  | fuel + 1, x2, x3, k => if t_lines ≤ x3 then (k x2 x3) else ((f_X0_isSame t_lettersF t_sizesF t_lines p1 x3).bind fun r15_2 => if r15_2 = 0 then (f_X0_countSameLines_L4 p1 t_lettersF t_sizesF t_lines fuel x2 (x3 + 1) k) else (f_X0_countSameLines_L4 p1 t_lettersF t_sizesF t_lines fuel (x2 + 1) (x3 + 1) k))
def f_X0_countSameLines (t_lettersF : Nat → Int32) (t_sizesF : Nat → Int32) (t_lines : Int32) (p1 : Int32) : Option Int32 := f_X0_countSameLines_L4 p1 t_lettersF t_sizesF t_lines 1000 0 0 (fun x2_4_4 x3_4_5 => some x2_4_4)
theorem hd_X0_countSameLines : yX0_countSameLines.cls = RX0 ∧ yX0_countSameLines.cls ≠ "java/lang/invoke/MethodHandle" ∧ yX0_countSameLines.cls ≠ "java/lang/invoke/VarHandle" ∧ (parseMethodDescriptor yX0_countSameLines.desc).map (fun d => d.parameters.length) = some 1 := by decide +kernel
set_option maxRecDepth 100000 in
set_option maxHeartbeats 4000000 in
theorem c_X0_countSameLines (l : Launch) (D : va_G) (J : JT) (kc ki kb kl kd : ClassId) (t : Nat) (t_letters : Nat) (t_sizes : Nat) (t_lettersF : Nat → Int32) (t_sizesF : Nat → Int32) (t_lines : Int32) (p1 : Int32) (res : Int32) (hF : f_X0_countSameLines t_lettersF t_sizesF t_lines p1 = some res) : aKi l yX0_countSameLines (aW yX0_countSameLines cX0_countSameLines 4 ((some .int))) ({ frames := 4, cells := 0, slots := 0, locals := 93 } : Room) D J (aTy kc ki kb kl kd) [.ref t, .int p1] (wX0 kc ki t t_letters t_sizes t_lettersF t_sizesF t_lines) (fun r => r) (fun _ => wX0 kc ki t t_letters t_sizes t_lettersF t_sizesF t_lines) res := by
  refine aKi_of (own := RX0) (by decide) rfl (Nat.le_of_ble_eq_true rfl) rfl ?_
  intro p e s m args below meth c C hr
  have hI4 : ∀ (fuel : Nat) (x2 : Int32) (x3 : Int32) (k : Int32 → Int32 → Option Int32), f_X0_countSameLines_L4 p1 t_lettersF t_sizesF t_lines fuel x2 x3 k = some res → (∀ (x2 : Int32) (x3 : Int32), k x2 x3 = some res → aT p l e ({ frames := 4, cells := 0, slots := 0, locals := 93 } : Room) s m args below meth c (MQ below (aQi D (wX0 kc ki t t_letters t_sizes t_lettersF t_sizesF t_lines) s.heap.size (fun r => r) (fun _ => wX0 kc ki t t_letters t_sizes t_lettersF t_sizesF t_lines) res) args s 0 0 (va_A (wX0 kc ki t t_letters t_sizes t_lettersF t_sizesF t_lines) s.heap.size)) D (va_A (wX0 kc ki t t_letters t_sizes t_lettersF t_sizesF t_lines) s.heap.size) 4 0 0 30 [(2, .int x2)] [] (wX0 kc ki t t_letters t_sizes t_lettersF t_sizesF t_lines)) → aT p l e ({ frames := 4, cells := 0, slots := 0, locals := 93 } : Room) s m args below meth c (MQ below (aQi D (wX0 kc ki t t_letters t_sizes t_lettersF t_sizesF t_lines) s.heap.size (fun r => r) (fun _ => wX0 kc ki t t_letters t_sizes t_lettersF t_sizesF t_lines) res) args s 0 0 (va_A (wX0 kc ki t t_letters t_sizes t_lettersF t_sizesF t_lines) s.heap.size)) D (va_A (wX0 kc ki t t_letters t_sizes t_lettersF t_sizesF t_lines) s.heap.size) 4 0 0 4 [(0, .ref t), (1, .int p1), (2, .int x2), (3, .int x3)] [] (wX0 kc ki t t_letters t_sizes t_lettersF t_sizesF t_lines) := by
    intro fuel
    induction fuel with
    | zero => intro x2 x3 k hF hX; exact nomatch hF
    | succ fuel ih =>
      intro x2 x3 k hF hX
      rw [f_X0_countSameLines_L4] at hF
      refine a_iload_n C 3 dX0_countSameLines_4 rfl rfl ?_
      refine a_aload_n C 0 dX0_countSameLines_5 rfl rfl ?_
      refine a_get C 0 2 iwX0 rfl rfl (by decide) kf_X0_19 rfl dX0_countSameLines_6 ?_
      refine a_ic_ge C (tgt := 30) dX0_countSameLines_9 (by decide) hF (fun c9_1 hF => ?_) (fun c9_1 hF => ?_)
      · refine a_sub C [2] [(2, .int x2)] rfl ?_
        exact hX x2 x3 hF
      refine a_aload_n C 0 dX0_countSameLines_12 rfl rfl ?_
      refine a_iload_n C 1 dX0_countSameLines_13 rfl rfl ?_
      refine a_iload_n C 3 dX0_countSameLines_14 rfl rfl ?_
      refine a_callVir C 2 [0, 1, 2] 0 cs_X0_61 hd_X0_isSame ⟨rfl, rfl⟩ ⟨Nat.le_of_ble_eq_true rfl, Nat.le_of_ble_eq_true rfl⟩ (fun r h => c_X0_isSame l D J kc ki kb kl kd t t_letters t_sizes t_lettersF t_sizesF t_lines p1 x3 r h) rfl rfl rfl rfl rfl rfl (Nat.le_of_ble_eq_true rfl) dX0_countSameLines_15 ⟨Nat.zero_le _, Nat.zero_le _⟩ hF (fun r15_2 er15_2 hF => ?_)
      refine a_if_eq C (tgt := 24) dX0_countSameLines_18 (by decide) hF (fun c18_3 hF => ?_) (fun c18_3 hF => ?_)
      · refine a_iinc C 3 [(3, .int (x3 + 1)), (0, .ref t), (1, .int p1), (2, .int x2)] dX0_countSameLines_24 rfl rfl (by decide) rfl ?_
        refine a_goto C (tgt := 4) dX0_countSameLines_27 (by decide) ?_
        refine a_sub C [1, 2, 3, 0] [(0, .ref t), (1, .int p1), (2, .int x2), (3, .int (x3 + 1))] rfl ?_
        exact ih x2 (x3 + 1) k hF hX
      refine a_iinc C 2 [(2, .int (x2 + 1)), (0, .ref t), (1, .int p1), (3, .int x3)] dX0_countSameLines_21 rfl rfl (by decide) rfl ?_
      refine a_iinc C 3 [(3, .int (x3 + 1)), (2, .int (x2 + 1)), (0, .ref t), (1, .int p1)] dX0_countSameLines_24 rfl rfl (by decide) rfl ?_
      refine a_goto C (tgt := 4) dX0_countSameLines_27 (by decide) ?_
      refine a_sub C [2, 3, 1, 0] [(0, .ref t), (1, .int p1), (2, .int (x2 + 1)), (3, .int (x3 + 1))] rfl ?_
      exact ih (x2 + 1) (x3 + 1) k hF hX
  unfold f_X0_countSameLines at hF
  refine a_iconst C (v := 0) dX0_countSameLines_0 (by decide) ?_
  refine a_istore_n C [(2, .int 0), (0, .ref t), (1, .int p1)] dX0_countSameLines_1 rfl (by decide) rfl ?_
  refine a_iconst C (v := 0) dX0_countSameLines_2 (by decide) ?_
  refine a_istore_n C [(3, .int 0), (2, .int 0), (0, .ref t), (1, .int p1)] dX0_countSameLines_3 rfl (by decide) rfl ?_
  refine a_sub C [2, 3, 1, 0] [(0, .ref t), (1, .int p1), (2, .int 0), (3, .int 0)] rfl ?_
  refine hI4 1000 0 0 _ hF (fun x2_4_4 x3_4_5 hF => ?_)
  refine a_iload_n C 0 dX0_countSameLines_30 rfl rfl ?_
  exact a_iret C hr rfl dX0_countSameLines_31 hF rfl rfl
def f_X0_countKinds_L14 (x2 : Int32) (t_lettersF : Nat → Int32) (t_sizesF : Nat → Int32) (t_lines : Int32) : Nat → Int32 → (Int32 → Option Int32) → Option Int32
  | 0, _, _ => none
  | fuel + 1, x3, k => if x2 ≤ x3 then (k x3) else ((f_X0_isSame t_lettersF t_sizesF t_lines x3 x2).bind fun r22_3 => if ¬ r22_3 = 0 then (k x3) else (f_X0_countKinds_L14 x2 t_lettersF t_sizesF t_lines fuel (x3 + 1) k))
def f_X0_countKinds_L4 (t_lettersF : Nat → Int32) (t_sizesF : Nat → Int32) (t_lines : Int32) : Nat → Int32 → Int32 → (Int32 → Int32 → Option Int32) → Option Int32
  | 0, _, _, _ => none
  | fuel + 1, x1, x2, k => if t_lines ≤ x2 then (k x1 x2) else (f_X0_countKinds_L14 x2 t_lettersF t_sizesF t_lines 1000 0 (fun x3_14_5 => if ¬ x3_14_5 = x2 then (f_X0_countKinds_L4 t_lettersF t_sizesF t_lines fuel x1 (x2 + 1) k) else (f_X0_countKinds_L4 t_lettersF t_sizesF t_lines fuel (x1 + 1) (x2 + 1) k)))
def f_X0_countKinds (t_lettersF : Nat → Int32) (t_sizesF : Nat → Int32) (t_lines : Int32) : Option Int32 := f_X0_countKinds_L4 t_lettersF t_sizesF t_lines 1000 0 0 (fun x1_4_7 x2_4_8 => some x1_4_7)
theorem hd_X0_countKinds : yX0_countKinds.cls = RX0 ∧ yX0_countKinds.cls ≠ "java/lang/invoke/MethodHandle" ∧ yX0_countKinds.cls ≠ "java/lang/invoke/VarHandle" ∧ (parseMethodDescriptor yX0_countKinds.desc).map (fun d => d.parameters.length) = some 0 := by decide +kernel
set_option maxRecDepth 100000 in
set_option maxHeartbeats 4000000 in
theorem c_X0_countKinds (l : Launch) (D : va_G) (J : JT) (kc ki kb kl kd : ClassId) (t : Nat) (t_letters : Nat) (t_sizes : Nat) (t_lettersF : Nat → Int32) (t_sizesF : Nat → Int32) (t_lines : Int32) (res : Int32) (hF : f_X0_countKinds t_lettersF t_sizesF t_lines = some res) : aKi l yX0_countKinds (aW yX0_countKinds cX0_countKinds 4 ((some .int))) ({ frames := 4, cells := 0, slots := 0, locals := 93 } : Room) D J (aTy kc ki kb kl kd) [.ref t] (wX0 kc ki t t_letters t_sizes t_lettersF t_sizesF t_lines) (fun r => r) (fun _ => wX0 kc ki t t_letters t_sizes t_lettersF t_sizesF t_lines) res := by
  refine aKi_of (own := RX0) (by decide) rfl (Nat.le_of_ble_eq_true rfl) rfl ?_
  intro p e s m args below meth c C hr
  have hI14 : ∀ (x1 : Int32) (x2 : Int32) (fuel : Nat) (x3 : Int32) (k : Int32 → Option Int32), f_X0_countKinds_L14 x2 t_lettersF t_sizesF t_lines fuel x3 k = some res → (∀ (x3 : Int32), k x3 = some res → aT p l e ({ frames := 4, cells := 0, slots := 0, locals := 93 } : Room) s m args below meth c (MQ below (aQi D (wX0 kc ki t t_letters t_sizes t_lettersF t_sizesF t_lines) s.heap.size (fun r => r) (fun _ => wX0 kc ki t t_letters t_sizes t_lettersF t_sizesF t_lines) res) args s 0 0 (va_A (wX0 kc ki t t_letters t_sizes t_lettersF t_sizesF t_lines) s.heap.size)) D (va_A (wX0 kc ki t t_letters t_sizes t_lettersF t_sizesF t_lines) s.heap.size) 4 0 0 34 [(0, .ref t), (1, .int x1), (2, .int x2), (3, .int x3)] [] (wX0 kc ki t t_letters t_sizes t_lettersF t_sizesF t_lines)) → aT p l e ({ frames := 4, cells := 0, slots := 0, locals := 93 } : Room) s m args below meth c (MQ below (aQi D (wX0 kc ki t t_letters t_sizes t_lettersF t_sizesF t_lines) s.heap.size (fun r => r) (fun _ => wX0 kc ki t t_letters t_sizes t_lettersF t_sizesF t_lines) res) args s 0 0 (va_A (wX0 kc ki t t_letters t_sizes t_lettersF t_sizesF t_lines) s.heap.size)) D (va_A (wX0 kc ki t t_letters t_sizes t_lettersF t_sizesF t_lines) s.heap.size) 4 0 0 14 [(0, .ref t), (1, .int x1), (2, .int x2), (3, .int x3)] [] (wX0 kc ki t t_letters t_sizes t_lettersF t_sizesF t_lines) := by
    intro x1 x2 fuel
    induction fuel with
    | zero => intro x3 k hF hX; exact nomatch hF
    | succ fuel ih =>
      intro x3 k hF hX
      rw [f_X0_countKinds_L14] at hF
      refine a_iload_n C 3 dX0_countKinds_14 rfl rfl ?_
      refine a_iload_n C 2 dX0_countKinds_15 rfl rfl ?_
      refine a_ic_ge C (tgt := 34) dX0_countKinds_16 (by decide) hF (fun c16_2 hF => ?_) (fun c16_2 hF => ?_)
      · exact hX x3 hF
      refine a_aload_n C 0 dX0_countKinds_19 rfl rfl ?_
      refine a_iload_n C 3 dX0_countKinds_20 rfl rfl ?_
      refine a_iload_n C 2 dX0_countKinds_21 rfl rfl ?_
      refine a_callVir C 2 [0, 1, 2] 0 cs_X0_61 hd_X0_isSame ⟨rfl, rfl⟩ ⟨Nat.le_of_ble_eq_true rfl, Nat.le_of_ble_eq_true rfl⟩ (fun r h => c_X0_isSame l D J kc ki kb kl kd t t_letters t_sizes t_lettersF t_sizesF t_lines x3 x2 r h) rfl rfl rfl rfl rfl rfl (Nat.le_of_ble_eq_true rfl) dX0_countKinds_22 ⟨Nat.zero_le _, Nat.zero_le _⟩ hF (fun r22_3 er22_3 hF => ?_)
      refine a_if_ne C (tgt := 34) dX0_countKinds_25 (by decide) hF (fun c25_4 hF => ?_) (fun c25_4 hF => ?_)
      · exact hX x3 hF
      refine a_iinc C 3 [(3, .int (x3 + 1)), (0, .ref t), (1, .int x1), (2, .int x2)] dX0_countKinds_28 rfl rfl (by decide) rfl ?_
      refine a_goto C (tgt := 14) dX0_countKinds_31 (by decide) ?_
      refine a_sub C [1, 2, 3, 0] [(0, .ref t), (1, .int x1), (2, .int x2), (3, .int (x3 + 1))] rfl ?_
      exact ih (x3 + 1) k hF hX
  have hI4 : ∀ (fuel : Nat) (x1 : Int32) (x2 : Int32) (k : Int32 → Int32 → Option Int32), f_X0_countKinds_L4 t_lettersF t_sizesF t_lines fuel x1 x2 k = some res → (∀ (x1 : Int32) (x2 : Int32), k x1 x2 = some res → aT p l e ({ frames := 4, cells := 0, slots := 0, locals := 93 } : Room) s m args below meth c (MQ below (aQi D (wX0 kc ki t t_letters t_sizes t_lettersF t_sizesF t_lines) s.heap.size (fun r => r) (fun _ => wX0 kc ki t t_letters t_sizes t_lettersF t_sizesF t_lines) res) args s 0 0 (va_A (wX0 kc ki t t_letters t_sizes t_lettersF t_sizesF t_lines) s.heap.size)) D (va_A (wX0 kc ki t t_letters t_sizes t_lettersF t_sizesF t_lines) s.heap.size) 4 0 0 48 [(1, .int x1)] [] (wX0 kc ki t t_letters t_sizes t_lettersF t_sizesF t_lines)) → aT p l e ({ frames := 4, cells := 0, slots := 0, locals := 93 } : Room) s m args below meth c (MQ below (aQi D (wX0 kc ki t t_letters t_sizes t_lettersF t_sizesF t_lines) s.heap.size (fun r => r) (fun _ => wX0 kc ki t t_letters t_sizes t_lettersF t_sizesF t_lines) res) args s 0 0 (va_A (wX0 kc ki t t_letters t_sizes t_lettersF t_sizesF t_lines) s.heap.size)) D (va_A (wX0 kc ki t t_letters t_sizes t_lettersF t_sizesF t_lines) s.heap.size) 4 0 0 4 [(0, .ref t), (1, .int x1), (2, .int x2)] [] (wX0 kc ki t t_letters t_sizes t_lettersF t_sizesF t_lines) := by
    intro fuel
    induction fuel with
    | zero => intro x1 x2 k hF hX; exact nomatch hF
    | succ fuel ih =>
      intro x1 x2 k hF hX
      rw [f_X0_countKinds_L4] at hF
      refine a_iload_n C 2 dX0_countKinds_4 rfl rfl ?_
      refine a_aload_n C 0 dX0_countKinds_5 rfl rfl ?_
      refine a_get C 0 2 iwX0 rfl rfl (by decide) kf_X0_19 rfl dX0_countKinds_6 ?_
      refine a_ic_ge C (tgt := 48) dX0_countKinds_9 (by decide) hF (fun c9_1 hF => ?_) (fun c9_1 hF => ?_)
      · refine a_sub C [1] [(1, .int x1)] rfl ?_
        exact hX x1 x2 hF
      refine a_iconst C (v := 0) dX0_countKinds_12 (by decide) ?_
      refine a_istore_n C [(3, .int 0), (0, .ref t), (1, .int x1), (2, .int x2)] dX0_countKinds_13 rfl (by decide) rfl ?_
      refine a_sub C [1, 2, 3, 0] [(0, .ref t), (1, .int x1), (2, .int x2), (3, .int 0)] rfl ?_
      refine hI14 x1 x2 1000 0 _ hF (fun x3_14_5 hF => ?_)
      refine a_iload_n C 3 dX0_countKinds_34 rfl rfl ?_
      refine a_iload_n C 2 dX0_countKinds_35 rfl rfl ?_
      refine a_ic_ne C (tgt := 42) dX0_countKinds_36 (by decide) hF (fun c36_6 hF => ?_) (fun c36_6 hF => ?_)
      · refine a_iinc C 2 [(2, .int (x2 + 1)), (0, .ref t), (1, .int x1), (3, .int x3_14_5)] dX0_countKinds_42 rfl rfl (by decide) rfl ?_
        refine a_goto C (tgt := 4) dX0_countKinds_45 (by decide) ?_
        refine a_sub C [1, 2, 0] [(0, .ref t), (1, .int x1), (2, .int (x2 + 1))] rfl ?_
        exact ih x1 (x2 + 1) k hF hX
      refine a_iinc C 1 [(1, .int (x1 + 1)), (0, .ref t), (2, .int x2), (3, .int x3_14_5)] dX0_countKinds_39 rfl rfl (by decide) rfl ?_
      refine a_iinc C 2 [(2, .int (x2 + 1)), (1, .int (x1 + 1)), (0, .ref t), (3, .int x3_14_5)] dX0_countKinds_42 rfl rfl (by decide) rfl ?_
      refine a_goto C (tgt := 4) dX0_countKinds_45 (by decide) ?_
      refine a_sub C [2, 1, 0] [(0, .ref t), (1, .int (x1 + 1)), (2, .int (x2 + 1))] rfl ?_
      exact ih (x1 + 1) (x2 + 1) k hF hX
  unfold f_X0_countKinds at hF
  refine a_iconst C (v := 0) dX0_countKinds_0 (by decide) ?_
  refine a_istore_n C [(1, .int 0), (0, .ref t)] dX0_countKinds_1 rfl (by decide) rfl ?_
  refine a_iconst C (v := 0) dX0_countKinds_2 (by decide) ?_
  refine a_istore_n C [(2, .int 0), (1, .int 0), (0, .ref t)] dX0_countKinds_3 rfl (by decide) rfl ?_
  refine a_sub C [2, 1, 0] [(0, .ref t), (1, .int 0), (2, .int 0)] rfl ?_
  refine hI4 1000 0 0 _ hF (fun x1_4_7 x2_4_8 hF => ?_)
  refine a_iload_n C 0 dX0_countKinds_48 rfl rfl ?_
  exact a_iret C hr rfl dX0_countKinds_49 hF rfl rfl
def f_X0_isReverse_L20 (x3 : Int32) (p1 : Int32) (p2 : Int32) (t_lettersF : Nat → Int32) (t_sizesF : Nat → Int32) (t_lines : Int32) : Nat → Int32 → (Int32 → Option Int32) → Option Int32
  | 0, _, _ => none
  | fuel + 1, x4, k => if x3 ≤ x4 then (k x4) else ((f_X0_letterAt t_lettersF t_sizesF t_lines p1 x4).bind fun r30_5 => (f_X0_letterAt t_lettersF t_sizesF t_lines p2 ((x3 - 1) - x4)).bind fun r41_6 => if r30_5 = r41_6 then (f_X0_isReverse_L20 x3 p1 p2 t_lettersF t_sizesF t_lines fuel (x4 + 1) k) else (some 0))
def f_X0_isReverse (t_lettersF : Nat → Int32) (t_sizesF : Nat → Int32) (t_lines : Int32) (p1 : Int32) (p2 : Int32) : Option Int32 := (f_X0_size t_sizesF t_lines p1).bind fun r2_1 => (f_X0_size t_sizesF t_lines p2).bind fun r9_2 => if r2_1 = r9_2 then (f_X0_isReverse_L20 r2_1 p1 p2 t_lettersF t_sizesF t_lines 1000 0 (fun x4_20_8 => some 1)) else (some 0)
theorem hd_X0_isReverse : yX0_isReverse.cls = RX0 ∧ yX0_isReverse.cls ≠ "java/lang/invoke/MethodHandle" ∧ yX0_isReverse.cls ≠ "java/lang/invoke/VarHandle" ∧ (parseMethodDescriptor yX0_isReverse.desc).map (fun d => d.parameters.length) = some 2 := by decide +kernel
set_option maxRecDepth 100000 in
set_option maxHeartbeats 4000000 in
theorem c_X0_isReverse (l : Launch) (D : va_G) (J : JT) (kc ki kb kl kd : ClassId) (t : Nat) (t_letters : Nat) (t_sizes : Nat) (t_lettersF : Nat → Int32) (t_sizesF : Nat → Int32) (t_lines : Int32) (p1 p2 : Int32) (res : Int32) (hF : f_X0_isReverse t_lettersF t_sizesF t_lines p1 p2 = some res) : aKi l yX0_isReverse (aW yX0_isReverse cX0_isReverse 5 ((some .boolean))) ({ frames := 2, cells := 0, slots := 0, locals := 44 } : Room) D J (aTy kc ki kb kl kd) [.ref t, .int p1, .int p2] (wX0 kc ki t t_letters t_sizes t_lettersF t_sizesF t_lines) (fun r => r) (fun _ => wX0 kc ki t t_letters t_sizes t_lettersF t_sizesF t_lines) res := by
  refine aKi_of (own := RX0) (by decide) rfl (Nat.le_of_ble_eq_true rfl) rfl ?_
  intro p e s m args below meth c C hr
  have hI20 : ∀ (x3 : Int32) (fuel : Nat) (x4 : Int32) (k : Int32 → Option Int32), f_X0_isReverse_L20 x3 p1 p2 t_lettersF t_sizesF t_lines fuel x4 k = some res → (∀ (x4 : Int32), k x4 = some res → aT p l e ({ frames := 2, cells := 0, slots := 0, locals := 44 } : Room) s m args below meth c (MQ below (aQi D (wX0 kc ki t t_letters t_sizes t_lettersF t_sizesF t_lines) s.heap.size (fun r => r) (fun _ => wX0 kc ki t t_letters t_sizes t_lettersF t_sizesF t_lines) res) args s 0 0 (va_A (wX0 kc ki t t_letters t_sizes t_lettersF t_sizesF t_lines) s.heap.size)) D (va_A (wX0 kc ki t t_letters t_sizes t_lettersF t_sizesF t_lines) s.heap.size) 5 0 0 55 [] [] (wX0 kc ki t t_letters t_sizes t_lettersF t_sizesF t_lines)) → aT p l e ({ frames := 2, cells := 0, slots := 0, locals := 44 } : Room) s m args below meth c (MQ below (aQi D (wX0 kc ki t t_letters t_sizes t_lettersF t_sizesF t_lines) s.heap.size (fun r => r) (fun _ => wX0 kc ki t t_letters t_sizes t_lettersF t_sizesF t_lines) res) args s 0 0 (va_A (wX0 kc ki t t_letters t_sizes t_lettersF t_sizesF t_lines) s.heap.size)) D (va_A (wX0 kc ki t t_letters t_sizes t_lettersF t_sizesF t_lines) s.heap.size) 5 0 0 20 [(0, .ref t), (1, .int p1), (2, .int p2), (3, .int x3), (4, .int x4)] [] (wX0 kc ki t t_letters t_sizes t_lettersF t_sizesF t_lines) := by
    intro x3 fuel
    induction fuel with
    | zero => intro x4 k hF hX; exact nomatch hF
    | succ fuel ih =>
      intro x4 k hF hX
      rw [f_X0_isReverse_L20] at hF
      refine a_iload C 4 dX0_isReverse_20 rfl ?_
      refine a_iload_n C 3 dX0_isReverse_22 rfl rfl ?_
      refine a_ic_ge C (tgt := 55) dX0_isReverse_23 (by decide) hF (fun c23_4 hF => ?_) (fun c23_4 hF => ?_)
      · refine a_sub C [] [] rfl ?_
        exact hX x4 hF
      refine a_aload_n C 0 dX0_isReverse_26 rfl rfl ?_
      refine a_iload_n C 1 dX0_isReverse_27 rfl rfl ?_
      refine a_iload C 4 dX0_isReverse_28 rfl ?_
      refine a_callVir C 2 [0, 1, 2] 0 cs_X0_43 hd_X0_letterAt ⟨rfl, rfl⟩ ⟨Nat.le_of_ble_eq_true rfl, Nat.le_of_ble_eq_true rfl⟩ (fun r h => c_X0_letterAt l D J kc ki kb kl kd t t_letters t_sizes t_lettersF t_sizesF t_lines p1 x4 r h) rfl rfl rfl rfl rfl rfl (Nat.le_of_ble_eq_true rfl) dX0_isReverse_30 ⟨Nat.zero_le _, Nat.zero_le _⟩ hF (fun r30_5 er30_5 hF => ?_)
      refine a_aload_n C 0 dX0_isReverse_33 rfl rfl ?_
      refine a_iload_n C 2 dX0_isReverse_34 rfl rfl ?_
      refine a_iload_n C 3 dX0_isReverse_35 rfl rfl ?_
      refine a_iconst C (v := 1) dX0_isReverse_36 (by decide) ?_
      refine a_isub C dX0_isReverse_37 ?_
      refine a_iload C 4 dX0_isReverse_38 rfl ?_
      refine a_isub C dX0_isReverse_40 ?_
      refine a_callVir C 2 [0, 1, 2] 0 cs_X0_43 hd_X0_letterAt ⟨rfl, rfl⟩ ⟨Nat.le_of_ble_eq_true rfl, Nat.le_of_ble_eq_true rfl⟩ (fun r h => c_X0_letterAt l D J kc ki kb kl kd t t_letters t_sizes t_lettersF t_sizesF t_lines p2 ((x3 - 1) - x4) r h) rfl rfl rfl rfl rfl rfl (Nat.le_of_ble_eq_true rfl) dX0_isReverse_41 ⟨Nat.zero_le _, Nat.zero_le _⟩ hF (fun r41_6 er41_6 hF => ?_)
      refine a_ic_eq C (tgt := 49) dX0_isReverse_44 (by decide) hF (fun c44_7 hF => ?_) (fun c44_7 hF => ?_)
      · refine a_iinc C 4 [(4, .int (x4 + 1)), (0, .ref t), (1, .int p1), (2, .int p2), (3, .int x3)] dX0_isReverse_49 rfl rfl (by decide) rfl ?_
        refine a_goto C (tgt := 20) dX0_isReverse_52 (by decide) ?_
        refine a_sub C [1, 2, 3, 4, 0] [(0, .ref t), (1, .int p1), (2, .int p2), (3, .int x3), (4, .int (x4 + 1))] rfl ?_
        exact ih (x4 + 1) k hF hX
      refine a_iconst C (v := 0) dX0_isReverse_47 (by decide) ?_
      exact a_iret C hr rfl dX0_isReverse_48 hF rfl rfl
  unfold f_X0_isReverse at hF
  refine a_aload_n C 0 dX0_isReverse_0 rfl rfl ?_
  refine a_iload_n C 1 dX0_isReverse_1 rfl rfl ?_
  refine a_callVir C 1 [0, 1, 2] 0 cs_X0_39 hd_X0_size ⟨rfl, rfl⟩ ⟨Nat.le_of_ble_eq_true rfl, Nat.le_of_ble_eq_true rfl⟩ (fun r h => c_X0_size l D J kc ki kb kl kd t t_letters t_sizes t_lettersF t_sizesF t_lines p1 r h) rfl rfl rfl rfl rfl rfl (Nat.le_of_ble_eq_true rfl) dX0_isReverse_2 ⟨Nat.zero_le _, Nat.zero_le _⟩ hF (fun r2_1 er2_1 hF => ?_)
  refine a_istore_n C [(3, .int r2_1), (0, .ref t), (1, .int p1), (2, .int p2)] dX0_isReverse_5 rfl (by decide) rfl ?_
  refine a_iload_n C 0 dX0_isReverse_6 rfl rfl ?_
  refine a_aload_n C 1 dX0_isReverse_7 rfl rfl ?_
  refine a_iload_n C 3 dX0_isReverse_8 rfl rfl ?_
  refine a_callVir C 1 [0, 1, 2] 0 cs_X0_39 hd_X0_size ⟨rfl, rfl⟩ ⟨Nat.le_of_ble_eq_true rfl, Nat.le_of_ble_eq_true rfl⟩ (fun r h => c_X0_size l D J kc ki kb kl kd t t_letters t_sizes t_lettersF t_sizesF t_lines p2 r h) rfl rfl rfl rfl rfl rfl (Nat.le_of_ble_eq_true rfl) dX0_isReverse_9 ⟨Nat.zero_le _, Nat.zero_le _⟩ hF (fun r9_2 er9_2 hF => ?_)
  refine a_ic_eq C (tgt := 17) dX0_isReverse_12 (by decide) hF (fun c12_3 hF => ?_) (fun c12_3 hF => ?_)
  · refine a_iconst C (v := 0) dX0_isReverse_17 (by decide) ?_
    refine a_istore C [(4, .int 0), (3, .int r2_1), (0, .ref t), (1, .int p1), (2, .int p2)] dX0_isReverse_18 (by decide) rfl ?_
    refine a_sub C [2, 3, 4, 1, 0] [(0, .ref t), (1, .int p1), (2, .int p2), (3, .int r2_1), (4, .int 0)] rfl ?_
    refine hI20 r2_1 1000 0 _ hF (fun x4_20_8 hF => ?_)
    refine a_iconst C (v := 1) dX0_isReverse_55 (by decide) ?_
    exact a_iret C hr rfl dX0_isReverse_56 hF rfl rfl
  refine a_iconst C (v := 0) dX0_isReverse_15 (by decide) ?_
  exact a_iret C hr rfl dX0_isReverse_16 hF rfl rfl
theorem cs_X0_64 : GoodIn WW (wsV RX0 64 RX0 yX0_isReverse (aW yX0_isReverse cX0_isReverse 5 ((some .boolean)))) := gdV kl_X0_64 ki_X0_isReverse kv_X0_isReverse kn_X0 kc_X0_isReverse
def f_X0_countReversible_L4 (t_lettersF : Nat → Int32) (t_sizesF : Nat → Int32) (t_lines : Int32) : Nat → Int32 → Int32 → (Int32 → Int32 → Option Int32) → Option Int32
  | 0, _, _, _ => none
  | fuel + 1, x1, x2, k => if t_lines ≤ x2 then (k x1 x2) else ((f_X0_isReverse t_lettersF t_sizesF t_lines x2 x2).bind fun r15_2 => if r15_2 = 0 then (f_X0_countReversible_L4 t_lettersF t_sizesF t_lines fuel x1 (x2 + 1) k) else (f_X0_countReversible_L4 t_lettersF t_sizesF t_lines fuel (x1 + 1) (x2 + 1) k))
def f_X0_countReversible (t_lettersF : Nat → Int32) (t_sizesF : Nat → Int32) (t_lines : Int32) : Option Int32 := f_X0_countReversible_L4 t_lettersF t_sizesF t_lines 1000 0 0 (fun x1_4_4 x2_4_5 => some x1_4_4)
theorem hd_X0_countReversible : yX0_countReversible.cls = RX0 ∧ yX0_countReversible.cls ≠ "java/lang/invoke/MethodHandle" ∧ yX0_countReversible.cls ≠ "java/lang/invoke/VarHandle" ∧ (parseMethodDescriptor yX0_countReversible.desc).map (fun d => d.parameters.length) = some 0 := by decide +kernel
set_option maxRecDepth 100000 in
set_option maxHeartbeats 4000000 in
theorem c_X0_countReversible (l : Launch) (D : va_G) (J : JT) (kc ki kb kl kd : ClassId) (t : Nat) (t_letters : Nat) (t_sizes : Nat) (t_lettersF : Nat → Int32) (t_sizesF : Nat → Int32) (t_lines : Int32) (res : Int32) (hF : f_X0_countReversible t_lettersF t_sizesF t_lines = some res) : aKi l yX0_countReversible (aW yX0_countReversible cX0_countReversible 3 ((some .int))) ({ frames := 3, cells := 0, slots := 0, locals := 68 } : Room) D J (aTy kc ki kb kl kd) [.ref t] (wX0 kc ki t t_letters t_sizes t_lettersF t_sizesF t_lines) (fun r => r) (fun _ => wX0 kc ki t t_letters t_sizes t_lettersF t_sizesF t_lines) res := by
  refine aKi_of (own := RX0) (by decide) rfl (Nat.le_of_ble_eq_true rfl) rfl ?_
  intro p e s m args below meth c C hr
  have hI4 : ∀ (fuel : Nat) (x1 : Int32) (x2 : Int32) (k : Int32 → Int32 → Option Int32), f_X0_countReversible_L4 t_lettersF t_sizesF t_lines fuel x1 x2 k = some res → (∀ (x1 : Int32) (x2 : Int32), k x1 x2 = some res → aT p l e ({ frames := 3, cells := 0, slots := 0, locals := 68 } : Room) s m args below meth c (MQ below (aQi D (wX0 kc ki t t_letters t_sizes t_lettersF t_sizesF t_lines) s.heap.size (fun r => r) (fun _ => wX0 kc ki t t_letters t_sizes t_lettersF t_sizesF t_lines) res) args s 0 0 (va_A (wX0 kc ki t t_letters t_sizes t_lettersF t_sizesF t_lines) s.heap.size)) D (va_A (wX0 kc ki t t_letters t_sizes t_lettersF t_sizesF t_lines) s.heap.size) 3 0 0 30 [(1, .int x1)] [] (wX0 kc ki t t_letters t_sizes t_lettersF t_sizesF t_lines)) → aT p l e ({ frames := 3, cells := 0, slots := 0, locals := 68 } : Room) s m args below meth c (MQ below (aQi D (wX0 kc ki t t_letters t_sizes t_lettersF t_sizesF t_lines) s.heap.size (fun r => r) (fun _ => wX0 kc ki t t_letters t_sizes t_lettersF t_sizesF t_lines) res) args s 0 0 (va_A (wX0 kc ki t t_letters t_sizes t_lettersF t_sizesF t_lines) s.heap.size)) D (va_A (wX0 kc ki t t_letters t_sizes t_lettersF t_sizesF t_lines) s.heap.size) 3 0 0 4 [(0, .ref t), (1, .int x1), (2, .int x2)] [] (wX0 kc ki t t_letters t_sizes t_lettersF t_sizesF t_lines) := by
    intro fuel
    induction fuel with
    | zero => intro x1 x2 k hF hX; exact nomatch hF
    | succ fuel ih =>
      intro x1 x2 k hF hX
      rw [f_X0_countReversible_L4] at hF
      refine a_iload_n C 2 dX0_countReversible_4 rfl rfl ?_
      refine a_aload_n C 0 dX0_countReversible_5 rfl rfl ?_
      refine a_get C 0 2 iwX0 rfl rfl (by decide) kf_X0_19 rfl dX0_countReversible_6 ?_
      refine a_ic_ge C (tgt := 30) dX0_countReversible_9 (by decide) hF (fun c9_1 hF => ?_) (fun c9_1 hF => ?_)
      · refine a_sub C [1] [(1, .int x1)] rfl ?_
        exact hX x1 x2 hF
      refine a_aload_n C 0 dX0_countReversible_12 rfl rfl ?_
      refine a_iload_n C 2 dX0_countReversible_13 rfl rfl ?_
      refine a_iload_n C 2 dX0_countReversible_14 rfl rfl ?_
      refine a_callVir C 2 [0, 1, 2] 0 cs_X0_64 hd_X0_isReverse ⟨rfl, rfl⟩ ⟨Nat.le_of_ble_eq_true rfl, Nat.le_of_ble_eq_true rfl⟩ (fun r h => c_X0_isReverse l D J kc ki kb kl kd t t_letters t_sizes t_lettersF t_sizesF t_lines x2 x2 r h) rfl rfl rfl rfl rfl rfl (Nat.le_of_ble_eq_true rfl) dX0_countReversible_15 ⟨Nat.zero_le _, Nat.zero_le _⟩ hF (fun r15_2 er15_2 hF => ?_)
      refine a_if_eq C (tgt := 24) dX0_countReversible_18 (by decide) hF (fun c18_3 hF => ?_) (fun c18_3 hF => ?_)
      · refine a_iinc C 2 [(2, .int (x2 + 1)), (0, .ref t), (1, .int x1)] dX0_countReversible_24 rfl rfl (by decide) rfl ?_
        refine a_goto C (tgt := 4) dX0_countReversible_27 (by decide) ?_
        refine a_sub C [1, 2, 0] [(0, .ref t), (1, .int x1), (2, .int (x2 + 1))] rfl ?_
        exact ih x1 (x2 + 1) k hF hX
      refine a_iinc C 1 [(1, .int (x1 + 1)), (0, .ref t), (2, .int x2)] dX0_countReversible_21 rfl rfl (by decide) rfl ?_
      refine a_iinc C 2 [(2, .int (x2 + 1)), (1, .int (x1 + 1)), (0, .ref t)] dX0_countReversible_24 rfl rfl (by decide) rfl ?_
      refine a_goto C (tgt := 4) dX0_countReversible_27 (by decide) ?_
      refine a_sub C [2, 1, 0] [(0, .ref t), (1, .int (x1 + 1)), (2, .int (x2 + 1))] rfl ?_
      exact ih (x1 + 1) (x2 + 1) k hF hX
  unfold f_X0_countReversible at hF
  refine a_iconst C (v := 0) dX0_countReversible_0 (by decide) ?_
  refine a_istore_n C [(1, .int 0), (0, .ref t)] dX0_countReversible_1 rfl (by decide) rfl ?_
  refine a_iconst C (v := 0) dX0_countReversible_2 (by decide) ?_
  refine a_istore_n C [(2, .int 0), (1, .int 0), (0, .ref t)] dX0_countReversible_3 rfl (by decide) rfl ?_
  refine a_sub C [2, 1, 0] [(0, .ref t), (1, .int 0), (2, .int 0)] rfl ?_
  refine hI4 1000 0 0 _ hF (fun x1_4_4 x2_4_5 hF => ?_)
  refine a_iload_n C 0 dX0_countReversible_30 rfl rfl ?_
  exact a_iret C hr rfl dX0_countReversible_31 hF rfl rfl
def f_X0_period_L8 (x2 : Int32) (p1 : Int32) (t_lettersF : Nat → Int32) (t_sizesF : Nat → Int32) (t_lines : Int32) : Nat → Int32 → (Int32 → Option Int32) → Option Int32
  | 0, _, _ => none
  | fuel + 1, x3, k => if x2 ≤ x3 then (k x3) else ((f_X0_sameLetters t_lettersF t_sizesF t_lines p1 x3 p1 0).bind fun r18_3 => if (x2 - x3) ≤ r18_3 then (k x3) else (f_X0_period_L8 x2 p1 t_lettersF t_sizesF t_lines fuel (x3 + 1) k))
def f_X0_period (t_lettersF : Nat → Int32) (t_sizesF : Nat → Int32) (t_lines : Int32) (p1 : Int32) : Option Int32 := (f_X0_size t_sizesF t_lines p1).bind fun r2_1 => f_X0_period_L8 r2_1 p1 t_lettersF t_sizesF t_lines 1000 1 (fun x3_8_5 => some x3_8_5)
theorem hd_X0_period : yX0_period.cls = RX0 ∧ yX0_period.cls ≠ "java/lang/invoke/MethodHandle" ∧ yX0_period.cls ≠ "java/lang/invoke/VarHandle" ∧ (parseMethodDescriptor yX0_period.desc).map (fun d => d.parameters.length) = some 1 := by decide +kernel
set_option maxRecDepth 100000 in
set_option maxHeartbeats 4000000 in
theorem c_X0_period (l : Launch) (D : va_G) (J : JT) (kc ki kb kl kd : ClassId) (t : Nat) (t_letters : Nat) (t_sizes : Nat) (t_lettersF : Nat → Int32) (t_sizesF : Nat → Int32) (t_lines : Int32) (p1 : Int32) (res : Int32) (hF : f_X0_period t_lettersF t_sizesF t_lines p1 = some res) : aKi l yX0_period (aW yX0_period cX0_period 4 ((some .int))) ({ frames := 3, cells := 0, slots := 0, locals := 70 } : Room) D J (aTy kc ki kb kl kd) [.ref t, .int p1] (wX0 kc ki t t_letters t_sizes t_lettersF t_sizesF t_lines) (fun r => r) (fun _ => wX0 kc ki t t_letters t_sizes t_lettersF t_sizesF t_lines) res := by
  refine aKi_of (own := RX0) (by decide) rfl (Nat.le_of_ble_eq_true rfl) rfl ?_
  intro p e s m args below meth c C hr
  have hI8 : ∀ (x2 : Int32) (fuel : Nat) (x3 : Int32) (k : Int32 → Option Int32), f_X0_period_L8 x2 p1 t_lettersF t_sizesF t_lines fuel x3 k = some res → (∀ (x3 : Int32), k x3 = some res → aT p l e ({ frames := 3, cells := 0, slots := 0, locals := 70 } : Room) s m args below meth c (MQ below (aQi D (wX0 kc ki t t_letters t_sizes t_lettersF t_sizesF t_lines) s.heap.size (fun r => r) (fun _ => wX0 kc ki t t_letters t_sizes t_lettersF t_sizesF t_lines) res) args s 0 0 (va_A (wX0 kc ki t t_letters t_sizes t_lettersF t_sizesF t_lines) s.heap.size)) D (va_A (wX0 kc ki t t_letters t_sizes t_lettersF t_sizesF t_lines) s.heap.size) 4 0 0 33 [(3, .int x3)] [] (wX0 kc ki t t_letters t_sizes t_lettersF t_sizesF t_lines)) → aT p l e ({ frames := 3, cells := 0, slots := 0, locals := 70 } : Room) s m args below meth c (MQ below (aQi D (wX0 kc ki t t_letters t_sizes t_lettersF t_sizesF t_lines) s.heap.size (fun r => r) (fun _ => wX0 kc ki t t_letters t_sizes t_lettersF t_sizesF t_lines) res) args s 0 0 (va_A (wX0 kc ki t t_letters t_sizes t_lettersF t_sizesF t_lines) s.heap.size)) D (va_A (wX0 kc ki t t_letters t_sizes t_lettersF t_sizesF t_lines) s.heap.size) 4 0 0 8 [(0, .ref t), (1, .int p1), (2, .int x2), (3, .int x3)] [] (wX0 kc ki t t_letters t_sizes t_lettersF t_sizesF t_lines) := by
    intro x2 fuel
    induction fuel with
    | zero => intro x3 k hF hX; exact nomatch hF
    | succ fuel ih =>
      intro x3 k hF hX
      rw [f_X0_period_L8] at hF
      refine a_iload_n C 3 dX0_period_8 rfl rfl ?_
      refine a_iload_n C 2 dX0_period_9 rfl rfl ?_
      refine a_ic_ge C (tgt := 33) dX0_period_10 (by decide) hF (fun c10_2 hF => ?_) (fun c10_2 hF => ?_)
      · refine a_sub C [3] [(3, .int x3)] rfl ?_
        exact hX x3 hF
      refine a_aload_n C 0 dX0_period_13 rfl rfl ?_
      refine a_iload_n C 1 dX0_period_14 rfl rfl ?_
      refine a_iload_n C 3 dX0_period_15 rfl rfl ?_
      refine a_iload_n C 1 dX0_period_16 rfl rfl ?_
      refine a_iconst C (v := 0) dX0_period_17 (by decide) ?_
      refine a_callVir C 4 [0, 1, 2] 0 cs_X0_57 hd_X0_sameLetters ⟨rfl, rfl⟩ ⟨Nat.le_of_ble_eq_true rfl, Nat.le_of_ble_eq_true rfl⟩ (fun r h => c_X0_sameLetters l D J kc ki kb kl kd t t_letters t_sizes t_lettersF t_sizesF t_lines p1 x3 p1 0 r h) rfl rfl rfl rfl rfl rfl (Nat.le_of_ble_eq_true rfl) dX0_period_18 ⟨Nat.zero_le _, Nat.zero_le _⟩ hF (fun r18_3 er18_3 hF => ?_)
      refine a_iload_n C 2 dX0_period_21 rfl rfl ?_
      refine a_iload_n C 3 dX0_period_22 rfl rfl ?_
      refine a_isub C dX0_period_23 ?_
      refine a_ic_ge C (tgt := 33) dX0_period_24 (by decide) hF (fun c24_4 hF => ?_) (fun c24_4 hF => ?_)
      · refine a_sub C [3] [(3, .int x3)] rfl ?_
        exact hX x3 hF
      refine a_iinc C 3 [(3, .int (x3 + 1)), (0, .ref t), (1, .int p1), (2, .int x2)] dX0_period_27 rfl rfl (by decide) rfl ?_
      refine a_goto C (tgt := 8) dX0_period_30 (by decide) ?_
      refine a_sub C [1, 2, 3, 0] [(0, .ref t), (1, .int p1), (2, .int x2), (3, .int (x3 + 1))] rfl ?_
      exact ih (x3 + 1) k hF hX
  unfold f_X0_period at hF
  refine a_aload_n C 0 dX0_period_0 rfl rfl ?_
  refine a_iload_n C 1 dX0_period_1 rfl rfl ?_
  refine a_callVir C 1 [0, 1, 2] 0 cs_X0_39 hd_X0_size ⟨rfl, rfl⟩ ⟨Nat.le_of_ble_eq_true rfl, Nat.le_of_ble_eq_true rfl⟩ (fun r h => c_X0_size l D J kc ki kb kl kd t t_letters t_sizes t_lettersF t_sizesF t_lines p1 r h) rfl rfl rfl rfl rfl rfl (Nat.le_of_ble_eq_true rfl) dX0_period_2 ⟨Nat.zero_le _, Nat.zero_le _⟩ hF (fun r2_1 er2_1 hF => ?_)
  refine a_istore_n C [(2, .int r2_1), (0, .ref t), (1, .int p1)] dX0_period_5 rfl (by decide) rfl ?_
  refine a_iconst C (v := 1) dX0_period_6 (by decide) ?_
  refine a_istore_n C [(3, .int 1), (2, .int r2_1), (0, .ref t), (1, .int p1)] dX0_period_7 rfl (by decide) rfl ?_
  refine a_sub C [2, 3, 1, 0] [(0, .ref t), (1, .int p1), (2, .int r2_1), (3, .int 1)] rfl ?_
  refine hI8 r2_1 1000 1 _ hF (fun x3_8_5 hF => ?_)
  refine a_iload_n C 0 dX0_period_33 rfl rfl ?_
  exact a_iret C hr rfl dX0_period_34 hF rfl rfl
def f_X0_letterSet_L4 (p1 : Int32) (t_lettersF : Nat → Int32) (t_sizesF : Nat → Int32) (t_lines : Int32) : Nat → Int32 → Int32 → (Int32 → Int32 → Option Int32) → Option Int32
  | 0, _, _, _ => none
  | fuel + 1, x2, x3, k => (f_X0_size t_sizesF t_lines p1).bind fun r7_1 => if r7_1 ≤ x3 then (k x2 x3) else ((f_X0_letterAt t_lettersF t_sizesF t_lines p1 x3).bind fun r18_3 => f_X0_letterSet_L4 p1 t_lettersF t_sizesF t_lines fuel (x2 ||| (1 <<< ((r18_3 - 97) &&& 31))) (x3 + 1) k)
def f_X0_letterSet (t_lettersF : Nat → Int32) (t_sizesF : Nat → Int32) (t_lines : Int32) (p1 : Int32) : Option Int32 := f_X0_letterSet_L4 p1 t_lettersF t_sizesF t_lines 1000 0 0 (fun x2_4_4 x3_4_5 => some x2_4_4)
theorem hd_X0_letterSet : yX0_letterSet.cls = RX0 ∧ yX0_letterSet.cls ≠ "java/lang/invoke/MethodHandle" ∧ yX0_letterSet.cls ≠ "java/lang/invoke/VarHandle" ∧ (parseMethodDescriptor yX0_letterSet.desc).map (fun d => d.parameters.length) = some 1 := by decide +kernel
set_option maxRecDepth 100000 in
set_option maxHeartbeats 4000000 in
theorem c_X0_letterSet (l : Launch) (D : va_G) (J : JT) (kc ki kb kl kd : ClassId) (t : Nat) (t_letters : Nat) (t_sizes : Nat) (t_lettersF : Nat → Int32) (t_sizesF : Nat → Int32) (t_lines : Int32) (p1 : Int32) (res : Int32) (hF : f_X0_letterSet t_lettersF t_sizesF t_lines p1 = some res) : aKi l yX0_letterSet (aW yX0_letterSet cX0_letterSet 4 ((some .int))) ({ frames := 2, cells := 0, slots := 0, locals := 44 } : Room) D J (aTy kc ki kb kl kd) [.ref t, .int p1] (wX0 kc ki t t_letters t_sizes t_lettersF t_sizesF t_lines) (fun r => r) (fun _ => wX0 kc ki t t_letters t_sizes t_lettersF t_sizesF t_lines) res := by
  refine aKi_of (own := RX0) (by decide) rfl (Nat.le_of_ble_eq_true rfl) rfl ?_
  intro p e s m args below meth c C hr
  have hI4 : ∀ (fuel : Nat) (x2 : Int32) (x3 : Int32) (k : Int32 → Int32 → Option Int32), f_X0_letterSet_L4 p1 t_lettersF t_sizesF t_lines fuel x2 x3 k = some res → (∀ (x2 : Int32) (x3 : Int32), k x2 x3 = some res → aT p l e ({ frames := 2, cells := 0, slots := 0, locals := 44 } : Room) s m args below meth c (MQ below (aQi D (wX0 kc ki t t_letters t_sizes t_lettersF t_sizesF t_lines) s.heap.size (fun r => r) (fun _ => wX0 kc ki t t_letters t_sizes t_lettersF t_sizesF t_lines) res) args s 0 0 (va_A (wX0 kc ki t t_letters t_sizes t_lettersF t_sizesF t_lines) s.heap.size)) D (va_A (wX0 kc ki t t_letters t_sizes t_lettersF t_sizesF t_lines) s.heap.size) 4 0 0 33 [(2, .int x2)] [] (wX0 kc ki t t_letters t_sizes t_lettersF t_sizesF t_lines)) → aT p l e ({ frames := 2, cells := 0, slots := 0, locals := 44 } : Room) s m args below meth c (MQ below (aQi D (wX0 kc ki t t_letters t_sizes t_lettersF t_sizesF t_lines) s.heap.size (fun r => r) (fun _ => wX0 kc ki t t_letters t_sizes t_lettersF t_sizesF t_lines) res) args s 0 0 (va_A (wX0 kc ki t t_letters t_sizes t_lettersF t_sizesF t_lines) s.heap.size)) D (va_A (wX0 kc ki t t_letters t_sizes t_lettersF t_sizesF t_lines) s.heap.size) 4 0 0 4 [(0, .ref t), (1, .int p1), (2, .int x2), (3, .int x3)] [] (wX0 kc ki t t_letters t_sizes t_lettersF t_sizesF t_lines) := by
    intro fuel
    induction fuel with
    | zero => intro x2 x3 k hF hX; exact nomatch hF
    | succ fuel ih =>
      intro x2 x3 k hF hX
      rw [f_X0_letterSet_L4] at hF
      refine a_iload_n C 3 dX0_letterSet_4 rfl rfl ?_
      refine a_aload_n C 0 dX0_letterSet_5 rfl rfl ?_
      refine a_iload_n C 1 dX0_letterSet_6 rfl rfl ?_
      refine a_callVir C 1 [0, 1, 2] 0 cs_X0_39 hd_X0_size ⟨rfl, rfl⟩ ⟨Nat.le_of_ble_eq_true rfl, Nat.le_of_ble_eq_true rfl⟩ (fun r h => c_X0_size l D J kc ki kb kl kd t t_letters t_sizes t_lettersF t_sizesF t_lines p1 r h) rfl rfl rfl rfl rfl rfl (Nat.le_of_ble_eq_true rfl) dX0_letterSet_7 ⟨Nat.zero_le _, Nat.zero_le _⟩ hF (fun r7_1 er7_1 hF => ?_)
      refine a_ic_ge C (tgt := 33) dX0_letterSet_10 (by decide) hF (fun c10_2 hF => ?_) (fun c10_2 hF => ?_)
      · refine a_sub C [2] [(2, .int x2)] rfl ?_
        exact hX x2 x3 hF
      refine a_iload_n C 2 dX0_letterSet_13 rfl rfl ?_
      refine a_iconst C (v := 1) dX0_letterSet_14 (by decide) ?_
      refine a_aload_n C 0 dX0_letterSet_15 rfl rfl ?_
      refine a_iload_n C 1 dX0_letterSet_16 rfl rfl ?_
      refine a_iload_n C 3 dX0_letterSet_17 rfl rfl ?_
      refine a_callVir C 2 [0, 1, 2] 0 cs_X0_43 hd_X0_letterAt ⟨rfl, rfl⟩ ⟨Nat.le_of_ble_eq_true rfl, Nat.le_of_ble_eq_true rfl⟩ (fun r h => c_X0_letterAt l D J kc ki kb kl kd t t_letters t_sizes t_lettersF t_sizesF t_lines p1 x3 r h) rfl rfl rfl rfl rfl rfl (Nat.le_of_ble_eq_true rfl) dX0_letterSet_18 ⟨Nat.zero_le _, Nat.zero_le _⟩ hF (fun r18_3 er18_3 hF => ?_)
      refine a_bipush C (v := 97) dX0_letterSet_21 (by decide) ?_
      refine a_isub C dX0_letterSet_23 ?_
      refine a_ishl C dX0_letterSet_24 ?_
      refine a_ior C dX0_letterSet_25 ?_
      refine a_istore_n C [(2, .int (x2 ||| (1 <<< ((r18_3 - 97) &&& 31)))), (0, .ref t), (1, .int p1), (3, .int x3)] dX0_letterSet_26 rfl (by decide) rfl ?_
      refine a_iinc C 3 [(3, .int (x3 + 1)), (2, .int (x2 ||| (1 <<< ((r18_3 - 97) &&& 31)))), (0, .ref t), (1, .int p1)] dX0_letterSet_27 rfl rfl (by decide) rfl ?_
      refine a_goto C (tgt := 4) dX0_letterSet_30 (by decide) ?_
      refine a_sub C [2, 3, 1, 0] [(0, .ref t), (1, .int p1), (2, .int (x2 ||| (1 <<< ((r18_3 - 97) &&& 31)))), (3, .int (x3 + 1))] rfl ?_
      exact ih (x2 ||| (1 <<< ((r18_3 - 97) &&& 31))) (x3 + 1) k hF hX
  unfold f_X0_letterSet at hF
  refine a_iconst C (v := 0) dX0_letterSet_0 (by decide) ?_
  refine a_istore_n C [(2, .int 0), (0, .ref t), (1, .int p1)] dX0_letterSet_1 rfl (by decide) rfl ?_
  refine a_iconst C (v := 0) dX0_letterSet_2 (by decide) ?_
  refine a_istore_n C [(3, .int 0), (2, .int 0), (0, .ref t), (1, .int p1)] dX0_letterSet_3 rfl (by decide) rfl ?_
  refine a_sub C [2, 3, 1, 0] [(0, .ref t), (1, .int p1), (2, .int 0), (3, .int 0)] rfl ?_
  refine hI4 1000 0 0 _ hF (fun x2_4_4 x3_4_5 hF => ?_)
  refine a_iload_n C 0 dX0_letterSet_33 rfl rfl ?_
  exact a_iret C hr rfl dX0_letterSet_34 hF rfl rfl
theorem cs_X0_67 : GoodIn WW (wsV RX0 67 RX0 yX0_letterSet (aW yX0_letterSet cX0_letterSet 4 ((some .int)))) := gdV kl_X0_67 ki_X0_letterSet kv_X0_letterSet kn_X0 kc_X0_letterSet
def f_X0_letterSet__L4 (t_lettersF : Nat → Int32) (t_sizesF : Nat → Int32) (t_lines : Int32) : Nat → Int32 → Int32 → (Int32 → Int32 → Option Int32) → Option Int32
  | 0, _, _, _ => none
  | fuel + 1, x1, x2, k => if t_lines ≤ x2 then (k x1 x2) else ((f_X0_letterSet t_lettersF t_sizesF t_lines x2).bind fun r15_2 => f_X0_letterSet__L4 t_lettersF t_sizesF t_lines fuel (x1 ||| r15_2) (x2 + 1) k)
def f_X0_letterSet_ (t_lettersF : Nat → Int32) (t_sizesF : Nat → Int32) (t_lines : Int32) : Option Int32 := f_X0_letterSet__L4 t_lettersF t_sizesF t_lines 1000 0 0 (fun x1_4_3 x2_4_4 => some x1_4_3)
theorem hd_X0_letterSet_ : yX0_letterSet_.cls = RX0 ∧ yX0_letterSet_.cls ≠ "java/lang/invoke/MethodHandle" ∧ yX0_letterSet_.cls ≠ "java/lang/invoke/VarHandle" ∧ (parseMethodDescriptor yX0_letterSet_.desc).map (fun d => d.parameters.length) = some 0 := by decide +kernel
set_option maxRecDepth 100000 in
set_option maxHeartbeats 4000000 in
theorem c_X0_letterSet_ (l : Launch) (D : va_G) (J : JT) (kc ki kb kl kd : ClassId) (t : Nat) (t_letters : Nat) (t_sizes : Nat) (t_lettersF : Nat → Int32) (t_sizesF : Nat → Int32) (t_lines : Int32) (res : Int32) (hF : f_X0_letterSet_ t_lettersF t_sizesF t_lines = some res) : aKi l yX0_letterSet_ (aW yX0_letterSet_ cX0_letterSet_ 3 ((some .int))) ({ frames := 3, cells := 0, slots := 0, locals := 67 } : Room) D J (aTy kc ki kb kl kd) [.ref t] (wX0 kc ki t t_letters t_sizes t_lettersF t_sizesF t_lines) (fun r => r) (fun _ => wX0 kc ki t t_letters t_sizes t_lettersF t_sizesF t_lines) res := by
  refine aKi_of (own := RX0) (by decide) rfl (Nat.le_of_ble_eq_true rfl) rfl ?_
  intro p e s m args below meth c C hr
  have hI4 : ∀ (fuel : Nat) (x1 : Int32) (x2 : Int32) (k : Int32 → Int32 → Option Int32), f_X0_letterSet__L4 t_lettersF t_sizesF t_lines fuel x1 x2 k = some res → (∀ (x1 : Int32) (x2 : Int32), k x1 x2 = some res → aT p l e ({ frames := 3, cells := 0, slots := 0, locals := 67 } : Room) s m args below meth c (MQ below (aQi D (wX0 kc ki t t_letters t_sizes t_lettersF t_sizesF t_lines) s.heap.size (fun r => r) (fun _ => wX0 kc ki t t_letters t_sizes t_lettersF t_sizesF t_lines) res) args s 0 0 (va_A (wX0 kc ki t t_letters t_sizes t_lettersF t_sizesF t_lines) s.heap.size)) D (va_A (wX0 kc ki t t_letters t_sizes t_lettersF t_sizesF t_lines) s.heap.size) 3 0 0 26 [(1, .int x1)] [] (wX0 kc ki t t_letters t_sizes t_lettersF t_sizesF t_lines)) → aT p l e ({ frames := 3, cells := 0, slots := 0, locals := 67 } : Room) s m args below meth c (MQ below (aQi D (wX0 kc ki t t_letters t_sizes t_lettersF t_sizesF t_lines) s.heap.size (fun r => r) (fun _ => wX0 kc ki t t_letters t_sizes t_lettersF t_sizesF t_lines) res) args s 0 0 (va_A (wX0 kc ki t t_letters t_sizes t_lettersF t_sizesF t_lines) s.heap.size)) D (va_A (wX0 kc ki t t_letters t_sizes t_lettersF t_sizesF t_lines) s.heap.size) 3 0 0 4 [(0, .ref t), (1, .int x1), (2, .int x2)] [] (wX0 kc ki t t_letters t_sizes t_lettersF t_sizesF t_lines) := by
    intro fuel
    induction fuel with
    | zero => intro x1 x2 k hF hX; exact nomatch hF
    | succ fuel ih =>
      intro x1 x2 k hF hX
      rw [f_X0_letterSet__L4] at hF
      refine a_iload_n C 2 dX0_letterSet__4 rfl rfl ?_
      refine a_aload_n C 0 dX0_letterSet__5 rfl rfl ?_
      refine a_get C 0 2 iwX0 rfl rfl (by decide) kf_X0_19 rfl dX0_letterSet__6 ?_
      refine a_ic_ge C (tgt := 26) dX0_letterSet__9 (by decide) hF (fun c9_1 hF => ?_) (fun c9_1 hF => ?_)
      · refine a_sub C [1] [(1, .int x1)] rfl ?_
        exact hX x1 x2 hF
      refine a_iload_n C 1 dX0_letterSet__12 rfl rfl ?_
      refine a_aload_n C 0 dX0_letterSet__13 rfl rfl ?_
      refine a_iload_n C 2 dX0_letterSet__14 rfl rfl ?_
      refine a_callVir C 1 [0, 1, 2] 0 cs_X0_67 hd_X0_letterSet ⟨rfl, rfl⟩ ⟨Nat.le_of_ble_eq_true rfl, Nat.le_of_ble_eq_true rfl⟩ (fun r h => c_X0_letterSet l D J kc ki kb kl kd t t_letters t_sizes t_lettersF t_sizesF t_lines x2 r h) rfl rfl rfl rfl rfl rfl (Nat.le_of_ble_eq_true rfl) dX0_letterSet__15 ⟨Nat.zero_le _, Nat.zero_le _⟩ hF (fun r15_2 er15_2 hF => ?_)
      refine a_ior C dX0_letterSet__18 ?_
      refine a_istore_n C [(1, .int (x1 ||| r15_2)), (0, .ref t), (2, .int x2)] dX0_letterSet__19 rfl (by decide) rfl ?_
      refine a_iinc C 2 [(2, .int (x2 + 1)), (1, .int (x1 ||| r15_2)), (0, .ref t)] dX0_letterSet__20 rfl rfl (by decide) rfl ?_
      refine a_goto C (tgt := 4) dX0_letterSet__23 (by decide) ?_
      refine a_sub C [2, 1, 0] [(0, .ref t), (1, .int (x1 ||| r15_2)), (2, .int (x2 + 1))] rfl ?_
      exact ih (x1 ||| r15_2) (x2 + 1) k hF hX
  unfold f_X0_letterSet_ at hF
  refine a_iconst C (v := 0) dX0_letterSet__0 (by decide) ?_
  refine a_istore_n C [(1, .int 0), (0, .ref t)] dX0_letterSet__1 rfl (by decide) rfl ?_
  refine a_iconst C (v := 0) dX0_letterSet__2 (by decide) ?_
  refine a_istore_n C [(2, .int 0), (1, .int 0), (0, .ref t)] dX0_letterSet__3 rfl (by decide) rfl ?_
  refine a_sub C [2, 1, 0] [(0, .ref t), (1, .int 0), (2, .int 0)] rfl ?_
  refine hI4 1000 0 0 _ hF (fun x1_4_3 x2_4_4 hF => ?_)
  refine a_iload_n C 0 dX0_letterSet__26 rfl rfl ?_
  exact a_iret C hr rfl dX0_letterSet__27 hF rfl rfl
