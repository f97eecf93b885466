theorem cs_X9_107 : GoodIn WW (wsV RX9 107 RX9 yX9_at (aW yX9_at cX9_at 3 ((some .int)))) := gdV kl_X9_107 ki_X9_at kv_X9_at kn_X9 kc_X9_at
def f_X9_letterOf (t_allF : Nat → Int32) (p1 : Int32) (p2 : Int32) : Option Int32 := (f_X9_at t_allF (p1 / 10) ((p1 - p1 / 10 * 10) + p2)).bind fun r11_1 => some r11_1
theorem hd_X9_letterOf : yX9_letterOf.cls = RX9 ∧ yX9_letterOf.cls ≠ "java/lang/invoke/MethodHandle" ∧ yX9_letterOf.cls ≠ "java/lang/invoke/VarHandle" ∧ (parseMethodDescriptor yX9_letterOf.desc).map (fun d => d.parameters.length) = some 2 := by decide +kernel
set_option maxRecDepth 100000 in
set_option maxHeartbeats 4000000 in
theorem c_X9_letterOf (l : Launch) (D : va_G) (J : (Nat → Nat) × (Nat → Nat)) (kc ki kb kl kd : ClassId) (t : Nat) (t_all : Nat) (t_reasons : Nat) (t_text : Nat) (t_word : Nat) (t_order : Nat) (t_rows : Nat) (t_written : Nat) (t_allF : Nat → Int32) (t_reasonsF : Nat → Int32) (t_textF : Nat → Int32) (t_wordF : Nat → Int32) (t_orderF : Nat → Int32) (t_rowsF : Nat → Int32) (t_writtenF : Nat → Int32) (t_thrown : Int32) (t_changes : Int32) (t_isSaved : Int32) (t_result : Int32) (t_texted : Int32) (t_wordSize : Int32) (t_orderMany : Int32) (t_here : Int32) (t_fault : Int32) (t_faultAt : Int32) (t_commandMany : Int32) (t_writtenSize : Int32) (p1 p2 : Int32) (res : Int32) (hF : f_X9_letterOf t_allF p1 p2 = some res) : aKi l yX9_letterOf (aW yX9_letterOf cX9_letterOf 3 ((some .int))) ({ frames := 1, cells := 0, slots := 0, locals := 22 } : Room) D J (aTy kc ki kb kl kd) [.ref t, .int p1, .int p2] (wX9 kc ki t t_all t_reasons t_text t_word t_order t_rows t_written t_allF t_reasonsF t_textF t_wordF t_orderF t_rowsF t_writtenF t_thrown t_changes t_isSaved t_result t_texted t_wordSize t_orderMany t_here t_fault t_faultAt t_commandMany t_writtenSize) (fun r => r) (fun _ => wX9 kc ki t t_all t_reasons t_text t_word t_order t_rows t_written t_allF t_reasonsF t_textF t_wordF t_orderF t_rowsF t_writtenF t_thrown t_changes t_isSaved t_result t_texted t_wordSize t_orderMany t_here t_fault t_faultAt t_commandMany t_writtenSize) res := by
  refine aKi_of (own := RX9) (by decide) rfl (Nat.le_of_ble_eq_true rfl) rfl ?_
  intro p e s m args below meth c C hr
  unfold f_X9_letterOf at hF
  refine a_aload_n C 0 dX9_letterOf_0 rfl rfl ?_
  refine a_iload_n C 1 dX9_letterOf_1 rfl rfl ?_
  refine a_bipush C (v := 10) dX9_letterOf_2 (by decide) ?_
  refine a_idiv C dX9_letterOf_4 (by decide) ?_
  refine a_iload_n C 1 dX9_letterOf_5 rfl rfl ?_
  refine a_bipush C (v := 10) dX9_letterOf_6 (by decide) ?_
  refine a_irem C dX9_letterOf_8 (by decide) ?_
  refine a_iload_n C 2 dX9_letterOf_9 rfl rfl ?_
  refine a_iadd C dX9_letterOf_10 ?_
  refine a_callVir C 2 [0, 1, 2, 3, 4, 5, 6, 7] 0 cs_X9_107 hd_X9_at ⟨rfl, rfl⟩ ⟨Nat.le_of_ble_eq_true rfl, Nat.le_of_ble_eq_true rfl⟩ (fun r h => c_X9_at l D J kc ki kb kl kd t t_all t_reasons t_text t_word t_order t_rows t_written t_allF t_reasonsF t_textF t_wordF t_orderF t_rowsF t_writtenF t_thrown t_changes t_isSaved t_result t_texted t_wordSize t_orderMany t_here t_fault t_faultAt t_commandMany t_writtenSize (p1 / 10) ((p1 - p1 / 10 * 10) + p2) r h) rfl rfl rfl rfl rfl rfl (Nat.le_of_ble_eq_true rfl) dX9_letterOf_11 ⟨Nat.zero_le _, Nat.zero_le _⟩ hF (fun r11_1 er11_1 hF => ?_)
  exact a_iret C hr rfl dX9_letterOf_14 hF rfl rfl
theorem cs_X9_132 : GoodIn WW (wsV RX9 132 RX9 yX9_left (aW yX9_left cX9_left 2 ((some .int)))) := gdV kl_X9_132 ki_X9_left kv_X9_left kn_X9 kc_X9_left
theorem cs_X9_135 : GoodIn WW (wsV RX9 135 RX9 yX9_letterOf (aW yX9_letterOf cX9_letterOf 3 ((some .int)))) := gdV kl_X9_135 ki_X9_letterOf kv_X9_letterOf kn_X9 kc_X9_letterOf
def f_X9_front_L2 (p1 : Int32) (p2 : Int32) (t_allF : Nat → Int32) : Nat → Int32 → (Int32 → Option Int32) → Option Int32
  | 0, _, _ => none
  | fuel + 1, x3, k => (f_X9_left t_allF p1).bind fun r5_1 => if r5_1 ≤ x3 then (k x3) else ((f_X9_left t_allF p2).bind fun r14_3 => if r14_3 ≤ x3 then (k x3) else ((f_X9_letterOf t_allF p1 x3).bind fun r23_5 => (f_X9_letterOf t_allF p2 x3).bind fun r29_6 => if ¬ r23_5 = r29_6 then (k x3) else (f_X9_front_L2 p1 p2 t_allF fuel (x3 + 1) k)))
def f_X9_front (t_allF : Nat → Int32) (p1 : Int32) (p2 : Int32) : Option Int32 := f_X9_front_L2 p1 p2 t_allF 1000 0 (fun x3_2_8 => some x3_2_8)
theorem hd_X9_front : yX9_front.cls = RX9 ∧ yX9_front.cls ≠ "java/lang/invoke/MethodHandle" ∧ yX9_front.cls ≠ "java/lang/invoke/VarHandle" ∧ (parseMethodDescriptor yX9_front.desc).map (fun d => d.parameters.length) = some 2 := by decide +kernel
set_option maxRecDepth 100000 in
set_option maxHeartbeats 4000000 in
theorem c_X9_front (l : Launch) (D : va_G) (J : (Nat → Nat) × (Nat → Nat)) (kc ki kb kl kd : ClassId) (t : Nat) (t_all : Nat) (t_reasons : Nat) (t_text : Nat) (t_word : Nat) (t_order : Nat) (t_rows : Nat) (t_written : Nat) (t_allF : Nat → Int32) (t_reasonsF : Nat → Int32) (t_textF : Nat → Int32) (t_wordF : Nat → Int32) (t_orderF : Nat → Int32) (t_rowsF : Nat → Int32) (t_writtenF : Nat → Int32) (t_thrown : Int32) (t_changes : Int32) (t_isSaved : Int32) (t_result : Int32) (t_texted : Int32) (t_wordSize : Int32) (t_orderMany : Int32) (t_here : Int32) (t_fault : Int32) (t_faultAt : Int32) (t_commandMany : Int32) (t_writtenSize : Int32) (p1 p2 : Int32) (res : Int32) (hF : f_X9_front t_allF p1 p2 = some res) : aKi l yX9_front (aW yX9_front cX9_front 4 ((some .int))) ({ frames := 2, cells := 0, slots := 0, locals := 44 } : Room) D J (aTy kc ki kb kl kd) [.ref t, .int p1, .int p2] (wX9 kc ki t t_all t_reasons t_text t_word t_order t_rows t_written t_allF t_reasonsF t_textF t_wordF t_orderF t_rowsF t_writtenF t_thrown t_changes t_isSaved t_result t_texted t_wordSize t_orderMany t_here t_fault t_faultAt t_commandMany t_writtenSize) (fun r => r) (fun _ => wX9 kc ki t t_all t_reasons t_text t_word t_order t_rows t_written t_allF t_reasonsF t_textF t_wordF t_orderF t_rowsF t_writtenF t_thrown t_changes t_isSaved t_result t_texted t_wordSize t_orderMany t_here t_fault t_faultAt t_commandMany t_writtenSize) res := by
  refine aKi_of (own := RX9) (by decide) rfl (Nat.le_of_ble_eq_true rfl) rfl ?_
  intro p e s m args below meth c C hr
  have hI2 : ∀ (fuel : Nat) (x3 : Int32) (k : Int32 → Option Int32), f_X9_front_L2 p1 p2 t_allF fuel x3 k = some res → (∀ (x3 : Int32), k x3 = some res → aT p l e ({ frames := 2, cells := 0, slots := 0, locals := 44 } : Room) s m args below meth c (MQ below (aQi D (wX9 kc ki t t_all t_reasons t_text t_word t_order t_rows t_written t_allF t_reasonsF t_textF t_wordF t_orderF t_rowsF t_writtenF t_thrown t_changes t_isSaved t_result t_texted t_wordSize t_orderMany t_here t_fault t_faultAt t_commandMany t_writtenSize) s.heap.size (fun r => r) (fun _ => wX9 kc ki t t_all t_reasons t_text t_word t_order t_rows t_written t_allF t_reasonsF t_textF t_wordF t_orderF t_rowsF t_writtenF t_thrown t_changes t_isSaved t_result t_texted t_wordSize t_orderMany t_here t_fault t_faultAt t_commandMany t_writtenSize) res) args s 0 0 (va_A (wX9 kc ki t t_all t_reasons t_text t_word t_order t_rows t_written t_allF t_reasonsF t_textF t_wordF t_orderF t_rowsF t_writtenF t_thrown t_changes t_isSaved t_result t_texted t_wordSize t_orderMany t_here t_fault t_faultAt t_commandMany t_writtenSize) s.heap.size)) D (va_A (wX9 kc ki t t_all t_reasons t_text t_word t_order t_rows t_written t_allF t_reasonsF t_textF t_wordF t_orderF t_rowsF t_writtenF t_thrown t_changes t_isSaved t_result t_texted t_wordSize t_orderMany t_here t_fault t_faultAt t_commandMany t_writtenSize) s.heap.size) 4 0 0 41 [(3, .int x3)] [] (wX9 kc ki t t_all t_reasons t_text t_word t_order t_rows t_written t_allF t_reasonsF t_textF t_wordF t_orderF t_rowsF t_writtenF t_thrown t_changes t_isSaved t_result t_texted t_wordSize t_orderMany t_here t_fault t_faultAt t_commandMany t_writtenSize)) → aT p l e ({ frames := 2, cells := 0, slots := 0, locals := 44 } : Room) s m args below meth c (MQ below (aQi D (wX9 kc ki t t_all t_reasons t_text t_word t_order t_rows t_written t_allF t_reasonsF t_textF t_wordF t_orderF t_rowsF t_writtenF t_thrown t_changes t_isSaved t_result t_texted t_wordSize t_orderMany t_here t_fault t_faultAt t_commandMany t_writtenSize) s.heap.size (fun r => r) (fun _ => wX9 kc ki t t_all t_reasons t_text t_word t_order t_rows t_written t_allF t_reasonsF t_textF t_wordF t_orderF t_rowsF t_writtenF t_thrown t_changes t_isSaved t_result t_texted t_wordSize t_orderMany t_here t_fault t_faultAt t_commandMany t_writtenSize) res) args s 0 0 (va_A (wX9 kc ki t t_all t_reasons t_text t_word t_order t_rows t_written t_allF t_reasonsF t_textF t_wordF t_orderF t_rowsF t_writtenF t_thrown t_changes t_isSaved t_result t_texted t_wordSize t_orderMany t_here t_fault t_faultAt t_commandMany t_writtenSize) s.heap.size)) D (va_A (wX9 kc ki t t_all t_reasons t_text t_word t_order t_rows t_written t_allF t_reasonsF t_textF t_wordF t_orderF t_rowsF t_writtenF t_thrown t_changes t_isSaved t_result t_texted t_wordSize t_orderMany t_here t_fault t_faultAt t_commandMany t_writtenSize) s.heap.size) 4 0 0 2 [(0, .ref t), (1, .int p1), (2, .int p2), (3, .int x3)] [] (wX9 kc ki t t_all t_reasons t_text t_word t_order t_rows t_written t_allF t_reasonsF t_textF t_wordF t_orderF t_rowsF t_writtenF t_thrown t_changes t_isSaved t_result t_texted t_wordSize t_orderMany t_here t_fault t_faultAt t_commandMany t_writtenSize) := by
    intro fuel
    induction fuel with
    | zero => intro x3 k hF hX; exact nomatch hF
    | succ fuel ih =>
      intro x3 k hF hX
      rw [f_X9_front_L2] at hF
      refine a_iload_n C 3 dX9_front_2 rfl rfl ?_
      refine a_aload_n C 0 dX9_front_3 rfl rfl ?_
      refine a_iload_n C 1 dX9_front_4 rfl rfl ?_
      refine a_callVir C 1 [0, 1, 2, 3, 4, 5, 6, 7] 0 cs_X9_132 hd_X9_left ⟨rfl, rfl⟩ ⟨Nat.le_of_ble_eq_true rfl, Nat.le_of_ble_eq_true rfl⟩ (fun r h => c_X9_left l D J kc ki kb kl kd t t_all t_reasons t_text t_word t_order t_rows t_written t_allF t_reasonsF t_textF t_wordF t_orderF t_rowsF t_writtenF t_thrown t_changes t_isSaved t_result t_texted t_wordSize t_orderMany t_here t_fault t_faultAt t_commandMany t_writtenSize p1 r h) rfl rfl rfl rfl rfl rfl (Nat.le_of_ble_eq_true rfl) dX9_front_5 ⟨Nat.zero_le _, Nat.zero_le _⟩ hF (fun r5_1 er5_1 hF => ?_)
      refine a_ic_ge C (tgt := 41) dX9_front_8 (by decide) hF (fun c8_2 hF => ?_) (fun c8_2 hF => ?_)
      · refine a_sub C [3] [(3, .int x3)] rfl ?_
        exact hX x3 hF
      refine a_iload_n C 3 dX9_front_11 rfl rfl ?_
      refine a_aload_n C 0 dX9_front_12 rfl rfl ?_
      refine a_iload_n C 2 dX9_front_13 rfl rfl ?_
      refine a_callVir C 1 [0, 1, 2, 3, 4, 5, 6, 7] 0 cs_X9_132 hd_X9_left ⟨rfl, rfl⟩ ⟨Nat.le_of_ble_eq_true rfl, Nat.le_of_ble_eq_true rfl⟩ (fun r h => c_X9_left l D J kc ki kb kl kd t t_all t_reasons t_text t_word t_order t_rows t_written t_allF t_reasonsF t_textF t_wordF t_orderF t_rowsF t_writtenF t_thrown t_changes t_isSaved t_result t_texted t_wordSize t_orderMany t_here t_fault t_faultAt t_commandMany t_writtenSize p2 r h) rfl rfl rfl rfl rfl rfl (Nat.le_of_ble_eq_true rfl) dX9_front_14 ⟨Nat.zero_le _, Nat.zero_le _⟩ hF (fun r14_3 er14_3 hF => ?_)
      refine a_ic_ge C (tgt := 41) dX9_front_17 (by decide) hF (fun c17_4 hF => ?_) (fun c17_4 hF => ?_)
      · refine a_sub C [3] [(3, .int x3)] rfl ?_
        exact hX x3 hF
      refine a_aload_n C 0 dX9_front_20 rfl rfl ?_
      refine a_iload_n C 1 dX9_front_21 rfl rfl ?_
      refine a_iload_n C 3 dX9_front_22 rfl rfl ?_
      refine a_callVir C 2 [0, 1, 2, 3, 4, 5, 6, 7] 0 cs_X9_135 hd_X9_letterOf ⟨rfl, rfl⟩ ⟨Nat.le_of_ble_eq_true rfl, Nat.le_of_ble_eq_true rfl⟩ (fun r h => c_X9_letterOf l D J kc ki kb kl kd t t_all t_reasons t_text t_word t_order t_rows t_written t_allF t_reasonsF t_textF t_wordF t_orderF t_rowsF t_writtenF t_thrown t_changes t_isSaved t_result t_texted t_wordSize t_orderMany t_here t_fault t_faultAt t_commandMany t_writtenSize p1 x3 r h) rfl rfl rfl rfl rfl rfl (Nat.le_of_ble_eq_true rfl) dX9_front_23 ⟨Nat.zero_le _, Nat.zero_le _⟩ hF (fun r23_5 er23_5 hF => ?_)
      refine a_aload_n C 0 dX9_front_26 rfl rfl ?_
      refine a_iload_n C 2 dX9_front_27 rfl rfl ?_
      refine a_iload_n C 3 dX9_front_28 rfl rfl ?_
      refine a_callVir C 2 [0, 1, 2, 3, 4, 5, 6, 7] 0 cs_X9_135 hd_X9_letterOf ⟨rfl, rfl⟩ ⟨Nat.le_of_ble_eq_true rfl, Nat.le_of_ble_eq_true rfl⟩ (fun r h => c_X9_letterOf l D J kc ki kb kl kd t t_all t_reasons t_text t_word t_order t_rows t_written t_allF t_reasonsF t_textF t_wordF t_orderF t_rowsF t_writtenF t_thrown t_changes t_isSaved t_result t_texted t_wordSize t_orderMany t_here t_fault t_faultAt t_commandMany t_writtenSize p2 x3 r h) rfl rfl rfl rfl rfl rfl (Nat.le_of_ble_eq_true rfl) dX9_front_29 ⟨Nat.zero_le _, Nat.zero_le _⟩ hF (fun r29_6 er29_6 hF => ?_)
      refine a_ic_ne C (tgt := 41) dX9_front_32 (by decide) hF (fun c32_7 hF => ?_) (fun c32_7 hF => ?_)
      · refine a_sub C [3] [(3, .int x3)] rfl ?_
        exact hX x3 hF
      refine a_iinc C 3 [(3, .int (x3 + 1)), (0, .ref t), (1, .int p1), (2, .int p2)] dX9_front_35 rfl rfl (by decide) rfl ?_
      refine a_goto C (tgt := 2) dX9_front_38 (by decide) ?_
      refine a_sub C [1, 2, 3, 0] [(0, .ref t), (1, .int p1), (2, .int p2), (3, .int (x3 + 1))] rfl ?_
      exact ih (x3 + 1) k hF hX
  unfold f_X9_front at hF
  refine a_iconst C (v := 0) dX9_front_0 (by decide) ?_
  refine a_istore_n C [(3, .int 0), (0, .ref t), (1, .int p1), (2, .int p2)] dX9_front_1 rfl (by decide) rfl ?_
  refine a_sub C [1, 2, 3, 0] [(0, .ref t), (1, .int p1), (2, .int p2), (3, .int 0)] rfl ?_
  refine hI2 1000 0 _ hF (fun x3_2_8 hF => ?_)
  refine a_iload_n C 0 dX9_front_41 rfl rfl ?_
  exact a_iret C hr rfl dX9_front_42 hF rfl rfl
theorem cs_X9_138 : GoodIn WW (wsV RX9 138 RX9 yX9_front (aW yX9_front cX9_front 4 ((some .int)))) := gdV kl_X9_138 ki_X9_front kv_X9_front kn_X9 kc_X9_front
def f_X9_isAhead_J46 (p1 : Int32) (p2 : Int32) (t_allF : Nat → Int32) : Option Int32 := (f_X9_left t_allF p1).bind fun r48_4 => (f_X9_left t_allF p2).bind fun r53_5 => if r48_4 < r53_5 then (some 1) else ((f_X9_left t_allF p1).bind fun r61_7 => (f_X9_left t_allF p2).bind fun r66_8 => if ¬ r61_7 = r66_8 then (some 0) else (if p2 ≤ p1 then (some 0) else (some 1)))
def f_X9_isAhead (t_allF : Nat → Int32) (p1 : Int32) (p2 : Int32) : Option Int32 := (f_X9_front t_allF p1 p2).bind fun r3_1 => (f_X9_left t_allF p1).bind fun r10_2 => if r10_2 ≤ r3_1 then (f_X9_isAhead_J46 p1 p2 t_allF) else ((f_X9_left t_allF p2).bind fun r19_11 => if r19_11 ≤ r3_1 then (f_X9_isAhead_J46 p1 p2 t_allF) else ((f_X9_letterOf t_allF p1 r3_1).bind fun r28_13 => (f_X9_letterOf t_allF p2 r3_1).bind fun r34_14 => if r34_14 ≤ r28_13 then (some 0) else (some 1)))
theorem hd_X9_isAhead : yX9_isAhead.cls = RX9 ∧ yX9_isAhead.cls ≠ "java/lang/invoke/MethodHandle" ∧ yX9_isAhead.cls ≠ "java/lang/invoke/VarHandle" ∧ (parseMethodDescriptor yX9_isAhead.desc).map (fun d => d.parameters.length) = some 2 := by decide +kernel
set_option maxRecDepth 100000 in
set_option maxHeartbeats 4000000 in
theorem c_X9_isAhead (l : Launch) (D : va_G) (J : (Nat → Nat) × (Nat → Nat)) (kc ki kb kl kd : ClassId) (t : Nat) (t_all : Nat) (t_reasons : Nat) (t_text : Nat) (t_word : Nat) (t_order : Nat) (t_rows : Nat) (t_written : Nat) (t_allF : Nat → Int32) (t_reasonsF : Nat → Int32) (t_textF : Nat → Int32) (t_wordF : Nat → Int32) (t_orderF : Nat → Int32) (t_rowsF : Nat → Int32) (t_writtenF : Nat → Int32) (t_thrown : Int32) (t_changes : Int32) (t_isSaved : Int32) (t_result : Int32) (t_texted : Int32) (t_wordSize : Int32) (t_orderMany : Int32) (t_here : Int32) (t_fault : Int32) (t_faultAt : Int32) (t_commandMany : Int32) (t_writtenSize : Int32) (p1 p2 : Int32) (res : Int32) (hF : f_X9_isAhead t_allF p1 p2 = some res) : aKi l yX9_isAhead (aW yX9_isAhead cX9_isAhead 4 ((some .boolean))) ({ frames := 3, cells := 0, slots := 0, locals := 67 } : Room) D J (aTy kc ki kb kl kd) [.ref t, .int p1, .int p2] (wX9 kc ki t t_all t_reasons t_text t_word t_order t_rows t_written t_allF t_reasonsF t_textF t_wordF t_orderF t_rowsF t_writtenF t_thrown t_changes t_isSaved t_result t_texted t_wordSize t_orderMany t_here t_fault t_faultAt t_commandMany t_writtenSize) (fun r => r) (fun _ => wX9 kc ki t t_all t_reasons t_text t_word t_order t_rows t_written t_allF t_reasonsF t_textF t_wordF t_orderF t_rowsF t_writtenF t_thrown t_changes t_isSaved t_result t_texted t_wordSize t_orderMany t_here t_fault t_faultAt t_commandMany t_writtenSize) res := by
  refine aKi_of (own := RX9) (by decide) rfl (Nat.le_of_ble_eq_true rfl) rfl ?_
  intro p e s m args below meth c C hr
  have hJ46 : f_X9_isAhead_J46 p1 p2 t_allF = some res → aT p l e ({ frames := 3, cells := 0, slots := 0, locals := 67 } : Room) s m args below meth c (MQ below (aQi D (wX9 kc ki t t_all t_reasons t_text t_word t_order t_rows t_written t_allF t_reasonsF t_textF t_wordF t_orderF t_rowsF t_writtenF t_thrown t_changes t_isSaved t_result t_texted t_wordSize t_orderMany t_here t_fault t_faultAt t_commandMany t_writtenSize) s.heap.size (fun r => r) (fun _ => wX9 kc ki t t_all t_reasons t_text t_word t_order t_rows t_written t_allF t_reasonsF t_textF t_wordF t_orderF t_rowsF t_writtenF t_thrown t_changes t_isSaved t_result t_texted t_wordSize t_orderMany t_here t_fault t_faultAt t_commandMany t_writtenSize) res) args s 0 0 (va_A (wX9 kc ki t t_all t_reasons t_text t_word t_order t_rows t_written t_allF t_reasonsF t_textF t_wordF t_orderF t_rowsF t_writtenF t_thrown t_changes t_isSaved t_result t_texted t_wordSize t_orderMany t_here t_fault t_faultAt t_commandMany t_writtenSize) s.heap.size)) D (va_A (wX9 kc ki t t_all t_reasons t_text t_word t_order t_rows t_written t_allF t_reasonsF t_textF t_wordF t_orderF t_rowsF t_writtenF t_thrown t_changes t_isSaved t_result t_texted t_wordSize t_orderMany t_here t_fault t_faultAt t_commandMany t_writtenSize) s.heap.size) 4 0 0 46 [(0, .ref t), (1, .int p1), (2, .int p2)] [] (wX9 kc ki t t_all t_reasons t_text t_word t_order t_rows t_written t_allF t_reasonsF t_textF t_wordF t_orderF t_rowsF t_writtenF t_thrown t_changes t_isSaved t_result t_texted t_wordSize t_orderMany t_here t_fault t_faultAt t_commandMany t_writtenSize) := by
    intro hF
    unfold f_X9_isAhead_J46 at hF
    refine a_aload_n C 0 dX9_isAhead_46 rfl rfl ?_
    refine a_iload_n C 1 dX9_isAhead_47 rfl rfl ?_
    refine a_callVir C 1 [0, 1, 2, 3, 4, 5, 6, 7] 0 cs_X9_132 hd_X9_left ⟨rfl, rfl⟩ ⟨Nat.le_of_ble_eq_true rfl, Nat.le_of_ble_eq_true rfl⟩ (fun r h => c_X9_left l D J kc ki kb kl kd t t_all t_reasons t_text t_word t_order t_rows t_written t_allF t_reasonsF t_textF t_wordF t_orderF t_rowsF t_writtenF t_thrown t_changes t_isSaved t_result t_texted t_wordSize t_orderMany t_here t_fault t_faultAt t_commandMany t_writtenSize p1 r h) rfl rfl rfl rfl rfl rfl (Nat.le_of_ble_eq_true rfl) dX9_isAhead_48 ⟨Nat.zero_le _, Nat.zero_le _⟩ hF (fun r48_4 er48_4 hF => ?_)
    refine a_aload_n C 0 dX9_isAhead_51 rfl rfl ?_
    refine a_iload_n C 2 dX9_isAhead_52 rfl rfl ?_
    refine a_callVir C 1 [0, 1, 2, 3, 4, 5, 6, 7] 0 cs_X9_132 hd_X9_left ⟨rfl, rfl⟩ ⟨Nat.le_of_ble_eq_true rfl, Nat.le_of_ble_eq_true rfl⟩ (fun r h => c_X9_left l D J kc ki kb kl kd t t_all t_reasons t_text t_word t_order t_rows t_written t_allF t_reasonsF t_textF t_wordF t_orderF t_rowsF t_writtenF t_thrown t_changes t_isSaved t_result t_texted t_wordSize t_orderMany t_here t_fault t_faultAt t_commandMany t_writtenSize p2 r h) rfl rfl rfl rfl rfl rfl (Nat.le_of_ble_eq_true rfl) dX9_isAhead_53 ⟨Nat.zero_le _, Nat.zero_le _⟩ hF (fun r53_5 er53_5 hF => ?_)
    refine a_ic_lt C (tgt := 77) dX9_isAhead_56 (by decide) hF (fun c56_6 hF => ?_) (fun c56_6 hF => ?_)
    · refine a_iconst C (v := 1) dX9_isAhead_77 (by decide) ?_
      refine a_goto C (tgt := 82) dX9_isAhead_78 (by decide) ?_
      exact a_iret C hr rfl dX9_isAhead_82 hF rfl rfl
    refine a_aload_n C 0 dX9_isAhead_59 rfl rfl ?_
    refine a_iload_n C 1 dX9_isAhead_60 rfl rfl ?_
    refine a_callVir C 1 [0, 1, 2, 3, 4, 5, 6, 7] 0 cs_X9_132 hd_X9_left ⟨rfl, rfl⟩ ⟨Nat.le_of_ble_eq_true rfl, Nat.le_of_ble_eq_true rfl⟩ (fun r h => c_X9_left l D J kc ki kb kl kd t t_all t_reasons t_text t_word t_order t_rows t_written t_allF t_reasonsF t_textF t_wordF t_orderF t_rowsF t_writtenF t_thrown t_changes t_isSaved t_result t_texted t_wordSize t_orderMany t_here t_fault t_faultAt t_commandMany t_writtenSize p1 r h) rfl rfl rfl rfl rfl rfl (Nat.le_of_ble_eq_true rfl) dX9_isAhead_61 ⟨Nat.zero_le _, Nat.zero_le _⟩ hF (fun r61_7 er61_7 hF => ?_)
    refine a_aload_n C 0 dX9_isAhead_64 rfl rfl ?_
    refine a_iload_n C 2 dX9_isAhead_65 rfl rfl ?_
    refine a_callVir C 1 [0, 1, 2, 3, 4, 5, 6, 7] 0 cs_X9_132 hd_X9_left ⟨rfl, rfl⟩ ⟨Nat.le_of_ble_eq_true rfl, Nat.le_of_ble_eq_true rfl⟩ (fun r h => c_X9_left l D J kc ki kb kl kd t t_all t_reasons t_text t_word t_order t_rows t_written t_allF t_reasonsF t_textF t_wordF t_orderF t_rowsF t_writtenF t_thrown t_changes t_isSaved t_result t_texted t_wordSize t_orderMany t_here t_fault t_faultAt t_commandMany t_writtenSize p2 r h) rfl rfl rfl rfl rfl rfl (Nat.le_of_ble_eq_true rfl) dX9_isAhead_66 ⟨Nat.zero_le _, Nat.zero_le _⟩ hF (fun r66_8 er66_8 hF => ?_)
    refine a_ic_ne C (tgt := 81) dX9_isAhead_69 (by decide) hF (fun c69_9 hF => ?_) (fun c69_9 hF => ?_)
    · refine a_iconst C (v := 0) dX9_isAhead_81 (by decide) ?_
      exact a_iret C hr rfl dX9_isAhead_82 hF rfl rfl
    refine a_iload_n C 1 dX9_isAhead_72 rfl rfl ?_
    refine a_iload_n C 2 dX9_isAhead_73 rfl rfl ?_
    refine a_ic_ge C (tgt := 81) dX9_isAhead_74 (by decide) hF (fun c74_10 hF => ?_) (fun c74_10 hF => ?_)
    · refine a_iconst C (v := 0) dX9_isAhead_81 (by decide) ?_
      exact a_iret C hr rfl dX9_isAhead_82 hF rfl rfl
    refine a_iconst C (v := 1) dX9_isAhead_77 (by decide) ?_
    refine a_goto C (tgt := 82) dX9_isAhead_78 (by decide) ?_
    exact a_iret C hr rfl dX9_isAhead_82 hF rfl rfl
  unfold f_X9_isAhead at hF
  refine a_aload_n C 0 dX9_isAhead_0 rfl rfl ?_
  refine a_iload_n C 1 dX9_isAhead_1 rfl rfl ?_
  refine a_iload_n C 2 dX9_isAhead_2 rfl rfl ?_
  refine a_callVir C 2 [0, 1, 2, 3, 4, 5, 6, 7] 0 cs_X9_138 hd_X9_front ⟨rfl, rfl⟩ ⟨Nat.le_of_ble_eq_true rfl, Nat.le_of_ble_eq_true rfl⟩ (fun r h => c_X9_front l D J kc ki kb kl kd t t_all t_reasons t_text t_word t_order t_rows t_written t_allF t_reasonsF t_textF t_wordF t_orderF t_rowsF t_writtenF t_thrown t_changes t_isSaved t_result t_texted t_wordSize t_orderMany t_here t_fault t_faultAt t_commandMany t_writtenSize p1 p2 r h) rfl rfl rfl rfl rfl rfl (Nat.le_of_ble_eq_true rfl) dX9_isAhead_3 ⟨Nat.zero_le _, Nat.zero_le _⟩ hF (fun r3_1 er3_1 hF => ?_)
  refine a_istore_n C [(3, .int r3_1), (0, .ref t), (1, .int p1), (2, .int p2)] dX9_isAhead_6 rfl (by decide) rfl ?_
  refine a_iload_n C 0 dX9_isAhead_7 rfl rfl ?_
  refine a_aload_n C 1 dX9_isAhead_8 rfl rfl ?_
  refine a_iload_n C 2 dX9_isAhead_9 rfl rfl ?_
  refine a_callVir C 1 [0, 1, 2, 3, 4, 5, 6, 7] 0 cs_X9_132 hd_X9_left ⟨rfl, rfl⟩ ⟨Nat.le_of_ble_eq_true rfl, Nat.le_of_ble_eq_true rfl⟩ (fun r h => c_X9_left l D J kc ki kb kl kd t t_all t_reasons t_text t_word t_order t_rows t_written t_allF t_reasonsF t_textF t_wordF t_orderF t_rowsF t_writtenF t_thrown t_changes t_isSaved t_result t_texted t_wordSize t_orderMany t_here t_fault t_faultAt t_commandMany t_writtenSize p1 r h) rfl rfl rfl rfl rfl rfl (Nat.le_of_ble_eq_true rfl) dX9_isAhead_10 ⟨Nat.zero_le _, Nat.zero_le _⟩ hF (fun r10_2 er10_2 hF => ?_)
  refine a_ic_ge C (tgt := 46) dX9_isAhead_13 (by decide) hF (fun c13_3 hF => ?_) (fun c13_3 hF => ?_)
  · refine a_sub C [1, 2, 3] [(0, .ref t), (1, .int p1), (2, .int p2)] rfl ?_
    exact hJ46 hF
  refine a_iload_n C 0 dX9_isAhead_16 rfl rfl ?_
  refine a_aload_n C 1 dX9_isAhead_17 rfl rfl ?_
  refine a_iload_n C 3 dX9_isAhead_18 rfl rfl ?_
  refine a_callVir C 1 [0, 1, 2, 3, 4, 5, 6, 7] 0 cs_X9_132 hd_X9_left ⟨rfl, rfl⟩ ⟨Nat.le_of_ble_eq_true rfl, Nat.le_of_ble_eq_true rfl⟩ (fun r h => c_X9_left l D J kc ki kb kl kd t t_all t_reasons t_text t_word t_order t_rows t_written t_allF t_reasonsF t_textF t_wordF t_orderF t_rowsF t_writtenF t_thrown t_changes t_isSaved t_result t_texted t_wordSize t_orderMany t_here t_fault t_faultAt t_commandMany t_writtenSize p2 r h) rfl rfl rfl rfl rfl rfl (Nat.le_of_ble_eq_true rfl) dX9_isAhead_19 ⟨Nat.zero_le _, Nat.zero_le _⟩ hF (fun r19_11 er19_11 hF => ?_)
  refine a_ic_ge C (tgt := 46) dX9_isAhead_22 (by decide) hF (fun c22_12 hF => ?_) (fun c22_12 hF => ?_)
  · refine a_sub C [1, 2, 3] [(0, .ref t), (1, .int p1), (2, .int p2)] rfl ?_
    exact hJ46 hF
  refine a_aload_n C 1 dX9_isAhead_25 rfl rfl ?_
  refine a_iload_n C 2 dX9_isAhead_26 rfl rfl ?_
  refine a_iload_n C 0 dX9_isAhead_27 rfl rfl ?_
  refine a_callVir C 2 [0, 1, 2, 3, 4, 5, 6, 7] 0 cs_X9_135 hd_X9_letterOf ⟨rfl, rfl⟩ ⟨Nat.le_of_ble_eq_true rfl, Nat.le_of_ble_eq_true rfl⟩ (fun r h => c_X9_letterOf l D J kc ki kb kl kd t t_all t_reasons t_text t_word t_order t_rows t_written t_allF t_reasonsF t_textF t_wordF t_orderF t_rowsF t_writtenF t_thrown t_changes t_isSaved t_result t_texted t_wordSize t_orderMany t_here t_fault t_faultAt t_commandMany t_writtenSize p1 r3_1 r h) rfl rfl rfl rfl rfl rfl (Nat.le_of_ble_eq_true rfl) dX9_isAhead_28 ⟨Nat.zero_le _, Nat.zero_le _⟩ hF (fun r28_13 er28_13 hF => ?_)
  refine a_aload_n C 1 dX9_isAhead_31 rfl rfl ?_
  refine a_iload_n C 3 dX9_isAhead_32 rfl rfl ?_
  refine a_iload_n C 0 dX9_isAhead_33 rfl rfl ?_
  refine a_callVir C 2 [0, 1, 2, 3, 4, 5, 6, 7] 0 cs_X9_135 hd_X9_letterOf ⟨rfl, rfl⟩ ⟨Nat.le_of_ble_eq_true rfl, Nat.le_of_ble_eq_true rfl⟩ (fun r h => c_X9_letterOf l D J kc ki kb kl kd t t_all t_reasons t_text t_word t_order t_rows t_written t_allF t_reasonsF t_textF t_wordF t_orderF t_rowsF t_writtenF t_thrown t_changes t_isSaved t_result t_texted t_wordSize t_orderMany t_here t_fault t_faultAt t_commandMany t_writtenSize p2 r3_1 r h) rfl rfl rfl rfl rfl rfl (Nat.le_of_ble_eq_true rfl) dX9_isAhead_34 ⟨Nat.zero_le _, Nat.zero_le _⟩ hF (fun r34_14 er34_14 hF => ?_)
  refine a_ic_ge C (tgt := 44) dX9_isAhead_37 (by decide) hF (fun c37_15 hF => ?_) (fun c37_15 hF => ?_)
  · refine a_iconst C (v := 0) dX9_isAhead_44 (by decide) ?_
    exact a_iret C hr rfl dX9_isAhead_45 hF rfl rfl
  refine a_iconst C (v := 1) dX9_isAhead_40 (by decide) ?_
  refine a_goto C (tgt := 45) dX9_isAhead_41 (by decide) ?_
  exact a_iret C hr rfl dX9_isAhead_45 hF rfl rfl
theorem cs_X9_144 : GoodIn WW (wsV RX9 144 RX9 yX9_isAhead (aW yX9_isAhead cX9_isAhead 4 ((some .boolean)))) := gdV kl_X9_144 ki_X9_isAhead kv_X9_isAhead kn_X9 kc_X9_isAhead
def f_X9_orders_L39 (x3 : Int32) (t_allF : Nat → Int32) : Nat → Int32 → (Nat → Int32) → (Int32 → (Nat → Int32) → Option ((Nat → Int32) × Int32)) → Option ((Nat → Int32) × Int32)
  | 0, _, _, _ => none
  | fuel + 1, x4, q_t_orderF, k => if x4 ≤ 0 then (k x4 q_t_orderF) else ((ldi q_t_orderF 80 (x4 - 1)).bind fun v54_6 => (f_X9_isAhead t_allF x3 v54_6).bind fun r55_7 => if r55_7 = 0 then (k x4 q_t_orderF) else ((ldi q_t_orderF 80 (x4 - 1)).bind fun v75_9 => (sti q_t_orderF 80 x4 v75_9).bind fun g76_10 => f_X9_orders_L39 x3 t_allF fuel (x4 + (-1)) g76_10 k))
def f_X9_orders_L17 (x1 : Int32) (t_allF : Nat → Int32) : Nat → Int32 → (Nat → Int32) → Int32 → (Int32 → (Nat → Int32) → Int32 → Option ((Nat → Int32) × Int32)) → Option ((Nat → Int32) × Int32)
  | 0, _, _, _, _ => none
  | fuel + 1, x2, q_t_orderF, q_t_orderMany, k => (f_X9_size t_allF x1).bind fun r20_3 => if r20_3 ≤ x2 then (k x2 q_t_orderF q_t_orderMany) else (f_X9_orders_L39 ((10 * x1) + x2) t_allF 1000 q_t_orderMany q_t_orderF (fun x4_39_11 q_t_orderF_39_12 => (sti q_t_orderF_39_12 80 x4_39_11 ((10 * x1) + x2)).bind fun g90_13 => f_X9_orders_L17 x1 t_allF fuel (x2 + 1) g90_13 (q_t_orderMany + 1) k))
def f_X9_orders_L7 (t_allF : Nat → Int32) : Nat → Int32 → (Nat → Int32) → Int32 → (Int32 → (Nat → Int32) → Int32 → Option ((Nat → Int32) × Int32)) → Option ((Nat → Int32) × Int32)
  | 0, _, _, _, _ => none
  | fuel + 1, x1, q_t_orderF, q_t_orderMany, k => (f_X9_many t_allF).bind fun r9_1 => if r9_1 ≤ x1 then (k x1 q_t_orderF q_t_orderMany) else (f_X9_orders_L17 x1 t_allF 1000 0 q_t_orderF q_t_orderMany (fun x2_17_14 q_t_orderF_17_15 q_t_orderMany_17_16 => f_X9_orders_L7 t_allF fuel (x1 + 1) q_t_orderF_17_15 q_t_orderMany_17_16 k))
def f_X9_orders (t_allF : Nat → Int32) (t_orderF : Nat → Int32) : Option ((Nat → Int32) × Int32) := f_X9_orders_L7 t_allF 1000 0 t_orderF 0 (fun x1_7_17 q_t_orderF_7_18 q_t_orderMany_7_19 => some (q_t_orderF_7_18, q_t_orderMany_7_19))
theorem hd_X9_orders : yX9_orders.cls = RX9 ∧ yX9_orders.cls ≠ "java/lang/invoke/MethodHandle" ∧ yX9_orders.cls ≠ "java/lang/invoke/VarHandle" ∧ (parseMethodDescriptor yX9_orders.desc).map (fun d => d.parameters.length) = some 0 := by decide +kernel
set_option maxRecDepth 100000 in
set_option maxHeartbeats 4000000 in
theorem c_X9_orders (l : Launch) (D : va_G) (J : (Nat → Nat) × (Nat → Nat)) (kc ki kb kl kd : ClassId) (t : Nat) (t_all : Nat) (t_reasons : Nat) (t_text : Nat) (t_word : Nat) (t_order : Nat) (t_rows : Nat) (t_written : Nat) (t_allF : Nat → Int32) (t_reasonsF : Nat → Int32) (t_textF : Nat → Int32) (t_wordF : Nat → Int32) (t_orderF : Nat → Int32) (t_rowsF : Nat → Int32) (t_writtenF : Nat → Int32) (t_thrown : Int32) (t_changes : Int32) (t_isSaved : Int32) (t_result : Int32) (t_texted : Int32) (t_wordSize : Int32) (t_orderMany : Int32) (t_here : Int32) (t_fault : Int32) (t_faultAt : Int32) (t_commandMany : Int32) (t_writtenSize : Int32) (res : (Nat → Int32) × Int32) (hF : f_X9_orders t_allF t_orderF = some res) : aKv l yX9_orders (aW yX9_orders cX9_orders 5 none) ({ frames := 4, cells := 0, slots := 0, locals := 90 } : Room) D J (aTy kc ki kb kl kd) [.ref t] (wX9 kc ki t t_all t_reasons t_text t_word t_order t_rows t_written t_allF t_reasonsF t_textF t_wordF t_orderF t_rowsF t_writtenF t_thrown t_changes t_isSaved t_result t_texted t_wordSize t_orderMany t_here t_fault t_faultAt t_commandMany t_writtenSize) (fun r => wX9 kc ki t t_all t_reasons t_text t_word t_order t_rows t_written t_allF t_reasonsF t_textF t_wordF r.1 t_rowsF t_writtenF t_thrown t_changes t_isSaved t_result t_texted t_wordSize r.2 t_here t_fault t_faultAt t_commandMany t_writtenSize) res := by
  refine aKv_of (own := RX9) (by decide) rfl (Nat.le_of_ble_eq_true rfl) rfl ?_
  intro p e s m args below meth c C hr
  have hI39 : ∀ (x1 : Int32) (x2 : Int32) (x3 : Int32) (q_t_orderMany : Int32) (fuel : Nat) (x4 : Int32) (q_t_orderF : Nat → Int32) (k : Int32 → (Nat → Int32) → Option ((Nat → Int32) × Int32)), f_X9_orders_L39 x3 t_allF fuel x4 q_t_orderF k = some res → (∀ (x4 : Int32) (q_t_orderF : Nat → Int32), k x4 q_t_orderF = some res → aT p l e ({ frames := 4, cells := 0, slots := 0, locals := 90 } : Room) s m args below meth c (MQ below (aQv D (wX9 kc ki t t_all t_reasons t_text t_word t_order t_rows t_written t_allF t_reasonsF t_textF t_wordF t_orderF t_rowsF t_writtenF t_thrown t_changes t_isSaved t_result t_texted t_wordSize t_orderMany t_here t_fault t_faultAt t_commandMany t_writtenSize) s.heap.size (fun r => wX9 kc ki t t_all t_reasons t_text t_word t_order t_rows t_written t_allF t_reasonsF t_textF t_wordF r.1 t_rowsF t_writtenF t_thrown t_changes t_isSaved t_result t_texted t_wordSize r.2 t_here t_fault t_faultAt t_commandMany t_writtenSize) res) args s 0 0 (va_A (wX9 kc ki t t_all t_reasons t_text t_word t_order t_rows t_written t_allF t_reasonsF t_textF t_wordF t_orderF t_rowsF t_writtenF t_thrown t_changes t_isSaved t_result t_texted t_wordSize t_orderMany t_here t_fault t_faultAt t_commandMany t_writtenSize) s.heap.size)) D (va_A (wX9 kc ki t t_all t_reasons t_text t_word t_order t_rows t_written t_allF t_reasonsF t_textF t_wordF t_orderF t_rowsF t_writtenF t_thrown t_changes t_isSaved t_result t_texted t_wordSize t_orderMany t_here t_fault t_faultAt t_commandMany t_writtenSize) s.heap.size) 5 0 0 83 [(0, .ref t), (1, .int x1), (2, .int x2), (3, .int x3), (4, .int x4)] [] (wX9 kc ki t t_all t_reasons t_text t_word t_order t_rows t_written t_allF t_reasonsF t_textF t_wordF q_t_orderF t_rowsF t_writtenF t_thrown t_changes t_isSaved t_result t_texted t_wordSize q_t_orderMany t_here t_fault t_faultAt t_commandMany t_writtenSize)) → aT p l e ({ frames := 4, cells := 0, slots := 0, locals := 90 } : Room) s m args below meth c (MQ below (aQv D (wX9 kc ki t t_all t_reasons t_text t_word t_order t_rows t_written t_allF t_reasonsF t_textF t_wordF t_orderF t_rowsF t_writtenF t_thrown t_changes t_isSaved t_result t_texted t_wordSize t_orderMany t_here t_fault t_faultAt t_commandMany t_writtenSize) s.heap.size (fun r => wX9 kc ki t t_all t_reasons t_text t_word t_order t_rows t_written t_allF t_reasonsF t_textF t_wordF r.1 t_rowsF t_writtenF t_thrown t_changes t_isSaved t_result t_texted t_wordSize r.2 t_here t_fault t_faultAt t_commandMany t_writtenSize) res) args s 0 0 (va_A (wX9 kc ki t t_all t_reasons t_text t_word t_order t_rows t_written t_allF t_reasonsF t_textF t_wordF t_orderF t_rowsF t_writtenF t_thrown t_changes t_isSaved t_result t_texted t_wordSize t_orderMany t_here t_fault t_faultAt t_commandMany t_writtenSize) s.heap.size)) D (va_A (wX9 kc ki t t_all t_reasons t_text t_word t_order t_rows t_written t_allF t_reasonsF t_textF t_wordF t_orderF t_rowsF t_writtenF t_thrown t_changes t_isSaved t_result t_texted t_wordSize t_orderMany t_here t_fault t_faultAt t_commandMany t_writtenSize) s.heap.size) 5 0 0 39 [(0, .ref t), (1, .int x1), (2, .int x2), (3, .int x3), (4, .int x4)] [] (wX9 kc ki t t_all t_reasons t_text t_word t_order t_rows t_written t_allF t_reasonsF t_textF t_wordF q_t_orderF t_rowsF t_writtenF t_thrown t_changes t_isSaved t_result t_texted t_wordSize q_t_orderMany t_here t_fault t_faultAt t_commandMany t_writtenSize) := by
    intro x1 x2 x3 q_t_orderMany fuel
    induction fuel with
    | zero => intro x4 q_t_orderF k hF hX; exact nomatch hF
    | succ fuel ih =>
      intro x4 q_t_orderF k hF hX
      rw [f_X9_orders_L39] at hF
      refine a_iload C 4 dX9_orders_39 rfl ?_
      refine a_if_le C (tgt := 83) dX9_orders_41 (by decide) hF (fun c41_5 hF => ?_) (fun c41_5 hF => ?_)
      · exact hX x4 q_t_orderF hF
      refine a_aload_n C 0 dX9_orders_44 rfl rfl ?_
      refine a_iload_n C 3 dX9_orders_45 rfl rfl ?_
      refine a_aload_n C 0 dX9_orders_46 rfl rfl ?_
      refine a_get C 0 10 iwX9 rfl rfl (by decide) kf_X9_23 rfl dX9_orders_47 ?_
      refine a_iload C 4 dX9_orders_50 rfl ?_
      refine a_iconst C (v := 1) dX9_orders_52 (by decide) ?_
      refine a_isub C dX9_orders_53 ?_
      refine a_iald C 5 1 rfl rfl dX9_orders_54 hF (fun v54_6 ev54_6 hF => ?_)
      refine a_callVir C 2 [0, 1, 2, 3, 4, 5, 6, 7] 0 cs_X9_144 hd_X9_isAhead ⟨rfl, rfl⟩ ⟨Nat.le_of_ble_eq_true rfl, Nat.le_of_ble_eq_true rfl⟩ (fun r h => c_X9_isAhead l D J kc ki kb kl kd t t_all t_reasons t_text t_word t_order t_rows t_written t_allF t_reasonsF t_textF t_wordF q_t_orderF t_rowsF t_writtenF t_thrown t_changes t_isSaved t_result t_texted t_wordSize q_t_orderMany t_here t_fault t_faultAt t_commandMany t_writtenSize x3 v54_6 r h) rfl rfl rfl rfl rfl rfl (Nat.le_of_ble_eq_true rfl) dX9_orders_55 ⟨Nat.zero_le _, Nat.zero_le _⟩ hF (fun r55_7 er55_7 hF => ?_)
      refine a_if_eq C (tgt := 83) dX9_orders_58 (by decide) hF (fun c58_8 hF => ?_) (fun c58_8 hF => ?_)
      · exact hX x4 q_t_orderF hF
      refine a_aload_n C 0 dX9_orders_61 rfl rfl ?_
      refine a_get C 0 10 iwX9 rfl rfl (by decide) kf_X9_23 rfl dX9_orders_62 ?_
      refine a_iload C 4 dX9_orders_65 rfl ?_
      refine a_aload_n C 0 dX9_orders_67 rfl rfl ?_
      refine a_get C 0 10 iwX9 rfl rfl (by decide) kf_X9_23 rfl dX9_orders_68 ?_
      refine a_iload C 4 dX9_orders_71 rfl ?_
      refine a_iconst C (v := 1) dX9_orders_73 (by decide) ?_
      refine a_isub C dX9_orders_74 ?_
      refine a_iald C 5 1 rfl rfl dX9_orders_75 hF (fun v75_9 ev75_9 hF => ?_)
      refine a_iast C 5 1 rfl rfl dX9_orders_76 hF (fun g76_10 eg76_10 hF => ?_)
      refine a_ws C (ws' := wX9 kc ki t t_all t_reasons t_text t_word t_order t_rows t_written t_allF t_reasonsF t_textF t_wordF g76_10 t_rowsF t_writtenF t_thrown t_changes t_isSaved t_result t_texted t_wordSize q_t_orderMany t_here t_fault t_faultAt t_commandMany t_writtenSize) rfl ?_
      refine a_iinc C 4 [(4, .int (x4 + (-1))), (0, .ref t), (1, .int x1), (2, .int x2), (3, .int x3)] dX9_orders_77 rfl rfl (by decide) rfl ?_
      refine a_goto C (tgt := 39) dX9_orders_80 (by decide) ?_
      refine a_sub C [1, 2, 3, 4, 0] [(0, .ref t), (1, .int x1), (2, .int x2), (3, .int x3), (4, .int (x4 + (-1)))] rfl ?_
      exact ih (x4 + (-1)) g76_10 k hF hX
  have hI17 : ∀ (x1 : Int32) (fuel : Nat) (x2 : Int32) (q_t_orderF : Nat → Int32) (q_t_orderMany : Int32) (k : Int32 → (Nat → Int32) → Int32 → Option ((Nat → Int32) × Int32)), f_X9_orders_L17 x1 t_allF fuel x2 q_t_orderF q_t_orderMany k = some res → (∀ (x2 : Int32) (q_t_orderF : Nat → Int32) (q_t_orderMany : Int32), k x2 q_t_orderF q_t_orderMany = some res → aT p l e ({ frames := 4, cells := 0, slots := 0, locals := 90 } : Room) s m args below meth c (MQ below (aQv D (wX9 kc ki t t_all t_reasons t_text t_word t_order t_rows t_written t_allF t_reasonsF t_textF t_wordF t_orderF t_rowsF t_writtenF t_thrown t_changes t_isSaved t_result t_texted t_wordSize t_orderMany t_here t_fault t_faultAt t_commandMany t_writtenSize) s.heap.size (fun r => wX9 kc ki t t_all t_reasons t_text t_word t_order t_rows t_written t_allF t_reasonsF t_textF t_wordF r.1 t_rowsF t_writtenF t_thrown t_changes t_isSaved t_result t_texted t_wordSize r.2 t_here t_fault t_faultAt t_commandMany t_writtenSize) res) args s 0 0 (va_A (wX9 kc ki t t_all t_reasons t_text t_word t_order t_rows t_written t_allF t_reasonsF t_textF t_wordF t_orderF t_rowsF t_writtenF t_thrown t_changes t_isSaved t_result t_texted t_wordSize t_orderMany t_here t_fault t_faultAt t_commandMany t_writtenSize) s.heap.size)) D (va_A (wX9 kc ki t t_all t_reasons t_text t_word t_order t_rows t_written t_allF t_reasonsF t_textF t_wordF t_orderF t_rowsF t_writtenF t_thrown t_changes t_isSaved t_result t_texted t_wordSize t_orderMany t_here t_fault t_faultAt t_commandMany t_writtenSize) s.heap.size) 5 0 0 107 [(0, .ref t), (1, .int x1)] [] (wX9 kc ki t t_all t_reasons t_text t_word t_order t_rows t_written t_allF t_reasonsF t_textF t_wordF q_t_orderF t_rowsF t_writtenF t_thrown t_changes t_isSaved t_result t_texted t_wordSize q_t_orderMany t_here t_fault t_faultAt t_commandMany t_writtenSize)) → aT p l e ({ frames := 4, cells := 0, slots := 0, locals := 90 } : Room) s m args below meth c (MQ below (aQv D (wX9 kc ki t t_all t_reasons t_text t_word t_order t_rows t_written t_allF t_reasonsF t_textF t_wordF t_orderF t_rowsF t_writtenF t_thrown t_changes t_isSaved t_result t_texted t_wordSize t_orderMany t_here t_fault t_faultAt t_commandMany t_writtenSize) s.heap.size (fun r => wX9 kc ki t t_all t_reasons t_text t_word t_order t_rows t_written t_allF t_reasonsF t_textF t_wordF r.1 t_rowsF t_writtenF t_thrown t_changes t_isSaved t_result t_texted t_wordSize r.2 t_here t_fault t_faultAt t_commandMany t_writtenSize) res) args s 0 0 (va_A (wX9 kc ki t t_all t_reasons t_text t_word t_order t_rows t_written t_allF t_reasonsF t_textF t_wordF t_orderF t_rowsF t_writtenF t_thrown t_changes t_isSaved t_result t_texted t_wordSize t_orderMany t_here t_fault t_faultAt t_commandMany t_writtenSize) s.heap.size)) D (va_A (wX9 kc ki t t_all t_reasons t_text t_word t_order t_rows t_written t_allF t_reasonsF t_textF t_wordF t_orderF t_rowsF t_writtenF t_thrown t_changes t_isSaved t_result t_texted t_wordSize t_orderMany t_here t_fault t_faultAt t_commandMany t_writtenSize) s.heap.size) 5 0 0 17 [(0, .ref t), (1, .int x1), (2, .int x2)] [] (wX9 kc ki t t_all t_reasons t_text t_word t_order t_rows t_written t_allF t_reasonsF t_textF t_wordF q_t_orderF t_rowsF t_writtenF t_thrown t_changes t_isSaved t_result t_texted t_wordSize q_t_orderMany t_here t_fault t_faultAt t_commandMany t_writtenSize) := by
    intro x1 fuel
    induction fuel with
    | zero => intro x2 q_t_orderF q_t_orderMany k hF hX; exact nomatch hF
    | succ fuel ih =>
      intro x2 q_t_orderF q_t_orderMany k hF hX
      rw [f_X9_orders_L17] at hF
      refine a_iload_n C 2 dX9_orders_17 rfl rfl ?_
      refine a_aload_n C 0 dX9_orders_18 rfl rfl ?_
      refine a_iload_n C 1 dX9_orders_19 rfl rfl ?_
      refine a_callVir C 1 [0, 1, 2, 3, 4, 5, 6, 7] 0 cs_X9_61 hd_X9_size ⟨rfl, rfl⟩ ⟨Nat.le_of_ble_eq_true rfl, Nat.le_of_ble_eq_true rfl⟩ (fun r h => c_X9_size l D J kc ki kb kl kd t t_all t_reasons t_text t_word t_order t_rows t_written t_allF t_reasonsF t_textF t_wordF q_t_orderF t_rowsF t_writtenF t_thrown t_changes t_isSaved t_result t_texted t_wordSize q_t_orderMany t_here t_fault t_faultAt t_commandMany t_writtenSize x1 r h) rfl rfl rfl rfl rfl rfl (Nat.le_of_ble_eq_true rfl) dX9_orders_20 ⟨Nat.zero_le _, Nat.zero_le _⟩ hF (fun r20_3 er20_3 hF => ?_)
      refine a_ic_ge C (tgt := 107) dX9_orders_23 (by decide) hF (fun c23_4 hF => ?_) (fun c23_4 hF => ?_)
      · refine a_sub C [0, 1] [(0, .ref t), (1, .int x1)] rfl ?_
        exact hX x2 q_t_orderF q_t_orderMany hF
      refine a_bipush C (v := 10) dX9_orders_26 (by decide) ?_
      refine a_iload_n C 1 dX9_orders_28 rfl rfl ?_
      refine a_imul C dX9_orders_29 ?_
      refine a_iload_n C 2 dX9_orders_30 rfl rfl ?_
      refine a_iadd C dX9_orders_31 ?_
      refine a_istore_n C [(3, .int ((10 * x1) + x2)), (0, .ref t), (1, .int x1), (2, .int x2)] dX9_orders_32 rfl (by decide) rfl ?_
      refine a_aload_n C 1 dX9_orders_33 rfl rfl ?_
      refine a_get C 0 11 iwX9 rfl rfl (by decide) kf_X9_141 rfl dX9_orders_34 ?_
      refine a_istore C [(4, .int q_t_orderMany), (3, .int ((10 * x1) + x2)), (0, .ref t), (1, .int x1), (2, .int x2)] dX9_orders_37 (by decide) rfl ?_
      refine a_sub C [2, 3, 4, 1, 0] [(0, .ref t), (1, .int x1), (2, .int x2), (3, .int ((10 * x1) + x2)), (4, .int q_t_orderMany)] rfl ?_
      refine hI39 x1 x2 ((10 * x1) + x2) q_t_orderMany 1000 q_t_orderMany q_t_orderF _ hF (fun x4_39_11 q_t_orderF_39_12 hF => ?_)
      refine a_aload_n C 0 dX9_orders_83 rfl rfl ?_
      refine a_get C 0 10 iwX9 rfl rfl (by decide) kf_X9_23 rfl dX9_orders_84 ?_
      refine a_iload C 4 dX9_orders_87 rfl ?_
      refine a_iload_n C 3 dX9_orders_89 rfl rfl ?_
      refine a_iast C 5 1 rfl rfl dX9_orders_90 hF (fun g90_13 eg90_13 hF => ?_)
      refine a_ws C (ws' := wX9 kc ki t t_all t_reasons t_text t_word t_order t_rows t_written t_allF t_reasonsF t_textF t_wordF g90_13 t_rowsF t_writtenF t_thrown t_changes t_isSaved t_result t_texted t_wordSize q_t_orderMany t_here t_fault t_faultAt t_commandMany t_writtenSize) rfl ?_
      refine a_aload_n C 0 dX9_orders_91 rfl rfl ?_
      refine a_dup C dX9_orders_92 rfl ?_
      refine a_get C 0 11 iwX9 rfl rfl (by decide) kf_X9_141 rfl dX9_orders_93 ?_
      refine a_iconst C (v := 1) dX9_orders_96 (by decide) ?_
      refine a_iadd C dX9_orders_97 ?_
      refine a_put C 0 11 iwX9 tyX9_ok nmX9 rfl rfl (by decide) kf_X9_141 rfl rfl rfl (Nat.le_of_ble_eq_true rfl) dX9_orders_98 ?_
      refine a_ws C (ws' := wX9 kc ki t t_all t_reasons t_text t_word t_order t_rows t_written t_allF t_reasonsF t_textF t_wordF g90_13 t_rowsF t_writtenF t_thrown t_changes t_isSaved t_result t_texted t_wordSize (q_t_orderMany + 1) t_here t_fault t_faultAt t_commandMany t_writtenSize) rfl ?_
      refine a_iinc C 2 [(2, .int (x2 + 1)), (0, .ref t), (1, .int x1), (3, .int ((10 * x1) + x2)), (4, .int x4_39_11)] dX9_orders_101 rfl rfl (by decide) rfl ?_
      refine a_goto C (tgt := 17) dX9_orders_104 (by decide) ?_
      refine a_sub C [1, 2, 0] [(0, .ref t), (1, .int x1), (2, .int (x2 + 1))] rfl ?_
      exact ih (x2 + 1) g90_13 (q_t_orderMany + 1) k hF hX
  have hI7 : ∀ (fuel : Nat) (x1 : Int32) (q_t_orderF : Nat → Int32) (q_t_orderMany : Int32) (k : Int32 → (Nat → Int32) → Int32 → Option ((Nat → Int32) × Int32)), f_X9_orders_L7 t_allF fuel x1 q_t_orderF q_t_orderMany k = some res → (∀ (x1 : Int32) (q_t_orderF : Nat → Int32) (q_t_orderMany : Int32), k x1 q_t_orderF q_t_orderMany = some res → aT p l e ({ frames := 4, cells := 0, slots := 0, locals := 90 } : Room) s m args below meth c (MQ below (aQv D (wX9 kc ki t t_all t_reasons t_text t_word t_order t_rows t_written t_allF t_reasonsF t_textF t_wordF t_orderF t_rowsF t_writtenF t_thrown t_changes t_isSaved t_result t_texted t_wordSize t_orderMany t_here t_fault t_faultAt t_commandMany t_writtenSize) s.heap.size (fun r => wX9 kc ki t t_all t_reasons t_text t_word t_order t_rows t_written t_allF t_reasonsF t_textF t_wordF r.1 t_rowsF t_writtenF t_thrown t_changes t_isSaved t_result t_texted t_wordSize r.2 t_here t_fault t_faultAt t_commandMany t_writtenSize) res) args s 0 0 (va_A (wX9 kc ki t t_all t_reasons t_text t_word t_order t_rows t_written t_allF t_reasonsF t_textF t_wordF t_orderF t_rowsF t_writtenF t_thrown t_changes t_isSaved t_result t_texted t_wordSize t_orderMany t_here t_fault t_faultAt t_commandMany t_writtenSize) s.heap.size)) D (va_A (wX9 kc ki t t_all t_reasons t_text t_word t_order t_rows t_written t_allF t_reasonsF t_textF t_wordF t_orderF t_rowsF t_writtenF t_thrown t_changes t_isSaved t_result t_texted t_wordSize t_orderMany t_here t_fault t_faultAt t_commandMany t_writtenSize) s.heap.size) 5 0 0 113 [] [] (wX9 kc ki t t_all t_reasons t_text t_word t_order t_rows t_written t_allF t_reasonsF t_textF t_wordF q_t_orderF t_rowsF t_writtenF t_thrown t_changes t_isSaved t_result t_texted t_wordSize q_t_orderMany t_here t_fault t_faultAt t_commandMany t_writtenSize)) → aT p l e ({ frames := 4, cells := 0, slots := 0, locals := 90 } : Room) s m args below meth c (MQ below (aQv D (wX9 kc ki t t_all t_reasons t_text t_word t_order t_rows t_written t_allF t_reasonsF t_textF t_wordF t_orderF t_rowsF t_writtenF t_thrown t_changes t_isSaved t_result t_texted t_wordSize t_orderMany t_here t_fault t_faultAt t_commandMany t_writtenSize) s.heap.size (fun r => wX9 kc ki t t_all t_reasons t_text t_word t_order t_rows t_written t_allF t_reasonsF t_textF t_wordF r.1 t_rowsF t_writtenF t_thrown t_changes t_isSaved t_result t_texted t_wordSize r.2 t_here t_fault t_faultAt t_commandMany t_writtenSize) res) args s 0 0 (va_A (wX9 kc ki t t_all t_reasons t_text t_word t_order t_rows t_written t_allF t_reasonsF t_textF t_wordF t_orderF t_rowsF t_writtenF t_thrown t_changes t_isSaved t_result t_texted t_wordSize t_orderMany t_here t_fault t_faultAt t_commandMany t_writtenSize) s.heap.size)) D (va_A (wX9 kc ki t t_all t_reasons t_text t_word t_order t_rows t_written t_allF t_reasonsF t_textF t_wordF t_orderF t_rowsF t_writtenF t_thrown t_changes t_isSaved t_result t_texted t_wordSize t_orderMany t_here t_fault t_faultAt t_commandMany t_writtenSize) s.heap.size) 5 0 0 7 [(0, .ref t), (1, .int x1)] [] (wX9 kc ki t t_all t_reasons t_text t_word t_order t_rows t_written t_allF t_reasonsF t_textF t_wordF q_t_orderF t_rowsF t_writtenF t_thrown t_changes t_isSaved t_result t_texted t_wordSize q_t_orderMany t_here t_fault t_faultAt t_commandMany t_writtenSize) := by
    intro fuel
    induction fuel with
    | zero => intro x1 q_t_orderF q_t_orderMany k hF hX; exact nomatch hF
    | succ fuel ih =>
      intro x1 q_t_orderF q_t_orderMany k hF hX
      rw [f_X9_orders_L7] at hF
      refine a_iload_n C 1 dX9_orders_7 rfl rfl ?_
      refine a_aload_n C 0 dX9_orders_8 rfl rfl ?_
      refine a_callVir C 0 [0, 1, 2, 3, 4, 5, 6, 7] 0 cs_X9_53 hd_X9_many ⟨rfl, rfl⟩ ⟨Nat.le_of_ble_eq_true rfl, Nat.le_of_ble_eq_true rfl⟩ (fun r h => c_X9_many l D J kc ki kb kl kd t t_all t_reasons t_text t_word t_order t_rows t_written t_allF t_reasonsF t_textF t_wordF q_t_orderF t_rowsF t_writtenF t_thrown t_changes t_isSaved t_result t_texted t_wordSize q_t_orderMany t_here t_fault t_faultAt t_commandMany t_writtenSize r h) rfl rfl rfl rfl rfl rfl (Nat.le_of_ble_eq_true rfl) dX9_orders_9 ⟨Nat.zero_le _, Nat.zero_le _⟩ hF (fun r9_1 er9_1 hF => ?_)
      refine a_ic_ge C (tgt := 113) dX9_orders_12 (by decide) hF (fun c12_2 hF => ?_) (fun c12_2 hF => ?_)
      · refine a_sub C [] [] rfl ?_
        exact hX x1 q_t_orderF q_t_orderMany hF
      refine a_iconst C (v := 0) dX9_orders_15 (by decide) ?_
      refine a_istore_n C [(2, .int 0), (0, .ref t), (1, .int x1)] dX9_orders_16 rfl (by decide) rfl ?_
      refine a_sub C [1, 2, 0] [(0, .ref t), (1, .int x1), (2, .int 0)] rfl ?_
      refine hI17 x1 1000 0 q_t_orderF q_t_orderMany _ hF (fun x2_17_14 q_t_orderF_17_15 q_t_orderMany_17_16 hF => ?_)
      refine a_iinc C 1 [(1, .int (x1 + 1)), (0, .ref t)] dX9_orders_107 rfl rfl (by decide) rfl ?_
      refine a_goto C (tgt := 7) dX9_orders_110 (by decide) ?_
      refine a_sub C [1, 0] [(0, .ref t), (1, .int (x1 + 1))] rfl ?_
      exact ih (x1 + 1) q_t_orderF_17_15 q_t_orderMany_17_16 k hF hX
  unfold f_X9_orders at hF
  refine a_aload_n C 0 dX9_orders_0 rfl rfl ?_
  refine a_iconst C (v := 0) dX9_orders_1 (by decide) ?_
  refine a_put C 0 11 iwX9 tyX9_ok nmX9 rfl rfl (by decide) kf_X9_141 rfl rfl rfl (Nat.le_of_ble_eq_true rfl) dX9_orders_2 ?_
  refine a_ws C (ws' := wX9 kc ki t t_all t_reasons t_text t_word t_order t_rows t_written t_allF t_reasonsF t_textF t_wordF t_orderF t_rowsF t_writtenF t_thrown t_changes t_isSaved t_result t_texted t_wordSize 0 t_here t_fault t_faultAt t_commandMany t_writtenSize) rfl ?_
  refine a_iconst C (v := 0) dX9_orders_5 (by decide) ?_
  refine a_istore_n C [(1, .int 0), (0, .ref t)] dX9_orders_6 rfl (by decide) rfl ?_
  refine a_sub C [1, 0] [(0, .ref t), (1, .int 0)] rfl ?_
  refine hI7 1000 0 t_orderF 0 _ hF (fun x1_7_17 q_t_orderF_7_18 q_t_orderMany_7_19 hF => ?_)
  exact a_vret C hr dX9_orders_113 hF rfl
theorem cs_X9_147 : GoodIn WW (wsV RX9 147 RX9 yX9_orders (aW yX9_orders cX9_orders 5 none)) := gdV kl_X9_147 ki_X9_orders kv_X9_orders kn_X9 kc_X9_orders
def f_X9_rankOf_L6 (q_t_orderF : Nat → Int32) (p1 : Int32) (p2 : Int32) : Nat → Int32 → (Int32 → Option (Int32 × (Nat → Int32) × Int32)) → Option (Int32 × (Nat → Int32) × Int32)
  | 0, _, _ => none
  | fuel + 1, x3, k => (ldi q_t_orderF 80 x3).bind fun v11_2 => if v11_2 = ((10 * p1) + p2) then (k x3) else (f_X9_rankOf_L6 q_t_orderF p1 p2 fuel (x3 + 1) k)
def f_X9_rankOf (t_allF : Nat → Int32) (t_orderF : Nat → Int32) (p1 : Int32) (p2 : Int32) : Option (Int32 × (Nat → Int32) × Int32) := (f_X9_orders t_allF t_orderF).bind fun r1_1 => f_X9_rankOf_L6 r1_1.1 p1 p2 1000 0 (fun x3_6_4 => some (x3_6_4, r1_1.1, r1_1.2))
theorem hd_X9_rankOf : yX9_rankOf.cls = RX9 ∧ yX9_rankOf.cls ≠ "java/lang/invoke/MethodHandle" ∧ yX9_rankOf.cls ≠ "java/lang/invoke/VarHandle" ∧ (parseMethodDescriptor yX9_rankOf.desc).map (fun d => d.parameters.length) = some 2 := by decide +kernel
set_option maxRecDepth 100000 in
set_option maxHeartbeats 4000000 in
theorem c_X9_rankOf (l : Launch) (D : va_G) (J : (Nat → Nat) × (Nat → Nat)) (kc ki kb kl kd : ClassId) (t : Nat) (t_all : Nat) (t_reasons : Nat) (t_text : Nat) (t_word : Nat) (t_order : Nat) (t_rows : Nat) (t_written : Nat) (t_allF : Nat → Int32) (t_reasonsF : Nat → Int32) (t_textF : Nat → Int32) (t_wordF : Nat → Int32) (t_orderF : Nat → Int32) (t_rowsF : Nat → Int32) (t_writtenF : Nat → Int32) (t_thrown : Int32) (t_changes : Int32) (t_isSaved : Int32) (t_result : Int32) (t_texted : Int32) (t_wordSize : Int32) (t_orderMany : Int32) (t_here : Int32) (t_fault : Int32) (t_faultAt : Int32) (t_commandMany : Int32) (t_writtenSize : Int32) (p1 p2 : Int32) (res : Int32 × (Nat → Int32) × Int32) (hF : f_X9_rankOf t_allF t_orderF p1 p2 = some res) : aKi l yX9_rankOf (aW yX9_rankOf cX9_rankOf 4 ((some .int))) ({ frames := 5, cells := 0, slots := 0, locals := 114 } : Room) D J (aTy kc ki kb kl kd) [.ref t, .int p1, .int p2] (wX9 kc ki t t_all t_reasons t_text t_word t_order t_rows t_written t_allF t_reasonsF t_textF t_wordF t_orderF t_rowsF t_writtenF t_thrown t_changes t_isSaved t_result t_texted t_wordSize t_orderMany t_here t_fault t_faultAt t_commandMany t_writtenSize) (fun r => r.1) (fun r => wX9 kc ki t t_all t_reasons t_text t_word t_order t_rows t_written t_allF t_reasonsF t_textF t_wordF r.2.1 t_rowsF t_writtenF t_thrown t_changes t_isSaved t_result t_texted t_wordSize r.2.2 t_here t_fault t_faultAt t_commandMany t_writtenSize) res := by
  refine aKi_of (own := RX9) (by decide) rfl (Nat.le_of_ble_eq_true rfl) rfl ?_
  intro p e s m args below meth c C hr
  have hI6 : ∀ (q_t_orderF : Nat → Int32) (q_t_orderMany : Int32) (fuel : Nat) (x3 : Int32) (k : Int32 → Option (Int32 × (Nat → Int32) × Int32)), f_X9_rankOf_L6 q_t_orderF p1 p2 fuel x3 k = some res → (∀ (x3 : Int32), k x3 = some res → aT p l e ({ frames := 5, cells := 0, slots := 0, locals := 114 } : Room) s m args below meth c (MQ below (aQi D (wX9 kc ki t t_all t_reasons t_text t_word t_order t_rows t_written t_allF t_reasonsF t_textF t_wordF t_orderF t_rowsF t_writtenF t_thrown t_changes t_isSaved t_result t_texted t_wordSize t_orderMany t_here t_fault t_faultAt t_commandMany t_writtenSize) s.heap.size (fun r => r.1) (fun r => wX9 kc ki t t_all t_reasons t_text t_word t_order t_rows t_written t_allF t_reasonsF t_textF t_wordF r.2.1 t_rowsF t_writtenF t_thrown t_changes t_isSaved t_result t_texted t_wordSize r.2.2 t_here t_fault t_faultAt t_commandMany t_writtenSize) res) args s 0 0 (va_A (wX9 kc ki t t_all t_reasons t_text t_word t_order t_rows t_written t_allF t_reasonsF t_textF t_wordF t_orderF t_rowsF t_writtenF t_thrown t_changes t_isSaved t_result t_texted t_wordSize t_orderMany t_here t_fault t_faultAt t_commandMany t_writtenSize) s.heap.size)) D (va_A (wX9 kc ki t t_all t_reasons t_text t_word t_order t_rows t_written t_allF t_reasonsF t_textF t_wordF t_orderF t_rowsF t_writtenF t_thrown t_changes t_isSaved t_result t_texted t_wordSize t_orderMany t_here t_fault t_faultAt t_commandMany t_writtenSize) s.heap.size) 4 0 0 27 [(3, .int x3)] [] (wX9 kc ki t t_all t_reasons t_text t_word t_order t_rows t_written t_allF t_reasonsF t_textF t_wordF q_t_orderF t_rowsF t_writtenF t_thrown t_changes t_isSaved t_result t_texted t_wordSize q_t_orderMany t_here t_fault t_faultAt t_commandMany t_writtenSize)) → aT p l e ({ frames := 5, cells := 0, slots := 0, locals := 114 } : Room) s m args below meth c (MQ below (aQi D (wX9 kc ki t t_all t_reasons t_text t_word t_order t_rows t_written t_allF t_reasonsF t_textF t_wordF t_orderF t_rowsF t_writtenF t_thrown t_changes t_isSaved t_result t_texted t_wordSize t_orderMany t_here t_fault t_faultAt t_commandMany t_writtenSize) s.heap.size (fun r => r.1) (fun r => wX9 kc ki t t_all t_reasons t_text t_word t_order t_rows t_written t_allF t_reasonsF t_textF t_wordF r.2.1 t_rowsF t_writtenF t_thrown t_changes t_isSaved t_result t_texted t_wordSize r.2.2 t_here t_fault t_faultAt t_commandMany t_writtenSize) res) args s 0 0 (va_A (wX9 kc ki t t_all t_reasons t_text t_word t_order t_rows t_written t_allF t_reasonsF t_textF t_wordF t_orderF t_rowsF t_writtenF t_thrown t_changes t_isSaved t_result t_texted t_wordSize t_orderMany t_here t_fault t_faultAt t_commandMany t_writtenSize) s.heap.size)) D (va_A (wX9 kc ki t t_all t_reasons t_text t_word t_order t_rows t_written t_allF t_reasonsF t_textF t_wordF t_orderF t_rowsF t_writtenF t_thrown t_changes t_isSaved t_result t_texted t_wordSize t_orderMany t_here t_fault t_faultAt t_commandMany t_writtenSize) s.heap.size) 4 0 0 6 [(0, .ref t), (1, .int p1), (2, .int p2), (3, .int x3)] [] (wX9 kc ki t t_all t_reasons t_text t_word t_order t_rows t_written t_allF t_reasonsF t_textF t_wordF q_t_orderF t_rowsF t_writtenF t_thrown t_changes t_isSaved t_result t_texted t_wordSize q_t_orderMany t_here t_fault t_faultAt t_commandMany t_writtenSize) := by
    intro q_t_orderF q_t_orderMany fuel
    induction fuel with
    | zero => intro x3 k hF hX; exact nomatch hF
    | succ fuel ih =>
      intro x3 k hF hX
      rw [f_X9_rankOf_L6] at hF
      refine a_aload_n C 0 dX9_rankOf_6 rfl rfl ?_
      refine a_get C 0 10 iwX9 rfl rfl (by decide) kf_X9_23 rfl dX9_rankOf_7 ?_
      refine a_iload_n C 3 dX9_rankOf_10 rfl rfl ?_
      refine a_iald C 5 1 rfl rfl dX9_rankOf_11 hF (fun v11_2 ev11_2 hF => ?_)
      refine a_bipush C (v := 10) dX9_rankOf_12 (by decide) ?_
      refine a_iload_n C 1 dX9_rankOf_14 rfl rfl ?_
      refine a_imul C dX9_rankOf_15 ?_
      refine a_iload_n C 2 dX9_rankOf_16 rfl rfl ?_
      refine a_iadd C dX9_rankOf_17 ?_
      refine a_ic_eq C (tgt := 27) dX9_rankOf_18 (by decide) hF (fun c18_3 hF => ?_) (fun c18_3 hF => ?_)
      · refine a_sub C [3] [(3, .int x3)] rfl ?_
        exact hX x3 hF
      refine a_iinc C 3 [(3, .int (x3 + 1)), (0, .ref t), (1, .int p1), (2, .int p2)] dX9_rankOf_21 rfl rfl (by decide) rfl ?_
      refine a_goto C (tgt := 6) dX9_rankOf_24 (by decide) ?_
      refine a_sub C [1, 2, 3, 0] [(0, .ref t), (1, .int p1), (2, .int p2), (3, .int (x3 + 1))] rfl ?_
      exact ih (x3 + 1) k hF hX
  unfold f_X9_rankOf at hF
  refine a_aload_n C 0 dX9_rankOf_0 rfl rfl ?_
  refine a_callVv C 0 [0, 1, 2, 3, 4, 5, 6, 7] 0 cs_X9_147 hd_X9_orders ⟨rfl, rfl⟩ ⟨Nat.le_of_ble_eq_true rfl, Nat.le_of_ble_eq_true rfl⟩ (fun r h => c_X9_orders l D J kc ki kb kl kd t t_all t_reasons t_text t_word t_order t_rows t_written t_allF t_reasonsF t_textF t_wordF t_orderF t_rowsF t_writtenF t_thrown t_changes t_isSaved t_result t_texted t_wordSize t_orderMany t_here t_fault t_faultAt t_commandMany t_writtenSize r h) rfl rfl rfl (fun _ => rfl) rfl rfl rfl (Nat.le_of_ble_eq_true rfl) dX9_rankOf_1 ⟨Nat.zero_le _, Nat.zero_le _⟩ hF (fun r1_1 er1_1 hF => ?_)
  refine a_ws C (ws' := wX9 kc ki t t_all t_reasons t_text t_word t_order t_rows t_written t_allF t_reasonsF t_textF t_wordF r1_1.1 t_rowsF t_writtenF t_thrown t_changes t_isSaved t_result t_texted t_wordSize r1_1.2 t_here t_fault t_faultAt t_commandMany t_writtenSize) rfl ?_
  refine a_iconst C (v := 0) dX9_rankOf_4 (by decide) ?_
  refine a_istore_n C [(3, .int 0), (0, .ref t), (1, .int p1), (2, .int p2)] dX9_rankOf_5 rfl (by decide) rfl ?_
  refine a_sub C [1, 2, 3, 0] [(0, .ref t), (1, .int p1), (2, .int p2), (3, .int 0)] rfl ?_
  refine hI6 r1_1.1 r1_1.2 1000 0 _ hF (fun x3_6_4 hF => ?_)
  refine a_iload_n C 0 dX9_rankOf_27 rfl rfl ?_
  exact a_iret C hr rfl dX9_rankOf_28 hF rfl rfl
theorem cs_X9_103 : GoodIn WW (wsV RX9 103 RX9 yX9_isPlace (aW yX9_isPlace cX9_isPlace 3 ((some .boolean)))) := gdV kl_X9_103 ki_X9_isPlace kv_X9_isPlace kn_X9 kc_X9_isPlace
theorem cs_X9_111 : GoodIn WW (wsV RX9 111 RX9 yX9_rankOf (aW yX9_rankOf cX9_rankOf 4 ((some .int)))) := gdV kl_X9_111 ki_X9_rankOf kv_X9_rankOf kn_X9 kc_X9_rankOf
def f_X9_sets_J72 (q_t_allF : Nat → Int32) (q_t_reasonsF : Nat → Int32) (q_t_orderF : Nat → Int32) (q_t_result : Int32) (q_t_orderMany : Int32) (y1 : Int32) (p1 : Int32) (p2 : Int32) (p3 : Int32) : Option (Int32 × (Nat → Int32) × (Nat → Int32) × (Nat → Int32) × Int32 × Int32) := (f_X9_refuses q_t_reasonsF y1 5 p2).bind fun r74_13 => if r74_13.1 = 0 then ((f_X9_set q_t_allF p1 p2 p3).bind fun r86_15 => (f_X9_rankOf r86_15 q_t_orderF p1 p2).bind fun r93_16 => some (1, r86_15, r74_13.2, r93_16.2.1, r93_16.1, r93_16.2.2)) else (some (0, q_t_allF, r74_13.2, q_t_orderF, q_t_result, q_t_orderMany))
def f_X9_sets_J48 (q_t_allF : Nat → Int32) (q_t_reasonsF : Nat → Int32) (q_t_orderF : Nat → Int32) (q_t_result : Int32) (q_t_orderMany : Int32) (y1 : Int32) (p1 : Int32) (p2 : Int32) (p3 : Int32) : Option (Int32 × (Nat → Int32) × (Nat → Int32) × (Nat → Int32) × Int32 × Int32) := (f_X9_refuses q_t_reasonsF y1 4 p3).bind fun r50_9 => if ¬ r50_9.1 = 0 then (some (0, q_t_allF, r50_9.2, q_t_orderF, q_t_result, q_t_orderMany)) else ((f_X9_at q_t_allF p1 p2).bind fun r60_11 => if ¬ r60_11 = p3 then (f_X9_sets_J72 q_t_allF r50_9.2 q_t_orderF q_t_result q_t_orderMany 0 p1 p2 p3) else (f_X9_sets_J72 q_t_allF r50_9.2 q_t_orderF q_t_result q_t_orderMany 1 p1 p2 p3))
def f_X9_sets_J23 (q_t_allF : Nat → Int32) (q_t_reasonsF : Nat → Int32) (q_t_orderF : Nat → Int32) (q_t_result : Int32) (q_t_orderMany : Int32) (y1 : Int32) (p1 : Int32) (p2 : Int32) (p3 : Int32) : Option (Int32 × (Nat → Int32) × (Nat → Int32) × (Nat → Int32) × Int32 × Int32) := (f_X9_refuses q_t_reasonsF y1 3 p2).bind fun r25_5 => if ¬ r25_5.1 = 0 then (some (0, q_t_allF, r25_5.2, q_t_orderF, q_t_result, q_t_orderMany)) else ((f_X9_in p3 97 122).bind fun r37_7 => if ¬ r37_7 = 0 then (f_X9_sets_J48 q_t_allF r25_5.2 q_t_orderF q_t_result q_t_orderMany 0 p1 p2 p3) else (f_X9_sets_J48 q_t_allF r25_5.2 q_t_orderF q_t_result q_t_orderMany 1 p1 p2 p3))
def f_X9_sets (t_allF : Nat → Int32) (t_reasonsF : Nat → Int32) (t_orderF : Nat → Int32) (t_result : Int32) (t_orderMany : Int32) (p1 : Int32) (p2 : Int32) (p3 : Int32) : Option (Int32 × (Nat → Int32) × (Nat → Int32) × (Nat → Int32) × Int32 × Int32) := (f_X9_isNoLine t_allF t_reasonsF p1).bind fun r2_1 => if ¬ r2_1.1 = 0 then (some (0, t_allF, r2_1.2, t_orderF, t_result, t_orderMany)) else ((f_X9_isPlace t_allF p1 p2).bind fun r12_3 => if ¬ r12_3 = 0 then (f_X9_sets_J23 t_allF r2_1.2 t_orderF t_result t_orderMany 0 p1 p2 p3) else (f_X9_sets_J23 t_allF r2_1.2 t_orderF t_result t_orderMany 1 p1 p2 p3))
theorem hd_X9_sets : yX9_sets.cls = RX9 ∧ yX9_sets.cls ≠ "java/lang/invoke/MethodHandle" ∧ yX9_sets.cls ≠ "java/lang/invoke/VarHandle" ∧ (parseMethodDescriptor yX9_sets.desc).map (fun d => d.parameters.length) = some 3 := by decide +kernel
set_option maxRecDepth 100000 in
set_option maxHeartbeats 4000000 in
theorem c_X9_sets (l : Launch) (D : va_G) (J : (Nat → Nat) × (Nat → Nat)) (kc ki kb kl kd : ClassId) (t : Nat) (t_all : Nat) (t_reasons : Nat) (t_text : Nat) (t_word : Nat) (t_order : Nat) (t_rows : Nat) (t_written : Nat) (t_allF : Nat → Int32) (t_reasonsF : Nat → Int32) (t_textF : Nat → Int32) (t_wordF : Nat → Int32) (t_orderF : Nat → Int32) (t_rowsF : Nat → Int32) (t_writtenF : Nat → Int32) (t_thrown : Int32) (t_changes : Int32) (t_isSaved : Int32) (t_result : Int32) (t_texted : Int32) (t_wordSize : Int32) (t_orderMany : Int32) (t_here : Int32) (t_fault : Int32) (t_faultAt : Int32) (t_commandMany : Int32) (t_writtenSize : Int32) (p1 p2 p3 : Int32) (res : Int32 × (Nat → Int32) × (Nat → Int32) × (Nat → Int32) × Int32 × Int32) (hF : f_X9_sets t_allF t_reasonsF t_orderF t_result t_orderMany p1 p2 p3 = some res) : aKi l yX9_sets (aW yX9_sets cX9_sets 4 ((some .boolean))) ({ frames := 6, cells := 0, slots := 0, locals := 137 } : Room) D J (aTy kc ki kb kl kd) [.ref t, .int p1, .int p2, .int p3] (wX9 kc ki t t_all t_reasons t_text t_word t_order t_rows t_written t_allF t_reasonsF t_textF t_wordF t_orderF t_rowsF t_writtenF t_thrown t_changes t_isSaved t_result t_texted t_wordSize t_orderMany t_here t_fault t_faultAt t_commandMany t_writtenSize) (fun r => r.1) (fun r => wX9 kc ki t t_all t_reasons t_text t_word t_order t_rows t_written r.2.1 r.2.2.1 t_textF t_wordF r.2.2.2.1 t_rowsF t_writtenF t_thrown t_changes t_isSaved r.2.2.2.2.1 t_texted t_wordSize r.2.2.2.2.2 t_here t_fault t_faultAt t_commandMany t_writtenSize) res := by
  refine aKi_of (own := RX9) (by decide) rfl (Nat.le_of_ble_eq_true rfl) rfl ?_
  intro p e s m args below meth c C hr
  have hJ72 : ∀ (q_t_allF : Nat → Int32) (q_t_reasonsF : Nat → Int32) (q_t_orderF : Nat → Int32) (q_t_result : Int32) (q_t_orderMany : Int32) (y1 : Int32), f_X9_sets_J72 q_t_allF q_t_reasonsF q_t_orderF q_t_result q_t_orderMany y1 p1 p2 p3 = some res → aT p l e ({ frames := 6, cells := 0, slots := 0, locals := 137 } : Room) s m args below meth c (MQ below (aQi D (wX9 kc ki t t_all t_reasons t_text t_word t_order t_rows t_written t_allF t_reasonsF t_textF t_wordF t_orderF t_rowsF t_writtenF t_thrown t_changes t_isSaved t_result t_texted t_wordSize t_orderMany t_here t_fault t_faultAt t_commandMany t_writtenSize) s.heap.size (fun r => r.1) (fun r => wX9 kc ki t t_all t_reasons t_text t_word t_order t_rows t_written r.2.1 r.2.2.1 t_textF t_wordF r.2.2.2.1 t_rowsF t_writtenF t_thrown t_changes t_isSaved r.2.2.2.2.1 t_texted t_wordSize r.2.2.2.2.2 t_here t_fault t_faultAt t_commandMany t_writtenSize) res) args s 0 0 (va_A (wX9 kc ki t t_all t_reasons t_text t_word t_order t_rows t_written t_allF t_reasonsF t_textF t_wordF t_orderF t_rowsF t_writtenF t_thrown t_changes t_isSaved t_result t_texted t_wordSize t_orderMany t_here t_fault t_faultAt t_commandMany t_writtenSize) s.heap.size)) D (va_A (wX9 kc ki t t_all t_reasons t_text t_word t_order t_rows t_written t_allF t_reasonsF t_textF t_wordF t_orderF t_rowsF t_writtenF t_thrown t_changes t_isSaved t_result t_texted t_wordSize t_orderMany t_here t_fault t_faultAt t_commandMany t_writtenSize) s.heap.size) 4 0 0 72 [(0, .ref t), (1, .int p1), (2, .int p2), (3, .int p3)] [.int y1, .ref t] (wX9 kc ki t t_all t_reasons t_text t_word t_order t_rows t_written q_t_allF q_t_reasonsF t_textF t_wordF q_t_orderF t_rowsF t_writtenF t_thrown t_changes t_isSaved q_t_result t_texted t_wordSize q_t_orderMany t_here t_fault t_faultAt t_commandMany t_writtenSize) := by
    intro q_t_allF q_t_reasonsF q_t_orderF q_t_result q_t_orderMany y1 hF
    unfold f_X9_sets_J72 at hF
    refine a_iconst C (v := 5) dX9_sets_72 (by decide) ?_
    refine a_iload_n C 2 dX9_sets_73 rfl rfl ?_
    refine a_callVi C 3 [0, 1, 2, 3, 4, 5, 6, 7] 0 cs_X9_65 hd_X9_refuses ⟨rfl, rfl⟩ ⟨Nat.le_of_ble_eq_true rfl, Nat.le_of_ble_eq_true rfl⟩ (fun r h => c_X9_refuses l D J kc ki kb kl kd t t_all t_reasons t_text t_word t_order t_rows t_written q_t_allF q_t_reasonsF t_textF t_wordF q_t_orderF t_rowsF t_writtenF t_thrown t_changes t_isSaved q_t_result t_texted t_wordSize q_t_orderMany t_here t_fault t_faultAt t_commandMany t_writtenSize y1 5 p2 r h) rfl rfl rfl (fun _ => rfl) rfl rfl rfl (Nat.le_of_ble_eq_true rfl) dX9_sets_74 ⟨Nat.zero_le _, Nat.zero_le _⟩ hF (fun r74_13 er74_13 hF => ?_)
    refine a_ws C (ws' := wX9 kc ki t t_all t_reasons t_text t_word t_order t_rows t_written q_t_allF r74_13.2 t_textF t_wordF q_t_orderF t_rowsF t_writtenF t_thrown t_changes t_isSaved q_t_result t_texted t_wordSize q_t_orderMany t_here t_fault t_faultAt t_commandMany t_writtenSize) rfl ?_
    refine a_if_eq C (tgt := 82) dX9_sets_77 (by decide) hF (fun c77_14 hF => ?_) (fun c77_14 hF => ?_)
    · refine a_aload_n C 0 dX9_sets_82 rfl rfl ?_
      refine a_iload_n C 1 dX9_sets_83 rfl rfl ?_
      refine a_iload_n C 2 dX9_sets_84 rfl rfl ?_
      refine a_iload_n C 3 dX9_sets_85 rfl rfl ?_
      refine a_callVv C 3 [0, 1, 2, 3, 4, 5, 6, 7] 0 cs_X9_75 hd_X9_set ⟨rfl, rfl⟩ ⟨Nat.le_of_ble_eq_true rfl, Nat.le_of_ble_eq_true rfl⟩ (fun r h => c_X9_set l D J kc ki kb kl kd t t_all t_reasons t_text t_word t_order t_rows t_written q_t_allF r74_13.2 t_textF t_wordF q_t_orderF t_rowsF t_writtenF t_thrown t_changes t_isSaved q_t_result t_texted t_wordSize q_t_orderMany t_here t_fault t_faultAt t_commandMany t_writtenSize p1 p2 p3 r h) rfl rfl rfl (fun _ => rfl) rfl rfl rfl (Nat.le_of_ble_eq_true rfl) dX9_sets_86 ⟨Nat.zero_le _, Nat.zero_le _⟩ hF (fun r86_15 er86_15 hF => ?_)
      refine a_ws C (ws' := wX9 kc ki t t_all t_reasons t_text t_word t_order t_rows t_written r86_15 r74_13.2 t_textF t_wordF q_t_orderF t_rowsF t_writtenF t_thrown t_changes t_isSaved q_t_result t_texted t_wordSize q_t_orderMany t_here t_fault t_faultAt t_commandMany t_writtenSize) rfl ?_
      refine a_aload_n C 0 dX9_sets_89 rfl rfl ?_
      refine a_aload_n C 0 dX9_sets_90 rfl rfl ?_
      refine a_iload_n C 1 dX9_sets_91 rfl rfl ?_
      refine a_iload_n C 2 dX9_sets_92 rfl rfl ?_
      refine a_callVi C 2 [0, 1, 2, 3, 4, 5, 6, 7] 0 cs_X9_111 hd_X9_rankOf ⟨rfl, rfl⟩ ⟨Nat.le_of_ble_eq_true rfl, Nat.le_of_ble_eq_true rfl⟩ (fun r h => c_X9_rankOf l D J kc ki kb kl kd t t_all t_reasons t_text t_word t_order t_rows t_written r86_15 r74_13.2 t_textF t_wordF q_t_orderF t_rowsF t_writtenF t_thrown t_changes t_isSaved q_t_result t_texted t_wordSize q_t_orderMany t_here t_fault t_faultAt t_commandMany t_writtenSize p1 p2 r h) rfl rfl rfl (fun _ => rfl) rfl rfl rfl (Nat.le_of_ble_eq_true rfl) dX9_sets_93 ⟨Nat.zero_le _, Nat.zero_le _⟩ hF (fun r93_16 er93_16 hF => ?_)
      refine a_ws C (ws' := wX9 kc ki t t_all t_reasons t_text t_word t_order t_rows t_written r86_15 r74_13.2 t_textF t_wordF r93_16.2.1 t_rowsF t_writtenF t_thrown t_changes t_isSaved q_t_result t_texted t_wordSize r93_16.2.2 t_here t_fault t_faultAt t_commandMany t_writtenSize) rfl ?_
      refine a_put C 0 4 iwX9 tyX9_ok nmX9 rfl rfl (by decide) kf_X9_46 rfl rfl rfl (Nat.le_of_ble_eq_true rfl) dX9_sets_96 ?_
      refine a_ws C (ws' := wX9 kc ki t t_all t_reasons t_text t_word t_order t_rows t_written r86_15 r74_13.2 t_textF t_wordF r93_16.2.1 t_rowsF t_writtenF t_thrown t_changes t_isSaved r93_16.1 t_texted t_wordSize r93_16.2.2 t_here t_fault t_faultAt t_commandMany t_writtenSize) rfl ?_
      refine a_iconst C (v := 1) dX9_sets_99 (by decide) ?_
      exact a_iret C hr rfl dX9_sets_100 hF rfl rfl
    refine a_iconst C (v := 0) dX9_sets_80 (by decide) ?_
    exact a_iret C hr rfl dX9_sets_81 hF rfl rfl
  have hJ48 : ∀ (q_t_allF : Nat → Int32) (q_t_reasonsF : Nat → Int32) (q_t_orderF : Nat → Int32) (q_t_result : Int32) (q_t_orderMany : Int32) (y1 : Int32), f_X9_sets_J48 q_t_allF q_t_reasonsF q_t_orderF q_t_result q_t_orderMany y1 p1 p2 p3 = some res → aT p l e ({ frames := 6, cells := 0, slots := 0, locals := 137 } : Room) s m args below meth c (MQ below (aQi D (wX9 kc ki t t_all t_reasons t_text t_word t_order t_rows t_written t_allF t_reasonsF t_textF t_wordF t_orderF t_rowsF t_writtenF t_thrown t_changes t_isSaved t_result t_texted t_wordSize t_orderMany t_here t_fault t_faultAt t_commandMany t_writtenSize) s.heap.size (fun r => r.1) (fun r => wX9 kc ki t t_all t_reasons t_text t_word t_order t_rows t_written r.2.1 r.2.2.1 t_textF t_wordF r.2.2.2.1 t_rowsF t_writtenF t_thrown t_changes t_isSaved r.2.2.2.2.1 t_texted t_wordSize r.2.2.2.2.2 t_here t_fault t_faultAt t_commandMany t_writtenSize) res) args s 0 0 (va_A (wX9 kc ki t t_all t_reasons t_text t_word t_order t_rows t_written t_allF t_reasonsF t_textF t_wordF t_orderF t_rowsF t_writtenF t_thrown t_changes t_isSaved t_result t_texted t_wordSize t_orderMany t_here t_fault t_faultAt t_commandMany t_writtenSize) s.heap.size)) D (va_A (wX9 kc ki t t_all t_reasons t_text t_word t_order t_rows t_written t_allF t_reasonsF t_textF t_wordF t_orderF t_rowsF t_writtenF t_thrown t_changes t_isSaved t_result t_texted t_wordSize t_orderMany t_here t_fault t_faultAt t_commandMany t_writtenSize) s.heap.size) 4 0 0 48 [(0, .ref t), (1, .int p1), (2, .int p2), (3, .int p3)] [.int y1, .ref t] (wX9 kc ki t t_all t_reasons t_text t_word t_order t_rows t_written q_t_allF q_t_reasonsF t_textF t_wordF q_t_orderF t_rowsF t_writtenF t_thrown t_changes t_isSaved q_t_result t_texted t_wordSize q_t_orderMany t_here t_fault t_faultAt t_commandMany t_writtenSize) := by
    intro q_t_allF q_t_reasonsF q_t_orderF q_t_result q_t_orderMany y1 hF
    unfold f_X9_sets_J48 at hF
    refine a_iconst C (v := 4) dX9_sets_48 (by decide) ?_
    refine a_iload_n C 3 dX9_sets_49 rfl rfl ?_
    refine a_callVi C 3 [0, 1, 2, 3, 4, 5, 6, 7] 0 cs_X9_65 hd_X9_refuses ⟨rfl, rfl⟩ ⟨Nat.le_of_ble_eq_true rfl, Nat.le_of_ble_eq_true rfl⟩ (fun r h => c_X9_refuses l D J kc ki kb kl kd t t_all t_reasons t_text t_word t_order t_rows t_written q_t_allF q_t_reasonsF t_textF t_wordF q_t_orderF t_rowsF t_writtenF t_thrown t_changes t_isSaved q_t_result t_texted t_wordSize q_t_orderMany t_here t_fault t_faultAt t_commandMany t_writtenSize y1 4 p3 r h) rfl rfl rfl (fun _ => rfl) rfl rfl rfl (Nat.le_of_ble_eq_true rfl) dX9_sets_50 ⟨Nat.zero_le _, Nat.zero_le _⟩ hF (fun r50_9 er50_9 hF => ?_)
    refine a_ws C (ws' := wX9 kc ki t t_all t_reasons t_text t_word t_order t_rows t_written q_t_allF r50_9.2 t_textF t_wordF q_t_orderF t_rowsF t_writtenF t_thrown t_changes t_isSaved q_t_result t_texted t_wordSize q_t_orderMany t_here t_fault t_faultAt t_commandMany t_writtenSize) rfl ?_
    refine a_if_ne C (tgt := 80) dX9_sets_53 (by decide) hF (fun c53_10 hF => ?_) (fun c53_10 hF => ?_)
    · refine a_iconst C (v := 0) dX9_sets_80 (by decide) ?_
      exact a_iret C hr rfl dX9_sets_81 hF rfl rfl
    refine a_aload_n C 0 dX9_sets_56 rfl rfl ?_
    refine a_aload_n C 0 dX9_sets_57 rfl rfl ?_
    refine a_iload_n C 1 dX9_sets_58 rfl rfl ?_
    refine a_iload_n C 2 dX9_sets_59 rfl rfl ?_
    refine a_callVir C 2 [0, 1, 2, 3, 4, 5, 6, 7] 0 cs_X9_107 hd_X9_at ⟨rfl, rfl⟩ ⟨Nat.le_of_ble_eq_true rfl, Nat.le_of_ble_eq_true rfl⟩ (fun r h => c_X9_at l D J kc ki kb kl kd t t_all t_reasons t_text t_word t_order t_rows t_written q_t_allF r50_9.2 t_textF t_wordF q_t_orderF t_rowsF t_writtenF t_thrown t_changes t_isSaved q_t_result t_texted t_wordSize q_t_orderMany t_here t_fault t_faultAt t_commandMany t_writtenSize p1 p2 r h) rfl rfl rfl rfl rfl rfl (Nat.le_of_ble_eq_true rfl) dX9_sets_60 ⟨Nat.zero_le _, Nat.zero_le _⟩ hF (fun r60_11 er60_11 hF => ?_)
    refine a_iload_n C 3 dX9_sets_63 rfl rfl ?_
    refine a_ic_ne C (tgt := 71) dX9_sets_64 (by decide) hF (fun c64_12 hF => ?_) (fun c64_12 hF => ?_)
    · refine a_iconst C (v := 0) dX9_sets_71 (by decide) ?_
      exact hJ72 q_t_allF r50_9.2 q_t_orderF q_t_result q_t_orderMany 0 hF
    refine a_iconst C (v := 1) dX9_sets_67 (by decide) ?_
    refine a_goto C (tgt := 72) dX9_sets_68 (by decide) ?_
    exact hJ72 q_t_allF r50_9.2 q_t_orderF q_t_result q_t_orderMany 1 hF
  have hJ23 : ∀ (q_t_allF : Nat → Int32) (q_t_reasonsF : Nat → Int32) (q_t_orderF : Nat → Int32) (q_t_result : Int32) (q_t_orderMany : Int32) (y1 : Int32), f_X9_sets_J23 q_t_allF q_t_reasonsF q_t_orderF q_t_result q_t_orderMany y1 p1 p2 p3 = some res → aT p l e ({ frames := 6, cells := 0, slots := 0, locals := 137 } : Room) s m args below meth c (MQ below (aQi D (wX9 kc ki t t_all t_reasons t_text t_word t_order t_rows t_written t_allF t_reasonsF t_textF t_wordF t_orderF t_rowsF t_writtenF t_thrown t_changes t_isSaved t_result t_texted t_wordSize t_orderMany t_here t_fault t_faultAt t_commandMany t_writtenSize) s.heap.size (fun r => r.1) (fun r => wX9 kc ki t t_all t_reasons t_text t_word t_order t_rows t_written r.2.1 r.2.2.1 t_textF t_wordF r.2.2.2.1 t_rowsF t_writtenF t_thrown t_changes t_isSaved r.2.2.2.2.1 t_texted t_wordSize r.2.2.2.2.2 t_here t_fault t_faultAt t_commandMany t_writtenSize) res) args s 0 0 (va_A (wX9 kc ki t t_all t_reasons t_text t_word t_order t_rows t_written t_allF t_reasonsF t_textF t_wordF t_orderF t_rowsF t_writtenF t_thrown t_changes t_isSaved t_result t_texted t_wordSize t_orderMany t_here t_fault t_faultAt t_commandMany t_writtenSize) s.heap.size)) D (va_A (wX9 kc ki t t_all t_reasons t_text t_word t_order t_rows t_written t_allF t_reasonsF t_textF t_wordF t_orderF t_rowsF t_writtenF t_thrown t_changes t_isSaved t_result t_texted t_wordSize t_orderMany t_here t_fault t_faultAt t_commandMany t_writtenSize) s.heap.size) 4 0 0 23 [(0, .ref t), (1, .int p1), (2, .int p2), (3, .int p3)] [.int y1, .ref t] (wX9 kc ki t t_all t_reasons t_text t_word t_order t_rows t_written q_t_allF q_t_reasonsF t_textF t_wordF q_t_orderF t_rowsF t_writtenF t_thrown t_changes t_isSaved q_t_result t_texted t_wordSize q_t_orderMany t_here t_fault t_faultAt t_commandMany t_writtenSize) := by
    intro q_t_allF q_t_reasonsF q_t_orderF q_t_result q_t_orderMany y1 hF
    unfold f_X9_sets_J23 at hF
    refine a_iconst C (v := 3) dX9_sets_23 (by decide) ?_
    refine a_iload_n C 2 dX9_sets_24 rfl rfl ?_
    refine a_callVi C 3 [0, 1, 2, 3, 4, 5, 6, 7] 0 cs_X9_65 hd_X9_refuses ⟨rfl, rfl⟩ ⟨Nat.le_of_ble_eq_true rfl, Nat.le_of_ble_eq_true rfl⟩ (fun r h => c_X9_refuses l D J kc ki kb kl kd t t_all t_reasons t_text t_word t_order t_rows t_written q_t_allF q_t_reasonsF t_textF t_wordF q_t_orderF t_rowsF t_writtenF t_thrown t_changes t_isSaved q_t_result t_texted t_wordSize q_t_orderMany t_here t_fault t_faultAt t_commandMany t_writtenSize y1 3 p2 r h) rfl rfl rfl (fun _ => rfl) rfl rfl rfl (Nat.le_of_ble_eq_true rfl) dX9_sets_25 ⟨Nat.zero_le _, Nat.zero_le _⟩ hF (fun r25_5 er25_5 hF => ?_)
    refine a_ws C (ws' := wX9 kc ki t t_all t_reasons t_text t_word t_order t_rows t_written q_t_allF r25_5.2 t_textF t_wordF q_t_orderF t_rowsF t_writtenF t_thrown t_changes t_isSaved q_t_result t_texted t_wordSize q_t_orderMany t_here t_fault t_faultAt t_commandMany t_writtenSize) rfl ?_
    refine a_if_ne C (tgt := 80) dX9_sets_28 (by decide) hF (fun c28_6 hF => ?_) (fun c28_6 hF => ?_)
    · refine a_iconst C (v := 0) dX9_sets_80 (by decide) ?_
      exact a_iret C hr rfl dX9_sets_81 hF rfl rfl
    refine a_aload_n C 0 dX9_sets_31 rfl rfl ?_
    refine a_iload_n C 3 dX9_sets_32 rfl rfl ?_
    refine a_bipush C (v := 97) dX9_sets_33 (by decide) ?_
    refine a_bipush C (v := 122) dX9_sets_35 (by decide) ?_
    refine a_callSir C 3 [] cs_X9_49 hd_X9_in ⟨rfl, rfl⟩ ⟨Nat.le_of_ble_eq_true rfl, Nat.le_of_ble_eq_true rfl⟩ (fun r h => c_X9_in l D J kc ki kb kl kd p3 97 122 r h) rfl rfl rfl rfl (Nat.le_of_ble_eq_true rfl) dX9_sets_37 ⟨Nat.zero_le _, Nat.zero_le _⟩ hF (fun r37_7 er37_7 hF => ?_)
    refine a_if_ne C (tgt := 47) dX9_sets_40 (by decide) hF (fun c40_8 hF => ?_) (fun c40_8 hF => ?_)
    · refine a_iconst C (v := 0) dX9_sets_47 (by decide) ?_
      exact hJ48 q_t_allF r25_5.2 q_t_orderF q_t_result q_t_orderMany 0 hF
    refine a_iconst C (v := 1) dX9_sets_43 (by decide) ?_
    refine a_goto C (tgt := 48) dX9_sets_44 (by decide) ?_
    exact hJ48 q_t_allF r25_5.2 q_t_orderF q_t_result q_t_orderMany 1 hF
  unfold f_X9_sets at hF
  refine a_aload_n C 0 dX9_sets_0 rfl rfl ?_
  refine a_iload_n C 1 dX9_sets_1 rfl rfl ?_
  refine a_callVi C 1 [0, 1, 2, 3, 4, 5, 6, 7] 0 cs_X9_93 hd_X9_isNoLine ⟨rfl, rfl⟩ ⟨Nat.le_of_ble_eq_true rfl, Nat.le_of_ble_eq_true rfl⟩ (fun r h => c_X9_isNoLine l D J kc ki kb kl kd t t_all t_reasons t_text t_word t_order t_rows t_written t_allF t_reasonsF t_textF t_wordF t_orderF t_rowsF t_writtenF t_thrown t_changes t_isSaved t_result t_texted t_wordSize t_orderMany t_here t_fault t_faultAt t_commandMany t_writtenSize p1 r h) rfl rfl rfl (fun _ => rfl) rfl rfl rfl (Nat.le_of_ble_eq_true rfl) dX9_sets_2 ⟨Nat.zero_le _, Nat.zero_le _⟩ hF (fun r2_1 er2_1 hF => ?_)
  refine a_ws C (ws' := wX9 kc ki t t_all t_reasons t_text t_word t_order t_rows t_written t_allF r2_1.2 t_textF t_wordF t_orderF t_rowsF t_writtenF t_thrown t_changes t_isSaved t_result t_texted t_wordSize t_orderMany t_here t_fault t_faultAt t_commandMany t_writtenSize) rfl ?_
  refine a_if_ne C (tgt := 80) dX9_sets_5 (by decide) hF (fun c5_2 hF => ?_) (fun c5_2 hF => ?_)
  · refine a_iconst C (v := 0) dX9_sets_80 (by decide) ?_
    exact a_iret C hr rfl dX9_sets_81 hF rfl rfl
  refine a_aload_n C 0 dX9_sets_8 rfl rfl ?_
  refine a_aload_n C 0 dX9_sets_9 rfl rfl ?_
  refine a_iload_n C 1 dX9_sets_10 rfl rfl ?_
  refine a_iload_n C 2 dX9_sets_11 rfl rfl ?_
  refine a_callVir C 2 [0, 1, 2, 3, 4, 5, 6, 7] 0 cs_X9_103 hd_X9_isPlace ⟨rfl, rfl⟩ ⟨Nat.le_of_ble_eq_true rfl, Nat.le_of_ble_eq_true rfl⟩ (fun r h => c_X9_isPlace l D J kc ki kb kl kd t t_all t_reasons t_text t_word t_order t_rows t_written t_allF r2_1.2 t_textF t_wordF t_orderF t_rowsF t_writtenF t_thrown t_changes t_isSaved t_result t_texted t_wordSize t_orderMany t_here t_fault t_faultAt t_commandMany t_writtenSize p1 p2 r h) rfl rfl rfl rfl rfl rfl (Nat.le_of_ble_eq_true rfl) dX9_sets_12 ⟨Nat.zero_le _, Nat.zero_le _⟩ hF (fun r12_3 er12_3 hF => ?_)
  refine a_if_ne C (tgt := 22) dX9_sets_15 (by decide) hF (fun c15_4 hF => ?_) (fun c15_4 hF => ?_)
  · refine a_iconst C (v := 0) dX9_sets_22 (by decide) ?_
    exact hJ23 t_allF r2_1.2 t_orderF t_result t_orderMany 0 hF
  refine a_iconst C (v := 1) dX9_sets_18 (by decide) ?_
  refine a_goto C (tgt := 23) dX9_sets_19 (by decide) ?_
  exact hJ23 t_allF r2_1.2 t_orderF t_result t_orderMany 1 hF
theorem cs_X9_114 : GoodIn WW (wsV RX9 114 RX9 yX9_sets (aW yX9_sets cX9_sets 4 ((some .boolean)))) := gdV kl_X9_114 ki_X9_sets kv_X9_sets kn_X9 kc_X9_sets
def f_X9_change (t_allF : Nat → Int32) (t_reasonsF : Nat → Int32) (t_orderF : Nat → Int32) (t_changes : Int32) (t_result : Int32) (t_orderMany : Int32) (p1 : Int32) (p2 : Int32) (p3 : Int32) : Option (Int32 × (Nat → Int32) × (Nat → Int32) × (Nat → Int32) × Int32 × Int32 × Int32 × Int32) := (f_X9_begins t_allF).bind fun r1_1 => (f_X9_sets r1_1 t_reasonsF t_orderF t_result t_orderMany p1 p2 p3).bind fun r9_2 => (f_X9_ends r9_2.2.1 t_changes r9_2.2.2.2.2.1 r9_2.1 1).bind fun r13_3 => some (r13_3.1, r13_3.2.1, r9_2.2.2.1, r9_2.2.2.2.1, r13_3.2.2.1, r13_3.2.2.2, r9_2.2.2.2.2.1, r9_2.2.2.2.2.2)
theorem hd_X9_change : yX9_change.cls = RX9 ∧ yX9_change.cls ≠ "java/lang/invoke/MethodHandle" ∧ yX9_change.cls ≠ "java/lang/invoke/VarHandle" ∧ (parseMethodDescriptor yX9_change.desc).map (fun d => d.parameters.length) = some 3 := by decide +kernel
set_option maxRecDepth 100000 in
set_option maxHeartbeats 4000000 in
theorem c_X9_change (l : Launch) (D : va_G) (J : (Nat → Nat) × (Nat → Nat)) (kc ki kb kl kd : ClassId) (t : Nat) (t_all : Nat) (t_reasons : Nat) (t_text : Nat) (t_word : Nat) (t_order : Nat) (t_rows : Nat) (t_written : Nat) (t_allF : Nat → Int32) (t_reasonsF : Nat → Int32) (t_textF : Nat → Int32) (t_wordF : Nat → Int32) (t_orderF : Nat → Int32) (t_rowsF : Nat → Int32) (t_writtenF : Nat → Int32) (t_thrown : Int32) (t_changes : Int32) (t_isSaved : Int32) (t_result : Int32) (t_texted : Int32) (t_wordSize : Int32) (t_orderMany : Int32) (t_here : Int32) (t_fault : Int32) (t_faultAt : Int32) (t_commandMany : Int32) (t_writtenSize : Int32) (p1 p2 p3 : Int32) (res : Int32 × (Nat → Int32) × (Nat → Int32) × (Nat → Int32) × Int32 × Int32 × Int32 × Int32) (hF : f_X9_change t_allF t_reasonsF t_orderF t_changes t_result t_orderMany p1 p2 p3 = some res) : aKi l yX9_change (aW yX9_change cX9_change 4 ((some .int))) ({ frames := 7, cells := 0, slots := 0, locals := 160 } : Room) D J (aTy kc ki kb kl kd) [.ref t, .int p1, .int p2, .int p3] (wX9 kc ki t t_all t_reasons t_text t_word t_order t_rows t_written t_allF t_reasonsF t_textF t_wordF t_orderF t_rowsF t_writtenF t_thrown t_changes t_isSaved t_result t_texted t_wordSize t_orderMany t_here t_fault t_faultAt t_commandMany t_writtenSize) (fun r => r.1) (fun r => wX9 kc ki t t_all t_reasons t_text t_word t_order t_rows t_written r.2.1 r.2.2.1 t_textF t_wordF r.2.2.2.1 t_rowsF t_writtenF r.2.2.2.2.1 r.2.2.2.2.2.1 t_isSaved r.2.2.2.2.2.2.1 t_texted t_wordSize r.2.2.2.2.2.2.2 t_here t_fault t_faultAt t_commandMany t_writtenSize) res := by
  refine aKi_of (own := RX9) (by decide) rfl (Nat.le_of_ble_eq_true rfl) rfl ?_
  intro p e s m args below meth c C hr
  unfold f_X9_change at hF
  refine a_aload_n C 0 dX9_change_0 rfl rfl ?_
  refine a_callVv C 0 [0, 1, 2, 3, 4, 5, 6, 7] 0 cs_X9_83 hd_X9_begins ⟨rfl, rfl⟩ ⟨Nat.le_of_ble_eq_true rfl, Nat.le_of_ble_eq_true rfl⟩ (fun r h => c_X9_begins l D J kc ki kb kl kd t t_all t_reasons t_text t_word t_order t_rows t_written t_allF t_reasonsF t_textF t_wordF t_orderF t_rowsF t_writtenF t_thrown t_changes t_isSaved t_result t_texted t_wordSize t_orderMany t_here t_fault t_faultAt t_commandMany t_writtenSize r h) rfl rfl rfl (fun _ => rfl) rfl rfl rfl (Nat.le_of_ble_eq_true rfl) dX9_change_1 ⟨Nat.zero_le _, Nat.zero_le _⟩ hF (fun r1_1 er1_1 hF => ?_)
  refine a_ws C (ws' := wX9 kc ki t t_all t_reasons t_text t_word t_order t_rows t_written r1_1 t_reasonsF t_textF t_wordF t_orderF t_rowsF t_writtenF t_thrown t_changes t_isSaved t_result t_texted t_wordSize t_orderMany t_here t_fault t_faultAt t_commandMany t_writtenSize) rfl ?_
  refine a_aload_n C 0 dX9_change_4 rfl rfl ?_
  refine a_aload_n C 0 dX9_change_5 rfl rfl ?_
  refine a_iload_n C 1 dX9_change_6 rfl rfl ?_
  refine a_iload_n C 2 dX9_change_7 rfl rfl ?_
  refine a_iload_n C 3 dX9_change_8 rfl rfl ?_
  refine a_callVi C 3 [0, 1, 2, 3, 4, 5, 6, 7] 0 cs_X9_114 hd_X9_sets ⟨rfl, rfl⟩ ⟨Nat.le_of_ble_eq_true rfl, Nat.le_of_ble_eq_true rfl⟩ (fun r h => c_X9_sets l D J kc ki kb kl kd t t_all t_reasons t_text t_word t_order t_rows t_written r1_1 t_reasonsF t_textF t_wordF t_orderF t_rowsF t_writtenF t_thrown t_changes t_isSaved t_result t_texted t_wordSize t_orderMany t_here t_fault t_faultAt t_commandMany t_writtenSize p1 p2 p3 r h) rfl rfl rfl (fun _ => rfl) rfl rfl rfl (Nat.le_of_ble_eq_true rfl) dX9_change_9 ⟨Nat.zero_le _, Nat.zero_le _⟩ hF (fun r9_2 er9_2 hF => ?_)
  refine a_ws C (ws' := wX9 kc ki t t_all t_reasons t_text t_word t_order t_rows t_written r9_2.2.1 r9_2.2.2.1 t_textF t_wordF r9_2.2.2.2.1 t_rowsF t_writtenF t_thrown t_changes t_isSaved r9_2.2.2.2.2.1 t_texted t_wordSize r9_2.2.2.2.2.2 t_here t_fault t_faultAt t_commandMany t_writtenSize) rfl ?_
  refine a_iconst C (v := 1) dX9_change_12 (by decide) ?_
  refine a_callVi C 2 [0, 1, 2, 3, 4, 5, 6, 7] 0 cs_X9_89 hd_X9_ends ⟨rfl, rfl⟩ ⟨Nat.le_of_ble_eq_true rfl, Nat.le_of_ble_eq_true rfl⟩ (fun r h => c_X9_ends l D J kc ki kb kl kd t t_all t_reasons t_text t_word t_order t_rows t_written r9_2.2.1 r9_2.2.2.1 t_textF t_wordF r9_2.2.2.2.1 t_rowsF t_writtenF t_thrown t_changes t_isSaved r9_2.2.2.2.2.1 t_texted t_wordSize r9_2.2.2.2.2.2 t_here t_fault t_faultAt t_commandMany t_writtenSize r9_2.1 1 r h) rfl rfl rfl (fun _ => rfl) rfl rfl rfl (Nat.le_of_ble_eq_true rfl) dX9_change_13 ⟨Nat.zero_le _, Nat.zero_le _⟩ hF (fun r13_3 er13_3 hF => ?_)
  refine a_ws C (ws' := wX9 kc ki t t_all t_reasons t_text t_word t_order t_rows t_written r13_3.2.1 r9_2.2.2.1 t_textF t_wordF r9_2.2.2.2.1 t_rowsF t_writtenF r13_3.2.2.1 r13_3.2.2.2 t_isSaved r9_2.2.2.2.2.1 t_texted t_wordSize r9_2.2.2.2.2.2 t_here t_fault t_faultAt t_commandMany t_writtenSize) rfl ?_
  exact a_iret C hr rfl dX9_change_16 hF rfl rfl
def f_X9_areOne_J27 (q_t_reasonsF : Nat → Int32) (y1 : Int32) (p1 : Int32) : Option (Int32 × (Nat → Int32)) := (f_X9_refuses q_t_reasonsF y1 6 p1).bind fun r30_6 => if r30_6.1 = 0 then (some (0, r30_6.2)) else (some (1, r30_6.2))
def f_X9_areOne (t_allF : Nat → Int32) (t_reasonsF : Nat → Int32) (p1 : Int32) (p2 : Int32) : Option (Int32 × (Nat → Int32)) := (f_X9_isNoLine t_allF t_reasonsF p1).bind fun r2_1 => if ¬ r2_1.1 = 0 then (some (1, r2_1.2)) else ((f_X9_isNoLine t_allF r2_1.2 p2).bind fun r10_3 => if ¬ r10_3.1 = 0 then (some (1, r10_3.2)) else (if ¬ p1 = p2 then (f_X9_areOne_J27 r10_3.2 0 p1) else (f_X9_areOne_J27 r10_3.2 1 p1)))
theorem hd_X9_areOne : yX9_areOne.cls = RX9 ∧ yX9_areOne.cls ≠ "java/lang/invoke/MethodHandle" ∧ yX9_areOne.cls ≠ "java/lang/invoke/VarHandle" ∧ (parseMethodDescriptor yX9_areOne.desc).map (fun d => d.parameters.length) = some 2 := by decide +kernel
set_option maxRecDepth 100000 in
set_option maxHeartbeats 4000000 in
theorem c_X9_areOne (l : Launch) (D : va_G) (J : (Nat → Nat) × (Nat → Nat)) (kc ki kb kl kd : ClassId) (t : Nat) (t_all : Nat) (t_reasons : Nat) (t_text : Nat) (t_word : Nat) (t_order : Nat) (t_rows : Nat) (t_written : Nat) (t_allF : Nat → Int32) (t_reasonsF : Nat → Int32) (t_textF : Nat → Int32) (t_wordF : Nat → Int32) (t_orderF : Nat → Int32) (t_rowsF : Nat → Int32) (t_writtenF : Nat → Int32) (t_thrown : Int32) (t_changes : Int32) (t_isSaved : Int32) (t_result : Int32) (t_texted : Int32) (t_wordSize : Int32) (t_orderMany : Int32) (t_here : Int32) (t_fault : Int32) (t_faultAt : Int32) (t_commandMany : Int32) (t_writtenSize : Int32) (p1 p2 : Int32) (res : Int32 × (Nat → Int32)) (hF : f_X9_areOne t_allF t_reasonsF p1 p2 = some res) : aKi l yX9_areOne (aW yX9_areOne cX9_areOne 3 ((some .boolean))) ({ frames := 3, cells := 0, slots := 0, locals := 64 } : Room) D J (aTy kc ki kb kl kd) [.ref t, .int p1, .int p2] (wX9 kc ki t t_all t_reasons t_text t_word t_order t_rows t_written t_allF t_reasonsF t_textF t_wordF t_orderF t_rowsF t_writtenF t_thrown t_changes t_isSaved t_result t_texted t_wordSize t_orderMany t_here t_fault t_faultAt t_commandMany t_writtenSize) (fun r => r.1) (fun r => wX9 kc ki t t_all t_reasons t_text t_word t_order t_rows t_written t_allF r.2 t_textF t_wordF t_orderF t_rowsF t_writtenF t_thrown t_changes t_isSaved t_result t_texted t_wordSize t_orderMany t_here t_fault t_faultAt t_commandMany t_writtenSize) res := by
  refine aKi_of (own := RX9) (by decide) rfl (Nat.le_of_ble_eq_true rfl) rfl ?_
  intro p e s m args below meth c C hr
  have hJ27 : ∀ (q_t_reasonsF : Nat → Int32) (y1 : Int32), f_X9_areOne_J27 q_t_reasonsF y1 p1 = some res → aT p l e ({ frames := 3, cells := 0, slots := 0, locals := 64 } : Room) s m args below meth c (MQ below (aQi D (wX9 kc ki t t_all t_reasons t_text t_word t_order t_rows t_written t_allF t_reasonsF t_textF t_wordF t_orderF t_rowsF t_writtenF t_thrown t_changes t_isSaved t_result t_texted t_wordSize t_orderMany t_here t_fault t_faultAt t_commandMany t_writtenSize) s.heap.size (fun r => r.1) (fun r => wX9 kc ki t t_all t_reasons t_text t_word t_order t_rows t_written t_allF r.2 t_textF t_wordF t_orderF t_rowsF t_writtenF t_thrown t_changes t_isSaved t_result t_texted t_wordSize t_orderMany t_here t_fault t_faultAt t_commandMany t_writtenSize) res) args s 0 0 (va_A (wX9 kc ki t t_all t_reasons t_text t_word t_order t_rows t_written t_allF t_reasonsF t_textF t_wordF t_orderF t_rowsF t_writtenF t_thrown t_changes t_isSaved t_result t_texted t_wordSize t_orderMany t_here t_fault t_faultAt t_commandMany t_writtenSize) s.heap.size)) D (va_A (wX9 kc ki t t_all t_reasons t_text t_word t_order t_rows t_written t_allF t_reasonsF t_textF t_wordF t_orderF t_rowsF t_writtenF t_thrown t_changes t_isSaved t_result t_texted t_wordSize t_orderMany t_here t_fault t_faultAt t_commandMany t_writtenSize) s.heap.size) 3 0 0 27 [(1, .int p1)] [.int y1, .ref t] (wX9 kc ki t t_all t_reasons t_text t_word t_order t_rows t_written t_allF q_t_reasonsF t_textF t_wordF t_orderF t_rowsF t_writtenF t_thrown t_changes t_isSaved t_result t_texted t_wordSize t_orderMany t_here t_fault t_faultAt t_commandMany t_writtenSize) := by
    intro q_t_reasonsF y1 hF
    unfold f_X9_areOne_J27 at hF
    refine a_bipush C (v := 6) dX9_areOne_27 (by decide) ?_
    refine a_iload_n C 0 dX9_areOne_29 rfl rfl ?_
    refine a_callVi C 3 [0, 1, 2, 3, 4, 5, 6, 7] 0 cs_X9_65 hd_X9_refuses ⟨rfl, rfl⟩ ⟨Nat.le_of_ble_eq_true rfl, Nat.le_of_ble_eq_true rfl⟩ (fun r h => c_X9_refuses l D J kc ki kb kl kd t t_all t_reasons t_text t_word t_order t_rows t_written t_allF q_t_reasonsF t_textF t_wordF t_orderF t_rowsF t_writtenF t_thrown t_changes t_isSaved t_result t_texted t_wordSize t_orderMany t_here t_fault t_faultAt t_commandMany t_writtenSize y1 6 p1 r h) rfl rfl rfl (fun _ => rfl) rfl rfl rfl (Nat.le_of_ble_eq_true rfl) dX9_areOne_30 ⟨Nat.zero_le _, Nat.zero_le _⟩ hF (fun r30_6 er30_6 hF => ?_)
    refine a_ws C (ws' := wX9 kc ki t t_all t_reasons t_text t_word t_order t_rows t_written t_allF r30_6.2 t_textF t_wordF t_orderF t_rowsF t_writtenF t_thrown t_changes t_isSaved t_result t_texted t_wordSize t_orderMany t_here t_fault t_faultAt t_commandMany t_writtenSize) rfl ?_
    refine a_if_eq C (tgt := 40) dX9_areOne_33 (by decide) hF (fun c33_7 hF => ?_) (fun c33_7 hF => ?_)
    · refine a_iconst C (v := 0) dX9_areOne_40 (by decide) ?_
      exact a_iret C hr rfl dX9_areOne_41 hF rfl rfl
    refine a_iconst C (v := 1) dX9_areOne_36 (by decide) ?_
    refine a_goto C (tgt := 41) dX9_areOne_37 (by decide) ?_
    exact a_iret C hr rfl dX9_areOne_41 hF rfl rfl
  unfold f_X9_areOne at hF
  refine a_aload_n C 0 dX9_areOne_0 rfl rfl ?_
  refine a_iload_n C 1 dX9_areOne_1 rfl rfl ?_
  refine a_callVi C 1 [0, 1, 2, 3, 4, 5, 6, 7] 0 cs_X9_93 hd_X9_isNoLine ⟨rfl, rfl⟩ ⟨Nat.le_of_ble_eq_true rfl, Nat.le_of_ble_eq_true rfl⟩ (fun r h => c_X9_isNoLine l D J kc ki kb kl kd t t_all t_reasons t_text t_word t_order t_rows t_written t_allF t_reasonsF t_textF t_wordF t_orderF t_rowsF t_writtenF t_thrown t_changes t_isSaved t_result t_texted t_wordSize t_orderMany t_here t_fault t_faultAt t_commandMany t_writtenSize p1 r h) rfl rfl rfl (fun _ => rfl) rfl rfl rfl (Nat.le_of_ble_eq_true rfl) dX9_areOne_2 ⟨Nat.zero_le _, Nat.zero_le _⟩ hF (fun r2_1 er2_1 hF => ?_)
  refine a_ws C (ws' := wX9 kc ki t t_all t_reasons t_text t_word t_order t_rows t_written t_allF r2_1.2 t_textF t_wordF t_orderF t_rowsF t_writtenF t_thrown t_changes t_isSaved t_result t_texted t_wordSize t_orderMany t_here t_fault t_faultAt t_commandMany t_writtenSize) rfl ?_
  refine a_if_ne C (tgt := 36) dX9_areOne_5 (by decide) hF (fun c5_2 hF => ?_) (fun c5_2 hF => ?_)
  · refine a_iconst C (v := 1) dX9_areOne_36 (by decide) ?_
    refine a_goto C (tgt := 41) dX9_areOne_37 (by decide) ?_
    exact a_iret C hr rfl dX9_areOne_41 hF rfl rfl
  refine a_aload_n C 0 dX9_areOne_8 rfl rfl ?_
  refine a_iload_n C 2 dX9_areOne_9 rfl rfl ?_
  refine a_callVi C 1 [0, 1, 2, 3, 4, 5, 6, 7] 0 cs_X9_93 hd_X9_isNoLine ⟨rfl, rfl⟩ ⟨Nat.le_of_ble_eq_true rfl, Nat.le_of_ble_eq_true rfl⟩ (fun r h => c_X9_isNoLine l D J kc ki kb kl kd t t_all t_reasons t_text t_word t_order t_rows t_written t_allF r2_1.2 t_textF t_wordF t_orderF t_rowsF t_writtenF t_thrown t_changes t_isSaved t_result t_texted t_wordSize t_orderMany t_here t_fault t_faultAt t_commandMany t_writtenSize p2 r h) rfl rfl rfl (fun _ => rfl) rfl rfl rfl (Nat.le_of_ble_eq_true rfl) dX9_areOne_10 ⟨Nat.zero_le _, Nat.zero_le _⟩ hF (fun r10_3 er10_3 hF => ?_)
  refine a_ws C (ws' := wX9 kc ki t t_all t_reasons t_text t_word t_order t_rows t_written t_allF r10_3.2 t_textF t_wordF t_orderF t_rowsF t_writtenF t_thrown t_changes t_isSaved t_result t_texted t_wordSize t_orderMany t_here t_fault t_faultAt t_commandMany t_writtenSize) rfl ?_
  refine a_if_ne C (tgt := 36) dX9_areOne_13 (by decide) hF (fun c13_4 hF => ?_) (fun c13_4 hF => ?_)
  · refine a_iconst C (v := 1) dX9_areOne_36 (by decide) ?_
    refine a_goto C (tgt := 41) dX9_areOne_37 (by decide) ?_
    exact a_iret C hr rfl dX9_areOne_41 hF rfl rfl
  refine a_aload_n C 0 dX9_areOne_16 rfl rfl ?_
  refine a_iload_n C 1 dX9_areOne_17 rfl rfl ?_
  refine a_iload_n C 2 dX9_areOne_18 rfl rfl ?_
  refine a_ic_ne C (tgt := 26) dX9_areOne_19 (by decide) hF (fun c19_5 hF => ?_) (fun c19_5 hF => ?_)
  · refine a_iconst C (v := 0) dX9_areOne_26 (by decide) ?_
    refine a_sub C [1] [(1, .int p1)] rfl ?_
    exact hJ27 r10_3.2 0 hF
  refine a_iconst C (v := 1) dX9_areOne_22 (by decide) ?_
  refine a_goto C (tgt := 27) dX9_areOne_23 (by decide) ?_
  refine a_sub C [1] [(1, .int p1)] rfl ?_
  exact hJ27 r10_3.2 1 hF
theorem cs_X9_117 : GoodIn WW (wsV RX9 117 RX9 yX9_areOne (aW yX9_areOne cX9_areOne 3 ((some .boolean)))) := gdV kl_X9_117 ki_X9_areOne kv_X9_areOne kn_X9 kc_X9_areOne
def f_X9_swaps_L13 (p1 : Int32) (p2 : Int32) : Nat → Int32 → (Nat → Int32) → (Int32 → (Nat → Int32) → Option (Int32 × (Nat → Int32) × (Nat → Int32) × Int32)) → Option (Int32 × (Nat → Int32) × (Nat → Int32) × Int32)
  | 0, _, _, _ => none
  | fuel + 1, x3, q_t_allF, k => if 11 ≤ x3 then (k x3 q_t_allF) else ((f_X9_at q_t_allF p1 x3).bind fun r22_4 => (f_X9_at q_t_allF p2 x3).bind fun r33_5 => (f_X9_set q_t_allF p1 x3 r33_5).bind fun r36_6 => (f_X9_set r36_6 p2 x3 r22_4).bind fun r44_7 => f_X9_swaps_L13 p1 p2 fuel (x3 + 1) r44_7 k)
def f_X9_swaps (t_allF : Nat → Int32) (t_reasonsF : Nat → Int32) (t_result : Int32) (p1 : Int32) (p2 : Int32) : Option (Int32 × (Nat → Int32) × (Nat → Int32) × Int32) := (f_X9_areOne t_allF t_reasonsF p1 p2).bind fun r3_1 => if r3_1.1 = 0 then (f_X9_swaps_L13 p1 p2 1000 0 t_allF (fun x3_13_8 q_t_allF_13_9 => (f_X9_size q_t_allF_13_9 p1).bind fun r56_10 => (f_X9_size q_t_allF_13_9 p2).bind fun r61_11 => if r56_10 ≤ r61_11 then ((f_X9_size q_t_allF_13_9 p2).bind fun r77_13 => some (1, q_t_allF_13_9, r3_1.2, r77_13)) else ((f_X9_size q_t_allF_13_9 p1).bind fun r69_14 => some (1, q_t_allF_13_9, r3_1.2, r69_14)))) else (some (0, t_allF, r3_1.2, t_result))
theorem hd_X9_swaps : yX9_swaps.cls = RX9 ∧ yX9_swaps.cls ≠ "java/lang/invoke/MethodHandle" ∧ yX9_swaps.cls ≠ "java/lang/invoke/VarHandle" ∧ (parseMethodDescriptor yX9_swaps.desc).map (fun d => d.parameters.length) = some 2 := by decide +kernel
set_option maxRecDepth 100000 in
set_option maxHeartbeats 4000000 in
theorem c_X9_swaps (l : Launch) (D : va_G) (J : (Nat → Nat) × (Nat → Nat)) (kc ki kb kl kd : ClassId) (t : Nat) (t_all : Nat) (t_reasons : Nat) (t_text : Nat) (t_word : Nat) (t_order : Nat) (t_rows : Nat) (t_written : Nat) (t_allF : Nat → Int32) (t_reasonsF : Nat → Int32) (t_textF : Nat → Int32) (t_wordF : Nat → Int32) (t_orderF : Nat → Int32) (t_rowsF : Nat → Int32) (t_writtenF : Nat → Int32) (t_thrown : Int32) (t_changes : Int32) (t_isSaved : Int32) (t_result : Int32) (t_texted : Int32) (t_wordSize : Int32) (t_orderMany : Int32) (t_here : Int32) (t_fault : Int32) (t_faultAt : Int32) (t_commandMany : Int32) (t_writtenSize : Int32) (p1 p2 : Int32) (res : Int32 × (Nat → Int32) × (Nat → Int32) × Int32) (hF : f_X9_swaps t_allF t_reasonsF t_result p1 p2 = some res) : aKi l yX9_swaps (aW yX9_swaps cX9_swaps 5 ((some .boolean))) ({ frames := 4, cells := 0, slots := 0, locals := 86 } : Room) D J (aTy kc ki kb kl kd) [.ref t, .int p1, .int p2] (wX9 kc ki t t_all t_reasons t_text t_word t_order t_rows t_written t_allF t_reasonsF t_textF t_wordF t_orderF t_rowsF t_writtenF t_thrown t_changes t_isSaved t_result t_texted t_wordSize t_orderMany t_here t_fault t_faultAt t_commandMany t_writtenSize) (fun r => r.1) (fun r => wX9 kc ki t t_all t_reasons t_text t_word t_order t_rows t_written r.2.1 r.2.2.1 t_textF t_wordF t_orderF t_rowsF t_writtenF t_thrown t_changes t_isSaved r.2.2.2 t_texted t_wordSize t_orderMany t_here t_fault t_faultAt t_commandMany t_writtenSize) res := by
  refine aKi_of (own := RX9) (by decide) rfl (Nat.le_of_ble_eq_true rfl) rfl ?_
  intro p e s m args below meth c C hr
  have hI13 : ∀ (q_t_reasonsF : Nat → Int32) (q_t_result : Int32) (fuel : Nat) (x3 : Int32) (q_t_allF : Nat → Int32) (k : Int32 → (Nat → Int32) → Option (Int32 × (Nat → Int32) × (Nat → Int32) × Int32)), f_X9_swaps_L13 p1 p2 fuel x3 q_t_allF k = some res → (∀ (x3 : Int32) (q_t_allF : Nat → Int32), k x3 q_t_allF = some res → aT p l e ({ frames := 4, cells := 0, slots := 0, locals := 86 } : Room) s m args below meth c (MQ below (aQi D (wX9 kc ki t t_all t_reasons t_text t_word t_order t_rows t_written t_allF t_reasonsF t_textF t_wordF t_orderF t_rowsF t_writtenF t_thrown t_changes t_isSaved t_result t_texted t_wordSize t_orderMany t_here t_fault t_faultAt t_commandMany t_writtenSize) s.heap.size (fun r => r.1) (fun r => wX9 kc ki t t_all t_reasons t_text t_word t_order t_rows t_written r.2.1 r.2.2.1 t_textF t_wordF t_orderF t_rowsF t_writtenF t_thrown t_changes t_isSaved r.2.2.2 t_texted t_wordSize t_orderMany t_here t_fault t_faultAt t_commandMany t_writtenSize) res) args s 0 0 (va_A (wX9 kc ki t t_all t_reasons t_text t_word t_order t_rows t_written t_allF t_reasonsF t_textF t_wordF t_orderF t_rowsF t_writtenF t_thrown t_changes t_isSaved t_result t_texted t_wordSize t_orderMany t_here t_fault t_faultAt t_commandMany t_writtenSize) s.heap.size)) D (va_A (wX9 kc ki t t_all t_reasons t_text t_word t_order t_rows t_written t_allF t_reasonsF t_textF t_wordF t_orderF t_rowsF t_writtenF t_thrown t_changes t_isSaved t_result t_texted t_wordSize t_orderMany t_here t_fault t_faultAt t_commandMany t_writtenSize) s.heap.size) 5 0 0 53 [(0, .ref t), (1, .int p1), (2, .int p2)] [] (wX9 kc ki t t_all t_reasons t_text t_word t_order t_rows t_written q_t_allF q_t_reasonsF t_textF t_wordF t_orderF t_rowsF t_writtenF t_thrown t_changes t_isSaved q_t_result t_texted t_wordSize t_orderMany t_here t_fault t_faultAt t_commandMany t_writtenSize)) → aT p l e ({ frames := 4, cells := 0, slots := 0, locals := 86 } : Room) s m args below meth c (MQ below (aQi D (wX9 kc ki t t_all t_reasons t_text t_word t_order t_rows t_written t_allF t_reasonsF t_textF t_wordF t_orderF t_rowsF t_writtenF t_thrown t_changes t_isSaved t_result t_texted t_wordSize t_orderMany t_here t_fault t_faultAt t_commandMany t_writtenSize) s.heap.size (fun r => r.1) (fun r => wX9 kc ki t t_all t_reasons t_text t_word t_order t_rows t_written r.2.1 r.2.2.1 t_textF t_wordF t_orderF t_rowsF t_writtenF t_thrown t_changes t_isSaved r.2.2.2 t_texted t_wordSize t_orderMany t_here t_fault t_faultAt t_commandMany t_writtenSize) res) args s 0 0 (va_A (wX9 kc ki t t_all t_reasons t_text t_word t_order t_rows t_written t_allF t_reasonsF t_textF t_wordF t_orderF t_rowsF t_writtenF t_thrown t_changes t_isSaved t_result t_texted t_wordSize t_orderMany t_here t_fault t_faultAt t_commandMany t_writtenSize) s.heap.size)) D (va_A (wX9 kc ki t t_all t_reasons t_text t_word t_order t_rows t_written t_allF t_reasonsF t_textF t_wordF t_orderF t_rowsF t_writtenF t_thrown t_changes t_isSaved t_result t_texted t_wordSize t_orderMany t_here t_fault t_faultAt t_commandMany t_writtenSize) s.heap.size) 5 0 0 13 [(0, .ref t), (1, .int p1), (2, .int p2), (3, .int x3)] [] (wX9 kc ki t t_all t_reasons t_text t_word t_order t_rows t_written q_t_allF q_t_reasonsF t_textF t_wordF t_orderF t_rowsF t_writtenF t_thrown t_changes t_isSaved q_t_result t_texted t_wordSize t_orderMany t_here t_fault t_faultAt t_commandMany t_writtenSize) := by
    intro q_t_reasonsF q_t_result fuel
    induction fuel with
    | zero => intro x3 q_t_allF k hF hX; exact nomatch hF
    | succ fuel ih =>
      intro x3 q_t_allF k hF hX
      rw [f_X9_swaps_L13] at hF
      refine a_iload_n C 3 dX9_swaps_13 rfl rfl ?_
      refine a_bipush C (v := 11) dX9_swaps_14 (by decide) ?_
      refine a_ic_ge C (tgt := 53) dX9_swaps_16 (by decide) hF (fun c16_3 hF => ?_) (fun c16_3 hF => ?_)
      · refine a_sub C [0, 1, 2] [(0, .ref t), (1, .int p1), (2, .int p2)] rfl ?_
        exact hX x3 q_t_allF hF
      refine a_aload_n C 0 dX9_swaps_19 rfl rfl ?_
      refine a_iload_n C 1 dX9_swaps_20 rfl rfl ?_
      refine a_iload_n C 3 dX9_swaps_21 rfl rfl ?_
      refine a_callVir C 2 [0, 1, 2, 3, 4, 5, 6, 7] 0 cs_X9_107 hd_X9_at ⟨rfl, rfl⟩ ⟨Nat.le_of_ble_eq_true rfl, Nat.le_of_ble_eq_true rfl⟩ (fun r h => c_X9_at l D J kc ki kb kl kd t t_all t_reasons t_text t_word t_order t_rows t_written q_t_allF q_t_reasonsF t_textF t_wordF t_orderF t_rowsF t_writtenF t_thrown t_changes t_isSaved q_t_result t_texted t_wordSize t_orderMany t_here t_fault t_faultAt t_commandMany t_writtenSize p1 x3 r h) rfl rfl rfl rfl rfl rfl (Nat.le_of_ble_eq_true rfl) dX9_swaps_22 ⟨Nat.zero_le _, Nat.zero_le _⟩ hF (fun r22_4 er22_4 hF => ?_)
      refine a_istore C [(4, .int r22_4), (0, .ref t), (1, .int p1), (2, .int p2), (3, .int x3)] dX9_swaps_25 (by decide) rfl ?_
      refine a_aload_n C 1 dX9_swaps_27 rfl rfl ?_
      refine a_iload_n C 2 dX9_swaps_28 rfl rfl ?_
      refine a_iload_n C 4 dX9_swaps_29 rfl rfl ?_
      refine a_aload_n C 1 dX9_swaps_30 rfl rfl ?_
      refine a_iload_n C 3 dX9_swaps_31 rfl rfl ?_
      refine a_iload_n C 4 dX9_swaps_32 rfl rfl ?_
      refine a_callVir C 2 [0, 1, 2, 3, 4, 5, 6, 7] 0 cs_X9_107 hd_X9_at ⟨rfl, rfl⟩ ⟨Nat.le_of_ble_eq_true rfl, Nat.le_of_ble_eq_true rfl⟩ (fun r h => c_X9_at l D J kc ki kb kl kd t t_all t_reasons t_text t_word t_order t_rows t_written q_t_allF q_t_reasonsF t_textF t_wordF t_orderF t_rowsF t_writtenF t_thrown t_changes t_isSaved q_t_result t_texted t_wordSize t_orderMany t_here t_fault t_faultAt t_commandMany t_writtenSize p2 x3 r h) rfl rfl rfl rfl rfl rfl (Nat.le_of_ble_eq_true rfl) dX9_swaps_33 ⟨Nat.zero_le _, Nat.zero_le _⟩ hF (fun r33_5 er33_5 hF => ?_)
      refine a_callVv C 3 [0, 1, 2, 3, 4, 5, 6, 7] 0 cs_X9_75 hd_X9_set ⟨rfl, rfl⟩ ⟨Nat.le_of_ble_eq_true rfl, Nat.le_of_ble_eq_true rfl⟩ (fun r h => c_X9_set l D J kc ki kb kl kd t t_all t_reasons t_text t_word t_order t_rows t_written q_t_allF q_t_reasonsF t_textF t_wordF t_orderF t_rowsF t_writtenF t_thrown t_changes t_isSaved q_t_result t_texted t_wordSize t_orderMany t_here t_fault t_faultAt t_commandMany t_writtenSize p1 x3 r33_5 r h) rfl rfl rfl (fun _ => rfl) rfl rfl rfl (Nat.le_of_ble_eq_true rfl) dX9_swaps_36 ⟨Nat.zero_le _, Nat.zero_le _⟩ hF (fun r36_6 er36_6 hF => ?_)
      refine a_ws C (ws' := wX9 kc ki t t_all t_reasons t_text t_word t_order t_rows t_written r36_6 q_t_reasonsF t_textF t_wordF t_orderF t_rowsF t_writtenF t_thrown t_changes t_isSaved q_t_result t_texted t_wordSize t_orderMany t_here t_fault t_faultAt t_commandMany t_writtenSize) rfl ?_
      refine a_aload_n C 1 dX9_swaps_39 rfl rfl ?_
      refine a_iload_n C 3 dX9_swaps_40 rfl rfl ?_
      refine a_iload_n C 4 dX9_swaps_41 rfl rfl ?_
      refine a_iload C 0 dX9_swaps_42 rfl ?_
      refine a_callVv C 3 [0, 1, 2, 3, 4, 5, 6, 7] 0 cs_X9_75 hd_X9_set ⟨rfl, rfl⟩ ⟨Nat.le_of_ble_eq_true rfl, Nat.le_of_ble_eq_true rfl⟩ (fun r h => c_X9_set l D J kc ki kb kl kd t t_all t_reasons t_text t_word t_order t_rows t_written r36_6 q_t_reasonsF t_textF t_wordF t_orderF t_rowsF t_writtenF t_thrown t_changes t_isSaved q_t_result t_texted t_wordSize t_orderMany t_here t_fault t_faultAt t_commandMany t_writtenSize p2 x3 r22_4 r h) rfl rfl rfl (fun _ => rfl) rfl rfl rfl (Nat.le_of_ble_eq_true rfl) dX9_swaps_44 ⟨Nat.zero_le _, Nat.zero_le _⟩ hF (fun r44_7 er44_7 hF => ?_)
      refine a_ws C (ws' := wX9 kc ki t t_all t_reasons t_text t_word t_order t_rows t_written r44_7 q_t_reasonsF t_textF t_wordF t_orderF t_rowsF t_writtenF t_thrown t_changes t_isSaved q_t_result t_texted t_wordSize t_orderMany t_here t_fault t_faultAt t_commandMany t_writtenSize) rfl ?_
      refine a_iinc C 4 [(3, .int (x3 + 1)), (4, .int r22_4), (0, .ref t), (1, .int p1), (2, .int p2)] dX9_swaps_47 rfl rfl (by decide) rfl ?_
      refine a_goto C (tgt := 13) dX9_swaps_50 (by decide) ?_
      refine a_sub C [2, 3, 4, 0] [(0, .ref t), (1, .int p1), (2, .int p2), (3, .int (x3 + 1))] rfl ?_
      exact ih (x3 + 1) r44_7 k hF hX
  unfold f_X9_swaps at hF
  refine a_aload_n C 0 dX9_swaps_0 rfl rfl ?_
  refine a_iload_n C 1 dX9_swaps_1 rfl rfl ?_
  refine a_iload_n C 2 dX9_swaps_2 rfl rfl ?_
  refine a_callVi C 2 [0, 1, 2, 3, 4, 5, 6, 7] 0 cs_X9_117 hd_X9_areOne ⟨rfl, rfl⟩ ⟨Nat.le_of_ble_eq_true rfl, Nat.le_of_ble_eq_true rfl⟩ (fun r h => c_X9_areOne l D J kc ki kb kl kd t t_all t_reasons t_text t_word t_order t_rows t_written t_allF t_reasonsF t_textF t_wordF t_orderF t_rowsF t_writtenF t_thrown t_changes t_isSaved t_result t_texted t_wordSize t_orderMany t_here t_fault t_faultAt t_commandMany t_writtenSize p1 p2 r h) rfl rfl rfl (fun _ => rfl) rfl rfl rfl (Nat.le_of_ble_eq_true rfl) dX9_swaps_3 ⟨Nat.zero_le _, Nat.zero_le _⟩ hF (fun r3_1 er3_1 hF => ?_)
  refine a_ws C (ws' := wX9 kc ki t t_all t_reasons t_text t_word t_order t_rows t_written t_allF r3_1.2 t_textF t_wordF t_orderF t_rowsF t_writtenF t_thrown t_changes t_isSaved t_result t_texted t_wordSize t_orderMany t_here t_fault t_faultAt t_commandMany t_writtenSize) rfl ?_
  refine a_if_eq C (tgt := 11) dX9_swaps_6 (by decide) hF (fun c6_2 hF => ?_) (fun c6_2 hF => ?_)
  · refine a_iconst C (v := 0) dX9_swaps_11 (by decide) ?_
    refine a_istore_n C [(3, .int 0), (0, .ref t), (1, .int p1), (2, .int p2)] dX9_swaps_12 rfl (by decide) rfl ?_
    refine a_sub C [1, 2, 3, 0] [(0, .ref t), (1, .int p1), (2, .int p2), (3, .int 0)] rfl ?_
    refine hI13 r3_1.2 t_result 1000 0 t_allF _ hF (fun x3_13_8 q_t_allF_13_9 hF => ?_)
    refine a_aload_n C 0 dX9_swaps_53 rfl rfl ?_
    refine a_aload_n C 0 dX9_swaps_54 rfl rfl ?_
    refine a_iload_n C 1 dX9_swaps_55 rfl rfl ?_
    refine a_callVir C 1 [0, 1, 2, 3, 4, 5, 6, 7] 0 cs_X9_61 hd_X9_size ⟨rfl, rfl⟩ ⟨Nat.le_of_ble_eq_true rfl, Nat.le_of_ble_eq_true rfl⟩ (fun r h => c_X9_size l D J kc ki kb kl kd t t_all t_reasons t_text t_word t_order t_rows t_written q_t_allF_13_9 r3_1.2 t_textF t_wordF t_orderF t_rowsF t_writtenF t_thrown t_changes t_isSaved t_result t_texted t_wordSize t_orderMany t_here t_fault t_faultAt t_commandMany t_writtenSize p1 r h) rfl rfl rfl rfl rfl rfl (Nat.le_of_ble_eq_true rfl) dX9_swaps_56 ⟨Nat.zero_le _, Nat.zero_le _⟩ hF (fun r56_10 er56_10 hF => ?_)
    refine a_aload_n C 0 dX9_swaps_59 rfl rfl ?_
    refine a_iload_n C 2 dX9_swaps_60 rfl rfl ?_
    refine a_callVir C 1 [0, 1, 2, 3, 4, 5, 6, 7] 0 cs_X9_61 hd_X9_size ⟨rfl, rfl⟩ ⟨Nat.le_of_ble_eq_true rfl, Nat.le_of_ble_eq_true rfl⟩ (fun r h => c_X9_size l D J kc ki kb kl kd t t_all t_reasons t_text t_word t_order t_rows t_written q_t_allF_13_9 r3_1.2 t_textF t_wordF t_orderF t_rowsF t_writtenF t_thrown t_changes t_isSaved t_result t_texted t_wordSize t_orderMany t_here t_fault t_faultAt t_commandMany t_writtenSize p2 r h) rfl rfl rfl rfl rfl rfl (Nat.le_of_ble_eq_true rfl) dX9_swaps_61 ⟨Nat.zero_le _, Nat.zero_le _⟩ hF (fun r61_11 er61_11 hF => ?_)
    refine a_ic_le C (tgt := 75) dX9_swaps_64 (by decide) hF (fun c64_12 hF => ?_) (fun c64_12 hF => ?_)
    · refine a_aload_n C 0 dX9_swaps_75 rfl rfl ?_
      refine a_iload_n C 2 dX9_swaps_76 rfl rfl ?_
      refine a_callVir C 1 [0, 1, 2, 3, 4, 5, 6, 7] 0 cs_X9_61 hd_X9_size ⟨rfl, rfl⟩ ⟨Nat.le_of_ble_eq_true rfl, Nat.le_of_ble_eq_true rfl⟩ (fun r h => c_X9_size l D J kc ki kb kl kd t t_all t_reasons t_text t_word t_order t_rows t_written q_t_allF_13_9 r3_1.2 t_textF t_wordF t_orderF t_rowsF t_writtenF t_thrown t_changes t_isSaved t_result t_texted t_wordSize t_orderMany t_here t_fault t_faultAt t_commandMany t_writtenSize p2 r h) rfl rfl rfl rfl rfl rfl (Nat.le_of_ble_eq_true rfl) dX9_swaps_77 ⟨Nat.zero_le _, Nat.zero_le _⟩ hF (fun r77_13 er77_13 hF => ?_)
      refine a_put C 0 4 iwX9 tyX9_ok nmX9 rfl rfl (by decide) kf_X9_46 rfl rfl rfl (Nat.le_of_ble_eq_true rfl) dX9_swaps_80 ?_
      refine a_ws C (ws' := wX9 kc ki t t_all t_reasons t_text t_word t_order t_rows t_written q_t_allF_13_9 r3_1.2 t_textF t_wordF t_orderF t_rowsF t_writtenF t_thrown t_changes t_isSaved r77_13 t_texted t_wordSize t_orderMany t_here t_fault t_faultAt t_commandMany t_writtenSize) rfl ?_
      refine a_iconst C (v := 1) dX9_swaps_83 (by decide) ?_
      exact a_iret C hr rfl dX9_swaps_84 hF rfl rfl
    refine a_aload_n C 0 dX9_swaps_67 rfl rfl ?_
    refine a_iload_n C 1 dX9_swaps_68 rfl rfl ?_
    refine a_callVir C 1 [0, 1, 2, 3, 4, 5, 6, 7] 0 cs_X9_61 hd_X9_size ⟨rfl, rfl⟩ ⟨Nat.le_of_ble_eq_true rfl, Nat.le_of_ble_eq_true rfl⟩ (fun r h => c_X9_size l D J kc ki kb kl kd t t_all t_reasons t_text t_word t_order t_rows t_written q_t_allF_13_9 r3_1.2 t_textF t_wordF t_orderF t_rowsF t_writtenF t_thrown t_changes t_isSaved t_result t_texted t_wordSize t_orderMany t_here t_fault t_faultAt t_commandMany t_writtenSize p1 r h) rfl rfl rfl rfl rfl rfl (Nat.le_of_ble_eq_true rfl) dX9_swaps_69 ⟨Nat.zero_le _, Nat.zero_le _⟩ hF (fun r69_14 er69_14 hF => ?_)
    refine a_goto C (tgt := 80) dX9_swaps_72 (by decide) ?_
    refine a_put C 0 4 iwX9 tyX9_ok nmX9 rfl rfl (by decide) kf_X9_46 rfl rfl rfl (Nat.le_of_ble_eq_true rfl) dX9_swaps_80 ?_
    refine a_ws C (ws' := wX9 kc ki t t_all t_reasons t_text t_word t_order t_rows t_written q_t_allF_13_9 r3_1.2 t_textF t_wordF t_orderF t_rowsF t_writtenF t_thrown t_changes t_isSaved r69_14 t_texted t_wordSize t_orderMany t_here t_fault t_faultAt t_commandMany t_writtenSize) rfl ?_
    refine a_iconst C (v := 1) dX9_swaps_83 (by decide) ?_
    exact a_iret C hr rfl dX9_swaps_84 hF rfl rfl
  refine a_iconst C (v := 0) dX9_swaps_9 (by decide) ?_
  exact a_iret C hr rfl dX9_swaps_10 hF rfl rfl
theorem cs_X9_120 : GoodIn WW (wsV RX9 120 RX9 yX9_swaps (aW yX9_swaps cX9_swaps 5 ((some .boolean)))) := gdV kl_X9_120 ki_X9_swaps kv_X9_swaps kn_X9 kc_X9_swaps
def f_X9_swap (t_allF : Nat → Int32) (t_reasonsF : Nat → Int32) (t_changes : Int32) (t_result : Int32) (p1 : Int32) (p2 : Int32) : Option (Int32 × (Nat → Int32) × (Nat → Int32) × Int32 × Int32 × Int32) := (f_X9_begins t_allF).bind fun r1_1 => (f_X9_swaps r1_1 t_reasonsF t_result p1 p2).bind fun r8_2 => (f_X9_ends r8_2.2.1 t_changes r8_2.2.2.2 r8_2.1 1).bind fun r12_3 => some (r12_3.1, r12_3.2.1, r8_2.2.2.1, r12_3.2.2.1, r12_3.2.2.2, r8_2.2.2.2)
theorem hd_X9_swap : yX9_swap.cls = RX9 ∧ yX9_swap.cls ≠ "java/lang/invoke/MethodHandle" ∧ yX9_swap.cls ≠ "java/lang/invoke/VarHandle" ∧ (parseMethodDescriptor yX9_swap.desc).map (fun d => d.parameters.length) = some 2 := by decide +kernel
set_option maxRecDepth 100000 in
set_option maxHeartbeats 4000000 in
theorem c_X9_swap (l : Launch) (D : va_G) (J : (Nat → Nat) × (Nat → Nat)) (kc ki kb kl kd : ClassId) (t : Nat) (t_all : Nat) (t_reasons : Nat) (t_text : Nat) (t_word : Nat) (t_order : Nat) (t_rows : Nat) (t_written : Nat) (t_allF : Nat → Int32) (t_reasonsF : Nat → Int32) (t_textF : Nat → Int32) (t_wordF : Nat → Int32) (t_orderF : Nat → Int32) (t_rowsF : Nat → Int32) (t_writtenF : Nat → Int32) (t_thrown : Int32) (t_changes : Int32) (t_isSaved : Int32) (t_result : Int32) (t_texted : Int32) (t_wordSize : Int32) (t_orderMany : Int32) (t_here : Int32) (t_fault : Int32) (t_faultAt : Int32) (t_commandMany : Int32) (t_writtenSize : Int32) (p1 p2 : Int32) (res : Int32 × (Nat → Int32) × (Nat → Int32) × Int32 × Int32 × Int32) (hF : f_X9_swap t_allF t_reasonsF t_changes t_result p1 p2 = some res) : aKi l yX9_swap (aW yX9_swap cX9_swap 3 ((some .int))) ({ frames := 5, cells := 0, slots := 0, locals := 110 } : Room) D J (aTy kc ki kb kl kd) [.ref t, .int p1, .int p2] (wX9 kc ki t t_all t_reasons t_text t_word t_order t_rows t_written t_allF t_reasonsF t_textF t_wordF t_orderF t_rowsF t_writtenF t_thrown t_changes t_isSaved t_result t_texted t_wordSize t_orderMany t_here t_fault t_faultAt t_commandMany t_writtenSize) (fun r => r.1) (fun r => wX9 kc ki t t_all t_reasons t_text t_word t_order t_rows t_written r.2.1 r.2.2.1 t_textF t_wordF t_orderF t_rowsF t_writtenF r.2.2.2.1 r.2.2.2.2.1 t_isSaved r.2.2.2.2.2 t_texted t_wordSize t_orderMany t_here t_fault t_faultAt t_commandMany t_writtenSize) res := by
  refine aKi_of (own := RX9) (by decide) rfl (Nat.le_of_ble_eq_true rfl) rfl ?_
  intro p e s m args below meth c C hr
  unfold f_X9_swap at hF
  refine a_aload_n C 0 dX9_swap_0 rfl rfl ?_
  refine a_callVv C 0 [0, 1, 2, 3, 4, 5, 6, 7] 0 cs_X9_83 hd_X9_begins ⟨rfl, rfl⟩ ⟨Nat.le_of_ble_eq_true rfl, Nat.le_of_ble_eq_true rfl⟩ (fun r h => c_X9_begins l D J kc ki kb kl kd t t_all t_reasons t_text t_word t_order t_rows t_written t_allF t_reasonsF t_textF t_wordF t_orderF t_rowsF t_writtenF t_thrown t_changes t_isSaved t_result t_texted t_wordSize t_orderMany t_here t_fault t_faultAt t_commandMany t_writtenSize r h) rfl rfl rfl (fun _ => rfl) rfl rfl rfl (Nat.le_of_ble_eq_true rfl) dX9_swap_1 ⟨Nat.zero_le _, Nat.zero_le _⟩ hF (fun r1_1 er1_1 hF => ?_)
  refine a_ws C (ws' := wX9 kc ki t t_all t_reasons t_text t_word t_order t_rows t_written r1_1 t_reasonsF t_textF t_wordF t_orderF t_rowsF t_writtenF t_thrown t_changes t_isSaved t_result t_texted t_wordSize t_orderMany t_here t_fault t_faultAt t_commandMany t_writtenSize) rfl ?_
  refine a_aload_n C 0 dX9_swap_4 rfl rfl ?_
  refine a_aload_n C 0 dX9_swap_5 rfl rfl ?_
  refine a_iload_n C 1 dX9_swap_6 rfl rfl ?_
  refine a_iload_n C 2 dX9_swap_7 rfl rfl ?_
  refine a_callVi C 2 [0, 1, 2, 3, 4, 5, 6, 7] 0 cs_X9_120 hd_X9_swaps ⟨rfl, rfl⟩ ⟨Nat.le_of_ble_eq_true rfl, Nat.le_of_ble_eq_true rfl⟩ (fun r h => c_X9_swaps l D J kc ki kb kl kd t t_all t_reasons t_text t_word t_order t_rows t_written r1_1 t_reasonsF t_textF t_wordF t_orderF t_rowsF t_writtenF t_thrown t_changes t_isSaved t_result t_texted t_wordSize t_orderMany t_here t_fault t_faultAt t_commandMany t_writtenSize p1 p2 r h) rfl rfl rfl (fun _ => rfl) rfl rfl rfl (Nat.le_of_ble_eq_true rfl) dX9_swap_8 ⟨Nat.zero_le _, Nat.zero_le _⟩ hF (fun r8_2 er8_2 hF => ?_)
  refine a_ws C (ws' := wX9 kc ki t t_all t_reasons t_text t_word t_order t_rows t_written r8_2.2.1 r8_2.2.2.1 t_textF t_wordF t_orderF t_rowsF t_writtenF t_thrown t_changes t_isSaved r8_2.2.2.2 t_texted t_wordSize t_orderMany t_here t_fault t_faultAt t_commandMany t_writtenSize) rfl ?_
  refine a_iconst C (v := 1) dX9_swap_11 (by decide) ?_
  refine a_callVi C 2 [0, 1, 2, 3, 4, 5, 6, 7] 0 cs_X9_89 hd_X9_ends ⟨rfl, rfl⟩ ⟨Nat.le_of_ble_eq_true rfl, Nat.le_of_ble_eq_true rfl⟩ (fun r h => c_X9_ends l D J kc ki kb kl kd t t_all t_reasons t_text t_word t_order t_rows t_written r8_2.2.1 r8_2.2.2.1 t_textF t_wordF t_orderF t_rowsF t_writtenF t_thrown t_changes t_isSaved r8_2.2.2.2 t_texted t_wordSize t_orderMany t_here t_fault t_faultAt t_commandMany t_writtenSize r8_2.1 1 r h) rfl rfl rfl (fun _ => rfl) rfl rfl rfl (Nat.le_of_ble_eq_true rfl) dX9_swap_12 ⟨Nat.zero_le _, Nat.zero_le _⟩ hF (fun r12_3 er12_3 hF => ?_)
  refine a_ws C (ws' := wX9 kc ki t t_all t_reasons t_text t_word t_order t_rows t_written r12_3.2.1 r8_2.2.2.1 t_textF t_wordF t_orderF t_rowsF t_writtenF r12_3.2.2.1 r12_3.2.2.2 t_isSaved r8_2.2.2.2 t_texted t_wordSize t_orderMany t_here t_fault t_faultAt t_commandMany t_writtenSize) rfl ?_
  exact a_iret C hr rfl dX9_swap_15 hF rfl rfl
def f_X9_joins_L72 (x3 : Int32) (x4 : Int32) (p1 : Int32) (p2 : Int32) : Nat → Int32 → (Nat → Int32) → (Int32 → (Nat → Int32) → Option (Int32 × (Nat → Int32) × (Nat → Int32) × Int32)) → Option (Int32 × (Nat → Int32) × (Nat → Int32) × Int32)
  | 0, _, _, _ => none
  | fuel + 1, x5, q_t_allF, k => if x4 ≤ x5 then (k x5 q_t_allF) else ((f_X9_at q_t_allF p2 x5).bind fun r89_9 => (f_X9_set q_t_allF p1 (x3 + x5) r89_9).bind fun r92_10 => f_X9_joins_L72 x3 x4 p1 p2 fuel (x5 + 1) r92_10 k)
def f_X9_joins_J39 (x3 : Int32) (x4 : Int32) (q_t_allF : Nat → Int32) (q_t_reasonsF : Nat → Int32) (q_t_result : Int32) (y1 : Int32) (p1 : Int32) (p2 : Int32) : Option (Int32 × (Nat → Int32) × (Nat → Int32) × Int32) := (f_X9_refuses q_t_reasonsF y1 7 (x3 + x4)).bind fun r45_6 => if r45_6.1 = 0 then (f_X9_joins_L72 x3 x4 p1 p2 1000 0 q_t_allF (fun x5_72_11 q_t_allF_72_12 => (f_X9_set q_t_allF_72_12 p1 10 (x3 + x4)).bind fun r109_13 => (f_X9_goes r109_13 p2).bind fun r114_14 => if p1 ≤ p2 then (some (1, r114_14, r45_6.2, p1)) else (some (1, r114_14, r45_6.2, p1 - 1)))) else ((sti r45_6.2 6 2 11).bind fun g58_16 => (sti g58_16 6 3 x4).bind fun g66_17 => some (0, q_t_allF, g66_17, q_t_result))
def f_X9_joins (t_allF : Nat → Int32) (t_reasonsF : Nat → Int32) (t_result : Int32) (p1 : Int32) (p2 : Int32) : Option (Int32 × (Nat → Int32) × (Nat → Int32) × Int32) := (f_X9_areOne t_allF t_reasonsF p1 p2).bind fun r3_1 => if r3_1.1 = 0 then ((f_X9_size t_allF p1).bind fun r13_3 => (f_X9_size t_allF p2).bind fun r19_4 => if (r13_3 + r19_4) ≤ 10 then (f_X9_joins_J39 r13_3 r19_4 t_allF r3_1.2 t_result 0 p1 p2) else (f_X9_joins_J39 r13_3 r19_4 t_allF r3_1.2 t_result 1 p1 p2)) else (some (0, t_allF, r3_1.2, t_result))
theorem hd_X9_joins : yX9_joins.cls = RX9 ∧ yX9_joins.cls ≠ "java/lang/invoke/MethodHandle" ∧ yX9_joins.cls ≠ "java/lang/invoke/VarHandle" ∧ (parseMethodDescriptor yX9_joins.desc).map (fun d => d.parameters.length) = some 2 := by decide +kernel
set_option maxRecDepth 100000 in
set_option maxHeartbeats 4000000 in
theorem c_X9_joins (l : Launch) (D : va_G) (J : (Nat → Nat) × (Nat → Nat)) (kc ki kb kl kd : ClassId) (t : Nat) (t_all : Nat) (t_reasons : Nat) (t_text : Nat) (t_word : Nat) (t_order : Nat) (t_rows : Nat) (t_written : Nat) (t_allF : Nat → Int32) (t_reasonsF : Nat → Int32) (t_textF : Nat → Int32) (t_wordF : Nat → Int32) (t_orderF : Nat → Int32) (t_rowsF : Nat → Int32) (t_writtenF : Nat → Int32) (t_thrown : Int32) (t_changes : Int32) (t_isSaved : Int32) (t_result : Int32) (t_texted : Int32) (t_wordSize : Int32) (t_orderMany : Int32) (t_here : Int32) (t_fault : Int32) (t_faultAt : Int32) (t_commandMany : Int32) (t_writtenSize : Int32) (p1 p2 : Int32) (res : Int32 × (Nat → Int32) × (Nat → Int32) × Int32) (hF : f_X9_joins t_allF t_reasonsF t_result p1 p2 = some res) : aKi l yX9_joins (aW yX9_joins cX9_joins 6 ((some .boolean))) ({ frames := 4, cells := 0, slots := 0, locals := 86 } : Room) D J (aTy kc ki kb kl kd) [.ref t, .int p1, .int p2] (wX9 kc ki t t_all t_reasons t_text t_word t_order t_rows t_written t_allF t_reasonsF t_textF t_wordF t_orderF t_rowsF t_writtenF t_thrown t_changes t_isSaved t_result t_texted t_wordSize t_orderMany t_here t_fault t_faultAt t_commandMany t_writtenSize) (fun r => r.1) (fun r => wX9 kc ki t t_all t_reasons t_text t_word t_order t_rows t_written r.2.1 r.2.2.1 t_textF t_wordF t_orderF t_rowsF t_writtenF t_thrown t_changes t_isSaved r.2.2.2 t_texted t_wordSize t_orderMany t_here t_fault t_faultAt t_commandMany t_writtenSize) res := by
  refine aKi_of (own := RX9) (by decide) rfl (Nat.le_of_ble_eq_true rfl) rfl ?_
  intro p e s m args below meth c C hr
  have hI72 : ∀ (x3 : Int32) (x4 : Int32) (q_t_reasonsF : Nat → Int32) (q_t_result : Int32) (fuel : Nat) (x5 : Int32) (q_t_allF : Nat → Int32) (k : Int32 → (Nat → Int32) → Option (Int32 × (Nat → Int32) × (Nat → Int32) × Int32)), f_X9_joins_L72 x3 x4 p1 p2 fuel x5 q_t_allF k = some res → (∀ (x5 : Int32) (q_t_allF : Nat → Int32), k x5 q_t_allF = some res → aT p l e ({ frames := 4, cells := 0, slots := 0, locals := 86 } : Room) s m args below meth c (MQ below (aQi D (wX9 kc ki t t_all t_reasons t_text t_word t_order t_rows t_written t_allF t_reasonsF t_textF t_wordF t_orderF t_rowsF t_writtenF t_thrown t_changes t_isSaved t_result t_texted t_wordSize t_orderMany t_here t_fault t_faultAt t_commandMany t_writtenSize) s.heap.size (fun r => r.1) (fun r => wX9 kc ki t t_all t_reasons t_text t_word t_order t_rows t_written r.2.1 r.2.2.1 t_textF t_wordF t_orderF t_rowsF t_writtenF t_thrown t_changes t_isSaved r.2.2.2 t_texted t_wordSize t_orderMany t_here t_fault t_faultAt t_commandMany t_writtenSize) res) args s 0 0 (va_A (wX9 kc ki t t_all t_reasons t_text t_word t_order t_rows t_written t_allF t_reasonsF t_textF t_wordF t_orderF t_rowsF t_writtenF t_thrown t_changes t_isSaved t_result t_texted t_wordSize t_orderMany t_here t_fault t_faultAt t_commandMany t_writtenSize) s.heap.size)) D (va_A (wX9 kc ki t t_all t_reasons t_text t_word t_order t_rows t_written t_allF t_reasonsF t_textF t_wordF t_orderF t_rowsF t_writtenF t_thrown t_changes t_isSaved t_result t_texted t_wordSize t_orderMany t_here t_fault t_faultAt t_commandMany t_writtenSize) s.heap.size) 6 0 0 101 [(0, .ref t), (1, .int p1), (2, .int p2), (3, .int x3), (4, .int x4)] [] (wX9 kc ki t t_all t_reasons t_text t_word t_order t_rows t_written q_t_allF q_t_reasonsF t_textF t_wordF t_orderF t_rowsF t_writtenF t_thrown t_changes t_isSaved q_t_result t_texted t_wordSize t_orderMany t_here t_fault t_faultAt t_commandMany t_writtenSize)) → aT p l e ({ frames := 4, cells := 0, slots := 0, locals := 86 } : Room) s m args below meth c (MQ below (aQi D (wX9 kc ki t t_all t_reasons t_text t_word t_order t_rows t_written t_allF t_reasonsF t_textF t_wordF t_orderF t_rowsF t_writtenF t_thrown t_changes t_isSaved t_result t_texted t_wordSize t_orderMany t_here t_fault t_faultAt t_commandMany t_writtenSize) s.heap.size (fun r => r.1) (fun r => wX9 kc ki t t_all t_reasons t_text t_word t_order t_rows t_written r.2.1 r.2.2.1 t_textF t_wordF t_orderF t_rowsF t_writtenF t_thrown t_changes t_isSaved r.2.2.2 t_texted t_wordSize t_orderMany t_here t_fault t_faultAt t_commandMany t_writtenSize) res) args s 0 0 (va_A (wX9 kc ki t t_all t_reasons t_text t_word t_order t_rows t_written t_allF t_reasonsF t_textF t_wordF t_orderF t_rowsF t_writtenF t_thrown t_changes t_isSaved t_result t_texted t_wordSize t_orderMany t_here t_fault t_faultAt t_commandMany t_writtenSize) s.heap.size)) D (va_A (wX9 kc ki t t_all t_reasons t_text t_word t_order t_rows t_written t_allF t_reasonsF t_textF t_wordF t_orderF t_rowsF t_writtenF t_thrown t_changes t_isSaved t_result t_texted t_wordSize t_orderMany t_here t_fault t_faultAt t_commandMany t_writtenSize) s.heap.size) 6 0 0 72 [(0, .ref t), (1, .int p1), (2, .int p2), (3, .int x3), (4, .int x4), (5, .int x5)] [] (wX9 kc ki t t_all t_reasons t_text t_word t_order t_rows t_written q_t_allF q_t_reasonsF t_textF t_wordF t_orderF t_rowsF t_writtenF t_thrown t_changes t_isSaved q_t_result t_texted t_wordSize t_orderMany t_here t_fault t_faultAt t_commandMany t_writtenSize) := by
    intro x3 x4 q_t_reasonsF q_t_result fuel
    induction fuel with
    | zero => intro x5 q_t_allF k hF hX; exact nomatch hF
    | succ fuel ih =>
      intro x5 q_t_allF k hF hX
      rw [f_X9_joins_L72] at hF
      refine a_iload C 5 dX9_joins_72 rfl ?_
      refine a_iload C 4 dX9_joins_74 rfl ?_
      refine a_ic_ge C (tgt := 101) dX9_joins_76 (by decide) hF (fun c76_8 hF => ?_) (fun c76_8 hF => ?_)
      · refine a_sub C [0, 1, 2, 3, 4] [(0, .ref t), (1, .int p1), (2, .int p2), (3, .int x3), (4, .int x4)] rfl ?_
        exact hX x5 q_t_allF hF
      refine a_aload_n C 0 dX9_joins_79 rfl rfl ?_
      refine a_iload_n C 1 dX9_joins_80 rfl rfl ?_
      refine a_iload_n C 3 dX9_joins_81 rfl rfl ?_
      refine a_iload C 5 dX9_joins_82 rfl ?_
      refine a_iadd C dX9_joins_84 ?_
      refine a_aload_n C 0 dX9_joins_85 rfl rfl ?_
      refine a_iload_n C 2 dX9_joins_86 rfl rfl ?_
      refine a_iload C 5 dX9_joins_87 rfl ?_
      refine a_callVir C 2 [0, 1, 2, 3, 4, 5, 6, 7] 0 cs_X9_107 hd_X9_at ⟨rfl, rfl⟩ ⟨Nat.le_of_ble_eq_true rfl, Nat.le_of_ble_eq_true rfl⟩ (fun r h => c_X9_at l D J kc ki kb kl kd t t_all t_reasons t_text t_word t_order t_rows t_written q_t_allF q_t_reasonsF t_textF t_wordF t_orderF t_rowsF t_writtenF t_thrown t_changes t_isSaved q_t_result t_texted t_wordSize t_orderMany t_here t_fault t_faultAt t_commandMany t_writtenSize p2 x5 r h) rfl rfl rfl rfl rfl rfl (Nat.le_of_ble_eq_true rfl) dX9_joins_89 ⟨Nat.zero_le _, Nat.zero_le _⟩ hF (fun r89_9 er89_9 hF => ?_)
      refine a_callVv C 3 [0, 1, 2, 3, 4, 5, 6, 7] 0 cs_X9_75 hd_X9_set ⟨rfl, rfl⟩ ⟨Nat.le_of_ble_eq_true rfl, Nat.le_of_ble_eq_true rfl⟩ (fun r h => c_X9_set l D J kc ki kb kl kd t t_all t_reasons t_text t_word t_order t_rows t_written q_t_allF q_t_reasonsF t_textF t_wordF t_orderF t_rowsF t_writtenF t_thrown t_changes t_isSaved q_t_result t_texted t_wordSize t_orderMany t_here t_fault t_faultAt t_commandMany t_writtenSize p1 (x3 + x5) r89_9 r h) rfl rfl rfl (fun _ => rfl) rfl rfl rfl (Nat.le_of_ble_eq_true rfl) dX9_joins_92 ⟨Nat.zero_le _, Nat.zero_le _⟩ hF (fun r92_10 er92_10 hF => ?_)
      refine a_ws C (ws' := wX9 kc ki t t_all t_reasons t_text t_word t_order t_rows t_written r92_10 q_t_reasonsF t_textF t_wordF t_orderF t_rowsF t_writtenF t_thrown t_changes t_isSaved q_t_result t_texted t_wordSize t_orderMany t_here t_fault t_faultAt t_commandMany t_writtenSize) rfl ?_
      refine a_iinc C 5 [(5, .int (x5 + 1)), (0, .ref t), (1, .int p1), (2, .int p2), (3, .int x3), (4, .int x4)] dX9_joins_95 rfl rfl (by decide) rfl ?_
      refine a_goto C (tgt := 72) dX9_joins_98 (by decide) ?_
      refine a_sub C [1, 2, 3, 4, 5, 0] [(0, .ref t), (1, .int p1), (2, .int p2), (3, .int x3), (4, .int x4), (5, .int (x5 + 1))] rfl ?_
      exact ih (x5 + 1) r92_10 k hF hX
  have hJ39 : ∀ (x3 : Int32) (x4 : Int32) (q_t_allF : Nat → Int32) (q_t_reasonsF : Nat → Int32) (q_t_result : Int32) (y1 : Int32), f_X9_joins_J39 x3 x4 q_t_allF q_t_reasonsF q_t_result y1 p1 p2 = some res → aT p l e ({ frames := 4, cells := 0, slots := 0, locals := 86 } : Room) s m args below meth c (MQ below (aQi D (wX9 kc ki t t_all t_reasons t_text t_word t_order t_rows t_written t_allF t_reasonsF t_textF t_wordF t_orderF t_rowsF t_writtenF t_thrown t_changes t_isSaved t_result t_texted t_wordSize t_orderMany t_here t_fault t_faultAt t_commandMany t_writtenSize) s.heap.size (fun r => r.1) (fun r => wX9 kc ki t t_all t_reasons t_text t_word t_order t_rows t_written r.2.1 r.2.2.1 t_textF t_wordF t_orderF t_rowsF t_writtenF t_thrown t_changes t_isSaved r.2.2.2 t_texted t_wordSize t_orderMany t_here t_fault t_faultAt t_commandMany t_writtenSize) res) args s 0 0 (va_A (wX9 kc ki t t_all t_reasons t_text t_word t_order t_rows t_written t_allF t_reasonsF t_textF t_wordF t_orderF t_rowsF t_writtenF t_thrown t_changes t_isSaved t_result t_texted t_wordSize t_orderMany t_here t_fault t_faultAt t_commandMany t_writtenSize) s.heap.size)) D (va_A (wX9 kc ki t t_all t_reasons t_text t_word t_order t_rows t_written t_allF t_reasonsF t_textF t_wordF t_orderF t_rowsF t_writtenF t_thrown t_changes t_isSaved t_result t_texted t_wordSize t_orderMany t_here t_fault t_faultAt t_commandMany t_writtenSize) s.heap.size) 6 0 0 39 [(0, .ref t), (1, .int p1), (2, .int p2), (3, .int x3), (4, .int x4)] [.int y1, .ref t] (wX9 kc ki t t_all t_reasons t_text t_word t_order t_rows t_written q_t_allF q_t_reasonsF t_textF t_wordF t_orderF t_rowsF t_writtenF t_thrown t_changes t_isSaved q_t_result t_texted t_wordSize t_orderMany t_here t_fault t_faultAt t_commandMany t_writtenSize) := by
    intro x3 x4 q_t_allF q_t_reasonsF q_t_result y1 hF
    unfold f_X9_joins_J39 at hF
    refine a_bipush C (v := 7) dX9_joins_39 (by decide) ?_
    refine a_iload_n C 3 dX9_joins_41 rfl rfl ?_
    refine a_iload C 4 dX9_joins_42 rfl ?_
    refine a_iadd C dX9_joins_44 ?_
    refine a_callVi C 3 [0, 1, 2, 3, 4, 5, 6, 7] 0 cs_X9_65 hd_X9_refuses ⟨rfl, rfl⟩ ⟨Nat.le_of_ble_eq_true rfl, Nat.le_of_ble_eq_true rfl⟩ (fun r h => c_X9_refuses l D J kc ki kb kl kd t t_all t_reasons t_text t_word t_order t_rows t_written q_t_allF q_t_reasonsF t_textF t_wordF t_orderF t_rowsF t_writtenF t_thrown t_changes t_isSaved q_t_result t_texted t_wordSize t_orderMany t_here t_fault t_faultAt t_commandMany t_writtenSize y1 7 (x3 + x4) r h) rfl rfl rfl (fun _ => rfl) rfl rfl rfl (Nat.le_of_ble_eq_true rfl) dX9_joins_45 ⟨Nat.zero_le _, Nat.zero_le _⟩ hF (fun r45_6 er45_6 hF => ?_)
    refine a_ws C (ws' := wX9 kc ki t t_all t_reasons t_text t_word t_order t_rows t_written q_t_allF r45_6.2 t_textF t_wordF t_orderF t_rowsF t_writtenF t_thrown t_changes t_isSaved q_t_result t_texted t_wordSize t_orderMany t_here t_fault t_faultAt t_commandMany t_writtenSize) rfl ?_
    refine a_if_eq C (tgt := 69) dX9_joins_48 (by decide) hF (fun c48_7 hF => ?_) (fun c48_7 hF => ?_)
    · refine a_iconst C (v := 0) dX9_joins_69 (by decide) ?_
      refine a_istore C [(5, .int 0), (0, .ref t), (1, .int p1), (2, .int p2), (3, .int x3), (4, .int x4)] dX9_joins_70 (by decide) rfl ?_
      refine a_sub C [1, 2, 3, 4, 5, 0] [(0, .ref t), (1, .int p1), (2, .int p2), (3, .int x3), (4, .int x4), (5, .int 0)] rfl ?_
      refine hI72 x3 x4 r45_6.2 q_t_result 1000 0 q_t_allF _ hF (fun x5_72_11 q_t_allF_72_12 hF => ?_)
      refine a_aload_n C 0 dX9_joins_101 rfl rfl ?_
      refine a_iload_n C 1 dX9_joins_102 rfl rfl ?_
      refine a_bipush C (v := 10) dX9_joins_103 (by decide) ?_
      refine a_iload_n C 3 dX9_joins_105 rfl rfl ?_
      refine a_iload C 4 dX9_joins_106 rfl ?_
      refine a_iadd C dX9_joins_108 ?_
      refine a_callVv C 3 [0, 1, 2, 3, 4, 5, 6, 7] 0 cs_X9_75 hd_X9_set ⟨rfl, rfl⟩ ⟨Nat.le_of_ble_eq_true rfl, Nat.le_of_ble_eq_true rfl⟩ (fun r h => c_X9_set l D J kc ki kb kl kd t t_all t_reasons t_text t_word t_order t_rows t_written q_t_allF_72_12 r45_6.2 t_textF t_wordF t_orderF t_rowsF t_writtenF t_thrown t_changes t_isSaved q_t_result t_texted t_wordSize t_orderMany t_here t_fault t_faultAt t_commandMany t_writtenSize p1 10 (x3 + x4) r h) rfl rfl rfl (fun _ => rfl) rfl rfl rfl (Nat.le_of_ble_eq_true rfl) dX9_joins_109 ⟨Nat.zero_le _, Nat.zero_le _⟩ hF (fun r109_13 er109_13 hF => ?_)
      refine a_ws C (ws' := wX9 kc ki t t_all t_reasons t_text t_word t_order t_rows t_written r109_13 r45_6.2 t_textF t_wordF t_orderF t_rowsF t_writtenF t_thrown t_changes t_isSaved q_t_result t_texted t_wordSize t_orderMany t_here t_fault t_faultAt t_commandMany t_writtenSize) rfl ?_
      refine a_aload_n C 0 dX9_joins_112 rfl rfl ?_
      refine a_iload_n C 2 dX9_joins_113 rfl rfl ?_
      refine a_callVv C 1 [0, 1, 2, 3, 4, 5, 6, 7] 0 cs_X9_96 hd_X9_goes ⟨rfl, rfl⟩ ⟨Nat.le_of_ble_eq_true rfl, Nat.le_of_ble_eq_true rfl⟩ (fun r h => c_X9_goes l D J kc ki kb kl kd t t_all t_reasons t_text t_word t_order t_rows t_written r109_13 r45_6.2 t_textF t_wordF t_orderF t_rowsF t_writtenF t_thrown t_changes t_isSaved q_t_result t_texted t_wordSize t_orderMany t_here t_fault t_faultAt t_commandMany t_writtenSize p2 r h) rfl rfl rfl (fun _ => rfl) rfl rfl rfl (Nat.le_of_ble_eq_true rfl) dX9_joins_114 ⟨Nat.zero_le _, Nat.zero_le _⟩ hF (fun r114_14 er114_14 hF => ?_)
      refine a_ws C (ws' := wX9 kc ki t t_all t_reasons t_text t_word t_order t_rows t_written r114_14 r45_6.2 t_textF t_wordF t_orderF t_rowsF t_writtenF t_thrown t_changes t_isSaved q_t_result t_texted t_wordSize t_orderMany t_here t_fault t_faultAt t_commandMany t_writtenSize) rfl ?_
      refine a_aload_n C 0 dX9_joins_117 rfl rfl ?_
      refine a_iload_n C 2 dX9_joins_118 rfl rfl ?_
      refine a_iload_n C 1 dX9_joins_119 rfl rfl ?_
      refine a_ic_ge C (tgt := 129) dX9_joins_120 (by decide) hF (fun c120_15 hF => ?_) (fun c120_15 hF => ?_)
      · refine a_iload_n C 1 dX9_joins_129 rfl rfl ?_
        refine a_put C 0 4 iwX9 tyX9_ok nmX9 rfl rfl (by decide) kf_X9_46 rfl rfl rfl (Nat.le_of_ble_eq_true rfl) dX9_joins_130 ?_
        refine a_ws C (ws' := wX9 kc ki t t_all t_reasons t_text t_word t_order t_rows t_written r114_14 r45_6.2 t_textF t_wordF t_orderF t_rowsF t_writtenF t_thrown t_changes t_isSaved p1 t_texted t_wordSize t_orderMany t_here t_fault t_faultAt t_commandMany t_writtenSize) rfl ?_
        refine a_iconst C (v := 1) dX9_joins_133 (by decide) ?_
        exact a_iret C hr rfl dX9_joins_134 hF rfl rfl
      refine a_iload_n C 1 dX9_joins_123 rfl rfl ?_
      refine a_iconst C (v := 1) dX9_joins_124 (by decide) ?_
      refine a_isub C dX9_joins_125 ?_
      refine a_goto C (tgt := 130) dX9_joins_126 (by decide) ?_
      refine a_put C 0 4 iwX9 tyX9_ok nmX9 rfl rfl (by decide) kf_X9_46 rfl rfl rfl (Nat.le_of_ble_eq_true rfl) dX9_joins_130 ?_
      refine a_ws C (ws' := wX9 kc ki t t_all t_reasons t_text t_word t_order t_rows t_written r114_14 r45_6.2 t_textF t_wordF t_orderF t_rowsF t_writtenF t_thrown t_changes t_isSaved (p1 - 1) t_texted t_wordSize t_orderMany t_here t_fault t_faultAt t_commandMany t_writtenSize) rfl ?_
      refine a_iconst C (v := 1) dX9_joins_133 (by decide) ?_
      exact a_iret C hr rfl dX9_joins_134 hF rfl rfl
    refine a_aload_n C 0 dX9_joins_51 rfl rfl ?_
    refine a_get C 0 5 iwX9 rfl rfl (by decide) kf_X9_13 rfl dX9_joins_52 ?_
    refine a_iconst C (v := 2) dX9_joins_55 (by decide) ?_
    refine a_bipush C (v := 11) dX9_joins_56 (by decide) ?_
    refine a_iast C 2 1 rfl rfl dX9_joins_58 hF (fun g58_16 eg58_16 hF => ?_)
    refine a_ws C (ws' := wX9 kc ki t t_all t_reasons t_text t_word t_order t_rows t_written q_t_allF g58_16 t_textF t_wordF t_orderF t_rowsF t_writtenF t_thrown t_changes t_isSaved q_t_result t_texted t_wordSize t_orderMany t_here t_fault t_faultAt t_commandMany t_writtenSize) rfl ?_
    refine a_aload_n C 0 dX9_joins_59 rfl rfl ?_
    refine a_get C 0 5 iwX9 rfl rfl (by decide) kf_X9_13 rfl dX9_joins_60 ?_
    refine a_iconst C (v := 3) dX9_joins_63 (by decide) ?_
    refine a_iload C 4 dX9_joins_64 rfl ?_
    refine a_iast C 2 1 rfl rfl dX9_joins_66 hF (fun g66_17 eg66_17 hF => ?_)
    refine a_ws C (ws' := wX9 kc ki t t_all t_reasons t_text t_word t_order t_rows t_written q_t_allF g66_17 t_textF t_wordF t_orderF t_rowsF t_writtenF t_thrown t_changes t_isSaved q_t_result t_texted t_wordSize t_orderMany t_here t_fault t_faultAt t_commandMany t_writtenSize) rfl ?_
    refine a_iconst C (v := 0) dX9_joins_67 (by decide) ?_
    exact a_iret C hr rfl dX9_joins_68 hF rfl rfl
  unfold f_X9_joins at hF
  refine a_aload_n C 0 dX9_joins_0 rfl rfl ?_
  refine a_iload_n C 1 dX9_joins_1 rfl rfl ?_
  refine a_iload_n C 2 dX9_joins_2 rfl rfl ?_
  refine a_callVi C 2 [0, 1, 2, 3, 4, 5, 6, 7] 0 cs_X9_117 hd_X9_areOne ⟨rfl, rfl⟩ ⟨Nat.le_of_ble_eq_true rfl, Nat.le_of_ble_eq_true rfl⟩ (fun r h => c_X9_areOne l D J kc ki kb kl kd t t_all t_reasons t_text t_word t_order t_rows t_written t_allF t_reasonsF t_textF t_wordF t_orderF t_rowsF t_writtenF t_thrown t_changes t_isSaved t_result t_texted t_wordSize t_orderMany t_here t_fault t_faultAt t_commandMany t_writtenSize p1 p2 r h) rfl rfl rfl (fun _ => rfl) rfl rfl rfl (Nat.le_of_ble_eq_true rfl) dX9_joins_3 ⟨Nat.zero_le _, Nat.zero_le _⟩ hF (fun r3_1 er3_1 hF => ?_)
  refine a_ws C (ws' := wX9 kc ki t t_all t_reasons t_text t_word t_order t_rows t_written t_allF r3_1.2 t_textF t_wordF t_orderF t_rowsF t_writtenF t_thrown t_changes t_isSaved t_result t_texted t_wordSize t_orderMany t_here t_fault t_faultAt t_commandMany t_writtenSize) rfl ?_
  refine a_if_eq C (tgt := 11) dX9_joins_6 (by decide) hF (fun c6_2 hF => ?_) (fun c6_2 hF => ?_)
  · refine a_aload_n C 0 dX9_joins_11 rfl rfl ?_
    refine a_iload_n C 1 dX9_joins_12 rfl rfl ?_
    refine a_callVir C 1 [0, 1, 2, 3, 4, 5, 6, 7] 0 cs_X9_61 hd_X9_size ⟨rfl, rfl⟩ ⟨Nat.le_of_ble_eq_true rfl, Nat.le_of_ble_eq_true rfl⟩ (fun r h => c_X9_size l D J kc ki kb kl kd t t_all t_reasons t_text t_word t_order t_rows t_written t_allF r3_1.2 t_textF t_wordF t_orderF t_rowsF t_writtenF t_thrown t_changes t_isSaved t_result t_texted t_wordSize t_orderMany t_here t_fault t_faultAt t_commandMany t_writtenSize p1 r h) rfl rfl rfl rfl rfl rfl (Nat.le_of_ble_eq_true rfl) dX9_joins_13 ⟨Nat.zero_le _, Nat.zero_le _⟩ hF (fun r13_3 er13_3 hF => ?_)
    refine a_istore_n C [(3, .int r13_3), (0, .ref t), (1, .int p1), (2, .int p2)] dX9_joins_16 rfl (by decide) rfl ?_
    refine a_aload_n C 1 dX9_joins_17 rfl rfl ?_
    refine a_iload_n C 3 dX9_joins_18 rfl rfl ?_
    refine a_callVir C 1 [0, 1, 2, 3, 4, 5, 6, 7] 0 cs_X9_61 hd_X9_size ⟨rfl, rfl⟩ ⟨Nat.le_of_ble_eq_true rfl, Nat.le_of_ble_eq_true rfl⟩ (fun r h => c_X9_size l D J kc ki kb kl kd t t_all t_reasons t_text t_word t_order t_rows t_written t_allF r3_1.2 t_textF t_wordF t_orderF t_rowsF t_writtenF t_thrown t_changes t_isSaved t_result t_texted t_wordSize t_orderMany t_here t_fault t_faultAt t_commandMany t_writtenSize p2 r h) rfl rfl rfl rfl rfl rfl (Nat.le_of_ble_eq_true rfl) dX9_joins_19 ⟨Nat.zero_le _, Nat.zero_le _⟩ hF (fun r19_4 er19_4 hF => ?_)
    refine a_istore C [(4, .int r19_4), (3, .int r13_3), (0, .ref t), (1, .int p1), (2, .int p2)] dX9_joins_22 (by decide) rfl ?_
    refine a_aload_n C 2 dX9_joins_24 rfl rfl ?_
    refine a_iload_n C 1 dX9_joins_25 rfl rfl ?_
    refine a_iload C 0 dX9_joins_26 rfl ?_
    refine a_iadd C dX9_joins_28 ?_
    refine a_bipush C (v := 10) dX9_joins_29 (by decide) ?_
    refine a_ic_le C (tgt := 38) dX9_joins_31 (by decide) hF (fun c31_5 hF => ?_) (fun c31_5 hF => ?_)
    · refine a_iconst C (v := 0) dX9_joins_38 (by decide) ?_
      refine a_sub C [2, 3, 4, 1, 0] [(0, .ref t), (1, .int p1), (2, .int p2), (3, .int r13_3), (4, .int r19_4)] rfl ?_
      exact hJ39 r13_3 r19_4 t_allF r3_1.2 t_result 0 hF
    refine a_iconst C (v := 1) dX9_joins_34 (by decide) ?_
    refine a_goto C (tgt := 39) dX9_joins_35 (by decide) ?_
    refine a_sub C [2, 3, 4, 1, 0] [(0, .ref t), (1, .int p1), (2, .int p2), (3, .int r13_3), (4, .int r19_4)] rfl ?_
    exact hJ39 r13_3 r19_4 t_allF r3_1.2 t_result 1 hF
  refine a_iconst C (v := 0) dX9_joins_9 (by decide) ?_
  exact a_iret C hr rfl dX9_joins_10 hF rfl rfl
theorem cs_X9_123 : GoodIn WW (wsV RX9 123 RX9 yX9_joins (aW yX9_joins cX9_joins 6 ((some .boolean)))) := gdV kl_X9_123 ki_X9_joins kv_X9_joins kn_X9 kc_X9_joins
def f_X9_join (t_allF : Nat → Int32) (t_reasonsF : Nat → Int32) (t_changes : Int32) (t_result : Int32) (p1 : Int32) (p2 : Int32) : Option (Int32 × (Nat → Int32) × (Nat → Int32) × Int32 × Int32 × Int32) := (f_X9_begins t_allF).bind fun r1_1 => (f_X9_joins r1_1 t_reasonsF t_result p1 p2).bind fun r8_2 => (f_X9_ends r8_2.2.1 t_changes r8_2.2.2.2 r8_2.1 1).bind fun r12_3 => some (r12_3.1, r12_3.2.1, r8_2.2.2.1, r12_3.2.2.1, r12_3.2.2.2, r8_2.2.2.2)
theorem hd_X9_join : yX9_join.cls = RX9 ∧ yX9_join.cls ≠ "java/lang/invoke/MethodHandle" ∧ yX9_join.cls ≠ "java/lang/invoke/VarHandle" ∧ (parseMethodDescriptor yX9_join.desc).map (fun d => d.parameters.length) = some 2 := by decide +kernel
set_option maxRecDepth 100000 in
set_option maxHeartbeats 4000000 in
theorem c_X9_join (l : Launch) (D : va_G) (J : (Nat → Nat) × (Nat → Nat)) (kc ki kb kl kd : ClassId) (t : Nat) (t_all : Nat) (t_reasons : Nat) (t_text : Nat) (t_word : Nat) (t_order : Nat) (t_rows : Nat) (t_written : Nat) (t_allF : Nat → Int32) (t_reasonsF : Nat → Int32) (t_textF : Nat → Int32) (t_wordF : Nat → Int32) (t_orderF : Nat → Int32) (t_rowsF : Nat → Int32) (t_writtenF : Nat → Int32) (t_thrown : Int32) (t_changes : Int32) (t_isSaved : Int32) (t_result : Int32) (t_texted : Int32) (t_wordSize : Int32) (t_orderMany : Int32) (t_here : Int32) (t_fault : Int32) (t_faultAt : Int32) (t_commandMany : Int32) (t_writtenSize : Int32) (p1 p2 : Int32) (res : Int32 × (Nat → Int32) × (Nat → Int32) × Int32 × Int32 × Int32) (hF : f_X9_join t_allF t_reasonsF t_changes t_result p1 p2 = some res) : aKi l yX9_join (aW yX9_join cX9_join 3 ((some .int))) ({ frames := 5, cells := 0, slots := 0, locals := 111 } : Room) D J (aTy kc ki kb kl kd) [.ref t, .int p1, .int p2] (wX9 kc ki t t_all t_reasons t_text t_word t_order t_rows t_written t_allF t_reasonsF t_textF t_wordF t_orderF t_rowsF t_writtenF t_thrown t_changes t_isSaved t_result t_texted t_wordSize t_orderMany t_here t_fault t_faultAt t_commandMany t_writtenSize) (fun r => r.1) (fun r => wX9 kc ki t t_all t_reasons t_text t_word t_order t_rows t_written r.2.1 r.2.2.1 t_textF t_wordF t_orderF t_rowsF t_writtenF r.2.2.2.1 r.2.2.2.2.1 t_isSaved r.2.2.2.2.2 t_texted t_wordSize t_orderMany t_here t_fault t_faultAt t_commandMany t_writtenSize) res := by
  refine aKi_of (own := RX9) (by decide) rfl (Nat.le_of_ble_eq_true rfl) rfl ?_
  intro p e s m args below meth c C hr
  unfold f_X9_join at hF
  refine a_aload_n C 0 dX9_join_0 rfl rfl ?_
  refine a_callVv C 0 [0, 1, 2, 3, 4, 5, 6, 7] 0 cs_X9_83 hd_X9_begins ⟨rfl, rfl⟩ ⟨Nat.le_of_ble_eq_true rfl, Nat.le_of_ble_eq_true rfl⟩ (fun r h => c_X9_begins l D J kc ki kb kl kd t t_all t_reasons t_text t_word t_order t_rows t_written t_allF t_reasonsF t_textF t_wordF t_orderF t_rowsF t_writtenF t_thrown t_changes t_isSaved t_result t_texted t_wordSize t_orderMany t_here t_fault t_faultAt t_commandMany t_writtenSize r h) rfl rfl rfl (fun _ => rfl) rfl rfl rfl (Nat.le_of_ble_eq_true rfl) dX9_join_1 ⟨Nat.zero_le _, Nat.zero_le _⟩ hF (fun r1_1 er1_1 hF => ?_)
  refine a_ws C (ws' := wX9 kc ki t t_all t_reasons t_text t_word t_order t_rows t_written r1_1 t_reasonsF t_textF t_wordF t_orderF t_rowsF t_writtenF t_thrown t_changes t_isSaved t_result t_texted t_wordSize t_orderMany t_here t_fault t_faultAt t_commandMany t_writtenSize) rfl ?_
  refine a_aload_n C 0 dX9_join_4 rfl rfl ?_
  refine a_aload_n C 0 dX9_join_5 rfl rfl ?_
  refine a_iload_n C 1 dX9_join_6 rfl rfl ?_
  refine a_iload_n C 2 dX9_join_7 rfl rfl ?_
  refine a_callVi C 2 [0, 1, 2, 3, 4, 5, 6, 7] 0 cs_X9_123 hd_X9_joins ⟨rfl, rfl⟩ ⟨Nat.le_of_ble_eq_true rfl, Nat.le_of_ble_eq_true rfl⟩ (fun r h => c_X9_joins l D J kc ki kb kl kd t t_all t_reasons t_text t_word t_order t_rows t_written r1_1 t_reasonsF t_textF t_wordF t_orderF t_rowsF t_writtenF t_thrown t_changes t_isSaved t_result t_texted t_wordSize t_orderMany t_here t_fault t_faultAt t_commandMany t_writtenSize p1 p2 r h) rfl rfl rfl (fun _ => rfl) rfl rfl rfl (Nat.le_of_ble_eq_true rfl) dX9_join_8 ⟨Nat.zero_le _, Nat.zero_le _⟩ hF (fun r8_2 er8_2 hF => ?_)
  refine a_ws C (ws' := wX9 kc ki t t_all t_reasons t_text t_word t_order t_rows t_written r8_2.2.1 r8_2.2.2.1 t_textF t_wordF t_orderF t_rowsF t_writtenF t_thrown t_changes t_isSaved r8_2.2.2.2 t_texted t_wordSize t_orderMany t_here t_fault t_faultAt t_commandMany t_writtenSize) rfl ?_
  refine a_iconst C (v := 1) dX9_join_11 (by decide) ?_
  refine a_callVi C 2 [0, 1, 2, 3, 4, 5, 6, 7] 0 cs_X9_89 hd_X9_ends ⟨rfl, rfl⟩ ⟨Nat.le_of_ble_eq_true rfl, Nat.le_of_ble_eq_true rfl⟩ (fun r h => c_X9_ends l D J kc ki kb kl kd t t_all t_reasons t_text t_word t_order t_rows t_written r8_2.2.1 r8_2.2.2.1 t_textF t_wordF t_orderF t_rowsF t_writtenF t_thrown t_changes t_isSaved r8_2.2.2.2 t_texted t_wordSize t_orderMany t_here t_fault t_faultAt t_commandMany t_writtenSize r8_2.1 1 r h) rfl rfl rfl (fun _ => rfl) rfl rfl rfl (Nat.le_of_ble_eq_true rfl) dX9_join_12 ⟨Nat.zero_le _, Nat.zero_le _⟩ hF (fun r12_3 er12_3 hF => ?_)
  refine a_ws C (ws' := wX9 kc ki t t_all t_reasons t_text t_word t_order t_rows t_written r12_3.2.1 r8_2.2.2.1 t_textF t_wordF t_orderF t_rowsF t_writtenF r12_3.2.2.1 r12_3.2.2.2 t_isSaved r8_2.2.2.2 t_texted t_wordSize t_orderMany t_here t_fault t_faultAt t_commandMany t_writtenSize) rfl ?_
  exact a_iret C hr rfl dX9_join_15 hF rfl rfl
def f_X9_isBack_L20 (x3 : Int32) (p1 : Int32) (p2 : Int32) (t_allF : Nat → Int32) : Nat → Int32 → (Int32 → Option Int32) → Option Int32
  | 0, _, _ => none
  | fuel + 1, x4, k => if x3 ≤ x4 then (k x4) else ((f_X9_at t_allF p1 x4).bind fun r30_5 => (f_X9_at t_allF p2 ((x3 - 1) - x4)).bind fun r41_6 => if r30_5 = r41_6 then (f_X9_isBack_L20 x3 p1 p2 t_allF fuel (x4 + 1) k) else (some 0))
def f_X9_isBack (t_allF : Nat → Int32) (p1 : Int32) (p2 : Int32) : Option Int32 := (f_X9_size t_allF p1).bind fun r2_1 => (f_X9_size t_allF p2).bind fun r9_2 => if r2_1 = r9_2 then (f_X9_isBack_L20 r2_1 p1 p2 t_allF 1000 0 (fun x4_20_8 => some 1)) else (some 0)
theorem hd_X9_isBack : yX9_isBack.cls = RX9 ∧ yX9_isBack.cls ≠ "java/lang/invoke/MethodHandle" ∧ yX9_isBack.cls ≠ "java/lang/invoke/VarHandle" ∧ (parseMethodDescriptor yX9_isBack.desc).map (fun d => d.parameters.length) = some 2 := by decide +kernel
set_option maxRecDepth 100000 in
set_option maxHeartbeats 4000000 in
theorem c_X9_isBack (l : Launch) (D : va_G) (J : (Nat → Nat) × (Nat → Nat)) (kc ki kb kl kd : ClassId) (t : Nat) (t_all : Nat) (t_reasons : Nat) (t_text : Nat) (t_word : Nat) (t_order : Nat) (t_rows : Nat) (t_written : Nat) (t_allF : Nat → Int32) (t_reasonsF : Nat → Int32) (t_textF : Nat → Int32) (t_wordF : Nat → Int32) (t_orderF : Nat → Int32) (t_rowsF : Nat → Int32) (t_writtenF : Nat → Int32) (t_thrown : Int32) (t_changes : Int32) (t_isSaved : Int32) (t_result : Int32) (t_texted : Int32) (t_wordSize : Int32) (t_orderMany : Int32) (t_here : Int32) (t_fault : Int32) (t_faultAt : Int32) (t_commandMany : Int32) (t_writtenSize : Int32) (p1 p2 : Int32) (res : Int32) (hF : f_X9_isBack t_allF p1 p2 = some res) : aKi l yX9_isBack (aW yX9_isBack cX9_isBack 5 ((some .boolean))) ({ frames := 1, cells := 0, slots := 0, locals := 22 } : Room) D J (aTy kc ki kb kl kd) [.ref t, .int p1, .int p2] (wX9 kc ki t t_all t_reasons t_text t_word t_order t_rows t_written t_allF t_reasonsF t_textF t_wordF t_orderF t_rowsF t_writtenF t_thrown t_changes t_isSaved t_result t_texted t_wordSize t_orderMany t_here t_fault t_faultAt t_commandMany t_writtenSize) (fun r => r) (fun _ => wX9 kc ki t t_all t_reasons t_text t_word t_order t_rows t_written t_allF t_reasonsF t_textF t_wordF t_orderF t_rowsF t_writtenF t_thrown t_changes t_isSaved t_result t_texted t_wordSize t_orderMany t_here t_fault t_faultAt t_commandMany t_writtenSize) res := by
  refine aKi_of (own := RX9) (by decide) rfl (Nat.le_of_ble_eq_true rfl) rfl ?_
  intro p e s m args below meth c C hr
  have hI20 : ∀ (x3 : Int32) (fuel : Nat) (x4 : Int32) (k : Int32 → Option Int32), f_X9_isBack_L20 x3 p1 p2 t_allF fuel x4 k = some res → (∀ (x4 : Int32), k x4 = some res → aT p l e ({ frames := 1, cells := 0, slots := 0, locals := 22 } : Room) s m args below meth c (MQ below (aQi D (wX9 kc ki t t_all t_reasons t_text t_word t_order t_rows t_written t_allF t_reasonsF t_textF t_wordF t_orderF t_rowsF t_writtenF t_thrown t_changes t_isSaved t_result t_texted t_wordSize t_orderMany t_here t_fault t_faultAt t_commandMany t_writtenSize) s.heap.size (fun r => r) (fun _ => wX9 kc ki t t_all t_reasons t_text t_word t_order t_rows t_written t_allF t_reasonsF t_textF t_wordF t_orderF t_rowsF t_writtenF t_thrown t_changes t_isSaved t_result t_texted t_wordSize t_orderMany t_here t_fault t_faultAt t_commandMany t_writtenSize) res) args s 0 0 (va_A (wX9 kc ki t t_all t_reasons t_text t_word t_order t_rows t_written t_allF t_reasonsF t_textF t_wordF t_orderF t_rowsF t_writtenF t_thrown t_changes t_isSaved t_result t_texted t_wordSize t_orderMany t_here t_fault t_faultAt t_commandMany t_writtenSize) s.heap.size)) D (va_A (wX9 kc ki t t_all t_reasons t_text t_word t_order t_rows t_written t_allF t_reasonsF t_textF t_wordF t_orderF t_rowsF t_writtenF t_thrown t_changes t_isSaved t_result t_texted t_wordSize t_orderMany t_here t_fault t_faultAt t_commandMany t_writtenSize) s.heap.size) 5 0 0 55 [] [] (wX9 kc ki t t_all t_reasons t_text t_word t_order t_rows t_written t_allF t_reasonsF t_textF t_wordF t_orderF t_rowsF t_writtenF t_thrown t_changes t_isSaved t_result t_texted t_wordSize t_orderMany t_here t_fault t_faultAt t_commandMany t_writtenSize)) → aT p l e ({ frames := 1, cells := 0, slots := 0, locals := 22 } : Room) s m args below meth c (MQ below (aQi D (wX9 kc ki t t_all t_reasons t_text t_word t_order t_rows t_written t_allF t_reasonsF t_textF t_wordF t_orderF t_rowsF t_writtenF t_thrown t_changes t_isSaved t_result t_texted t_wordSize t_orderMany t_here t_fault t_faultAt t_commandMany t_writtenSize) s.heap.size (fun r => r) (fun _ => wX9 kc ki t t_all t_reasons t_text t_word t_order t_rows t_written t_allF t_reasonsF t_textF t_wordF t_orderF t_rowsF t_writtenF t_thrown t_changes t_isSaved t_result t_texted t_wordSize t_orderMany t_here t_fault t_faultAt t_commandMany t_writtenSize) res) args s 0 0 (va_A (wX9 kc ki t t_all t_reasons t_text t_word t_order t_rows t_written t_allF t_reasonsF t_textF t_wordF t_orderF t_rowsF t_writtenF t_thrown t_changes t_isSaved t_result t_texted t_wordSize t_orderMany t_here t_fault t_faultAt t_commandMany t_writtenSize) s.heap.size)) D (va_A (wX9 kc ki t t_all t_reasons t_text t_word t_order t_rows t_written t_allF t_reasonsF t_textF t_wordF t_orderF t_rowsF t_writtenF t_thrown t_changes t_isSaved t_result t_texted t_wordSize t_orderMany t_here t_fault t_faultAt t_commandMany t_writtenSize) s.heap.size) 5 0 0 20 [(0, .ref t), (1, .int p1), (2, .int p2), (3, .int x3), (4, .int x4)] [] (wX9 kc ki t t_all t_reasons t_text t_word t_order t_rows t_written t_allF t_reasonsF t_textF t_wordF t_orderF t_rowsF t_writtenF t_thrown t_changes t_isSaved t_result t_texted t_wordSize t_orderMany t_here t_fault t_faultAt t_commandMany t_writtenSize) := by
    intro x3 fuel
    induction fuel with
    | zero => intro x4 k hF hX; exact nomatch hF
    | succ fuel ih =>
      intro x4 k hF hX
      rw [f_X9_isBack_L20] at hF
      refine a_iload C 4 dX9_isBack_20 rfl ?_
      refine a_iload_n C 3 dX9_isBack_22 rfl rfl ?_
      refine a_ic_ge C (tgt := 55) dX9_isBack_23 (by decide) hF (fun c23_4 hF => ?_) (fun c23_4 hF => ?_)
      · refine a_sub C [] [] rfl ?_
        exact hX x4 hF
      refine a_aload_n C 0 dX9_isBack_26 rfl rfl ?_
      refine a_iload_n C 1 dX9_isBack_27 rfl rfl ?_
      refine a_iload C 4 dX9_isBack_28 rfl ?_
      refine a_callVir C 2 [0, 1, 2, 3, 4, 5, 6, 7] 0 cs_X9_107 hd_X9_at ⟨rfl, rfl⟩ ⟨Nat.le_of_ble_eq_true rfl, Nat.le_of_ble_eq_true rfl⟩ (fun r h => c_X9_at l D J kc ki kb kl kd t t_all t_reasons t_text t_word t_order t_rows t_written t_allF t_reasonsF t_textF t_wordF t_orderF t_rowsF t_writtenF t_thrown t_changes t_isSaved t_result t_texted t_wordSize t_orderMany t_here t_fault t_faultAt t_commandMany t_writtenSize p1 x4 r h) rfl rfl rfl rfl rfl rfl (Nat.le_of_ble_eq_true rfl) dX9_isBack_30 ⟨Nat.zero_le _, Nat.zero_le _⟩ hF (fun r30_5 er30_5 hF => ?_)
      refine a_aload_n C 0 dX9_isBack_33 rfl rfl ?_
      refine a_iload_n C 2 dX9_isBack_34 rfl rfl ?_
      refine a_iload_n C 3 dX9_isBack_35 rfl rfl ?_
      refine a_iconst C (v := 1) dX9_isBack_36 (by decide) ?_
      refine a_isub C dX9_isBack_37 ?_
      refine a_iload C 4 dX9_isBack_38 rfl ?_
      refine a_isub C dX9_isBack_40 ?_
      refine a_callVir C 2 [0, 1, 2, 3, 4, 5, 6, 7] 0 cs_X9_107 hd_X9_at ⟨rfl, rfl⟩ ⟨Nat.le_of_ble_eq_true rfl, Nat.le_of_ble_eq_true rfl⟩ (fun r h => c_X9_at l D J kc ki kb kl kd t t_all t_reasons t_text t_word t_order t_rows t_written t_allF t_reasonsF t_textF t_wordF t_orderF t_rowsF t_writtenF t_thrown t_changes t_isSaved t_result t_texted t_wordSize t_orderMany t_here t_fault t_faultAt t_commandMany t_writtenSize p2 ((x3 - 1) - x4) r h) rfl rfl rfl rfl rfl rfl (Nat.le_of_ble_eq_true rfl) dX9_isBack_41 ⟨Nat.zero_le _, Nat.zero_le _⟩ hF (fun r41_6 er41_6 hF => ?_)
      refine a_ic_eq C (tgt := 49) dX9_isBack_44 (by decide) hF (fun c44_7 hF => ?_) (fun c44_7 hF => ?_)
      · refine a_iinc C 4 [(4, .int (x4 + 1)), (0, .ref t), (1, .int p1), (2, .int p2), (3, .int x3)] dX9_isBack_49 rfl rfl (by decide) rfl ?_
        refine a_goto C (tgt := 20) dX9_isBack_52 (by decide) ?_
        refine a_sub C [1, 2, 3, 4, 0] [(0, .ref t), (1, .int p1), (2, .int p2), (3, .int x3), (4, .int (x4 + 1))] rfl ?_
        exact ih (x4 + 1) k hF hX
      refine a_iconst C (v := 0) dX9_isBack_47 (by decide) ?_
      exact a_iret C hr rfl dX9_isBack_48 hF rfl rfl
  unfold f_X9_isBack at hF
  refine a_aload_n C 0 dX9_isBack_0 rfl rfl ?_
  refine a_iload_n C 1 dX9_isBack_1 rfl rfl ?_
  refine a_callVir C 1 [0, 1, 2, 3, 4, 5, 6, 7] 0 cs_X9_61 hd_X9_size ⟨rfl, rfl⟩ ⟨Nat.le_of_ble_eq_true rfl, Nat.le_of_ble_eq_true rfl⟩ (fun r h => c_X9_size l D J kc ki kb kl kd t t_all t_reasons t_text t_word t_order t_rows t_written t_allF t_reasonsF t_textF t_wordF t_orderF t_rowsF t_writtenF t_thrown t_changes t_isSaved t_result t_texted t_wordSize t_orderMany t_here t_fault t_faultAt t_commandMany t_writtenSize p1 r h) rfl rfl rfl rfl rfl rfl (Nat.le_of_ble_eq_true rfl) dX9_isBack_2 ⟨Nat.zero_le _, Nat.zero_le _⟩ hF (fun r2_1 er2_1 hF => ?_)
  refine a_istore_n C [(3, .int r2_1), (0, .ref t), (1, .int p1), (2, .int p2)] dX9_isBack_5 rfl (by decide) rfl ?_
  refine a_iload_n C 0 dX9_isBack_6 rfl rfl ?_
  refine a_aload_n C 1 dX9_isBack_7 rfl rfl ?_
  refine a_iload_n C 3 dX9_isBack_8 rfl rfl ?_
  refine a_callVir C 1 [0, 1, 2, 3, 4, 5, 6, 7] 0 cs_X9_61 hd_X9_size ⟨rfl, rfl⟩ ⟨Nat.le_of_ble_eq_true rfl, Nat.le_of_ble_eq_true rfl⟩ (fun r h => c_X9_size l D J kc ki kb kl kd t t_all t_reasons t_text t_word t_order t_rows t_written t_allF t_reasonsF t_textF t_wordF t_orderF t_rowsF t_writtenF t_thrown t_changes t_isSaved t_result t_texted t_wordSize t_orderMany t_here t_fault t_faultAt t_commandMany t_writtenSize p2 r h) rfl rfl rfl rfl rfl rfl (Nat.le_of_ble_eq_true rfl) dX9_isBack_9 ⟨Nat.zero_le _, Nat.zero_le _⟩ hF (fun r9_2 er9_2 hF => ?_)
  refine a_ic_eq C (tgt := 17) dX9_isBack_12 (by decide) hF (fun c12_3 hF => ?_) (fun c12_3 hF => ?_)
  · refine a_iconst C (v := 0) dX9_isBack_17 (by decide) ?_
    refine a_istore C [(4, .int 0), (3, .int r2_1), (0, .ref t), (1, .int p1), (2, .int p2)] dX9_isBack_18 (by decide) rfl ?_
    refine a_sub C [2, 3, 4, 1, 0] [(0, .ref t), (1, .int p1), (2, .int p2), (3, .int r2_1), (4, .int 0)] rfl ?_
    refine hI20 r2_1 1000 0 _ hF (fun x4_20_8 hF => ?_)
    refine a_iconst C (v := 1) dX9_isBack_55 (by decide) ?_
    exact a_iret C hr rfl dX9_isBack_56 hF rfl rfl
  refine a_iconst C (v := 0) dX9_isBack_15 (by decide) ?_
  exact a_iret C hr rfl dX9_isBack_16 hF rfl rfl
theorem cs_X9_126 : GoodIn WW (wsV RX9 126 RX9 yX9_isBack (aW yX9_isBack cX9_isBack 5 ((some .boolean)))) := gdV kl_X9_126 ki_X9_isBack kv_X9_isBack kn_X9 kc_X9_isBack
def f_X9_turns_L34 (x2 : Int32) (p1 : Int32) : Nat → Int32 → (Nat → Int32) → (Int32 → (Nat → Int32) → Option (Int32 × (Nat → Int32) × (Nat → Int32) × (Nat → Int32) × Int32 × Int32)) → Option (Int32 × (Nat → Int32) × (Nat → Int32) × (Nat → Int32) × Int32 × Int32)
  | 0, _, _, _ => none
  | fuel + 1, x3, q_t_allF, k => if ((x2 - 1) - x3) ≤ x3 then (k x3 q_t_allF) else ((f_X9_at q_t_allF p1 x3).bind fun r46_8 => (f_X9_at q_t_allF p1 ((x2 - 1) - x3)).bind fun r61_9 => (f_X9_set q_t_allF p1 x3 r61_9).bind fun r64_10 => (f_X9_set r64_10 p1 ((x2 - 1) - x3) r46_8).bind fun r76_11 => f_X9_turns_L34 x2 p1 fuel (x3 + 1) r76_11 k)
def f_X9_turns (t_allF : Nat → Int32) (t_reasonsF : Nat → Int32) (t_orderF : Nat → Int32) (t_result : Int32) (t_orderMany : Int32) (p1 : Int32) : Option (Int32 × (Nat → Int32) × (Nat → Int32) × (Nat → Int32) × Int32 × Int32) := (f_X9_isNoLine t_allF t_reasonsF p1).bind fun r2_1 => if ¬ r2_1.1 = 0 then (some (0, t_allF, r2_1.2, t_orderF, t_result, t_orderMany)) else ((f_X9_isBack t_allF p1 p1).bind fun r12_3 => (f_X9_refuses r2_1.2 r12_3 8 p1).bind fun r18_4 => if r18_4.1 = 0 then ((f_X9_size t_allF p1).bind fun r28_6 => f_X9_turns_L34 r28_6 p1 1000 0 t_allF (fun x3_34_12 q_t_allF_34_13 => (f_X9_rankOf q_t_allF_34_13 t_orderF p1 0).bind fun r89_14 => some (1, q_t_allF_34_13, r18_4.2, r89_14.2.1, r89_14.1, r89_14.2.2))) else (some (0, t_allF, r18_4.2, t_orderF, t_result, t_orderMany)))
theorem hd_X9_turns : yX9_turns.cls = RX9 ∧ yX9_turns.cls ≠ "java/lang/invoke/MethodHandle" ∧ yX9_turns.cls ≠ "java/lang/invoke/VarHandle" ∧ (parseMethodDescriptor yX9_turns.desc).map (fun d => d.parameters.length) = some 1 := by decide +kernel
set_option maxRecDepth 100000 in
set_option maxHeartbeats 4000000 in
theorem c_X9_turns (l : Launch) (D : va_G) (J : (Nat → Nat) × (Nat → Nat)) (kc ki kb kl kd : ClassId) (t : Nat) (t_all : Nat) (t_reasons : Nat) (t_text : Nat) (t_word : Nat) (t_order : Nat) (t_rows : Nat) (t_written : Nat) (t_allF : Nat → Int32) (t_reasonsF : Nat → Int32) (t_textF : Nat → Int32) (t_wordF : Nat → Int32) (t_orderF : Nat → Int32) (t_rowsF : Nat → Int32) (t_writtenF : Nat → Int32) (t_thrown : Int32) (t_changes : Int32) (t_isSaved : Int32) (t_result : Int32) (t_texted : Int32) (t_wordSize : Int32) (t_orderMany : Int32) (t_here : Int32) (t_fault : Int32) (t_faultAt : Int32) (t_commandMany : Int32) (t_writtenSize : Int32) (p1 : Int32) (res : Int32 × (Nat → Int32) × (Nat → Int32) × (Nat → Int32) × Int32 × Int32) (hF : f_X9_turns t_allF t_reasonsF t_orderF t_result t_orderMany p1 = some res) : aKi l yX9_turns (aW yX9_turns cX9_turns 5 ((some .boolean))) ({ frames := 6, cells := 0, slots := 0, locals := 137 } : Room) D J (aTy kc ki kb kl kd) [.ref t, .int p1] (wX9 kc ki t t_all t_reasons t_text t_word t_order t_rows t_written t_allF t_reasonsF t_textF t_wordF t_orderF t_rowsF t_writtenF t_thrown t_changes t_isSaved t_result t_texted t_wordSize t_orderMany t_here t_fault t_faultAt t_commandMany t_writtenSize) (fun r => r.1) (fun r => wX9 kc ki t t_all t_reasons t_text t_word t_order t_rows t_written r.2.1 r.2.2.1 t_textF t_wordF r.2.2.2.1 t_rowsF t_writtenF t_thrown t_changes t_isSaved r.2.2.2.2.1 t_texted t_wordSize r.2.2.2.2.2 t_here t_fault t_faultAt t_commandMany t_writtenSize) res := by
  refine aKi_of (own := RX9) (by decide) rfl (Nat.le_of_ble_eq_true rfl) rfl ?_
  intro p e s m args below meth c C hr
  have hI34 : ∀ (x2 : Int32) (q_t_reasonsF : Nat → Int32) (q_t_orderF : Nat → Int32) (q_t_result : Int32) (q_t_orderMany : Int32) (fuel : Nat) (x3 : Int32) (q_t_allF : Nat → Int32) (k : Int32 → (Nat → Int32) → Option (Int32 × (Nat → Int32) × (Nat → Int32) × (Nat → Int32) × Int32 × Int32)), f_X9_turns_L34 x2 p1 fuel x3 q_t_allF k = some res → (∀ (x3 : Int32) (q_t_allF : Nat → Int32), k x3 q_t_allF = some res → aT p l e ({ frames := 6, cells := 0, slots := 0, locals := 137 } : Room) s m args below meth c (MQ below (aQi D (wX9 kc ki t t_all t_reasons t_text t_word t_order t_rows t_written t_allF t_reasonsF t_textF t_wordF t_orderF t_rowsF t_writtenF t_thrown t_changes t_isSaved t_result t_texted t_wordSize t_orderMany t_here t_fault t_faultAt t_commandMany t_writtenSize) s.heap.size (fun r => r.1) (fun r => wX9 kc ki t t_all t_reasons t_text t_word t_order t_rows t_written r.2.1 r.2.2.1 t_textF t_wordF r.2.2.2.1 t_rowsF t_writtenF t_thrown t_changes t_isSaved r.2.2.2.2.1 t_texted t_wordSize r.2.2.2.2.2 t_here t_fault t_faultAt t_commandMany t_writtenSize) res) args s 0 0 (va_A (wX9 kc ki t t_all t_reasons t_text t_word t_order t_rows t_written t_allF t_reasonsF t_textF t_wordF t_orderF t_rowsF t_writtenF t_thrown t_changes t_isSaved t_result t_texted t_wordSize t_orderMany t_here t_fault t_faultAt t_commandMany t_writtenSize) s.heap.size)) D (va_A (wX9 kc ki t t_all t_reasons t_text t_word t_order t_rows t_written t_allF t_reasonsF t_textF t_wordF t_orderF t_rowsF t_writtenF t_thrown t_changes t_isSaved t_result t_texted t_wordSize t_orderMany t_here t_fault t_faultAt t_commandMany t_writtenSize) s.heap.size) 5 0 0 85 [(0, .ref t), (1, .int p1)] [] (wX9 kc ki t t_all t_reasons t_text t_word t_order t_rows t_written q_t_allF q_t_reasonsF t_textF t_wordF q_t_orderF t_rowsF t_writtenF t_thrown t_changes t_isSaved q_t_result t_texted t_wordSize q_t_orderMany t_here t_fault t_faultAt t_commandMany t_writtenSize)) → aT p l e ({ frames := 6, cells := 0, slots := 0, locals := 137 } : Room) s m args below meth c (MQ below (aQi D (wX9 kc ki t t_all t_reasons t_text t_word t_order t_rows t_written t_allF t_reasonsF t_textF t_wordF t_orderF t_rowsF t_writtenF t_thrown t_changes t_isSaved t_result t_texted t_wordSize t_orderMany t_here t_fault t_faultAt t_commandMany t_writtenSize) s.heap.size (fun r => r.1) (fun r => wX9 kc ki t t_all t_reasons t_text t_word t_order t_rows t_written r.2.1 r.2.2.1 t_textF t_wordF r.2.2.2.1 t_rowsF t_writtenF t_thrown t_changes t_isSaved r.2.2.2.2.1 t_texted t_wordSize r.2.2.2.2.2 t_here t_fault t_faultAt t_commandMany t_writtenSize) res) args s 0 0 (va_A (wX9 kc ki t t_all t_reasons t_text t_word t_order t_rows t_written t_allF t_reasonsF t_textF t_wordF t_orderF t_rowsF t_writtenF t_thrown t_changes t_isSaved t_result t_texted t_wordSize t_orderMany t_here t_fault t_faultAt t_commandMany t_writtenSize) s.heap.size)) D (va_A (wX9 kc ki t t_all t_reasons t_text t_word t_order t_rows t_written t_allF t_reasonsF t_textF t_wordF t_orderF t_rowsF t_writtenF t_thrown t_changes t_isSaved t_result t_texted t_wordSize t_orderMany t_here t_fault t_faultAt t_commandMany t_writtenSize) s.heap.size) 5 0 0 34 [(0, .ref t), (1, .int p1), (2, .int x2), (3, .int x3)] [] (wX9 kc ki t t_all t_reasons t_text t_word t_order t_rows t_written q_t_allF q_t_reasonsF t_textF t_wordF q_t_orderF t_rowsF t_writtenF t_thrown t_changes t_isSaved q_t_result t_texted t_wordSize q_t_orderMany t_here t_fault t_faultAt t_commandMany t_writtenSize) := by
    intro x2 q_t_reasonsF q_t_orderF q_t_result q_t_orderMany fuel
    induction fuel with
    | zero => intro x3 q_t_allF k hF hX; exact nomatch hF
    | succ fuel ih =>
      intro x3 q_t_allF k hF hX
      rw [f_X9_turns_L34] at hF
      refine a_iload_n C 3 dX9_turns_34 rfl rfl ?_
      refine a_iload_n C 2 dX9_turns_35 rfl rfl ?_
      refine a_iconst C (v := 1) dX9_turns_36 (by decide) ?_
      refine a_isub C dX9_turns_37 ?_
      refine a_iload_n C 3 dX9_turns_38 rfl rfl ?_
      refine a_isub C dX9_turns_39 ?_
      refine a_ic_ge C (tgt := 85) dX9_turns_40 (by decide) hF (fun c40_7 hF => ?_) (fun c40_7 hF => ?_)
      · refine a_sub C [0, 1] [(0, .ref t), (1, .int p1)] rfl ?_
        exact hX x3 q_t_allF hF
      refine a_aload_n C 0 dX9_turns_43 rfl rfl ?_
      refine a_iload_n C 1 dX9_turns_44 rfl rfl ?_
      refine a_iload_n C 3 dX9_turns_45 rfl rfl ?_
      refine a_callVir C 2 [0, 1, 2, 3, 4, 5, 6, 7] 0 cs_X9_107 hd_X9_at ⟨rfl, rfl⟩ ⟨Nat.le_of_ble_eq_true rfl, Nat.le_of_ble_eq_true rfl⟩ (fun r h => c_X9_at l D J kc ki kb kl kd t t_all t_reasons t_text t_word t_order t_rows t_written q_t_allF q_t_reasonsF t_textF t_wordF q_t_orderF t_rowsF t_writtenF t_thrown t_changes t_isSaved q_t_result t_texted t_wordSize q_t_orderMany t_here t_fault t_faultAt t_commandMany t_writtenSize p1 x3 r h) rfl rfl rfl rfl rfl rfl (Nat.le_of_ble_eq_true rfl) dX9_turns_46 ⟨Nat.zero_le _, Nat.zero_le _⟩ hF (fun r46_8 er46_8 hF => ?_)
      refine a_istore C [(4, .int r46_8), (0, .ref t), (1, .int p1), (2, .int x2), (3, .int x3)] dX9_turns_49 (by decide) rfl ?_
      refine a_aload_n C 1 dX9_turns_51 rfl rfl ?_
      refine a_iload_n C 2 dX9_turns_52 rfl rfl ?_
      refine a_iload_n C 4 dX9_turns_53 rfl rfl ?_
      refine a_aload_n C 1 dX9_turns_54 rfl rfl ?_
      refine a_iload_n C 2 dX9_turns_55 rfl rfl ?_
      refine a_iload_n C 3 dX9_turns_56 rfl rfl ?_
      refine a_iconst C (v := 1) dX9_turns_57 (by decide) ?_
      refine a_isub C dX9_turns_58 ?_
      refine a_iload_n C 4 dX9_turns_59 rfl rfl ?_
      refine a_isub C dX9_turns_60 ?_
      refine a_callVir C 2 [0, 1, 2, 3, 4, 5, 6, 7] 0 cs_X9_107 hd_X9_at ⟨rfl, rfl⟩ ⟨Nat.le_of_ble_eq_true rfl, Nat.le_of_ble_eq_true rfl⟩ (fun r h => c_X9_at l D J kc ki kb kl kd t t_all t_reasons t_text t_word t_order t_rows t_written q_t_allF q_t_reasonsF t_textF t_wordF q_t_orderF t_rowsF t_writtenF t_thrown t_changes t_isSaved q_t_result t_texted t_wordSize q_t_orderMany t_here t_fault t_faultAt t_commandMany t_writtenSize p1 ((x2 - 1) - x3) r h) rfl rfl rfl rfl rfl rfl (Nat.le_of_ble_eq_true rfl) dX9_turns_61 ⟨Nat.zero_le _, Nat.zero_le _⟩ hF (fun r61_9 er61_9 hF => ?_)
      refine a_callVv C 3 [0, 1, 2, 3, 4, 5, 6, 7] 0 cs_X9_75 hd_X9_set ⟨rfl, rfl⟩ ⟨Nat.le_of_ble_eq_true rfl, Nat.le_of_ble_eq_true rfl⟩ (fun r h => c_X9_set l D J kc ki kb kl kd t t_all t_reasons t_text t_word t_order t_rows t_written q_t_allF q_t_reasonsF t_textF t_wordF q_t_orderF t_rowsF t_writtenF t_thrown t_changes t_isSaved q_t_result t_texted t_wordSize q_t_orderMany t_here t_fault t_faultAt t_commandMany t_writtenSize p1 x3 r61_9 r h) rfl rfl rfl (fun _ => rfl) rfl rfl rfl (Nat.le_of_ble_eq_true rfl) dX9_turns_64 ⟨Nat.zero_le _, Nat.zero_le _⟩ hF (fun r64_10 er64_10 hF => ?_)
      refine a_ws C (ws' := wX9 kc ki t t_all t_reasons t_text t_word t_order t_rows t_written r64_10 q_t_reasonsF t_textF t_wordF q_t_orderF t_rowsF t_writtenF t_thrown t_changes t_isSaved q_t_result t_texted t_wordSize q_t_orderMany t_here t_fault t_faultAt t_commandMany t_writtenSize) rfl ?_
      refine a_aload_n C 1 dX9_turns_67 rfl rfl ?_
      refine a_iload_n C 2 dX9_turns_68 rfl rfl ?_
      refine a_iload_n C 3 dX9_turns_69 rfl rfl ?_
      refine a_iconst C (v := 1) dX9_turns_70 (by decide) ?_
      refine a_isub C dX9_turns_71 ?_
      refine a_iload_n C 4 dX9_turns_72 rfl rfl ?_
      refine a_isub C dX9_turns_73 ?_
      refine a_iload C 0 dX9_turns_74 rfl ?_
      refine a_callVv C 3 [0, 1, 2, 3, 4, 5, 6, 7] 0 cs_X9_75 hd_X9_set ⟨rfl, rfl⟩ ⟨Nat.le_of_ble_eq_true rfl, Nat.le_of_ble_eq_true rfl⟩ (fun r h => c_X9_set l D J kc ki kb kl kd t t_all t_reasons t_text t_word t_order t_rows t_written r64_10 q_t_reasonsF t_textF t_wordF q_t_orderF t_rowsF t_writtenF t_thrown t_changes t_isSaved q_t_result t_texted t_wordSize q_t_orderMany t_here t_fault t_faultAt t_commandMany t_writtenSize p1 ((x2 - 1) - x3) r46_8 r h) rfl rfl rfl (fun _ => rfl) rfl rfl rfl (Nat.le_of_ble_eq_true rfl) dX9_turns_76 ⟨Nat.zero_le _, Nat.zero_le _⟩ hF (fun r76_11 er76_11 hF => ?_)
      refine a_ws C (ws' := wX9 kc ki t t_all t_reasons t_text t_word t_order t_rows t_written r76_11 q_t_reasonsF t_textF t_wordF q_t_orderF t_rowsF t_writtenF t_thrown t_changes t_isSaved q_t_result t_texted t_wordSize q_t_orderMany t_here t_fault t_faultAt t_commandMany t_writtenSize) rfl ?_
      refine a_iinc C 4 [(3, .int (x3 + 1)), (4, .int r46_8), (0, .ref t), (1, .int p1), (2, .int x2)] dX9_turns_79 rfl rfl (by decide) rfl ?_
      refine a_goto C (tgt := 34) dX9_turns_82 (by decide) ?_
      refine a_sub C [2, 3, 4, 0] [(0, .ref t), (1, .int p1), (2, .int x2), (3, .int (x3 + 1))] rfl ?_
      exact ih (x3 + 1) r76_11 k hF hX
  unfold f_X9_turns at hF
  refine a_aload_n C 0 dX9_turns_0 rfl rfl ?_
  refine a_iload_n C 1 dX9_turns_1 rfl rfl ?_
  refine a_callVi C 1 [0, 1, 2, 3, 4, 5, 6, 7] 0 cs_X9_93 hd_X9_isNoLine ⟨rfl, rfl⟩ ⟨Nat.le_of_ble_eq_true rfl, Nat.le_of_ble_eq_true rfl⟩ (fun r h => c_X9_isNoLine l D J kc ki kb kl kd t t_all t_reasons t_text t_word t_order t_rows t_written t_allF t_reasonsF t_textF t_wordF t_orderF t_rowsF t_writtenF t_thrown t_changes t_isSaved t_result t_texted t_wordSize t_orderMany t_here t_fault t_faultAt t_commandMany t_writtenSize p1 r h) rfl rfl rfl (fun _ => rfl) rfl rfl rfl (Nat.le_of_ble_eq_true rfl) dX9_turns_2 ⟨Nat.zero_le _, Nat.zero_le _⟩ hF (fun r2_1 er2_1 hF => ?_)
  refine a_ws C (ws' := wX9 kc ki t t_all t_reasons t_text t_word t_order t_rows t_written t_allF r2_1.2 t_textF t_wordF t_orderF t_rowsF t_writtenF t_thrown t_changes t_isSaved t_result t_texted t_wordSize t_orderMany t_here t_fault t_faultAt t_commandMany t_writtenSize) rfl ?_
  refine a_if_ne C (tgt := 24) dX9_turns_5 (by decide) hF (fun c5_2 hF => ?_) (fun c5_2 hF => ?_)
  · refine a_iconst C (v := 0) dX9_turns_24 (by decide) ?_
    exact a_iret C hr rfl dX9_turns_25 hF rfl rfl
  refine a_aload_n C 0 dX9_turns_8 rfl rfl ?_
  refine a_aload_n C 0 dX9_turns_9 rfl rfl ?_
  refine a_iload_n C 1 dX9_turns_10 rfl rfl ?_
  refine a_iload_n C 1 dX9_turns_11 rfl rfl ?_
  refine a_callVir C 2 [0, 1, 2, 3, 4, 5, 6, 7] 0 cs_X9_126 hd_X9_isBack ⟨rfl, rfl⟩ ⟨Nat.le_of_ble_eq_true rfl, Nat.le_of_ble_eq_true rfl⟩ (fun r h => c_X9_isBack l D J kc ki kb kl kd t t_all t_reasons t_text t_word t_order t_rows t_written t_allF r2_1.2 t_textF t_wordF t_orderF t_rowsF t_writtenF t_thrown t_changes t_isSaved t_result t_texted t_wordSize t_orderMany t_here t_fault t_faultAt t_commandMany t_writtenSize p1 p1 r h) rfl rfl rfl rfl rfl rfl (Nat.le_of_ble_eq_true rfl) dX9_turns_12 ⟨Nat.zero_le _, Nat.zero_le _⟩ hF (fun r12_3 er12_3 hF => ?_)
  refine a_bipush C (v := 8) dX9_turns_15 (by decide) ?_
  refine a_iload_n C 1 dX9_turns_17 rfl rfl ?_
  refine a_callVi C 3 [0, 1, 2, 3, 4, 5, 6, 7] 0 cs_X9_65 hd_X9_refuses ⟨rfl, rfl⟩ ⟨Nat.le_of_ble_eq_true rfl, Nat.le_of_ble_eq_true rfl⟩ (fun r h => c_X9_refuses l D J kc ki kb kl kd t t_all t_reasons t_text t_word t_order t_rows t_written t_allF r2_1.2 t_textF t_wordF t_orderF t_rowsF t_writtenF t_thrown t_changes t_isSaved t_result t_texted t_wordSize t_orderMany t_here t_fault t_faultAt t_commandMany t_writtenSize r12_3 8 p1 r h) rfl rfl rfl (fun _ => rfl) rfl rfl rfl (Nat.le_of_ble_eq_true rfl) dX9_turns_18 ⟨Nat.zero_le _, Nat.zero_le _⟩ hF (fun r18_4 er18_4 hF => ?_)
  refine a_ws C (ws' := wX9 kc ki t t_all t_reasons t_text t_word t_order t_rows t_written t_allF r18_4.2 t_textF t_wordF t_orderF t_rowsF t_writtenF t_thrown t_changes t_isSaved t_result t_texted t_wordSize t_orderMany t_here t_fault t_faultAt t_commandMany t_writtenSize) rfl ?_
  refine a_if_eq C (tgt := 26) dX9_turns_21 (by decide) hF (fun c21_5 hF => ?_) (fun c21_5 hF => ?_)
  · refine a_aload_n C 0 dX9_turns_26 rfl rfl ?_
    refine a_iload_n C 1 dX9_turns_27 rfl rfl ?_
    refine a_callVir C 1 [0, 1, 2, 3, 4, 5, 6, 7] 0 cs_X9_61 hd_X9_size ⟨rfl, rfl⟩ ⟨Nat.le_of_ble_eq_true rfl, Nat.le_of_ble_eq_true rfl⟩ (fun r h => c_X9_size l D J kc ki kb kl kd t t_all t_reasons t_text t_word t_order t_rows t_written t_allF r18_4.2 t_textF t_wordF t_orderF t_rowsF t_writtenF t_thrown t_changes t_isSaved t_result t_texted t_wordSize t_orderMany t_here t_fault t_faultAt t_commandMany t_writtenSize p1 r h) rfl rfl rfl rfl rfl rfl (Nat.le_of_ble_eq_true rfl) dX9_turns_28 ⟨Nat.zero_le _, Nat.zero_le _⟩ hF (fun r28_6 er28_6 hF => ?_)
    refine a_istore_n C [(2, .int r28_6), (0, .ref t), (1, .int p1)] dX9_turns_31 rfl (by decide) rfl ?_
    refine a_iconst C (v := 0) dX9_turns_32 (by decide) ?_
    refine a_istore_n C [(3, .int 0), (2, .int r28_6), (0, .ref t), (1, .int p1)] dX9_turns_33 rfl (by decide) rfl ?_
    refine a_sub C [2, 3, 1, 0] [(0, .ref t), (1, .int p1), (2, .int r28_6), (3, .int 0)] rfl ?_
    refine hI34 r28_6 r18_4.2 t_orderF t_result t_orderMany 1000 0 t_allF _ hF (fun x3_34_12 q_t_allF_34_13 hF => ?_)
    refine a_aload_n C 0 dX9_turns_85 rfl rfl ?_
    refine a_aload_n C 0 dX9_turns_86 rfl rfl ?_
    refine a_iload_n C 1 dX9_turns_87 rfl rfl ?_
    refine a_iconst C (v := 0) dX9_turns_88 (by decide) ?_
    refine a_callVi C 2 [0, 1, 2, 3, 4, 5, 6, 7] 0 cs_X9_111 hd_X9_rankOf ⟨rfl, rfl⟩ ⟨Nat.le_of_ble_eq_true rfl, Nat.le_of_ble_eq_true rfl⟩ (fun r h => c_X9_rankOf l D J kc ki kb kl kd t t_all t_reasons t_text t_word t_order t_rows t_written q_t_allF_34_13 r18_4.2 t_textF t_wordF t_orderF t_rowsF t_writtenF t_thrown t_changes t_isSaved t_result t_texted t_wordSize t_orderMany t_here t_fault t_faultAt t_commandMany t_writtenSize p1 0 r h) rfl rfl rfl (fun _ => rfl) rfl rfl rfl (Nat.le_of_ble_eq_true rfl) dX9_turns_89 ⟨Nat.zero_le _, Nat.zero_le _⟩ hF (fun r89_14 er89_14 hF => ?_)
    refine a_ws C (ws' := wX9 kc ki t t_all t_reasons t_text t_word t_order t_rows t_written q_t_allF_34_13 r18_4.2 t_textF t_wordF r89_14.2.1 t_rowsF t_writtenF t_thrown t_changes t_isSaved t_result t_texted t_wordSize r89_14.2.2 t_here t_fault t_faultAt t_commandMany t_writtenSize) rfl ?_
    refine a_put C 0 4 iwX9 tyX9_ok nmX9 rfl rfl (by decide) kf_X9_46 rfl rfl rfl (Nat.le_of_ble_eq_true rfl) dX9_turns_92 ?_
    refine a_ws C (ws' := wX9 kc ki t t_all t_reasons t_text t_word t_order t_rows t_written q_t_allF_34_13 r18_4.2 t_textF t_wordF r89_14.2.1 t_rowsF t_writtenF t_thrown t_changes t_isSaved r89_14.1 t_texted t_wordSize r89_14.2.2 t_here t_fault t_faultAt t_commandMany t_writtenSize) rfl ?_
    refine a_iconst C (v := 1) dX9_turns_95 (by decide) ?_
    exact a_iret C hr rfl dX9_turns_96 hF rfl rfl
  refine a_iconst C (v := 0) dX9_turns_24 (by decide) ?_
  exact a_iret C hr rfl dX9_turns_25 hF rfl rfl
theorem cs_X9_129 : GoodIn WW (wsV RX9 129 RX9 yX9_turns (aW yX9_turns cX9_turns 5 ((some .boolean)))) := gdV kl_X9_129 ki_X9_turns kv_X9_turns kn_X9 kc_X9_turns
def f_X9_turn (t_allF : Nat → Int32) (t_reasonsF : Nat → Int32) (t_orderF : Nat → Int32) (t_changes : Int32) (t_result : Int32) (t_orderMany : Int32) (p1 : Int32) : Option (Int32 × (Nat → Int32) × (Nat → Int32) × (Nat → Int32) × Int32 × Int32 × Int32 × Int32) := (f_X9_begins t_allF).bind fun r1_1 => (f_X9_turns r1_1 t_reasonsF t_orderF t_result t_orderMany p1).bind fun r7_2 => (f_X9_ends r7_2.2.1 t_changes r7_2.2.2.2.2.1 r7_2.1 1).bind fun r11_3 => some (r11_3.1, r11_3.2.1, r7_2.2.2.1, r7_2.2.2.2.1, r11_3.2.2.1, r11_3.2.2.2, r7_2.2.2.2.2.1, r7_2.2.2.2.2.2)
theorem hd_X9_turn : yX9_turn.cls = RX9 ∧ yX9_turn.cls ≠ "java/lang/invoke/MethodHandle" ∧ yX9_turn.cls ≠ "java/lang/invoke/VarHandle" ∧ (parseMethodDescriptor yX9_turn.desc).map (fun d => d.parameters.length) = some 1 := by decide +kernel
set_option maxRecDepth 100000 in
set_option maxHeartbeats 4000000 in
theorem c_X9_turn (l : Launch) (D : va_G) (J : (Nat → Nat) × (Nat → Nat)) (kc ki kb kl kd : ClassId) (t : Nat) (t_all : Nat) (t_reasons : Nat) (t_text : Nat) (t_word : Nat) (t_order : Nat) (t_rows : Nat) (t_written : Nat) (t_allF : Nat → Int32) (t_reasonsF : Nat → Int32) (t_textF : Nat → Int32) (t_wordF : Nat → Int32) (t_orderF : Nat → Int32) (t_rowsF : Nat → Int32) (t_writtenF : Nat → Int32) (t_thrown : Int32) (t_changes : Int32) (t_isSaved : Int32) (t_result : Int32) (t_texted : Int32) (t_wordSize : Int32) (t_orderMany : Int32) (t_here : Int32) (t_fault : Int32) (t_faultAt : Int32) (t_commandMany : Int32) (t_writtenSize : Int32) (p1 : Int32) (res : Int32 × (Nat → Int32) × (Nat → Int32) × (Nat → Int32) × Int32 × Int32 × Int32 × Int32) (hF : f_X9_turn t_allF t_reasonsF t_orderF t_changes t_result t_orderMany p1 = some res) : aKi l yX9_turn (aW yX9_turn cX9_turn 2 ((some .int))) ({ frames := 7, cells := 0, slots := 0, locals := 161 } : Room) D J (aTy kc ki kb kl kd) [.ref t, .int p1] (wX9 kc ki t t_all t_reasons t_text t_word t_order t_rows t_written t_allF t_reasonsF t_textF t_wordF t_orderF t_rowsF t_writtenF t_thrown t_changes t_isSaved t_result t_texted t_wordSize t_orderMany t_here t_fault t_faultAt t_commandMany t_writtenSize) (fun r => r.1) (fun r => wX9 kc ki t t_all t_reasons t_text t_word t_order t_rows t_written r.2.1 r.2.2.1 t_textF t_wordF r.2.2.2.1 t_rowsF t_writtenF r.2.2.2.2.1 r.2.2.2.2.2.1 t_isSaved r.2.2.2.2.2.2.1 t_texted t_wordSize r.2.2.2.2.2.2.2 t_here t_fault t_faultAt t_commandMany t_writtenSize) res := by
  refine aKi_of (own := RX9) (by decide) rfl (Nat.le_of_ble_eq_true rfl) rfl ?_
  intro p e s m args below meth c C hr
  unfold f_X9_turn at hF
  refine a_aload_n C 0 dX9_turn_0 rfl rfl ?_
  refine a_callVv C 0 [0, 1, 2, 3, 4, 5, 6, 7] 0 cs_X9_83 hd_X9_begins ⟨rfl, rfl⟩ ⟨Nat.le_of_ble_eq_true rfl, Nat.le_of_ble_eq_true rfl⟩ (fun r h => c_X9_begins l D J kc ki kb kl kd t t_all t_reasons t_text t_word t_order t_rows t_written t_allF t_reasonsF t_textF t_wordF t_orderF t_rowsF t_writtenF t_thrown t_changes t_isSaved t_result t_texted t_wordSize t_orderMany t_here t_fault t_faultAt t_commandMany t_writtenSize r h) rfl rfl rfl (fun _ => rfl) rfl rfl rfl (Nat.le_of_ble_eq_true rfl) dX9_turn_1 ⟨Nat.zero_le _, Nat.zero_le _⟩ hF (fun r1_1 er1_1 hF => ?_)
  refine a_ws C (ws' := wX9 kc ki t t_all t_reasons t_text t_word t_order t_rows t_written r1_1 t_reasonsF t_textF t_wordF t_orderF t_rowsF t_writtenF t_thrown t_changes t_isSaved t_result t_texted t_wordSize t_orderMany t_here t_fault t_faultAt t_commandMany t_writtenSize) rfl ?_
  refine a_aload_n C 0 dX9_turn_4 rfl rfl ?_
  refine a_aload_n C 0 dX9_turn_5 rfl rfl ?_
  refine a_iload_n C 1 dX9_turn_6 rfl rfl ?_
  refine a_callVi C 1 [0, 1, 2, 3, 4, 5, 6, 7] 0 cs_X9_129 hd_X9_turns ⟨rfl, rfl⟩ ⟨Nat.le_of_ble_eq_true rfl, Nat.le_of_ble_eq_true rfl⟩ (fun r h => c_X9_turns l D J kc ki kb kl kd t t_all t_reasons t_text t_word t_order t_rows t_written r1_1 t_reasonsF t_textF t_wordF t_orderF t_rowsF t_writtenF t_thrown t_changes t_isSaved t_result t_texted t_wordSize t_orderMany t_here t_fault t_faultAt t_commandMany t_writtenSize p1 r h) rfl rfl rfl (fun _ => rfl) rfl rfl rfl (Nat.le_of_ble_eq_true rfl) dX9_turn_7 ⟨Nat.zero_le _, Nat.zero_le _⟩ hF (fun r7_2 er7_2 hF => ?_)
  refine a_ws C (ws' := wX9 kc ki t t_all t_reasons t_text t_word t_order t_rows t_written r7_2.2.1 r7_2.2.2.1 t_textF t_wordF r7_2.2.2.2.1 t_rowsF t_writtenF t_thrown t_changes t_isSaved r7_2.2.2.2.2.1 t_texted t_wordSize r7_2.2.2.2.2.2 t_here t_fault t_faultAt t_commandMany t_writtenSize) rfl ?_
  refine a_iconst C (v := 1) dX9_turn_10 (by decide) ?_
  refine a_callVi C 2 [0, 1, 2, 3, 4, 5, 6, 7] 0 cs_X9_89 hd_X9_ends ⟨rfl, rfl⟩ ⟨Nat.le_of_ble_eq_true rfl, Nat.le_of_ble_eq_true rfl⟩ (fun r h => c_X9_ends l D J kc ki kb kl kd t t_all t_reasons t_text t_word t_order t_rows t_written r7_2.2.1 r7_2.2.2.1 t_textF t_wordF r7_2.2.2.2.1 t_rowsF t_writtenF t_thrown t_changes t_isSaved r7_2.2.2.2.2.1 t_texted t_wordSize r7_2.2.2.2.2.2 t_here t_fault t_faultAt t_commandMany t_writtenSize r7_2.1 1 r h) rfl rfl rfl (fun _ => rfl) rfl rfl rfl (Nat.le_of_ble_eq_true rfl) dX9_turn_11 ⟨Nat.zero_le _, Nat.zero_le _⟩ hF (fun r11_3 er11_3 hF => ?_)
  refine a_ws C (ws' := wX9 kc ki t t_all t_reasons t_text t_word t_order t_rows t_written r11_3.2.1 r7_2.2.2.1 t_textF t_wordF r7_2.2.2.2.1 t_rowsF t_writtenF r11_3.2.2.1 r11_3.2.2.2 t_isSaved r7_2.2.2.2.2.1 t_texted t_wordSize r7_2.2.2.2.2.2 t_here t_fault t_faultAt t_commandMany t_writtenSize) rfl ?_
  exact a_iret C hr rfl dX9_turn_14 hF rfl rfl
def f_X9_common1 (t_allF : Nat → Int32) (t_orderF : Nat → Int32) (p1 : Int32) : Option Int32 := (ldi t_orderF 80 (p1 - 1)).bind fun v8_1 => (ldi t_orderF 80 p1).bind fun v14_2 => (f_X9_front t_allF v8_1 v14_2).bind fun r15_3 => some r15_3
theorem hd_X9_common1 : yX9_common1.cls = RX9 ∧ yX9_common1.cls ≠ "java/lang/invoke/MethodHandle" ∧ yX9_common1.cls ≠ "java/lang/invoke/VarHandle" ∧ (parseMethodDescriptor yX9_common1.desc).map (fun d => d.parameters.length) = some 1 := by decide +kernel
set_option maxRecDepth 100000 in
set_option maxHeartbeats 4000000 in
theorem c_X9_common1 (l : Launch) (D : va_G) (J : (Nat → Nat) × (Nat → Nat)) (kc ki kb kl kd : ClassId) (t : Nat) (t_all : Nat) (t_reasons : Nat) (t_text : Nat) (t_word : Nat) (t_order : Nat) (t_rows : Nat) (t_written : Nat) (t_allF : Nat → Int32) (t_reasonsF : Nat → Int32) (t_textF : Nat → Int32) (t_wordF : Nat → Int32) (t_orderF : Nat → Int32) (t_rowsF : Nat → Int32) (t_writtenF : Nat → Int32) (t_thrown : Int32) (t_changes : Int32) (t_isSaved : Int32) (t_result : Int32) (t_texted : Int32) (t_wordSize : Int32) (t_orderMany : Int32) (t_here : Int32) (t_fault : Int32) (t_faultAt : Int32) (t_commandMany : Int32) (t_writtenSize : Int32) (p1 : Int32) (res : Int32) (hF : f_X9_common1 t_allF t_orderF p1 = some res) : aKi l yX9_common1 (aW yX9_common1 cX9_common1 2 ((some .int))) ({ frames := 3, cells := 0, slots := 0, locals := 67 } : Room) D J (aTy kc ki kb kl kd) [.ref t, .int p1] (wX9 kc ki t t_all t_reasons t_text t_word t_order t_rows t_written t_allF t_reasonsF t_textF t_wordF t_orderF t_rowsF t_writtenF t_thrown t_changes t_isSaved t_result t_texted t_wordSize t_orderMany t_here t_fault t_faultAt t_commandMany t_writtenSize) (fun r => r) (fun _ => wX9 kc ki t t_all t_reasons t_text t_word t_order t_rows t_written t_allF t_reasonsF t_textF t_wordF t_orderF t_rowsF t_writtenF t_thrown t_changes t_isSaved t_result t_texted t_wordSize t_orderMany t_here t_fault t_faultAt t_commandMany t_writtenSize) res := by
  refine aKi_of (own := RX9) (by decide) rfl (Nat.le_of_ble_eq_true rfl) rfl ?_
  intro p e s m args below meth c C hr
  unfold f_X9_common1 at hF
  refine a_aload_n C 0 dX9_common1_0 rfl rfl ?_
  refine a_aload_n C 0 dX9_common1_1 rfl rfl ?_
  refine a_get C 0 10 iwX9 rfl rfl (by decide) kf_X9_23 rfl dX9_common1_2 ?_
  refine a_iload_n C 1 dX9_common1_5 rfl rfl ?_
  refine a_iconst C (v := 1) dX9_common1_6 (by decide) ?_
  refine a_isub C dX9_common1_7 ?_
  refine a_iald C 5 1 rfl rfl dX9_common1_8 hF (fun v8_1 ev8_1 hF => ?_)
  refine a_aload_n C 0 dX9_common1_9 rfl rfl ?_
  refine a_get C 0 10 iwX9 rfl rfl (by decide) kf_X9_23 rfl dX9_common1_10 ?_
  refine a_iload_n C 1 dX9_common1_13 rfl rfl ?_
  refine a_iald C 5 1 rfl rfl dX9_common1_14 hF (fun v14_2 ev14_2 hF => ?_)
  refine a_callVir C 2 [0, 1, 2, 3, 4, 5, 6, 7] 0 cs_X9_138 hd_X9_front ⟨rfl, rfl⟩ ⟨Nat.le_of_ble_eq_true rfl, Nat.le_of_ble_eq_true rfl⟩ (fun r h => c_X9_front l D J kc ki kb kl kd t t_all t_reasons t_text t_word t_order t_rows t_written t_allF t_reasonsF t_textF t_wordF t_orderF t_rowsF t_writtenF t_thrown t_changes t_isSaved t_result t_texted t_wordSize t_orderMany t_here t_fault t_faultAt t_commandMany t_writtenSize v8_1 v14_2 r h) rfl rfl rfl rfl rfl rfl (Nat.le_of_ble_eq_true rfl) dX9_common1_15 ⟨Nat.zero_le _, Nat.zero_le _⟩ hF (fun r15_3 er15_3 hF => ?_)
  exact a_iret C hr rfl dX9_common1_18 hF rfl rfl
def f_X9_period_L16 (x2 : Int32) (x3 : Int32) (p1 : Int32) (t_allF : Nat → Int32) : Nat → Int32 → (Int32 → Option Int32) → Option Int32
  | 0, _, _ => none
  | fuel + 1, x4, k => if x2 ≤ x4 then (k x4) else ((f_X9_at t_allF p1 x4).bind fun r26_4 => (f_X9_at t_allF p1 (x4 - x3)).bind fun r35_5 => if ¬ r26_4 = r35_5 then (k x4) else (f_X9_period_L16 x2 x3 p1 t_allF fuel (x4 + 1) k))
def f_X9_period_L8 (x2 : Int32) (p1 : Int32) (t_allF : Nat → Int32) : Nat → Int32 → (Int32 → Option Int32) → Option Int32
  | 0, _, _ => none
  | fuel + 1, x3, k => if x2 ≤ x3 then (k x3) else (f_X9_period_L16 x2 x3 p1 t_allF 1000 x3 (fun x4_16_7 => if ¬ x4_16_7 = x2 then (f_X9_period_L8 x2 p1 t_allF fuel (x3 + 1) k) else (some x3)))
def f_X9_period (t_allF : Nat → Int32) (p1 : Int32) : Option Int32 := (f_X9_size t_allF p1).bind fun r2_1 => f_X9_period_L8 r2_1 p1 t_allF 1000 1 (fun x3_8_9 => some r2_1)
theorem hd_X9_period : yX9_period.cls = RX9 ∧ yX9_period.cls ≠ "java/lang/invoke/MethodHandle" ∧ yX9_period.cls ≠ "java/lang/invoke/VarHandle" ∧ (parseMethodDescriptor yX9_period.desc).map (fun d => d.parameters.length) = some 1 := by decide +kernel
set_option maxRecDepth 100000 in
set_option maxHeartbeats 4000000 in
theorem c_X9_period (l : Launch) (D : va_G) (J : (Nat → Nat) × (Nat → Nat)) (kc ki kb kl kd : ClassId) (t : Nat) (t_all : Nat) (t_reasons : Nat) (t_text : Nat) (t_word : Nat) (t_order : Nat) (t_rows : Nat) (t_written : Nat) (t_allF : Nat → Int32) (t_reasonsF : Nat → Int32) (t_textF : Nat → Int32) (t_wordF : Nat → Int32) (t_orderF : Nat → Int32) (t_rowsF : Nat → Int32) (t_writtenF : Nat → Int32) (t_thrown : Int32) (t_changes : Int32) (t_isSaved : Int32) (t_result : Int32) (t_texted : Int32) (t_wordSize : Int32) (t_orderMany : Int32) (t_here : Int32) (t_fault : Int32) (t_faultAt : Int32) (t_commandMany : Int32) (t_writtenSize : Int32) (p1 : Int32) (res : Int32) (hF : f_X9_period t_allF p1 = some res) : aKi l yX9_period (aW yX9_period cX9_period 5 ((some .int))) ({ frames := 1, cells := 0, slots := 0, locals := 22 } : Room) D J (aTy kc ki kb kl kd) [.ref t, .int p1] (wX9 kc ki t t_all t_reasons t_text t_word t_order t_rows t_written t_allF t_reasonsF t_textF t_wordF t_orderF t_rowsF t_writtenF t_thrown t_changes t_isSaved t_result t_texted t_wordSize t_orderMany t_here t_fault t_faultAt t_commandMany t_writtenSize) (fun r => r) (fun _ => wX9 kc ki t t_all t_reasons t_text t_word t_order t_rows t_written t_allF t_reasonsF t_textF t_wordF t_orderF t_rowsF t_writtenF t_thrown t_changes t_isSaved t_result t_texted t_wordSize t_orderMany t_here t_fault t_faultAt t_commandMany t_writtenSize) res := by
  refine aKi_of (own := RX9) (by decide) rfl (Nat.le_of_ble_eq_true rfl) rfl ?_
  intro p e s m args below meth c C hr
  have hI16 : ∀ (x2 : Int32) (x3 : Int32) (fuel : Nat) (x4 : Int32) (k : Int32 → Option Int32), f_X9_period_L16 x2 x3 p1 t_allF fuel x4 k = some res → (∀ (x4 : Int32), k x4 = some res → aT p l e ({ frames := 1, cells := 0, slots := 0, locals := 22 } : Room) s m args below meth c (MQ below (aQi D (wX9 kc ki t t_all t_reasons t_text t_word t_order t_rows t_written t_allF t_reasonsF t_textF t_wordF t_orderF t_rowsF t_writtenF t_thrown t_changes t_isSaved t_result t_texted t_wordSize t_orderMany t_here t_fault t_faultAt t_commandMany t_writtenSize) s.heap.size (fun r => r) (fun _ => wX9 kc ki t t_all t_reasons t_text t_word t_order t_rows t_written t_allF t_reasonsF t_textF t_wordF t_orderF t_rowsF t_writtenF t_thrown t_changes t_isSaved t_result t_texted t_wordSize t_orderMany t_here t_fault t_faultAt t_commandMany t_writtenSize) res) args s 0 0 (va_A (wX9 kc ki t t_all t_reasons t_text t_word t_order t_rows t_written t_allF t_reasonsF t_textF t_wordF t_orderF t_rowsF t_writtenF t_thrown t_changes t_isSaved t_result t_texted t_wordSize t_orderMany t_here t_fault t_faultAt t_commandMany t_writtenSize) s.heap.size)) D (va_A (wX9 kc ki t t_all t_reasons t_text t_word t_order t_rows t_written t_allF t_reasonsF t_textF t_wordF t_orderF t_rowsF t_writtenF t_thrown t_changes t_isSaved t_result t_texted t_wordSize t_orderMany t_here t_fault t_faultAt t_commandMany t_writtenSize) s.heap.size) 5 0 0 47 [(0, .ref t), (1, .int p1), (2, .int x2), (3, .int x3), (4, .int x4)] [] (wX9 kc ki t t_all t_reasons t_text t_word t_order t_rows t_written t_allF t_reasonsF t_textF t_wordF t_orderF t_rowsF t_writtenF t_thrown t_changes t_isSaved t_result t_texted t_wordSize t_orderMany t_here t_fault t_faultAt t_commandMany t_writtenSize)) → aT p l e ({ frames := 1, cells := 0, slots := 0, locals := 22 } : Room) s m args below meth c (MQ below (aQi D (wX9 kc ki t t_all t_reasons t_text t_word t_order t_rows t_written t_allF t_reasonsF t_textF t_wordF t_orderF t_rowsF t_writtenF t_thrown t_changes t_isSaved t_result t_texted t_wordSize t_orderMany t_here t_fault t_faultAt t_commandMany t_writtenSize) s.heap.size (fun r => r) (fun _ => wX9 kc ki t t_all t_reasons t_text t_word t_order t_rows t_written t_allF t_reasonsF t_textF t_wordF t_orderF t_rowsF t_writtenF t_thrown t_changes t_isSaved t_result t_texted t_wordSize t_orderMany t_here t_fault t_faultAt t_commandMany t_writtenSize) res) args s 0 0 (va_A (wX9 kc ki t t_all t_reasons t_text t_word t_order t_rows t_written t_allF t_reasonsF t_textF t_wordF t_orderF t_rowsF t_writtenF t_thrown t_changes t_isSaved t_result t_texted t_wordSize t_orderMany t_here t_fault t_faultAt t_commandMany t_writtenSize) s.heap.size)) D (va_A (wX9 kc ki t t_all t_reasons t_text t_word t_order t_rows t_written t_allF t_reasonsF t_textF t_wordF t_orderF t_rowsF t_writtenF t_thrown t_changes t_isSaved t_result t_texted t_wordSize t_orderMany t_here t_fault t_faultAt t_commandMany t_writtenSize) s.heap.size) 5 0 0 16 [(0, .ref t), (1, .int p1), (2, .int x2), (3, .int x3), (4, .int x4)] [] (wX9 kc ki t t_all t_reasons t_text t_word t_order t_rows t_written t_allF t_reasonsF t_textF t_wordF t_orderF t_rowsF t_writtenF t_thrown t_changes t_isSaved t_result t_texted t_wordSize t_orderMany t_here t_fault t_faultAt t_commandMany t_writtenSize) := by
    intro x2 x3 fuel
    induction fuel with
    | zero => intro x4 k hF hX; exact nomatch hF
    | succ fuel ih =>
      intro x4 k hF hX
      rw [f_X9_period_L16] at hF
      refine a_iload C 4 dX9_period_16 rfl ?_
      refine a_iload_n C 2 dX9_period_18 rfl rfl ?_
      refine a_ic_ge C (tgt := 47) dX9_period_19 (by decide) hF (fun c19_3 hF => ?_) (fun c19_3 hF => ?_)
      · exact hX x4 hF
      refine a_aload_n C 0 dX9_period_22 rfl rfl ?_
      refine a_iload_n C 1 dX9_period_23 rfl rfl ?_
      refine a_iload C 4 dX9_period_24 rfl ?_
      refine a_callVir C 2 [0, 1, 2, 3, 4, 5, 6, 7] 0 cs_X9_107 hd_X9_at ⟨rfl, rfl⟩ ⟨Nat.le_of_ble_eq_true rfl, Nat.le_of_ble_eq_true rfl⟩ (fun r h => c_X9_at l D J kc ki kb kl kd t t_all t_reasons t_text t_word t_order t_rows t_written t_allF t_reasonsF t_textF t_wordF t_orderF t_rowsF t_writtenF t_thrown t_changes t_isSaved t_result t_texted t_wordSize t_orderMany t_here t_fault t_faultAt t_commandMany t_writtenSize p1 x4 r h) rfl rfl rfl rfl rfl rfl (Nat.le_of_ble_eq_true rfl) dX9_period_26 ⟨Nat.zero_le _, Nat.zero_le _⟩ hF (fun r26_4 er26_4 hF => ?_)
      refine a_aload_n C 0 dX9_period_29 rfl rfl ?_
      refine a_iload_n C 1 dX9_period_30 rfl rfl ?_
      refine a_iload C 4 dX9_period_31 rfl ?_
      refine a_iload_n C 3 dX9_period_33 rfl rfl ?_
      refine a_isub C dX9_period_34 ?_
      refine a_callVir C 2 [0, 1, 2, 3, 4, 5, 6, 7] 0 cs_X9_107 hd_X9_at ⟨rfl, rfl⟩ ⟨Nat.le_of_ble_eq_true rfl, Nat.le_of_ble_eq_true rfl⟩ (fun r h => c_X9_at l D J kc ki kb kl kd t t_all t_reasons t_text t_word t_order t_rows t_written t_allF t_reasonsF t_textF t_wordF t_orderF t_rowsF t_writtenF t_thrown t_changes t_isSaved t_result t_texted t_wordSize t_orderMany t_here t_fault t_faultAt t_commandMany t_writtenSize p1 (x4 - x3) r h) rfl rfl rfl rfl rfl rfl (Nat.le_of_ble_eq_true rfl) dX9_period_35 ⟨Nat.zero_le _, Nat.zero_le _⟩ hF (fun r35_5 er35_5 hF => ?_)
      refine a_ic_ne C (tgt := 47) dX9_period_38 (by decide) hF (fun c38_6 hF => ?_) (fun c38_6 hF => ?_)
      · exact hX x4 hF
      refine a_iinc C 4 [(4, .int (x4 + 1)), (0, .ref t), (1, .int p1), (2, .int x2), (3, .int x3)] dX9_period_41 rfl rfl (by decide) rfl ?_
      refine a_goto C (tgt := 16) dX9_period_44 (by decide) ?_
      refine a_sub C [1, 2, 3, 4, 0] [(0, .ref t), (1, .int p1), (2, .int x2), (3, .int x3), (4, .int (x4 + 1))] rfl ?_
      exact ih (x4 + 1) k hF hX
  have hI8 : ∀ (x2 : Int32) (fuel : Nat) (x3 : Int32) (k : Int32 → Option Int32), f_X9_period_L8 x2 p1 t_allF fuel x3 k = some res → (∀ (x3 : Int32), k x3 = some res → aT p l e ({ frames := 1, cells := 0, slots := 0, locals := 22 } : Room) s m args below meth c (MQ below (aQi D (wX9 kc ki t t_all t_reasons t_text t_word t_order t_rows t_written t_allF t_reasonsF t_textF t_wordF t_orderF t_rowsF t_writtenF t_thrown t_changes t_isSaved t_result t_texted t_wordSize t_orderMany t_here t_fault t_faultAt t_commandMany t_writtenSize) s.heap.size (fun r => r) (fun _ => wX9 kc ki t t_all t_reasons t_text t_word t_order t_rows t_written t_allF t_reasonsF t_textF t_wordF t_orderF t_rowsF t_writtenF t_thrown t_changes t_isSaved t_result t_texted t_wordSize t_orderMany t_here t_fault t_faultAt t_commandMany t_writtenSize) res) args s 0 0 (va_A (wX9 kc ki t t_all t_reasons t_text t_word t_order t_rows t_written t_allF t_reasonsF t_textF t_wordF t_orderF t_rowsF t_writtenF t_thrown t_changes t_isSaved t_result t_texted t_wordSize t_orderMany t_here t_fault t_faultAt t_commandMany t_writtenSize) s.heap.size)) D (va_A (wX9 kc ki t t_all t_reasons t_text t_word t_order t_rows t_written t_allF t_reasonsF t_textF t_wordF t_orderF t_rowsF t_writtenF t_thrown t_changes t_isSaved t_result t_texted t_wordSize t_orderMany t_here t_fault t_faultAt t_commandMany t_writtenSize) s.heap.size) 5 0 0 61 [(2, .int x2)] [] (wX9 kc ki t t_all t_reasons t_text t_word t_order t_rows t_written t_allF t_reasonsF t_textF t_wordF t_orderF t_rowsF t_writtenF t_thrown t_changes t_isSaved t_result t_texted t_wordSize t_orderMany t_here t_fault t_faultAt t_commandMany t_writtenSize)) → aT p l e ({ frames := 1, cells := 0, slots := 0, locals := 22 } : Room) s m args below meth c (MQ below (aQi D (wX9 kc ki t t_all t_reasons t_text t_word t_order t_rows t_written t_allF t_reasonsF t_textF t_wordF t_orderF t_rowsF t_writtenF t_thrown t_changes t_isSaved t_result t_texted t_wordSize t_orderMany t_here t_fault t_faultAt t_commandMany t_writtenSize) s.heap.size (fun r => r) (fun _ => wX9 kc ki t t_all t_reasons t_text t_word t_order t_rows t_written t_allF t_reasonsF t_textF t_wordF t_orderF t_rowsF t_writtenF t_thrown t_changes t_isSaved t_result t_texted t_wordSize t_orderMany t_here t_fault t_faultAt t_commandMany t_writtenSize) res) args s 0 0 (va_A (wX9 kc ki t t_all t_reasons t_text t_word t_order t_rows t_written t_allF t_reasonsF t_textF t_wordF t_orderF t_rowsF t_writtenF t_thrown t_changes t_isSaved t_result t_texted t_wordSize t_orderMany t_here t_fault t_faultAt t_commandMany t_writtenSize) s.heap.size)) D (va_A (wX9 kc ki t t_all t_reasons t_text t_word t_order t_rows t_written t_allF t_reasonsF t_textF t_wordF t_orderF t_rowsF t_writtenF t_thrown t_changes t_isSaved t_result t_texted t_wordSize t_orderMany t_here t_fault t_faultAt t_commandMany t_writtenSize) s.heap.size) 5 0 0 8 [(0, .ref t), (1, .int p1), (2, .int x2), (3, .int x3)] [] (wX9 kc ki t t_all t_reasons t_text t_word t_order t_rows t_written t_allF t_reasonsF t_textF t_wordF t_orderF t_rowsF t_writtenF t_thrown t_changes t_isSaved t_result t_texted t_wordSize t_orderMany t_here t_fault t_faultAt t_commandMany t_writtenSize) := by
    intro x2 fuel
    induction fuel with
    | zero => intro x3 k hF hX; exact nomatch hF
    | succ fuel ih =>
      intro x3 k hF hX
      rw [f_X9_period_L8] at hF
      refine a_iload_n C 3 dX9_period_8 rfl rfl ?_
      refine a_iload_n C 2 dX9_period_9 rfl rfl ?_
      refine a_ic_ge C (tgt := 61) dX9_period_10 (by decide) hF (fun c10_2 hF => ?_) (fun c10_2 hF => ?_)
      · refine a_sub C [2] [(2, .int x2)] rfl ?_
        exact hX x3 hF
      refine a_iload_n C 3 dX9_period_13 rfl rfl ?_
      refine a_istore C [(4, .int x3), (0, .ref t), (1, .int p1), (2, .int x2), (3, .int x3)] dX9_period_14 (by decide) rfl ?_
      refine a_sub C [1, 2, 3, 4, 0] [(0, .ref t), (1, .int p1), (2, .int x2), (3, .int x3), (4, .int x3)] rfl ?_
      refine hI16 x2 x3 1000 x3 _ hF (fun x4_16_7 hF => ?_)
      refine a_iload C 4 dX9_period_47 rfl ?_
      refine a_iload_n C 2 dX9_period_49 rfl rfl ?_
      refine a_ic_ne C (tgt := 55) dX9_period_50 (by decide) hF (fun c50_8 hF => ?_) (fun c50_8 hF => ?_)
      · refine a_iinc C 3 [(3, .int (x3 + 1)), (0, .ref t), (1, .int p1), (2, .int x2), (4, .int x4_16_7)] dX9_period_55 rfl rfl (by decide) rfl ?_
        refine a_goto C (tgt := 8) dX9_period_58 (by decide) ?_
        refine a_sub C [1, 2, 3, 0] [(0, .ref t), (1, .int p1), (2, .int x2), (3, .int (x3 + 1))] rfl ?_
        exact ih (x3 + 1) k hF hX
      refine a_iload_n C 3 dX9_period_53 rfl rfl ?_
      exact a_iret C hr rfl dX9_period_54 hF rfl rfl
  unfold f_X9_period at hF
  refine a_aload_n C 0 dX9_period_0 rfl rfl ?_
  refine a_iload_n C 1 dX9_period_1 rfl rfl ?_
  refine a_callVir C 1 [0, 1, 2, 3, 4, 5, 6, 7] 0 cs_X9_61 hd_X9_size ⟨rfl, rfl⟩ ⟨Nat.le_of_ble_eq_true rfl, Nat.le_of_ble_eq_true rfl⟩ (fun r h => c_X9_size l D J kc ki kb kl kd t t_all t_reasons t_text t_word t_order t_rows t_written t_allF t_reasonsF t_textF t_wordF t_orderF t_rowsF t_writtenF t_thrown t_changes t_isSaved t_result t_texted t_wordSize t_orderMany t_here t_fault t_faultAt t_commandMany t_writtenSize p1 r h) rfl rfl rfl rfl rfl rfl (Nat.le_of_ble_eq_true rfl) dX9_period_2 ⟨Nat.zero_le _, Nat.zero_le _⟩ hF (fun r2_1 er2_1 hF => ?_)
  refine a_istore_n C [(2, .int r2_1), (0, .ref t), (1, .int p1)] dX9_period_5 rfl (by decide) rfl ?_
  refine a_iconst C (v := 1) dX9_period_6 (by decide) ?_
  refine a_istore_n C [(3, .int 1), (2, .int r2_1), (0, .ref t), (1, .int p1)] dX9_period_7 rfl (by decide) rfl ?_
  refine a_sub C [2, 3, 1, 0] [(0, .ref t), (1, .int p1), (2, .int r2_1), (3, .int 1)] rfl ?_
  refine hI8 r2_1 1000 1 _ hF (fun x3_8_9 hF => ?_)
  refine a_iload_n C 0 dX9_period_61 rfl rfl ?_
  exact a_iret C hr rfl dX9_period_62 hF rfl rfl
def f_X9_different_L28 (x4 : Int32) (x6 : Int32) (t_allF : Nat → Int32) : Nat → Int32 → Int32 → (Int32 → Int32 → Option Int32) → Option Int32
  | 0, _, _, _ => none
  | fuel + 1, x5, x7, k => (f_X9_size t_allF x6).bind fun r33_3 => if r33_3 ≤ x7 then (k x5 x7) else ((f_X9_at t_allF x6 x7).bind fun r46_5 => if ¬ r46_5 = x4 then (f_X9_different_L28 x4 x6 t_allF fuel (x5 ||| 0) (x7 + 1) k) else (f_X9_different_L28 x4 x6 t_allF fuel (x5 ||| 1) (x7 + 1) k))
def f_X9_different_L19 (x4 : Int32) (p2 : Int32) (t_allF : Nat → Int32) : Nat → Int32 → Int32 → (Int32 → Int32 → Option Int32) → Option Int32
  | 0, _, _, _ => none
  | fuel + 1, x5, x6, k => if p2 ≤ x6 then (k x5 x6) else (f_X9_different_L28 x4 x6 t_allF 1000 x5 0 (fun x5_28_7 x7_28_8 => f_X9_different_L19 x4 p2 t_allF fuel x5_28_7 (x6 + 1) k))
def f_X9_different_L6 (p1 : Int32) (p2 : Int32) (t_allF : Nat → Int32) : Nat → Int32 → Int32 → (Int32 → Int32 → Option Int32) → Option Int32
  | 0, _, _, _ => none
  | fuel + 1, x3, x4, k => if 122 < x4 then (k x3 x4) else (f_X9_different_L19 x4 p2 t_allF 1000 0 p1 (fun x5_19_9 x6_19_10 => if x5_19_9 = 0 then (f_X9_different_L6 p1 p2 t_allF fuel (x3 + 0) (x4 + 1) k) else (f_X9_different_L6 p1 p2 t_allF fuel (x3 + 1) (x4 + 1) k)))
def f_X9_different (t_allF : Nat → Int32) (p1 : Int32) (p2 : Int32) : Option Int32 := f_X9_different_L6 p1 p2 t_allF 1000 0 97 (fun x3_6_12 x4_6_13 => some x3_6_12)
theorem hd_X9_different : yX9_different.cls = RX9 ∧ yX9_different.cls ≠ "java/lang/invoke/MethodHandle" ∧ yX9_different.cls ≠ "java/lang/invoke/VarHandle" ∧ (parseMethodDescriptor yX9_different.desc).map (fun d => d.parameters.length) = some 2 := by decide +kernel
set_option maxRecDepth 100000 in
set_option maxHeartbeats 4000000 in
theorem c_X9_different (l : Launch) (D : va_G) (J : (Nat → Nat) × (Nat → Nat)) (kc ki kb kl kd : ClassId) (t : Nat) (t_all : Nat) (t_reasons : Nat) (t_text : Nat) (t_word : Nat) (t_order : Nat) (t_rows : Nat) (t_written : Nat) (t_allF : Nat → Int32) (t_reasonsF : Nat → Int32) (t_textF : Nat → Int32) (t_wordF : Nat → Int32) (t_orderF : Nat → Int32) (t_rowsF : Nat → Int32) (t_writtenF : Nat → Int32) (t_thrown : Int32) (t_changes : Int32) (t_isSaved : Int32) (t_result : Int32) (t_texted : Int32) (t_wordSize : Int32) (t_orderMany : Int32) (t_here : Int32) (t_fault : Int32) (t_faultAt : Int32) (t_commandMany : Int32) (t_writtenSize : Int32) (p1 p2 : Int32) (res : Int32) (hF : f_X9_different t_allF p1 p2 = some res) : aKi l yX9_different (aW yX9_different cX9_different 8 ((some .int))) ({ frames := 1, cells := 0, slots := 0, locals := 22 } : Room) D J (aTy kc ki kb kl kd) [.ref t, .int p1, .int p2] (wX9 kc ki t t_all t_reasons t_text t_word t_order t_rows t_written t_allF t_reasonsF t_textF t_wordF t_orderF t_rowsF t_writtenF t_thrown t_changes t_isSaved t_result t_texted t_wordSize t_orderMany t_here t_fault t_faultAt t_commandMany t_writtenSize) (fun r => r) (fun _ => wX9 kc ki t t_all t_reasons t_text t_word t_order t_rows t_written t_allF t_reasonsF t_textF t_wordF t_orderF t_rowsF t_writtenF t_thrown t_changes t_isSaved t_result t_texted t_wordSize t_orderMany t_here t_fault t_faultAt t_commandMany t_writtenSize) res := by
  refine aKi_of (own := RX9) (by decide) rfl (Nat.le_of_ble_eq_true rfl) rfl ?_
  intro p e s m args below meth c C hr
  have hI28 : ∀ (x3 : Int32) (x4 : Int32) (x6 : Int32) (fuel : Nat) (x5 : Int32) (x7 : Int32) (k : Int32 → Int32 → Option Int32), f_X9_different_L28 x4 x6 t_allF fuel x5 x7 k = some res → (∀ (x5 : Int32) (x7 : Int32), k x5 x7 = some res → aT p l e ({ frames := 1, cells := 0, slots := 0, locals := 22 } : Room) s m args below meth c (MQ below (aQi D (wX9 kc ki t t_all t_reasons t_text t_word t_order t_rows t_written t_allF t_reasonsF t_textF t_wordF t_orderF t_rowsF t_writtenF t_thrown t_changes t_isSaved t_result t_texted t_wordSize t_orderMany t_here t_fault t_faultAt t_commandMany t_writtenSize) s.heap.size (fun r => r) (fun _ => wX9 kc ki t t_all t_reasons t_text t_word t_order t_rows t_written t_allF t_reasonsF t_textF t_wordF t_orderF t_rowsF t_writtenF t_thrown t_changes t_isSaved t_result t_texted t_wordSize t_orderMany t_here t_fault t_faultAt t_commandMany t_writtenSize) res) args s 0 0 (va_A (wX9 kc ki t t_all t_reasons t_text t_word t_order t_rows t_written t_allF t_reasonsF t_textF t_wordF t_orderF t_rowsF t_writtenF t_thrown t_changes t_isSaved t_result t_texted t_wordSize t_orderMany t_here t_fault t_faultAt t_commandMany t_writtenSize) s.heap.size)) D (va_A (wX9 kc ki t t_all t_reasons t_text t_word t_order t_rows t_written t_allF t_reasonsF t_textF t_wordF t_orderF t_rowsF t_writtenF t_thrown t_changes t_isSaved t_result t_texted t_wordSize t_orderMany t_here t_fault t_faultAt t_commandMany t_writtenSize) s.heap.size) 8 0 0 68 [(0, .ref t), (1, .int p1), (2, .int p2), (3, .int x3), (4, .int x4), (5, .int x5), (6, .int x6)] [] (wX9 kc ki t t_all t_reasons t_text t_word t_order t_rows t_written t_allF t_reasonsF t_textF t_wordF t_orderF t_rowsF t_writtenF t_thrown t_changes t_isSaved t_result t_texted t_wordSize t_orderMany t_here t_fault t_faultAt t_commandMany t_writtenSize)) → aT p l e ({ frames := 1, cells := 0, slots := 0, locals := 22 } : Room) s m args below meth c (MQ below (aQi D (wX9 kc ki t t_all t_reasons t_text t_word t_order t_rows t_written t_allF t_reasonsF t_textF t_wordF t_orderF t_rowsF t_writtenF t_thrown t_changes t_isSaved t_result t_texted t_wordSize t_orderMany t_here t_fault t_faultAt t_commandMany t_writtenSize) s.heap.size (fun r => r) (fun _ => wX9 kc ki t t_all t_reasons t_text t_word t_order t_rows t_written t_allF t_reasonsF t_textF t_wordF t_orderF t_rowsF t_writtenF t_thrown t_changes t_isSaved t_result t_texted t_wordSize t_orderMany t_here t_fault t_faultAt t_commandMany t_writtenSize) res) args s 0 0 (va_A (wX9 kc ki t t_all t_reasons t_text t_word t_order t_rows t_written t_allF t_reasonsF t_textF t_wordF t_orderF t_rowsF t_writtenF t_thrown t_changes t_isSaved t_result t_texted t_wordSize t_orderMany t_here t_fault t_faultAt t_commandMany t_writtenSize) s.heap.size)) D (va_A (wX9 kc ki t t_all t_reasons t_text t_word t_order t_rows t_written t_allF t_reasonsF t_textF t_wordF t_orderF t_rowsF t_writtenF t_thrown t_changes t_isSaved t_result t_texted t_wordSize t_orderMany t_here t_fault t_faultAt t_commandMany t_writtenSize) s.heap.size) 8 0 0 28 [(0, .ref t), (1, .int p1), (2, .int p2), (3, .int x3), (4, .int x4), (5, .int x5), (6, .int x6), (7, .int x7)] [] (wX9 kc ki t t_all t_reasons t_text t_word t_order t_rows t_written t_allF t_reasonsF t_textF t_wordF t_orderF t_rowsF t_writtenF t_thrown t_changes t_isSaved t_result t_texted t_wordSize t_orderMany t_here t_fault t_faultAt t_commandMany t_writtenSize) := by
    intro x3 x4 x6 fuel
    induction fuel with
    | zero => intro x5 x7 k hF hX; exact nomatch hF
    | succ fuel ih =>
      intro x5 x7 k hF hX
      rw [f_X9_different_L28] at hF
      refine a_iload C 7 dX9_different_28 rfl ?_
      refine a_aload_n C 0 dX9_different_30 rfl rfl ?_
      refine a_iload C 6 dX9_different_31 rfl ?_
      refine a_callVir C 1 [0, 1, 2, 3, 4, 5, 6, 7] 0 cs_X9_61 hd_X9_size ⟨rfl, rfl⟩ ⟨Nat.le_of_ble_eq_true rfl, Nat.le_of_ble_eq_true rfl⟩ (fun r h => c_X9_size l D J kc ki kb kl kd t t_all t_reasons t_text t_word t_order t_rows t_written t_allF t_reasonsF t_textF t_wordF t_orderF t_rowsF t_writtenF t_thrown t_changes t_isSaved t_result t_texted t_wordSize t_orderMany t_here t_fault t_faultAt t_commandMany t_writtenSize x6 r h) rfl rfl rfl rfl rfl rfl (Nat.le_of_ble_eq_true rfl) dX9_different_33 ⟨Nat.zero_le _, Nat.zero_le _⟩ hF (fun r33_3 er33_3 hF => ?_)
      refine a_ic_ge C (tgt := 68) dX9_different_36 (by decide) hF (fun c36_4 hF => ?_) (fun c36_4 hF => ?_)
      · refine a_sub C [0, 1, 2, 3, 4, 5, 6] [(0, .ref t), (1, .int p1), (2, .int p2), (3, .int x3), (4, .int x4), (5, .int x5), (6, .int x6)] rfl ?_
        exact hX x5 x7 hF
      refine a_iload C 5 dX9_different_39 rfl ?_
      refine a_aload_n C 0 dX9_different_41 rfl rfl ?_
      refine a_iload C 6 dX9_different_42 rfl ?_
      refine a_iload C 7 dX9_different_44 rfl ?_
      refine a_callVir C 2 [0, 1, 2, 3, 4, 5, 6, 7] 0 cs_X9_107 hd_X9_at ⟨rfl, rfl⟩ ⟨Nat.le_of_ble_eq_true rfl, Nat.le_of_ble_eq_true rfl⟩ (fun r h => c_X9_at l D J kc ki kb kl kd t t_all t_reasons t_text t_word t_order t_rows t_written t_allF t_reasonsF t_textF t_wordF t_orderF t_rowsF t_writtenF t_thrown t_changes t_isSaved t_result t_texted t_wordSize t_orderMany t_here t_fault t_faultAt t_commandMany t_writtenSize x6 x7 r h) rfl rfl rfl rfl rfl rfl (Nat.le_of_ble_eq_true rfl) dX9_different_46 ⟨Nat.zero_le _, Nat.zero_le _⟩ hF (fun r46_5 er46_5 hF => ?_)
      refine a_iload C 4 dX9_different_49 rfl ?_
      refine a_ic_ne C (tgt := 58) dX9_different_51 (by decide) hF (fun c51_6 hF => ?_) (fun c51_6 hF => ?_)
      · refine a_iconst C (v := 0) dX9_different_58 (by decide) ?_
        refine a_ior C dX9_different_59 ?_
        refine a_istore C [(5, .int (x5 ||| 0)), (0, .ref t), (1, .int p1), (2, .int p2), (3, .int x3), (4, .int x4), (6, .int x6), (7, .int x7)] dX9_different_60 (by decide) rfl ?_
        refine a_iinc C 7 [(7, .int (x7 + 1)), (5, .int (x5 ||| 0)), (0, .ref t), (1, .int p1), (2, .int p2), (3, .int x3), (4, .int x4), (6, .int x6)] dX9_different_62 rfl rfl (by decide) rfl ?_
        refine a_goto C (tgt := 28) dX9_different_65 (by decide) ?_
        refine a_sub C [2, 3, 4, 5, 6, 1, 7, 0] [(0, .ref t), (1, .int p1), (2, .int p2), (3, .int x3), (4, .int x4), (5, .int (x5 ||| 0)), (6, .int x6), (7, .int (x7 + 1))] rfl ?_
        exact ih (x5 ||| 0) (x7 + 1) k hF hX
      refine a_iconst C (v := 1) dX9_different_54 (by decide) ?_
      refine a_goto C (tgt := 59) dX9_different_55 (by decide) ?_
      refine a_ior C dX9_different_59 ?_
      refine a_istore C [(5, .int (x5 ||| 1)), (0, .ref t), (1, .int p1), (2, .int p2), (3, .int x3), (4, .int x4), (6, .int x6), (7, .int x7)] dX9_different_60 (by decide) rfl ?_
      refine a_iinc C 7 [(7, .int (x7 + 1)), (5, .int (x5 ||| 1)), (0, .ref t), (1, .int p1), (2, .int p2), (3, .int x3), (4, .int x4), (6, .int x6)] dX9_different_62 rfl rfl (by decide) rfl ?_
      refine a_goto C (tgt := 28) dX9_different_65 (by decide) ?_
      refine a_sub C [2, 3, 4, 5, 6, 1, 7, 0] [(0, .ref t), (1, .int p1), (2, .int p2), (3, .int x3), (4, .int x4), (5, .int (x5 ||| 1)), (6, .int x6), (7, .int (x7 + 1))] rfl ?_
      exact ih (x5 ||| 1) (x7 + 1) k hF hX
  have hI19 : ∀ (x3 : Int32) (x4 : Int32) (fuel : Nat) (x5 : Int32) (x6 : Int32) (k : Int32 → Int32 → Option Int32), f_X9_different_L19 x4 p2 t_allF fuel x5 x6 k = some res → (∀ (x5 : Int32) (x6 : Int32), k x5 x6 = some res → aT p l e ({ frames := 1, cells := 0, slots := 0, locals := 22 } : Room) s m args below meth c (MQ below (aQi D (wX9 kc ki t t_all t_reasons t_text t_word t_order t_rows t_written t_allF t_reasonsF t_textF t_wordF t_orderF t_rowsF t_writtenF t_thrown t_changes t_isSaved t_result t_texted t_wordSize t_orderMany t_here t_fault t_faultAt t_commandMany t_writtenSize) s.heap.size (fun r => r) (fun _ => wX9 kc ki t t_all t_reasons t_text t_word t_order t_rows t_written t_allF t_reasonsF t_textF t_wordF t_orderF t_rowsF t_writtenF t_thrown t_changes t_isSaved t_result t_texted t_wordSize t_orderMany t_here t_fault t_faultAt t_commandMany t_writtenSize) res) args s 0 0 (va_A (wX9 kc ki t t_all t_reasons t_text t_word t_order t_rows t_written t_allF t_reasonsF t_textF t_wordF t_orderF t_rowsF t_writtenF t_thrown t_changes t_isSaved t_result t_texted t_wordSize t_orderMany t_here t_fault t_faultAt t_commandMany t_writtenSize) s.heap.size)) D (va_A (wX9 kc ki t t_all t_reasons t_text t_word t_order t_rows t_written t_allF t_reasonsF t_textF t_wordF t_orderF t_rowsF t_writtenF t_thrown t_changes t_isSaved t_result t_texted t_wordSize t_orderMany t_here t_fault t_faultAt t_commandMany t_writtenSize) s.heap.size) 8 0 0 74 [(0, .ref t), (1, .int p1), (2, .int p2), (3, .int x3), (4, .int x4), (5, .int x5)] [] (wX9 kc ki t t_all t_reasons t_text t_word t_order t_rows t_written t_allF t_reasonsF t_textF t_wordF t_orderF t_rowsF t_writtenF t_thrown t_changes t_isSaved t_result t_texted t_wordSize t_orderMany t_here t_fault t_faultAt t_commandMany t_writtenSize)) → aT p l e ({ frames := 1, cells := 0, slots := 0, locals := 22 } : Room) s m args below meth c (MQ below (aQi D (wX9 kc ki t t_all t_reasons t_text t_word t_order t_rows t_written t_allF t_reasonsF t_textF t_wordF t_orderF t_rowsF t_writtenF t_thrown t_changes t_isSaved t_result t_texted t_wordSize t_orderMany t_here t_fault t_faultAt t_commandMany t_writtenSize) s.heap.size (fun r => r) (fun _ => wX9 kc ki t t_all t_reasons t_text t_word t_order t_rows t_written t_allF t_reasonsF t_textF t_wordF t_orderF t_rowsF t_writtenF t_thrown t_changes t_isSaved t_result t_texted t_wordSize t_orderMany t_here t_fault t_faultAt t_commandMany t_writtenSize) res) args s 0 0 (va_A (wX9 kc ki t t_all t_reasons t_text t_word t_order t_rows t_written t_allF t_reasonsF t_textF t_wordF t_orderF t_rowsF t_writtenF t_thrown t_changes t_isSaved t_result t_texted t_wordSize t_orderMany t_here t_fault t_faultAt t_commandMany t_writtenSize) s.heap.size)) D (va_A (wX9 kc ki t t_all t_reasons t_text t_word t_order t_rows t_written t_allF t_reasonsF t_textF t_wordF t_orderF t_rowsF t_writtenF t_thrown t_changes t_isSaved t_result t_texted t_wordSize t_orderMany t_here t_fault t_faultAt t_commandMany t_writtenSize) s.heap.size) 8 0 0 19 [(0, .ref t), (1, .int p1), (2, .int p2), (3, .int x3), (4, .int x4), (5, .int x5), (6, .int x6)] [] (wX9 kc ki t t_all t_reasons t_text t_word t_order t_rows t_written t_allF t_reasonsF t_textF t_wordF t_orderF t_rowsF t_writtenF t_thrown t_changes t_isSaved t_result t_texted t_wordSize t_orderMany t_here t_fault t_faultAt t_commandMany t_writtenSize) := by
    intro x3 x4 fuel
    induction fuel with
    | zero => intro x5 x6 k hF hX; exact nomatch hF
    | succ fuel ih =>
      intro x5 x6 k hF hX
      rw [f_X9_different_L19] at hF
      refine a_iload C 6 dX9_different_19 rfl ?_
      refine a_iload_n C 2 dX9_different_21 rfl rfl ?_
      refine a_ic_ge C (tgt := 74) dX9_different_22 (by decide) hF (fun c22_2 hF => ?_) (fun c22_2 hF => ?_)
      · refine a_sub C [0, 1, 2, 3, 4, 5] [(0, .ref t), (1, .int p1), (2, .int p2), (3, .int x3), (4, .int x4), (5, .int x5)] rfl ?_
        exact hX x5 x6 hF
      refine a_iconst C (v := 0) dX9_different_25 (by decide) ?_
      refine a_istore C [(7, .int 0), (0, .ref t), (1, .int p1), (2, .int p2), (3, .int x3), (4, .int x4), (5, .int x5), (6, .int x6)] dX9_different_26 (by decide) rfl ?_
      refine a_sub C [1, 2, 3, 4, 5, 6, 7, 0] [(0, .ref t), (1, .int p1), (2, .int p2), (3, .int x3), (4, .int x4), (5, .int x5), (6, .int x6), (7, .int 0)] rfl ?_
      refine hI28 x3 x4 x6 1000 x5 0 _ hF (fun x5_28_7 x7_28_8 hF => ?_)
      refine a_iinc C 6 [(6, .int (x6 + 1)), (0, .ref t), (1, .int p1), (2, .int p2), (3, .int x3), (4, .int x4), (5, .int x5_28_7)] dX9_different_68 rfl rfl (by decide) rfl ?_
      refine a_goto C (tgt := 19) dX9_different_71 (by decide) ?_
      refine a_sub C [1, 2, 3, 4, 5, 6, 0] [(0, .ref t), (1, .int p1), (2, .int p2), (3, .int x3), (4, .int x4), (5, .int x5_28_7), (6, .int (x6 + 1))] rfl ?_
      exact ih x5_28_7 (x6 + 1) k hF hX
  have hI6 : ∀ (fuel : Nat) (x3 : Int32) (x4 : Int32) (k : Int32 → Int32 → Option Int32), f_X9_different_L6 p1 p2 t_allF fuel x3 x4 k = some res → (∀ (x3 : Int32) (x4 : Int32), k x3 x4 = some res → aT p l e ({ frames := 1, cells := 0, slots := 0, locals := 22 } : Room) s m args below meth c (MQ below (aQi D (wX9 kc ki t t_all t_reasons t_text t_word t_order t_rows t_written t_allF t_reasonsF t_textF t_wordF t_orderF t_rowsF t_writtenF t_thrown t_changes t_isSaved t_result t_texted t_wordSize t_orderMany t_here t_fault t_faultAt t_commandMany t_writtenSize) s.heap.size (fun r => r) (fun _ => wX9 kc ki t t_all t_reasons t_text t_word t_order t_rows t_written t_allF t_reasonsF t_textF t_wordF t_orderF t_rowsF t_writtenF t_thrown t_changes t_isSaved t_result t_texted t_wordSize t_orderMany t_here t_fault t_faultAt t_commandMany t_writtenSize) res) args s 0 0 (va_A (wX9 kc ki t t_all t_reasons t_text t_word t_order t_rows t_written t_allF t_reasonsF t_textF t_wordF t_orderF t_rowsF t_writtenF t_thrown t_changes t_isSaved t_result t_texted t_wordSize t_orderMany t_here t_fault t_faultAt t_commandMany t_writtenSize) s.heap.size)) D (va_A (wX9 kc ki t t_all t_reasons t_text t_word t_order t_rows t_written t_allF t_reasonsF t_textF t_wordF t_orderF t_rowsF t_writtenF t_thrown t_changes t_isSaved t_result t_texted t_wordSize t_orderMany t_here t_fault t_faultAt t_commandMany t_writtenSize) s.heap.size) 8 0 0 93 [(3, .int x3)] [] (wX9 kc ki t t_all t_reasons t_text t_word t_order t_rows t_written t_allF t_reasonsF t_textF t_wordF t_orderF t_rowsF t_writtenF t_thrown t_changes t_isSaved t_result t_texted t_wordSize t_orderMany t_here t_fault t_faultAt t_commandMany t_writtenSize)) → aT p l e ({ frames := 1, cells := 0, slots := 0, locals := 22 } : Room) s m args below meth c (MQ below (aQi D (wX9 kc ki t t_all t_reasons t_text t_word t_order t_rows t_written t_allF t_reasonsF t_textF t_wordF t_orderF t_rowsF t_writtenF t_thrown t_changes t_isSaved t_result t_texted t_wordSize t_orderMany t_here t_fault t_faultAt t_commandMany t_writtenSize) s.heap.size (fun r => r) (fun _ => wX9 kc ki t t_all t_reasons t_text t_word t_order t_rows t_written t_allF t_reasonsF t_textF t_wordF t_orderF t_rowsF t_writtenF t_thrown t_changes t_isSaved t_result t_texted t_wordSize t_orderMany t_here t_fault t_faultAt t_commandMany t_writtenSize) res) args s 0 0 (va_A (wX9 kc ki t t_all t_reasons t_text t_word t_order t_rows t_written t_allF t_reasonsF t_textF t_wordF t_orderF t_rowsF t_writtenF t_thrown t_changes t_isSaved t_result t_texted t_wordSize t_orderMany t_here t_fault t_faultAt t_commandMany t_writtenSize) s.heap.size)) D (va_A (wX9 kc ki t t_all t_reasons t_text t_word t_order t_rows t_written t_allF t_reasonsF t_textF t_wordF t_orderF t_rowsF t_writtenF t_thrown t_changes t_isSaved t_result t_texted t_wordSize t_orderMany t_here t_fault t_faultAt t_commandMany t_writtenSize) s.heap.size) 8 0 0 6 [(0, .ref t), (1, .int p1), (2, .int p2), (3, .int x3), (4, .int x4)] [] (wX9 kc ki t t_all t_reasons t_text t_word t_order t_rows t_written t_allF t_reasonsF t_textF t_wordF t_orderF t_rowsF t_writtenF t_thrown t_changes t_isSaved t_result t_texted t_wordSize t_orderMany t_here t_fault t_faultAt t_commandMany t_writtenSize) := by
    intro fuel
    induction fuel with
    | zero => intro x3 x4 k hF hX; exact nomatch hF
    | succ fuel ih =>
      intro x3 x4 k hF hX
      rw [f_X9_different_L6] at hF
      refine a_iload C 4 dX9_different_6 rfl ?_
      refine a_bipush C (v := 122) dX9_different_8 (by decide) ?_
      refine a_ic_gt C (tgt := 93) dX9_different_10 (by decide) hF (fun c10_1 hF => ?_) (fun c10_1 hF => ?_)
      · refine a_sub C [3] [(3, .int x3)] rfl ?_
        exact hX x3 x4 hF
      refine a_iconst C (v := 0) dX9_different_13 (by decide) ?_
      refine a_istore C [(5, .int 0), (0, .ref t), (1, .int p1), (2, .int p2), (3, .int x3), (4, .int x4)] dX9_different_14 (by decide) rfl ?_
      refine a_iload_n C 2 dX9_different_16 rfl rfl ?_
      refine a_istore C [(6, .int p1), (5, .int 0), (0, .ref t), (1, .int p1), (2, .int p2), (3, .int x3), (4, .int x4)] dX9_different_17 (by decide) rfl ?_
      refine a_sub C [2, 3, 4, 5, 6, 1, 0] [(0, .ref t), (1, .int p1), (2, .int p2), (3, .int x3), (4, .int x4), (5, .int 0), (6, .int p1)] rfl ?_
      refine hI19 x3 x4 1000 0 p1 _ hF (fun x5_19_9 x6_19_10 hF => ?_)
      refine a_iload_n C 3 dX9_different_74 rfl rfl ?_
      refine a_iload C 5 dX9_different_75 rfl ?_
      refine a_if_eq C (tgt := 84) dX9_different_77 (by decide) hF (fun c77_11 hF => ?_) (fun c77_11 hF => ?_)
      · refine a_iconst C (v := 0) dX9_different_84 (by decide) ?_
        refine a_iadd C dX9_different_85 ?_
        refine a_istore_n C [(3, .int (x3 + 0)), (0, .ref t), (1, .int p1), (2, .int p2), (4, .int x4), (5, .int x5_19_9)] dX9_different_86 rfl (by decide) rfl ?_
        refine a_iinc C 4 [(4, .int (x4 + 1)), (3, .int (x3 + 0)), (0, .ref t), (1, .int p1), (2, .int p2), (5, .int x5_19_9)] dX9_different_87 rfl rfl (by decide) rfl ?_
        refine a_goto C (tgt := 6) dX9_different_90 (by decide) ?_
        refine a_sub C [2, 3, 4, 1, 0] [(0, .ref t), (1, .int p1), (2, .int p2), (3, .int (x3 + 0)), (4, .int (x4 + 1))] rfl ?_
        exact ih (x3 + 0) (x4 + 1) k hF hX
      refine a_iconst C (v := 1) dX9_different_80 (by decide) ?_
      refine a_goto C (tgt := 85) dX9_different_81 (by decide) ?_
      refine a_iadd C dX9_different_85 ?_
      refine a_istore_n C [(3, .int (x3 + 1)), (0, .ref t), (1, .int p1), (2, .int p2), (4, .int x4), (5, .int x5_19_9)] dX9_different_86 rfl (by decide) rfl ?_
      refine a_iinc C 4 [(4, .int (x4 + 1)), (3, .int (x3 + 1)), (0, .ref t), (1, .int p1), (2, .int p2), (5, .int x5_19_9)] dX9_different_87 rfl rfl (by decide) rfl ?_
      refine a_goto C (tgt := 6) dX9_different_90 (by decide) ?_
      refine a_sub C [2, 3, 4, 1, 0] [(0, .ref t), (1, .int p1), (2, .int p2), (3, .int (x3 + 1)), (4, .int (x4 + 1))] rfl ?_
      exact ih (x3 + 1) (x4 + 1) k hF hX
  unfold f_X9_different at hF
  refine a_iconst C (v := 0) dX9_different_0 (by decide) ?_
  refine a_istore_n C [(3, .int 0), (0, .ref t), (1, .int p1), (2, .int p2)] dX9_different_1 rfl (by decide) rfl ?_
  refine a_bipush C (v := 97) dX9_different_2 (by decide) ?_
  refine a_istore C [(4, .int 97), (3, .int 0), (0, .ref t), (1, .int p1), (2, .int p2)] dX9_different_4 (by decide) rfl ?_
  refine a_sub C [2, 3, 4, 1, 0] [(0, .ref t), (1, .int p1), (2, .int p2), (3, .int 0), (4, .int 97)] rfl ?_
  refine hI6 1000 0 97 _ hF (fun x3_6_12 x4_6_13 hF => ?_)
  refine a_iload_n C 0 dX9_different_93 rfl rfl ?_
  exact a_iret C hr rfl dX9_different_94 hF rfl rfl
def f_X9_areAlike (t_allF : Nat → Int32) (p1 : Int32) (p2 : Int32) : Option Int32 := (f_X9_size t_allF p1).bind fun r2_1 => (f_X9_size t_allF p2).bind fun r7_2 => if ¬ r2_1 = r7_2 then (some 0) else ((f_X9_front t_allF (10 * p1) (10 * p2)).bind fun r22_4 => (f_X9_size t_allF p1).bind fun r27_5 => if ¬ r22_4 = r27_5 then (some 0) else (some 1))
theorem hd_X9_areAlike : yX9_areAlike.cls = RX9 ∧ yX9_areAlike.cls ≠ "java/lang/invoke/MethodHandle" ∧ yX9_areAlike.cls ≠ "java/lang/invoke/VarHandle" ∧ (parseMethodDescriptor yX9_areAlike.desc).map (fun d => d.parameters.length) = some 2 := by decide +kernel
set_option maxRecDepth 100000 in
set_option maxHeartbeats 4000000 in
theorem c_X9_areAlike (l : Launch) (D : va_G) (J : (Nat → Nat) × (Nat → Nat)) (kc ki kb kl kd : ClassId) (t : Nat) (t_all : Nat) (t_reasons : Nat) (t_text : Nat) (t_word : Nat) (t_order : Nat) (t_rows : Nat) (t_written : Nat) (t_allF : Nat → Int32) (t_reasonsF : Nat → Int32) (t_textF : Nat → Int32) (t_wordF : Nat → Int32) (t_orderF : Nat → Int32) (t_rowsF : Nat → Int32) (t_writtenF : Nat → Int32) (t_thrown : Int32) (t_changes : Int32) (t_isSaved : Int32) (t_result : Int32) (t_texted : Int32) (t_wordSize : Int32) (t_orderMany : Int32) (t_here : Int32) (t_fault : Int32) (t_faultAt : Int32) (t_commandMany : Int32) (t_writtenSize : Int32) (p1 p2 : Int32) (res : Int32) (hF : f_X9_areAlike t_allF p1 p2 = some res) : aKi l yX9_areAlike (aW yX9_areAlike cX9_areAlike 3 ((some .boolean))) ({ frames := 3, cells := 0, slots := 0, locals := 67 } : Room) D J (aTy kc ki kb kl kd) [.ref t, .int p1, .int p2] (wX9 kc ki t t_all t_reasons t_text t_word t_order t_rows t_written t_allF t_reasonsF t_textF t_wordF t_orderF t_rowsF t_writtenF t_thrown t_changes t_isSaved t_result t_texted t_wordSize t_orderMany t_here t_fault t_faultAt t_commandMany t_writtenSize) (fun r => r) (fun _ => wX9 kc ki t t_all t_reasons t_text t_word t_order t_rows t_written t_allF t_reasonsF t_textF t_wordF t_orderF t_rowsF t_writtenF t_thrown t_changes t_isSaved t_result t_texted t_wordSize t_orderMany t_here t_fault t_faultAt t_commandMany t_writtenSize) res := by
  refine aKi_of (own := RX9) (by decide) rfl (Nat.le_of_ble_eq_true rfl) rfl ?_
  intro p e s m args below meth c C hr
  unfold f_X9_areAlike at hF
  refine a_aload_n C 0 dX9_areAlike_0 rfl rfl ?_
  refine a_iload_n C 1 dX9_areAlike_1 rfl rfl ?_
  refine a_callVir C 1 [0, 1, 2, 3, 4, 5, 6, 7] 0 cs_X9_61 hd_X9_size ⟨rfl, rfl⟩ ⟨Nat.le_of_ble_eq_true rfl, Nat.le_of_ble_eq_true rfl⟩ (fun r h => c_X9_size l D J kc ki kb kl kd t t_all t_reasons t_text t_word t_order t_rows t_written t_allF t_reasonsF t_textF t_wordF t_orderF t_rowsF t_writtenF t_thrown t_changes t_isSaved t_result t_texted t_wordSize t_orderMany t_here t_fault t_faultAt t_commandMany t_writtenSize p1 r h) rfl rfl rfl rfl rfl rfl (Nat.le_of_ble_eq_true rfl) dX9_areAlike_2 ⟨Nat.zero_le _, Nat.zero_le _⟩ hF (fun r2_1 er2_1 hF => ?_)
  refine a_aload_n C 0 dX9_areAlike_5 rfl rfl ?_
  refine a_iload_n C 2 dX9_areAlike_6 rfl rfl ?_
  refine a_callVir C 1 [0, 1, 2, 3, 4, 5, 6, 7] 0 cs_X9_61 hd_X9_size ⟨rfl, rfl⟩ ⟨Nat.le_of_ble_eq_true rfl, Nat.le_of_ble_eq_true rfl⟩ (fun r h => c_X9_size l D J kc ki kb kl kd t t_all t_reasons t_text t_word t_order t_rows t_written t_allF t_reasonsF t_textF t_wordF t_orderF t_rowsF t_writtenF t_thrown t_changes t_isSaved t_result t_texted t_wordSize t_orderMany t_here t_fault t_faultAt t_commandMany t_writtenSize p2 r h) rfl rfl rfl rfl rfl rfl (Nat.le_of_ble_eq_true rfl) dX9_areAlike_7 ⟨Nat.zero_le _, Nat.zero_le _⟩ hF (fun r7_2 er7_2 hF => ?_)
  refine a_ic_ne C (tgt := 37) dX9_areAlike_10 (by decide) hF (fun c10_3 hF => ?_) (fun c10_3 hF => ?_)
  · refine a_iconst C (v := 0) dX9_areAlike_37 (by decide) ?_
    exact a_iret C hr rfl dX9_areAlike_38 hF rfl rfl
  refine a_aload_n C 0 dX9_areAlike_13 rfl rfl ?_
  refine a_bipush C (v := 10) dX9_areAlike_14 (by decide) ?_
  refine a_iload_n C 1 dX9_areAlike_16 rfl rfl ?_
  refine a_imul C dX9_areAlike_17 ?_
  refine a_bipush C (v := 10) dX9_areAlike_18 (by decide) ?_
  refine a_iload_n C 2 dX9_areAlike_20 rfl rfl ?_
  refine a_imul C dX9_areAlike_21 ?_
  refine a_callVir C 2 [0, 1, 2, 3, 4, 5, 6, 7] 0 cs_X9_138 hd_X9_front ⟨rfl, rfl⟩ ⟨Nat.le_of_ble_eq_true rfl, Nat.le_of_ble_eq_true rfl⟩ (fun r h => c_X9_front l D J kc ki kb kl kd t t_all t_reasons t_text t_word t_order t_rows t_written t_allF t_reasonsF t_textF t_wordF t_orderF t_rowsF t_writtenF t_thrown t_changes t_isSaved t_result t_texted t_wordSize t_orderMany t_here t_fault t_faultAt t_commandMany t_writtenSize (10 * p1) (10 * p2) r h) rfl rfl rfl rfl rfl rfl (Nat.le_of_ble_eq_true rfl) dX9_areAlike_22 ⟨Nat.zero_le _, Nat.zero_le _⟩ hF (fun r22_4 er22_4 hF => ?_)
  refine a_aload_n C 0 dX9_areAlike_25 rfl rfl ?_
  refine a_iload_n C 1 dX9_areAlike_26 rfl rfl ?_
  refine a_callVir C 1 [0, 1, 2, 3, 4, 5, 6, 7] 0 cs_X9_61 hd_X9_size ⟨rfl, rfl⟩ ⟨Nat.le_of_ble_eq_true rfl, Nat.le_of_ble_eq_true rfl⟩ (fun r h => c_X9_size l D J kc ki kb kl kd t t_all t_reasons t_text t_word t_order t_rows t_written t_allF t_reasonsF t_textF t_wordF t_orderF t_rowsF t_writtenF t_thrown t_changes t_isSaved t_result t_texted t_wordSize t_orderMany t_here t_fault t_faultAt t_commandMany t_writtenSize p1 r h) rfl rfl rfl rfl rfl rfl (Nat.le_of_ble_eq_true rfl) dX9_areAlike_27 ⟨Nat.zero_le _, Nat.zero_le _⟩ hF (fun r27_5 er27_5 hF => ?_)
  refine a_ic_ne C (tgt := 37) dX9_areAlike_30 (by decide) hF (fun c30_6 hF => ?_) (fun c30_6 hF => ?_)
  · refine a_iconst C (v := 0) dX9_areAlike_37 (by decide) ?_
    exact a_iret C hr rfl dX9_areAlike_38 hF rfl rfl
  refine a_iconst C (v := 1) dX9_areAlike_33 (by decide) ?_
  refine a_goto C (tgt := 38) dX9_areAlike_34 (by decide) ?_
  exact a_iret C hr rfl dX9_areAlike_38 hF rfl rfl
theorem cs_X9_150 : GoodIn WW (wsV RX9 150 RX9 yX9_areAlike (aW yX9_areAlike cX9_areAlike 3 ((some .boolean)))) := gdV kl_X9_150 ki_X9_areAlike kv_X9_areAlike kn_X9 kc_X9_areAlike
def f_X9_likes_L4 (p1 : Int32) (t_allF : Nat → Int32) : Nat → Int32 → Int32 → (Int32 → Int32 → Option Int32) → Option Int32
  | 0, _, _, _ => none
  | fuel + 1, x2, x3, k => (f_X9_many t_allF).bind fun r6_1 => if r6_1 ≤ x3 then (k x2 x3) else ((f_X9_areAlike t_allF p1 x3).bind fun r16_3 => if r16_3 = 0 then (f_X9_likes_L4 p1 t_allF fuel (x2 + 0) (x3 + 1) k) else (f_X9_likes_L4 p1 t_allF fuel (x2 + 1) (x3 + 1) k))
def f_X9_likes (t_allF : Nat → Int32) (p1 : Int32) : Option Int32 := f_X9_likes_L4 p1 t_allF 1000 0 0 (fun x2_4_5 x3_4_6 => some x2_4_5)
theorem hd_X9_likes : yX9_likes.cls = RX9 ∧ yX9_likes.cls ≠ "java/lang/invoke/MethodHandle" ∧ yX9_likes.cls ≠ "java/lang/invoke/VarHandle" ∧ (parseMethodDescriptor yX9_likes.desc).map (fun d => d.parameters.length) = some 1 := by decide +kernel
set_option maxRecDepth 100000 in
set_option maxHeartbeats 4000000 in
theorem c_X9_likes (l : Launch) (D : va_G) (J : (Nat → Nat) × (Nat → Nat)) (kc ki kb kl kd : ClassId) (t : Nat) (t_all : Nat) (t_reasons : Nat) (t_text : Nat) (t_word : Nat) (t_order : Nat) (t_rows : Nat) (t_written : Nat) (t_allF : Nat → Int32) (t_reasonsF : Nat → Int32) (t_textF : Nat → Int32) (t_wordF : Nat → Int32) (t_orderF : Nat → Int32) (t_rowsF : Nat → Int32) (t_writtenF : Nat → Int32) (t_thrown : Int32) (t_changes : Int32) (t_isSaved : Int32) (t_result : Int32) (t_texted : Int32) (t_wordSize : Int32) (t_orderMany : Int32) (t_here : Int32) (t_fault : Int32) (t_faultAt : Int32) (t_commandMany : Int32) (t_writtenSize : Int32) (p1 : Int32) (res : Int32) (hF : f_X9_likes t_allF p1 = some res) : aKi l yX9_likes (aW yX9_likes cX9_likes 4 ((some .int))) ({ frames := 4, cells := 0, slots := 0, locals := 89 } : Room) D J (aTy kc ki kb kl kd) [.ref t, .int p1] (wX9 kc ki t t_all t_reasons t_text t_word t_order t_rows t_written t_allF t_reasonsF t_textF t_wordF t_orderF t_rowsF t_writtenF t_thrown t_changes t_isSaved t_result t_texted t_wordSize t_orderMany t_here t_fault t_faultAt t_commandMany t_writtenSize) (fun r => r) (fun _ => wX9 kc ki t t_all t_reasons t_text t_word t_order t_rows t_written t_allF t_reasonsF t_textF t_wordF t_orderF t_rowsF t_writtenF t_thrown t_changes t_isSaved t_result t_texted t_wordSize t_orderMany t_here t_fault t_faultAt t_commandMany t_writtenSize) res := by
  refine aKi_of (own := RX9) (by decide) rfl (Nat.le_of_ble_eq_true rfl) rfl ?_
  intro p e s m args below meth c C hr
  have hI4 : ∀ (fuel : Nat) (x2 : Int32) (x3 : Int32) (k : Int32 → Int32 → Option Int32), f_X9_likes_L4 p1 t_allF fuel x2 x3 k = some res → (∀ (x2 : Int32) (x3 : Int32), k x2 x3 = some res → aT p l e ({ frames := 4, cells := 0, slots := 0, locals := 89 } : Room) s m args below meth c (MQ below (aQi D (wX9 kc ki t t_all t_reasons t_text t_word t_order t_rows t_written t_allF t_reasonsF t_textF t_wordF t_orderF t_rowsF t_writtenF t_thrown t_changes t_isSaved t_result t_texted t_wordSize t_orderMany t_here t_fault t_faultAt t_commandMany t_writtenSize) s.heap.size (fun r => r) (fun _ => wX9 kc ki t t_all t_reasons t_text t_word t_order t_rows t_written t_allF t_reasonsF t_textF t_wordF t_orderF t_rowsF t_writtenF t_thrown t_changes t_isSaved t_result t_texted t_wordSize t_orderMany t_here t_fault t_faultAt t_commandMany t_writtenSize) res) args s 0 0 (va_A (wX9 kc ki t t_all t_reasons t_text t_word t_order t_rows t_written t_allF t_reasonsF t_textF t_wordF t_orderF t_rowsF t_writtenF t_thrown t_changes t_isSaved t_result t_texted t_wordSize t_orderMany t_here t_fault t_faultAt t_commandMany t_writtenSize) s.heap.size)) D (va_A (wX9 kc ki t t_all t_reasons t_text t_word t_order t_rows t_written t_allF t_reasonsF t_textF t_wordF t_orderF t_rowsF t_writtenF t_thrown t_changes t_isSaved t_result t_texted t_wordSize t_orderMany t_here t_fault t_faultAt t_commandMany t_writtenSize) s.heap.size) 4 0 0 35 [(2, .int x2)] [] (wX9 kc ki t t_all t_reasons t_text t_word t_order t_rows t_written t_allF t_reasonsF t_textF t_wordF t_orderF t_rowsF t_writtenF t_thrown t_changes t_isSaved t_result t_texted t_wordSize t_orderMany t_here t_fault t_faultAt t_commandMany t_writtenSize)) → aT p l e ({ frames := 4, cells := 0, slots := 0, locals := 89 } : Room) s m args below meth c (MQ below (aQi D (wX9 kc ki t t_all t_reasons t_text t_word t_order t_rows t_written t_allF t_reasonsF t_textF t_wordF t_orderF t_rowsF t_writtenF t_thrown t_changes t_isSaved t_result t_texted t_wordSize t_orderMany t_here t_fault t_faultAt t_commandMany t_writtenSize) s.heap.size (fun r => r) (fun _ => wX9 kc ki t t_all t_reasons t_text t_word t_order t_rows t_written t_allF t_reasonsF t_textF t_wordF t_orderF t_rowsF t_writtenF t_thrown t_changes t_isSaved t_result t_texted t_wordSize t_orderMany t_here t_fault t_faultAt t_commandMany t_writtenSize) res) args s 0 0 (va_A (wX9 kc ki t t_all t_reasons t_text t_word t_order t_rows t_written t_allF t_reasonsF t_textF t_wordF t_orderF t_rowsF t_writtenF t_thrown t_changes t_isSaved t_result t_texted t_wordSize t_orderMany t_here t_fault t_faultAt t_commandMany t_writtenSize) s.heap.size)) D (va_A (wX9 kc ki t t_all t_reasons t_text t_word t_order t_rows t_written t_allF t_reasonsF t_textF t_wordF t_orderF t_rowsF t_writtenF t_thrown t_changes t_isSaved t_result t_texted t_wordSize t_orderMany t_here t_fault t_faultAt t_commandMany t_writtenSize) s.heap.size) 4 0 0 4 [(0, .ref t), (1, .int p1), (2, .int x2), (3, .int x3)] [] (wX9 kc ki t t_all t_reasons t_text t_word t_order t_rows t_written t_allF t_reasonsF t_textF t_wordF t_orderF t_rowsF t_writtenF t_thrown t_changes t_isSaved t_result t_texted t_wordSize t_orderMany t_here t_fault t_faultAt t_commandMany t_writtenSize) := by
    intro fuel
    induction fuel with
    | zero => intro x2 x3 k hF hX; exact nomatch hF
    | succ fuel ih =>
      intro x2 x3 k hF hX
      rw [f_X9_likes_L4] at hF
      refine a_iload_n C 3 dX9_likes_4 rfl rfl ?_
      refine a_aload_n C 0 dX9_likes_5 rfl rfl ?_
      refine a_callVir C 0 [0, 1, 2, 3, 4, 5, 6, 7] 0 cs_X9_53 hd_X9_many ⟨rfl, rfl⟩ ⟨Nat.le_of_ble_eq_true rfl, Nat.le_of_ble_eq_true rfl⟩ (fun r h => c_X9_many l D J kc ki kb kl kd t t_all t_reasons t_text t_word t_order t_rows t_written t_allF t_reasonsF t_textF t_wordF t_orderF t_rowsF t_writtenF t_thrown t_changes t_isSaved t_result t_texted t_wordSize t_orderMany t_here t_fault t_faultAt t_commandMany t_writtenSize r h) rfl rfl rfl rfl rfl rfl (Nat.le_of_ble_eq_true rfl) dX9_likes_6 ⟨Nat.zero_le _, Nat.zero_le _⟩ hF (fun r6_1 er6_1 hF => ?_)
      refine a_ic_ge C (tgt := 35) dX9_likes_9 (by decide) hF (fun c9_2 hF => ?_) (fun c9_2 hF => ?_)
      · refine a_sub C [2] [(2, .int x2)] rfl ?_
        exact hX x2 x3 hF
      refine a_iload_n C 2 dX9_likes_12 rfl rfl ?_
      refine a_aload_n C 0 dX9_likes_13 rfl rfl ?_
      refine a_iload_n C 1 dX9_likes_14 rfl rfl ?_
      refine a_iload_n C 3 dX9_likes_15 rfl rfl ?_
      refine a_callVir C 2 [0, 1, 2, 3, 4, 5, 6, 7] 0 cs_X9_150 hd_X9_areAlike ⟨rfl, rfl⟩ ⟨Nat.le_of_ble_eq_true rfl, Nat.le_of_ble_eq_true rfl⟩ (fun r h => c_X9_areAlike l D J kc ki kb kl kd t t_all t_reasons t_text t_word t_order t_rows t_written t_allF t_reasonsF t_textF t_wordF t_orderF t_rowsF t_writtenF t_thrown t_changes t_isSaved t_result t_texted t_wordSize t_orderMany t_here t_fault t_faultAt t_commandMany t_writtenSize p1 x3 r h) rfl rfl rfl rfl rfl rfl (Nat.le_of_ble_eq_true rfl) dX9_likes_16 ⟨Nat.zero_le _, Nat.zero_le _⟩ hF (fun r16_3 er16_3 hF => ?_)
      refine a_if_eq C (tgt := 26) dX9_likes_19 (by decide) hF (fun c19_4 hF => ?_) (fun c19_4 hF => ?_)
      · refine a_iconst C (v := 0) dX9_likes_26 (by decide) ?_
        refine a_iadd C dX9_likes_27 ?_
        refine a_istore_n C [(2, .int (x2 + 0)), (0, .ref t), (1, .int p1), (3, .int x3)] dX9_likes_28 rfl (by decide) rfl ?_
        refine a_iinc C 3 [(3, .int (x3 + 1)), (2, .int (x2 + 0)), (0, .ref t), (1, .int p1)] dX9_likes_29 rfl rfl (by decide) rfl ?_
        refine a_goto C (tgt := 4) dX9_likes_32 (by decide) ?_
        refine a_sub C [2, 3, 1, 0] [(0, .ref t), (1, .int p1), (2, .int (x2 + 0)), (3, .int (x3 + 1))] rfl ?_
        exact ih (x2 + 0) (x3 + 1) k hF hX
      refine a_iconst C (v := 1) dX9_likes_22 (by decide) ?_
      refine a_goto C (tgt := 27) dX9_likes_23 (by decide) ?_
      refine a_iadd C dX9_likes_27 ?_
      refine a_istore_n C [(2, .int (x2 + 1)), (0, .ref t), (1, .int p1), (3, .int x3)] dX9_likes_28 rfl (by decide) rfl ?_
      refine a_iinc C 3 [(3, .int (x3 + 1)), (2, .int (x2 + 1)), (0, .ref t), (1, .int p1)] dX9_likes_29 rfl rfl (by decide) rfl ?_
      refine a_goto C (tgt := 4) dX9_likes_32 (by decide) ?_
      refine a_sub C [2, 3, 1, 0] [(0, .ref t), (1, .int p1), (2, .int (x2 + 1)), (3, .int (x3 + 1))] rfl ?_
      exact ih (x2 + 1) (x3 + 1) k hF hX
  unfold f_X9_likes at hF
  refine a_iconst C (v := 0) dX9_likes_0 (by decide) ?_
  refine a_istore_n C [(2, .int 0), (0, .ref t), (1, .int p1)] dX9_likes_1 rfl (by decide) rfl ?_
  refine a_iconst C (v := 0) dX9_likes_2 (by decide) ?_
  refine a_istore_n C [(3, .int 0), (2, .int 0), (0, .ref t), (1, .int p1)] dX9_likes_3 rfl (by decide) rfl ?_
  refine a_sub C [2, 3, 1, 0] [(0, .ref t), (1, .int p1), (2, .int 0), (3, .int 0)] rfl ?_
  refine hI4 1000 0 0 _ hF (fun x2_4_5 x3_4_6 hF => ?_)
  refine a_iload_n C 0 dX9_likes_35 rfl rfl ?_
  exact a_iret C hr rfl dX9_likes_36 hF rfl rfl
def f_X9_longestOf_L18 (x4 : Int32) (p1 : Int32) (p2 : Int32) (t_allF : Nat → Int32) : Nat → Int32 → Int32 → (Int32 → Int32 → Option Int32) → Option Int32
  | 0, _, _, _ => none
  | fuel + 1, x3, x5, k => (f_X9_size t_allF p2).bind fun r22_3 => if r22_3 ≤ x5 then (k x3 x5) else (if ¬ p1 = p2 then ((f_X9_front t_allF ((10 * p1) + x4) ((10 * p2) + x5)).bind fun r59_6 => if r59_6 ≤ x3 then (f_X9_longestOf_L18 x4 p1 p2 t_allF fuel x3 (x5 + 1) k) else (f_X9_longestOf_L18 x4 p1 p2 t_allF fuel r59_6 (x5 + 1) k)) else (if ¬ x4 = x5 then ((f_X9_front t_allF ((10 * p1) + x4) ((10 * p2) + x5)).bind fun r59_9 => if r59_9 ≤ x3 then (f_X9_longestOf_L18 x4 p1 p2 t_allF fuel x3 (x5 + 1) k) else (f_X9_longestOf_L18 x4 p1 p2 t_allF fuel r59_9 (x5 + 1) k)) else (if 0 ≤ x3 then (f_X9_longestOf_L18 x4 p1 p2 t_allF fuel x3 (x5 + 1) k) else (f_X9_longestOf_L18 x4 p1 p2 t_allF fuel 0 (x5 + 1) k))))
def f_X9_longestOf_L5 (p1 : Int32) (p2 : Int32) (t_allF : Nat → Int32) : Nat → Int32 → Int32 → (Int32 → Int32 → Option Int32) → Option Int32
  | 0, _, _, _ => none
  | fuel + 1, x3, x4, k => (f_X9_size t_allF p1).bind fun r9_1 => if r9_1 ≤ x4 then (k x3 x4) else (f_X9_longestOf_L18 x4 p1 p2 t_allF 1000 x3 0 (fun x3_18_12 x5_18_13 => f_X9_longestOf_L5 p1 p2 t_allF fuel x3_18_12 (x4 + 1) k))
def f_X9_longestOf (t_allF : Nat → Int32) (p1 : Int32) (p2 : Int32) : Option Int32 := f_X9_longestOf_L5 p1 p2 t_allF 1000 0 0 (fun x3_5_14 x4_5_15 => some x3_5_14)
theorem hd_X9_longestOf : yX9_longestOf.cls = RX9 ∧ yX9_longestOf.cls ≠ "java/lang/invoke/MethodHandle" ∧ yX9_longestOf.cls ≠ "java/lang/invoke/VarHandle" ∧ (parseMethodDescriptor yX9_longestOf.desc).map (fun d => d.parameters.length) = some 2 := by decide +kernel
set_option maxRecDepth 100000 in
set_option maxHeartbeats 4000000 in
theorem c_X9_longestOf (l : Launch) (D : va_G) (J : (Nat → Nat) × (Nat → Nat)) (kc ki kb kl kd : ClassId) (t : Nat) (t_all : Nat) (t_reasons : Nat) (t_text : Nat) (t_word : Nat) (t_order : Nat) (t_rows : Nat) (t_written : Nat) (t_allF : Nat → Int32) (t_reasonsF : Nat → Int32) (t_textF : Nat → Int32) (t_wordF : Nat → Int32) (t_orderF : Nat → Int32) (t_rowsF : Nat → Int32) (t_writtenF : Nat → Int32) (t_thrown : Int32) (t_changes : Int32) (t_isSaved : Int32) (t_result : Int32) (t_texted : Int32) (t_wordSize : Int32) (t_orderMany : Int32) (t_here : Int32) (t_fault : Int32) (t_faultAt : Int32) (t_commandMany : Int32) (t_writtenSize : Int32) (p1 p2 : Int32) (res : Int32) (hF : f_X9_longestOf t_allF p1 p2 = some res) : aKi l yX9_longestOf (aW yX9_longestOf cX9_longestOf 7 ((some .int))) ({ frames := 3, cells := 0, slots := 0, locals := 67 } : Room) D J (aTy kc ki kb kl kd) [.ref t, .int p1, .int p2] (wX9 kc ki t t_all t_reasons t_text t_word t_order t_rows t_written t_allF t_reasonsF t_textF t_wordF t_orderF t_rowsF t_writtenF t_thrown t_changes t_isSaved t_result t_texted t_wordSize t_orderMany t_here t_fault t_faultAt t_commandMany t_writtenSize) (fun r => r) (fun _ => wX9 kc ki t t_all t_reasons t_text t_word t_order t_rows t_written t_allF t_reasonsF t_textF t_wordF t_orderF t_rowsF t_writtenF t_thrown t_changes t_isSaved t_result t_texted t_wordSize t_orderMany t_here t_fault t_faultAt t_commandMany t_writtenSize) res := by
  refine aKi_of (own := RX9) (by decide) rfl (Nat.le_of_ble_eq_true rfl) rfl ?_
  intro p e s m args below meth c C hr
  have hI18 : ∀ (x4 : Int32) (fuel : Nat) (x3 : Int32) (x5 : Int32) (k : Int32 → Int32 → Option Int32), f_X9_longestOf_L18 x4 p1 p2 t_allF fuel x3 x5 k = some res → (∀ (x3 : Int32) (x5 : Int32), k x3 x5 = some res → aT p l e ({ frames := 3, cells := 0, slots := 0, locals := 67 } : Room) s m args below meth c (MQ below (aQi D (wX9 kc ki t t_all t_reasons t_text t_word t_order t_rows t_written t_allF t_reasonsF t_textF t_wordF t_orderF t_rowsF t_writtenF t_thrown t_changes t_isSaved t_result t_texted t_wordSize t_orderMany t_here t_fault t_faultAt t_commandMany t_writtenSize) s.heap.size (fun r => r) (fun _ => wX9 kc ki t t_all t_reasons t_text t_word t_order t_rows t_written t_allF t_reasonsF t_textF t_wordF t_orderF t_rowsF t_writtenF t_thrown t_changes t_isSaved t_result t_texted t_wordSize t_orderMany t_here t_fault t_faultAt t_commandMany t_writtenSize) res) args s 0 0 (va_A (wX9 kc ki t t_all t_reasons t_text t_word t_order t_rows t_written t_allF t_reasonsF t_textF t_wordF t_orderF t_rowsF t_writtenF t_thrown t_changes t_isSaved t_result t_texted t_wordSize t_orderMany t_here t_fault t_faultAt t_commandMany t_writtenSize) s.heap.size)) D (va_A (wX9 kc ki t t_all t_reasons t_text t_word t_order t_rows t_written t_allF t_reasonsF t_textF t_wordF t_orderF t_rowsF t_writtenF t_thrown t_changes t_isSaved t_result t_texted t_wordSize t_orderMany t_here t_fault t_faultAt t_commandMany t_writtenSize) s.heap.size) 7 0 0 83 [(0, .ref t), (1, .int p1), (2, .int p2), (3, .int x3), (4, .int x4)] [] (wX9 kc ki t t_all t_reasons t_text t_word t_order t_rows t_written t_allF t_reasonsF t_textF t_wordF t_orderF t_rowsF t_writtenF t_thrown t_changes t_isSaved t_result t_texted t_wordSize t_orderMany t_here t_fault t_faultAt t_commandMany t_writtenSize)) → aT p l e ({ frames := 3, cells := 0, slots := 0, locals := 67 } : Room) s m args below meth c (MQ below (aQi D (wX9 kc ki t t_all t_reasons t_text t_word t_order t_rows t_written t_allF t_reasonsF t_textF t_wordF t_orderF t_rowsF t_writtenF t_thrown t_changes t_isSaved t_result t_texted t_wordSize t_orderMany t_here t_fault t_faultAt t_commandMany t_writtenSize) s.heap.size (fun r => r) (fun _ => wX9 kc ki t t_all t_reasons t_text t_word t_order t_rows t_written t_allF t_reasonsF t_textF t_wordF t_orderF t_rowsF t_writtenF t_thrown t_changes t_isSaved t_result t_texted t_wordSize t_orderMany t_here t_fault t_faultAt t_commandMany t_writtenSize) res) args s 0 0 (va_A (wX9 kc ki t t_all t_reasons t_text t_word t_order t_rows t_written t_allF t_reasonsF t_textF t_wordF t_orderF t_rowsF t_writtenF t_thrown t_changes t_isSaved t_result t_texted t_wordSize t_orderMany t_here t_fault t_faultAt t_commandMany t_writtenSize) s.heap.size)) D (va_A (wX9 kc ki t t_all t_reasons t_text t_word t_order t_rows t_written t_allF t_reasonsF t_textF t_wordF t_orderF t_rowsF t_writtenF t_thrown t_changes t_isSaved t_result t_texted t_wordSize t_orderMany t_here t_fault t_faultAt t_commandMany t_writtenSize) s.heap.size) 7 0 0 18 [(0, .ref t), (1, .int p1), (2, .int p2), (3, .int x3), (4, .int x4), (5, .int x5)] [] (wX9 kc ki t t_all t_reasons t_text t_word t_order t_rows t_written t_allF t_reasonsF t_textF t_wordF t_orderF t_rowsF t_writtenF t_thrown t_changes t_isSaved t_result t_texted t_wordSize t_orderMany t_here t_fault t_faultAt t_commandMany t_writtenSize) := by
    intro x4 fuel
    induction fuel with
    | zero => intro x3 x5 k hF hX; exact nomatch hF
    | succ fuel ih =>
      intro x3 x5 k hF hX
      rw [f_X9_longestOf_L18] at hF
      refine a_iload C 5 dX9_longestOf_18 rfl ?_
      refine a_aload_n C 0 dX9_longestOf_20 rfl rfl ?_
      refine a_iload_n C 2 dX9_longestOf_21 rfl rfl ?_
      refine a_callVir C 1 [0, 1, 2, 3, 4, 5, 6, 7] 0 cs_X9_61 hd_X9_size ⟨rfl, rfl⟩ ⟨Nat.le_of_ble_eq_true rfl, Nat.le_of_ble_eq_true rfl⟩ (fun r h => c_X9_size l D J kc ki kb kl kd t t_all t_reasons t_text t_word t_order t_rows t_written t_allF t_reasonsF t_textF t_wordF t_orderF t_rowsF t_writtenF t_thrown t_changes t_isSaved t_result t_texted t_wordSize t_orderMany t_here t_fault t_faultAt t_commandMany t_writtenSize p2 r h) rfl rfl rfl rfl rfl rfl (Nat.le_of_ble_eq_true rfl) dX9_longestOf_22 ⟨Nat.zero_le _, Nat.zero_le _⟩ hF (fun r22_3 er22_3 hF => ?_)
      refine a_ic_ge C (tgt := 83) dX9_longestOf_25 (by decide) hF (fun c25_4 hF => ?_) (fun c25_4 hF => ?_)
      · refine a_sub C [0, 1, 2, 3, 4] [(0, .ref t), (1, .int p1), (2, .int p2), (3, .int x3), (4, .int x4)] rfl ?_
        exact hX x3 x5 hF
      refine a_iload_n C 1 dX9_longestOf_28 rfl rfl ?_
      refine a_iload_n C 2 dX9_longestOf_29 rfl rfl ?_
      refine a_ic_ne C (tgt := 44) dX9_longestOf_30 (by decide) hF (fun c30_5 hF => ?_) (fun c30_5 hF => ?_)
      · refine a_aload_n C 0 dX9_longestOf_44 rfl rfl ?_
        refine a_bipush C (v := 10) dX9_longestOf_45 (by decide) ?_
        refine a_iload_n C 1 dX9_longestOf_47 rfl rfl ?_
        refine a_imul C dX9_longestOf_48 ?_
        refine a_iload C 4 dX9_longestOf_49 rfl ?_
        refine a_iadd C dX9_longestOf_51 ?_
        refine a_bipush C (v := 10) dX9_longestOf_52 (by decide) ?_
        refine a_iload_n C 2 dX9_longestOf_54 rfl rfl ?_
        refine a_imul C dX9_longestOf_55 ?_
        refine a_iload C 5 dX9_longestOf_56 rfl ?_
        refine a_iadd C dX9_longestOf_58 ?_
        refine a_callVir C 2 [0, 1, 2, 3, 4, 5, 6, 7] 0 cs_X9_138 hd_X9_front ⟨rfl, rfl⟩ ⟨Nat.le_of_ble_eq_true rfl, Nat.le_of_ble_eq_true rfl⟩ (fun r h => c_X9_front l D J kc ki kb kl kd t t_all t_reasons t_text t_word t_order t_rows t_written t_allF t_reasonsF t_textF t_wordF t_orderF t_rowsF t_writtenF t_thrown t_changes t_isSaved t_result t_texted t_wordSize t_orderMany t_here t_fault t_faultAt t_commandMany t_writtenSize ((10 * p1) + x4) ((10 * p2) + x5) r h) rfl rfl rfl rfl rfl rfl (Nat.le_of_ble_eq_true rfl) dX9_longestOf_59 ⟨Nat.zero_le _, Nat.zero_le _⟩ hF (fun r59_6 er59_6 hF => ?_)
        refine a_istore C [(6, .int r59_6), (0, .ref t), (1, .int p1), (2, .int p2), (3, .int x3), (4, .int x4), (5, .int x5)] dX9_longestOf_62 (by decide) rfl ?_
        refine a_iload C 0 dX9_longestOf_64 rfl ?_
        refine a_iload_n C 4 dX9_longestOf_66 rfl rfl ?_
        refine a_ic_le C (tgt := 75) dX9_longestOf_67 (by decide) hF (fun c67_7 hF => ?_) (fun c67_7 hF => ?_)
        · refine a_iload_n C 4 dX9_longestOf_75 rfl rfl ?_
          refine a_istore_n C [(3, .int x3), (6, .int r59_6), (0, .ref t), (1, .int p1), (2, .int p2), (4, .int x4), (5, .int x5)] dX9_longestOf_76 rfl (by decide) rfl ?_
          refine a_iinc C 6 [(5, .int (x5 + 1)), (3, .int x3), (6, .int r59_6), (0, .ref t), (1, .int p1), (2, .int p2), (4, .int x4)] dX9_longestOf_77 rfl rfl (by decide) rfl ?_
          refine a_goto C (tgt := 18) dX9_longestOf_80 (by decide) ?_
          refine a_sub C [3, 4, 5, 1, 6, 0] [(0, .ref t), (1, .int p1), (2, .int p2), (3, .int x3), (4, .int x4), (5, .int (x5 + 1))] rfl ?_
          exact ih x3 (x5 + 1) k hF hX
        refine a_iload C 0 dX9_longestOf_70 rfl ?_
        refine a_goto C (tgt := 76) dX9_longestOf_72 (by decide) ?_
        refine a_istore_n C [(3, .int r59_6), (6, .int r59_6), (0, .ref t), (1, .int p1), (2, .int p2), (4, .int x4), (5, .int x5)] dX9_longestOf_76 rfl (by decide) rfl ?_
        refine a_iinc C 6 [(5, .int (x5 + 1)), (3, .int r59_6), (6, .int r59_6), (0, .ref t), (1, .int p1), (2, .int p2), (4, .int x4)] dX9_longestOf_77 rfl rfl (by decide) rfl ?_
        refine a_goto C (tgt := 18) dX9_longestOf_80 (by decide) ?_
        refine a_sub C [3, 4, 5, 1, 6, 0] [(0, .ref t), (1, .int p1), (2, .int p2), (3, .int r59_6), (4, .int x4), (5, .int (x5 + 1))] rfl ?_
        exact ih r59_6 (x5 + 1) k hF hX
      refine a_iload C 4 dX9_longestOf_33 rfl ?_
      refine a_iload C 5 dX9_longestOf_35 rfl ?_
      refine a_ic_ne C (tgt := 44) dX9_longestOf_37 (by decide) hF (fun c37_8 hF => ?_) (fun c37_8 hF => ?_)
      · refine a_aload_n C 0 dX9_longestOf_44 rfl rfl ?_
        refine a_bipush C (v := 10) dX9_longestOf_45 (by decide) ?_
        refine a_iload_n C 1 dX9_longestOf_47 rfl rfl ?_
        refine a_imul C dX9_longestOf_48 ?_
        refine a_iload C 4 dX9_longestOf_49 rfl ?_
        refine a_iadd C dX9_longestOf_51 ?_
        refine a_bipush C (v := 10) dX9_longestOf_52 (by decide) ?_
        refine a_iload_n C 2 dX9_longestOf_54 rfl rfl ?_
        refine a_imul C dX9_longestOf_55 ?_
        refine a_iload C 5 dX9_longestOf_56 rfl ?_
        refine a_iadd C dX9_longestOf_58 ?_
        refine a_callVir C 2 [0, 1, 2, 3, 4, 5, 6, 7] 0 cs_X9_138 hd_X9_front ⟨rfl, rfl⟩ ⟨Nat.le_of_ble_eq_true rfl, Nat.le_of_ble_eq_true rfl⟩ (fun r h => c_X9_front l D J kc ki kb kl kd t t_all t_reasons t_text t_word t_order t_rows t_written t_allF t_reasonsF t_textF t_wordF t_orderF t_rowsF t_writtenF t_thrown t_changes t_isSaved t_result t_texted t_wordSize t_orderMany t_here t_fault t_faultAt t_commandMany t_writtenSize ((10 * p1) + x4) ((10 * p2) + x5) r h) rfl rfl rfl rfl rfl rfl (Nat.le_of_ble_eq_true rfl) dX9_longestOf_59 ⟨Nat.zero_le _, Nat.zero_le _⟩ hF (fun r59_9 er59_9 hF => ?_)
        refine a_istore C [(6, .int r59_9), (0, .ref t), (1, .int p1), (2, .int p2), (3, .int x3), (4, .int x4), (5, .int x5)] dX9_longestOf_62 (by decide) rfl ?_
        refine a_iload C 0 dX9_longestOf_64 rfl ?_
        refine a_iload_n C 4 dX9_longestOf_66 rfl rfl ?_
        refine a_ic_le C (tgt := 75) dX9_longestOf_67 (by decide) hF (fun c67_10 hF => ?_) (fun c67_10 hF => ?_)
        · refine a_iload_n C 4 dX9_longestOf_75 rfl rfl ?_
          refine a_istore_n C [(3, .int x3), (6, .int r59_9), (0, .ref t), (1, .int p1), (2, .int p2), (4, .int x4), (5, .int x5)] dX9_longestOf_76 rfl (by decide) rfl ?_
          refine a_iinc C 6 [(5, .int (x5 + 1)), (3, .int x3), (6, .int r59_9), (0, .ref t), (1, .int p1), (2, .int p2), (4, .int x4)] dX9_longestOf_77 rfl rfl (by decide) rfl ?_
          refine a_goto C (tgt := 18) dX9_longestOf_80 (by decide) ?_
          refine a_sub C [3, 4, 5, 1, 6, 0] [(0, .ref t), (1, .int p1), (2, .int p2), (3, .int x3), (4, .int x4), (5, .int (x5 + 1))] rfl ?_
          exact ih x3 (x5 + 1) k hF hX
        refine a_iload C 0 dX9_longestOf_70 rfl ?_
        refine a_goto C (tgt := 76) dX9_longestOf_72 (by decide) ?_
        refine a_istore_n C [(3, .int r59_9), (6, .int r59_9), (0, .ref t), (1, .int p1), (2, .int p2), (4, .int x4), (5, .int x5)] dX9_longestOf_76 rfl (by decide) rfl ?_
        refine a_iinc C 6 [(5, .int (x5 + 1)), (3, .int r59_9), (6, .int r59_9), (0, .ref t), (1, .int p1), (2, .int p2), (4, .int x4)] dX9_longestOf_77 rfl rfl (by decide) rfl ?_
        refine a_goto C (tgt := 18) dX9_longestOf_80 (by decide) ?_
        refine a_sub C [3, 4, 5, 1, 6, 0] [(0, .ref t), (1, .int p1), (2, .int p2), (3, .int r59_9), (4, .int x4), (5, .int (x5 + 1))] rfl ?_
        exact ih r59_9 (x5 + 1) k hF hX
      refine a_iconst C (v := 0) dX9_longestOf_40 (by decide) ?_
      refine a_goto C (tgt := 62) dX9_longestOf_41 (by decide) ?_
      refine a_istore C [(6, .int 0), (0, .ref t), (1, .int p1), (2, .int p2), (3, .int x3), (4, .int x4), (5, .int x5)] dX9_longestOf_62 (by decide) rfl ?_
      refine a_iload C 0 dX9_longestOf_64 rfl ?_
      refine a_iload_n C 4 dX9_longestOf_66 rfl rfl ?_
      refine a_ic_le C (tgt := 75) dX9_longestOf_67 (by decide) hF (fun c67_11 hF => ?_) (fun c67_11 hF => ?_)
      · refine a_iload_n C 4 dX9_longestOf_75 rfl rfl ?_
        refine a_istore_n C [(3, .int x3), (6, .int 0), (0, .ref t), (1, .int p1), (2, .int p2), (4, .int x4), (5, .int x5)] dX9_longestOf_76 rfl (by decide) rfl ?_
        refine a_iinc C 6 [(5, .int (x5 + 1)), (3, .int x3), (6, .int 0), (0, .ref t), (1, .int p1), (2, .int p2), (4, .int x4)] dX9_longestOf_77 rfl rfl (by decide) rfl ?_
        refine a_goto C (tgt := 18) dX9_longestOf_80 (by decide) ?_
        refine a_sub C [3, 4, 5, 1, 6, 0] [(0, .ref t), (1, .int p1), (2, .int p2), (3, .int x3), (4, .int x4), (5, .int (x5 + 1))] rfl ?_
        exact ih x3 (x5 + 1) k hF hX
      refine a_iload C 0 dX9_longestOf_70 rfl ?_
      refine a_goto C (tgt := 76) dX9_longestOf_72 (by decide) ?_
      refine a_istore_n C [(3, .int 0), (6, .int 0), (0, .ref t), (1, .int p1), (2, .int p2), (4, .int x4), (5, .int x5)] dX9_longestOf_76 rfl (by decide) rfl ?_
      refine a_iinc C 6 [(5, .int (x5 + 1)), (3, .int 0), (6, .int 0), (0, .ref t), (1, .int p1), (2, .int p2), (4, .int x4)] dX9_longestOf_77 rfl rfl (by decide) rfl ?_
      refine a_goto C (tgt := 18) dX9_longestOf_80 (by decide) ?_
      refine a_sub C [3, 4, 5, 1, 6, 0] [(0, .ref t), (1, .int p1), (2, .int p2), (3, .int 0), (4, .int x4), (5, .int (x5 + 1))] rfl ?_
      exact ih 0 (x5 + 1) k hF hX
  have hI5 : ∀ (fuel : Nat) (x3 : Int32) (x4 : Int32) (k : Int32 → Int32 → Option Int32), f_X9_longestOf_L5 p1 p2 t_allF fuel x3 x4 k = some res → (∀ (x3 : Int32) (x4 : Int32), k x3 x4 = some res → aT p l e ({ frames := 3, cells := 0, slots := 0, locals := 67 } : Room) s m args below meth c (MQ below (aQi D (wX9 kc ki t t_all t_reasons t_text t_word t_order t_rows t_written t_allF t_reasonsF t_textF t_wordF t_orderF t_rowsF t_writtenF t_thrown t_changes t_isSaved t_result t_texted t_wordSize t_orderMany t_here t_fault t_faultAt t_commandMany t_writtenSize) s.heap.size (fun r => r) (fun _ => wX9 kc ki t t_all t_reasons t_text t_word t_order t_rows t_written t_allF t_reasonsF t_textF t_wordF t_orderF t_rowsF t_writtenF t_thrown t_changes t_isSaved t_result t_texted t_wordSize t_orderMany t_here t_fault t_faultAt t_commandMany t_writtenSize) res) args s 0 0 (va_A (wX9 kc ki t t_all t_reasons t_text t_word t_order t_rows t_written t_allF t_reasonsF t_textF t_wordF t_orderF t_rowsF t_writtenF t_thrown t_changes t_isSaved t_result t_texted t_wordSize t_orderMany t_here t_fault t_faultAt t_commandMany t_writtenSize) s.heap.size)) D (va_A (wX9 kc ki t t_all t_reasons t_text t_word t_order t_rows t_written t_allF t_reasonsF t_textF t_wordF t_orderF t_rowsF t_writtenF t_thrown t_changes t_isSaved t_result t_texted t_wordSize t_orderMany t_here t_fault t_faultAt t_commandMany t_writtenSize) s.heap.size) 7 0 0 89 [(3, .int x3)] [] (wX9 kc ki t t_all t_reasons t_text t_word t_order t_rows t_written t_allF t_reasonsF t_textF t_wordF t_orderF t_rowsF t_writtenF t_thrown t_changes t_isSaved t_result t_texted t_wordSize t_orderMany t_here t_fault t_faultAt t_commandMany t_writtenSize)) → aT p l e ({ frames := 3, cells := 0, slots := 0, locals := 67 } : Room) s m args below meth c (MQ below (aQi D (wX9 kc ki t t_all t_reasons t_text t_word t_order t_rows t_written t_allF t_reasonsF t_textF t_wordF t_orderF t_rowsF t_writtenF t_thrown t_changes t_isSaved t_result t_texted t_wordSize t_orderMany t_here t_fault t_faultAt t_commandMany t_writtenSize) s.heap.size (fun r => r) (fun _ => wX9 kc ki t t_all t_reasons t_text t_word t_order t_rows t_written t_allF t_reasonsF t_textF t_wordF t_orderF t_rowsF t_writtenF t_thrown t_changes t_isSaved t_result t_texted t_wordSize t_orderMany t_here t_fault t_faultAt t_commandMany t_writtenSize) res) args s 0 0 (va_A (wX9 kc ki t t_all t_reasons t_text t_word t_order t_rows t_written t_allF t_reasonsF t_textF t_wordF t_orderF t_rowsF t_writtenF t_thrown t_changes t_isSaved t_result t_texted t_wordSize t_orderMany t_here t_fault t_faultAt t_commandMany t_writtenSize) s.heap.size)) D (va_A (wX9 kc ki t t_all t_reasons t_text t_word t_order t_rows t_written t_allF t_reasonsF t_textF t_wordF t_orderF t_rowsF t_writtenF t_thrown t_changes t_isSaved t_result t_texted t_wordSize t_orderMany t_here t_fault t_faultAt t_commandMany t_writtenSize) s.heap.size) 7 0 0 5 [(0, .ref t), (1, .int p1), (2, .int p2), (3, .int x3), (4, .int x4)] [] (wX9 kc ki t t_all t_reasons t_text t_word t_order t_rows t_written t_allF t_reasonsF t_textF t_wordF t_orderF t_rowsF t_writtenF t_thrown t_changes t_isSaved t_result t_texted t_wordSize t_orderMany t_here t_fault t_faultAt t_commandMany t_writtenSize) := by
    intro fuel
    induction fuel with
    | zero => intro x3 x4 k hF hX; exact nomatch hF
    | succ fuel ih =>
      intro x3 x4 k hF hX
      rw [f_X9_longestOf_L5] at hF
      refine a_iload C 4 dX9_longestOf_5 rfl ?_
      refine a_aload_n C 0 dX9_longestOf_7 rfl rfl ?_
      refine a_iload_n C 1 dX9_longestOf_8 rfl rfl ?_
      refine a_callVir C 1 [0, 1, 2, 3, 4, 5, 6, 7] 0 cs_X9_61 hd_X9_size ⟨rfl, rfl⟩ ⟨Nat.le_of_ble_eq_true rfl, Nat.le_of_ble_eq_true rfl⟩ (fun r h => c_X9_size l D J kc ki kb kl kd t t_all t_reasons t_text t_word t_order t_rows t_written t_allF t_reasonsF t_textF t_wordF t_orderF t_rowsF t_writtenF t_thrown t_changes t_isSaved t_result t_texted t_wordSize t_orderMany t_here t_fault t_faultAt t_commandMany t_writtenSize p1 r h) rfl rfl rfl rfl rfl rfl (Nat.le_of_ble_eq_true rfl) dX9_longestOf_9 ⟨Nat.zero_le _, Nat.zero_le _⟩ hF (fun r9_1 er9_1 hF => ?_)
      refine a_ic_ge C (tgt := 89) dX9_longestOf_12 (by decide) hF (fun c12_2 hF => ?_) (fun c12_2 hF => ?_)
      · refine a_sub C [3] [(3, .int x3)] rfl ?_
        exact hX x3 x4 hF
      refine a_iconst C (v := 0) dX9_longestOf_15 (by decide) ?_
      refine a_istore C [(5, .int 0), (0, .ref t), (1, .int p1), (2, .int p2), (3, .int x3), (4, .int x4)] dX9_longestOf_16 (by decide) rfl ?_
      refine a_sub C [1, 2, 3, 4, 5, 0] [(0, .ref t), (1, .int p1), (2, .int p2), (3, .int x3), (4, .int x4), (5, .int 0)] rfl ?_
      refine hI18 x4 1000 x3 0 _ hF (fun x3_18_12 x5_18_13 hF => ?_)
      refine a_iinc C 4 [(4, .int (x4 + 1)), (0, .ref t), (1, .int p1), (2, .int p2), (3, .int x3_18_12)] dX9_longestOf_83 rfl rfl (by decide) rfl ?_
      refine a_goto C (tgt := 5) dX9_longestOf_86 (by decide) ?_
      refine a_sub C [1, 2, 3, 4, 0] [(0, .ref t), (1, .int p1), (2, .int p2), (3, .int x3_18_12), (4, .int (x4 + 1))] rfl ?_
      exact ih x3_18_12 (x4 + 1) k hF hX
  unfold f_X9_longestOf at hF
  refine a_iconst C (v := 0) dX9_longestOf_0 (by decide) ?_
  refine a_istore_n C [(3, .int 0), (0, .ref t), (1, .int p1), (2, .int p2)] dX9_longestOf_1 rfl (by decide) rfl ?_
  refine a_iconst C (v := 0) dX9_longestOf_2 (by decide) ?_
  refine a_istore C [(4, .int 0), (3, .int 0), (0, .ref t), (1, .int p1), (2, .int p2)] dX9_longestOf_3 (by decide) rfl ?_
  refine a_sub C [2, 3, 4, 1, 0] [(0, .ref t), (1, .int p1), (2, .int p2), (3, .int 0), (4, .int 0)] rfl ?_
  refine hI5 1000 0 0 _ hF (fun x3_5_14 x4_5_15 hF => ?_)
  refine a_iload_n C 0 dX9_longestOf_89 rfl rfl ?_
  exact a_iret C hr rfl dX9_longestOf_90 hF rfl rfl
theorem cs_X9_162 : GoodIn WW (wsV RX9 162 RX9 yX9_longestOf (aW yX9_longestOf cX9_longestOf 7 ((some .int)))) := gdV kl_X9_162 ki_X9_longestOf kv_X9_longestOf kn_X9 kc_X9_longestOf
theorem cs_X9_153 : GoodIn WW (wsV RX9 153 RX9 yX9_different (aW yX9_different cX9_different 8 ((some .int)))) := gdV kl_X9_153 ki_X9_different kv_X9_different kn_X9 kc_X9_different
theorem cs_X9_156 : GoodIn WW (wsV RX9 156 RX9 yX9_likes (aW yX9_likes cX9_likes 4 ((some .int)))) := gdV kl_X9_156 ki_X9_likes kv_X9_likes kn_X9 kc_X9_likes
theorem cs_X9_159 : GoodIn WW (wsV RX9 159 RX9 yX9_period (aW yX9_period cX9_period 5 ((some .int)))) := gdV kl_X9_159 ki_X9_period kv_X9_period kn_X9 kc_X9_period
def f_X9_lineOf_J27 (y1 : Int32) (p1 : Int32) (p2 : Int32) (t_allF : Nat → Int32) : Option (Int32 × Int32) := if y1 = 0 then (if p2 < 0 ∨ 3 < p2 then ((f_X9_longestOf t_allF p1 p1).bind fun r102_7 => some (r102_7, y1)) else (if p2 = 0 then ((f_X9_size t_allF p1).bind fun r74_8 => some (r74_8, y1)) else (if p2 = 1 then ((f_X9_different t_allF p1 (p1 + 1)).bind fun r83_10 => some (r83_10, y1)) else (if p2 = 2 then ((f_X9_likes t_allF p1).bind fun r89_12 => some (r89_12, y1)) else (if p2 = 3 then ((f_X9_period t_allF p1).bind fun r95_14 => some (r95_14, y1)) else (none)))))) else (some (0, y1))
def f_X9_lineOf (t_allF : Nat → Int32) (p1 : Int32) (p2 : Int32) : Option (Int32 × Int32) := (f_X9_isLineNumber t_allF p1).bind fun r3_1 => if ¬ r3_1 = 0 then ((f_X9_in p2 0 4).bind fun r16_3 => if r16_3 = 0 then (f_X9_lineOf_J27 2 p1 p2 t_allF) else (f_X9_lineOf_J27 0 p1 p2 t_allF)) else (f_X9_lineOf_J27 1 p1 p2 t_allF)
theorem hd_X9_lineOf : yX9_lineOf.cls = RX9 ∧ yX9_lineOf.cls ≠ "java/lang/invoke/MethodHandle" ∧ yX9_lineOf.cls ≠ "java/lang/invoke/VarHandle" ∧ (parseMethodDescriptor yX9_lineOf.desc).map (fun d => d.parameters.length) = some 2 := by decide +kernel
set_option maxRecDepth 100000 in
set_option maxHeartbeats 4000000 in
theorem c_X9_lineOf (l : Launch) (D : va_G) (J : (Nat → Nat) × (Nat → Nat)) (kc ki kb kl kd : ClassId) (t : Nat) (t_all : Nat) (t_reasons : Nat) (t_text : Nat) (t_word : Nat) (t_order : Nat) (t_rows : Nat) (t_written : Nat) (t_allF : Nat → Int32) (t_reasonsF : Nat → Int32) (t_textF : Nat → Int32) (t_wordF : Nat → Int32) (t_orderF : Nat → Int32) (t_rowsF : Nat → Int32) (t_writtenF : Nat → Int32) (t_thrown : Int32) (t_changes : Int32) (t_isSaved : Int32) (t_result : Int32) (t_texted : Int32) (t_wordSize : Int32) (t_orderMany : Int32) (t_here : Int32) (t_fault : Int32) (t_faultAt : Int32) (t_commandMany : Int32) (t_writtenSize : Int32) (p1 p2 : Int32) (res : Int32 × Int32) (hF : f_X9_lineOf t_allF p1 p2 = some res) : aKi l yX9_lineOf (aW yX9_lineOf cX9_lineOf 3 ((some .int))) ({ frames := 5, cells := 0, slots := 0, locals := 112 } : Room) D J (aTy kc ki kb kl kd) [.ref t, .int p1, .int p2] (wX9 kc ki t t_all t_reasons t_text t_word t_order t_rows t_written t_allF t_reasonsF t_textF t_wordF t_orderF t_rowsF t_writtenF t_thrown t_changes t_isSaved t_result t_texted t_wordSize t_orderMany t_here t_fault t_faultAt t_commandMany t_writtenSize) (fun r => r.1) (fun r => wX9 kc ki t t_all t_reasons t_text t_word t_order t_rows t_written t_allF t_reasonsF t_textF t_wordF t_orderF t_rowsF t_writtenF r.2 t_changes t_isSaved t_result t_texted t_wordSize t_orderMany t_here t_fault t_faultAt t_commandMany t_writtenSize) res := by
  refine aKi_of (own := RX9) (by decide) rfl (Nat.le_of_ble_eq_true rfl) rfl ?_
  intro p e s m args below meth c C hr
  have hJ27 : ∀ (q_t_thrown : Int32) (y1 : Int32), f_X9_lineOf_J27 y1 p1 p2 t_allF = some res → aT p l e ({ frames := 5, cells := 0, slots := 0, locals := 112 } : Room) s m args below meth c (MQ below (aQi D (wX9 kc ki t t_all t_reasons t_text t_word t_order t_rows t_written t_allF t_reasonsF t_textF t_wordF t_orderF t_rowsF t_writtenF t_thrown t_changes t_isSaved t_result t_texted t_wordSize t_orderMany t_here t_fault t_faultAt t_commandMany t_writtenSize) s.heap.size (fun r => r.1) (fun r => wX9 kc ki t t_all t_reasons t_text t_word t_order t_rows t_written t_allF t_reasonsF t_textF t_wordF t_orderF t_rowsF t_writtenF r.2 t_changes t_isSaved t_result t_texted t_wordSize t_orderMany t_here t_fault t_faultAt t_commandMany t_writtenSize) res) args s 0 0 (va_A (wX9 kc ki t t_all t_reasons t_text t_word t_order t_rows t_written t_allF t_reasonsF t_textF t_wordF t_orderF t_rowsF t_writtenF t_thrown t_changes t_isSaved t_result t_texted t_wordSize t_orderMany t_here t_fault t_faultAt t_commandMany t_writtenSize) s.heap.size)) D (va_A (wX9 kc ki t t_all t_reasons t_text t_word t_order t_rows t_written t_allF t_reasonsF t_textF t_wordF t_orderF t_rowsF t_writtenF t_thrown t_changes t_isSaved t_result t_texted t_wordSize t_orderMany t_here t_fault t_faultAt t_commandMany t_writtenSize) s.heap.size) 3 0 0 27 [(0, .ref t), (1, .int p1), (2, .int p2)] [.int y1, .ref t] (wX9 kc ki t t_all t_reasons t_text t_word t_order t_rows t_written t_allF t_reasonsF t_textF t_wordF t_orderF t_rowsF t_writtenF q_t_thrown t_changes t_isSaved t_result t_texted t_wordSize t_orderMany t_here t_fault t_faultAt t_commandMany t_writtenSize) := by
    intro q_t_thrown y1 hF
    unfold f_X9_lineOf_J27 at hF
    refine a_put C 0 0 iwX9 tyX9_ok nmX9 rfl rfl (by decide) kf_X9_36 rfl rfl rfl (Nat.le_of_ble_eq_true rfl) dX9_lineOf_27 ?_
    refine a_ws C (ws' := wX9 kc ki t t_all t_reasons t_text t_word t_order t_rows t_written t_allF t_reasonsF t_textF t_wordF t_orderF t_rowsF t_writtenF y1 t_changes t_isSaved t_result t_texted t_wordSize t_orderMany t_here t_fault t_faultAt t_commandMany t_writtenSize) rfl ?_
    refine a_aload_n C 0 dX9_lineOf_30 rfl rfl ?_
    refine a_get C 0 0 iwX9 rfl rfl (by decide) kf_X9_36 rfl dX9_lineOf_31 ?_
    refine a_if_eq C (tgt := 39) dX9_lineOf_34 (by decide) hF (fun c34_5 hF => ?_) (fun c34_5 hF => ?_)
    · refine a_iload_n C 2 dX9_lineOf_39 rfl rfl ?_
      refine a_tsout C (tgt := 99) (lo := 0) (hi := 3) dX9_lineOf_40 (by decide) (by decide) (by decide) hF (fun c40_6 hF => ?_) (fun c40_6 hF => ?_)
      · refine a_aload_n C 0 dX9_lineOf_99 rfl rfl ?_
        refine a_iload_n C 1 dX9_lineOf_100 rfl rfl ?_
        refine a_iload_n C 1 dX9_lineOf_101 rfl rfl ?_
        refine a_callVir C 2 [0, 1, 2, 3, 4, 5, 6, 7] 0 cs_X9_162 hd_X9_longestOf ⟨rfl, rfl⟩ ⟨Nat.le_of_ble_eq_true rfl, Nat.le_of_ble_eq_true rfl⟩ (fun r h => c_X9_longestOf l D J kc ki kb kl kd t t_all t_reasons t_text t_word t_order t_rows t_written t_allF t_reasonsF t_textF t_wordF t_orderF t_rowsF t_writtenF y1 t_changes t_isSaved t_result t_texted t_wordSize t_orderMany t_here t_fault t_faultAt t_commandMany t_writtenSize p1 p1 r h) rfl rfl rfl rfl rfl rfl (Nat.le_of_ble_eq_true rfl) dX9_lineOf_102 ⟨Nat.zero_le _, Nat.zero_le _⟩ hF (fun r102_7 er102_7 hF => ?_)
        exact a_iret C hr rfl dX9_lineOf_105 hF rfl rfl
      refine a_tscase C (tgt := 72) (v := 0) dX9_lineOf_40 (by decide) (by decide) rfl (by decide) hF (fun c40_9 hF => ?_) (fun c40_9 hF => ?_)
      · refine a_aload_n C 0 dX9_lineOf_72 rfl rfl ?_
        refine a_iload_n C 1 dX9_lineOf_73 rfl rfl ?_
        refine a_callVir C 1 [0, 1, 2, 3, 4, 5, 6, 7] 0 cs_X9_61 hd_X9_size ⟨rfl, rfl⟩ ⟨Nat.le_of_ble_eq_true rfl, Nat.le_of_ble_eq_true rfl⟩ (fun r h => c_X9_size l D J kc ki kb kl kd t t_all t_reasons t_text t_word t_order t_rows t_written t_allF t_reasonsF t_textF t_wordF t_orderF t_rowsF t_writtenF y1 t_changes t_isSaved t_result t_texted t_wordSize t_orderMany t_here t_fault t_faultAt t_commandMany t_writtenSize p1 r h) rfl rfl rfl rfl rfl rfl (Nat.le_of_ble_eq_true rfl) dX9_lineOf_74 ⟨Nat.zero_le _, Nat.zero_le _⟩ hF (fun r74_8 er74_8 hF => ?_)
        exact a_iret C hr rfl dX9_lineOf_77 hF rfl rfl
      refine a_tscase C (tgt := 78) (v := 1) dX9_lineOf_40 (by decide) (by decide) rfl (by decide) hF (fun c40_11 hF => ?_) (fun c40_11 hF => ?_)
      · refine a_aload_n C 0 dX9_lineOf_78 rfl rfl ?_
        refine a_iload_n C 1 dX9_lineOf_79 rfl rfl ?_
        refine a_iload_n C 1 dX9_lineOf_80 rfl rfl ?_
        refine a_iconst C (v := 1) dX9_lineOf_81 (by decide) ?_
        refine a_iadd C dX9_lineOf_82 ?_
        refine a_callVir C 2 [0, 1, 2, 3, 4, 5, 6, 7] 0 cs_X9_153 hd_X9_different ⟨rfl, rfl⟩ ⟨Nat.le_of_ble_eq_true rfl, Nat.le_of_ble_eq_true rfl⟩ (fun r h => c_X9_different l D J kc ki kb kl kd t t_all t_reasons t_text t_word t_order t_rows t_written t_allF t_reasonsF t_textF t_wordF t_orderF t_rowsF t_writtenF y1 t_changes t_isSaved t_result t_texted t_wordSize t_orderMany t_here t_fault t_faultAt t_commandMany t_writtenSize p1 (p1 + 1) r h) rfl rfl rfl rfl rfl rfl (Nat.le_of_ble_eq_true rfl) dX9_lineOf_83 ⟨Nat.zero_le _, Nat.zero_le _⟩ hF (fun r83_10 er83_10 hF => ?_)
        exact a_iret C hr rfl dX9_lineOf_86 hF rfl rfl
      refine a_tscase C (tgt := 87) (v := 2) dX9_lineOf_40 (by decide) (by decide) rfl (by decide) hF (fun c40_13 hF => ?_) (fun c40_13 hF => ?_)
      · refine a_aload_n C 0 dX9_lineOf_87 rfl rfl ?_
        refine a_iload_n C 1 dX9_lineOf_88 rfl rfl ?_
        refine a_callVir C 1 [0, 1, 2, 3, 4, 5, 6, 7] 0 cs_X9_156 hd_X9_likes ⟨rfl, rfl⟩ ⟨Nat.le_of_ble_eq_true rfl, Nat.le_of_ble_eq_true rfl⟩ (fun r h => c_X9_likes l D J kc ki kb kl kd t t_all t_reasons t_text t_word t_order t_rows t_written t_allF t_reasonsF t_textF t_wordF t_orderF t_rowsF t_writtenF y1 t_changes t_isSaved t_result t_texted t_wordSize t_orderMany t_here t_fault t_faultAt t_commandMany t_writtenSize p1 r h) rfl rfl rfl rfl rfl rfl (Nat.le_of_ble_eq_true rfl) dX9_lineOf_89 ⟨Nat.zero_le _, Nat.zero_le _⟩ hF (fun r89_12 er89_12 hF => ?_)
        exact a_iret C hr rfl dX9_lineOf_92 hF rfl rfl
      refine a_tscase C (tgt := 93) (v := 3) dX9_lineOf_40 (by decide) (by decide) rfl (by decide) hF (fun c40_15 hF => ?_) (fun c40_15 hF => ?_)
      · refine a_aload_n C 0 dX9_lineOf_93 rfl rfl ?_
        refine a_iload_n C 1 dX9_lineOf_94 rfl rfl ?_
        refine a_callVir C 1 [0, 1, 2, 3, 4, 5, 6, 7] 0 cs_X9_159 hd_X9_period ⟨rfl, rfl⟩ ⟨Nat.le_of_ble_eq_true rfl, Nat.le_of_ble_eq_true rfl⟩ (fun r h => c_X9_period l D J kc ki kb kl kd t t_all t_reasons t_text t_word t_order t_rows t_written t_allF t_reasonsF t_textF t_wordF t_orderF t_rowsF t_writtenF y1 t_changes t_isSaved t_result t_texted t_wordSize t_orderMany t_here t_fault t_faultAt t_commandMany t_writtenSize p1 r h) rfl rfl rfl rfl rfl rfl (Nat.le_of_ble_eq_true rfl) dX9_lineOf_95 ⟨Nat.zero_le _, Nat.zero_le _⟩ hF (fun r95_14 er95_14 hF => ?_)
        exact a_iret C hr rfl dX9_lineOf_98 hF rfl rfl
      exact nomatch hF
    refine a_iconst C (v := 0) dX9_lineOf_37 (by decide) ?_
    exact a_iret C hr rfl dX9_lineOf_38 hF rfl rfl
  unfold f_X9_lineOf at hF
  refine a_aload_n C 0 dX9_lineOf_0 rfl rfl ?_
  refine a_aload_n C 0 dX9_lineOf_1 rfl rfl ?_
  refine a_iload_n C 1 dX9_lineOf_2 rfl rfl ?_
  refine a_callVir C 1 [0, 1, 2, 3, 4, 5, 6, 7] 0 cs_X9_57 hd_X9_isLineNumber ⟨rfl, rfl⟩ ⟨Nat.le_of_ble_eq_true rfl, Nat.le_of_ble_eq_true rfl⟩ (fun r h => c_X9_isLineNumber l D J kc ki kb kl kd t t_all t_reasons t_text t_word t_order t_rows t_written t_allF t_reasonsF t_textF t_wordF t_orderF t_rowsF t_writtenF t_thrown t_changes t_isSaved t_result t_texted t_wordSize t_orderMany t_here t_fault t_faultAt t_commandMany t_writtenSize p1 r h) rfl rfl rfl rfl rfl rfl (Nat.le_of_ble_eq_true rfl) dX9_lineOf_3 ⟨Nat.zero_le _, Nat.zero_le _⟩ hF (fun r3_1 er3_1 hF => ?_)
  refine a_if_ne C (tgt := 13) dX9_lineOf_6 (by decide) hF (fun c6_2 hF => ?_) (fun c6_2 hF => ?_)
  · refine a_iload_n C 2 dX9_lineOf_13 rfl rfl ?_
    refine a_iconst C (v := 0) dX9_lineOf_14 (by decide) ?_
    refine a_iconst C (v := 4) dX9_lineOf_15 (by decide) ?_
    refine a_callSir C 3 [] cs_X9_49 hd_X9_in ⟨rfl, rfl⟩ ⟨Nat.le_of_ble_eq_true rfl, Nat.le_of_ble_eq_true rfl⟩ (fun r h => c_X9_in l D J kc ki kb kl kd p2 0 4 r h) rfl rfl rfl rfl (Nat.le_of_ble_eq_true rfl) dX9_lineOf_16 ⟨Nat.zero_le _, Nat.zero_le _⟩ hF (fun r16_3 er16_3 hF => ?_)
    refine a_if_eq C (tgt := 26) dX9_lineOf_19 (by decide) hF (fun c19_4 hF => ?_) (fun c19_4 hF => ?_)
    · refine a_iconst C (v := 2) dX9_lineOf_26 (by decide) ?_
      exact hJ27 t_thrown 2 hF
    refine a_iconst C (v := 0) dX9_lineOf_22 (by decide) ?_
    refine a_goto C (tgt := 27) dX9_lineOf_23 (by decide) ?_
    exact hJ27 t_thrown 0 hF
  refine a_iconst C (v := 1) dX9_lineOf_9 (by decide) ?_
  refine a_goto C (tgt := 27) dX9_lineOf_10 (by decide) ?_
  exact hJ27 t_thrown 1 hF
