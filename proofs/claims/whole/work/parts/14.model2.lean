def f_X9_letter_J15 (y1 : Int32) (p1 : Int32) (p2 : Int32) (t_allF : Nat → Int32) : Option (Int32 × Int32) := if ¬ y1 = 0 then (some (0, y1)) else ((f_X9_at t_allF p1 p2).bind fun r28_4 => (rc ((r28_4.toUInt32 % 65536).toInt32)).bind fun _ => some ((r28_4.toUInt32 % 65536).toInt32, y1))
def f_X9_letter (t_allF : Nat → Int32) (p1 : Int32) (p2 : Int32) : Option (Int32 × Int32) := (f_X9_isPlace t_allF p1 p2).bind fun r4_1 => if r4_1 = 0 then (f_X9_letter_J15 1 p1 p2 t_allF) else (f_X9_letter_J15 0 p1 p2 t_allF)
theorem hd_X9_letter : yX9_letter.cls = RX9 ∧ yX9_letter.cls ≠ "java/lang/invoke/MethodHandle" ∧ yX9_letter.cls ≠ "java/lang/invoke/VarHandle" ∧ (parseMethodDescriptor yX9_letter.desc).map (fun d => d.parameters.length) = some 2 := by decide +kernel
set_option maxRecDepth 100000 in
set_option maxHeartbeats 4000000 in
theorem c_X9_letter (l : Launch) (D : va_G) (J : (Nat → Nat) × (Nat → Nat)) (kc ki kb kl kd : ClassId) (t : Nat) (t_all : Nat) (t_reasons : Nat) (t_text : Nat) (t_word : Nat) (t_order : Nat) (t_rows : Nat) (t_written : Nat) (t_allF : Nat → Int32) (t_reasonsF : Nat → Int32) (t_textF : Nat → Int32) (t_wordF : Nat → Int32) (t_orderF : Nat → Int32) (t_rowsF : Nat → Int32) (t_writtenF : Nat → Int32) (t_thrown : Int32) (t_changes : Int32) (t_isSaved : Int32) (t_result : Int32) (t_texted : Int32) (t_wordSize : Int32) (t_orderMany : Int32) (t_here : Int32) (t_fault : Int32) (t_faultAt : Int32) (t_commandMany : Int32) (t_writtenSize : Int32) (p1 p2 : Int32) (res : Int32 × Int32) (hF : f_X9_letter t_allF p1 p2 = some res) : aKi l yX9_letter (aW yX9_letter cX9_letter 3 ((some .char))) ({ frames := 3, cells := 0, slots := 0, locals := 65 } : Room) D J (aTy kc ki kb kl kd) [.ref t, .int p1, .int p2] (wX9 kc ki t t_all t_reasons t_text t_word t_order t_rows t_written t_allF t_reasonsF t_textF t_wordF t_orderF t_rowsF t_writtenF t_thrown t_changes t_isSaved t_result t_texted t_wordSize t_orderMany t_here t_fault t_faultAt t_commandMany t_writtenSize) (fun r => r.1) (fun r => wX9 kc ki t t_all t_reasons t_text t_word t_order t_rows t_written t_allF t_reasonsF t_textF t_wordF t_orderF t_rowsF t_writtenF r.2 t_changes t_isSaved t_result t_texted t_wordSize t_orderMany t_here t_fault t_faultAt t_commandMany t_writtenSize) res := by
  refine aKi_of (own := RX9) (by decide) rfl (Nat.le_of_ble_eq_true rfl) rfl ?_
  intro p e s m args below meth c C hr
  have hJ15 : ∀ (q_t_thrown : Int32) (y1 : Int32), f_X9_letter_J15 y1 p1 p2 t_allF = some res → aT p l e ({ frames := 3, cells := 0, slots := 0, locals := 65 } : Room) s m args below meth c (MQ below (aQi D (wX9 kc ki t t_all t_reasons t_text t_word t_order t_rows t_written t_allF t_reasonsF t_textF t_wordF t_orderF t_rowsF t_writtenF t_thrown t_changes t_isSaved t_result t_texted t_wordSize t_orderMany t_here t_fault t_faultAt t_commandMany t_writtenSize) s.heap.size (fun r => r.1) (fun r => wX9 kc ki t t_all t_reasons t_text t_word t_order t_rows t_written t_allF t_reasonsF t_textF t_wordF t_orderF t_rowsF t_writtenF r.2 t_changes t_isSaved t_result t_texted t_wordSize t_orderMany t_here t_fault t_faultAt t_commandMany t_writtenSize) res) args s 0 0 (va_A (wX9 kc ki t t_all t_reasons t_text t_word t_order t_rows t_written t_allF t_reasonsF t_textF t_wordF t_orderF t_rowsF t_writtenF t_thrown t_changes t_isSaved t_result t_texted t_wordSize t_orderMany t_here t_fault t_faultAt t_commandMany t_writtenSize) s.heap.size)) D (va_A (wX9 kc ki t t_all t_reasons t_text t_word t_order t_rows t_written t_allF t_reasonsF t_textF t_wordF t_orderF t_rowsF t_writtenF t_thrown t_changes t_isSaved t_result t_texted t_wordSize t_orderMany t_here t_fault t_faultAt t_commandMany t_writtenSize) s.heap.size) 3 0 0 15 [(0, .ref t), (1, .int p1), (2, .int p2)] [.int y1, .ref t] (wX9 kc ki t t_all t_reasons t_text t_word t_order t_rows t_written t_allF t_reasonsF t_textF t_wordF t_orderF t_rowsF t_writtenF q_t_thrown t_changes t_isSaved t_result t_texted t_wordSize t_orderMany t_here t_fault t_faultAt t_commandMany t_writtenSize) := by
    intro q_t_thrown y1 hF
    unfold f_X9_letter_J15 at hF
    refine a_put C 0 0 iwX9 tyX9_ok nmX9 rfl rfl (by decide) kf_X9_36 rfl rfl rfl (Nat.le_of_ble_eq_true rfl) dX9_letter_15 ?_
    refine a_ws C (ws' := wX9 kc ki t t_all t_reasons t_text t_word t_order t_rows t_written t_allF t_reasonsF t_textF t_wordF t_orderF t_rowsF t_writtenF y1 t_changes t_isSaved t_result t_texted t_wordSize t_orderMany t_here t_fault t_faultAt t_commandMany t_writtenSize) rfl ?_
    refine a_aload_n C 0 dX9_letter_18 rfl rfl ?_
    refine a_get C 0 0 iwX9 rfl rfl (by decide) kf_X9_36 rfl dX9_letter_19 ?_
    refine a_if_ne C (tgt := 35) dX9_letter_22 (by decide) hF (fun c22_3 hF => ?_) (fun c22_3 hF => ?_)
    · refine a_iconst C (v := 0) dX9_letter_35 (by decide) ?_
      exact a_iret C hr rfl dX9_letter_36 hF rfl rfl
    refine a_aload_n C 0 dX9_letter_25 rfl rfl ?_
    refine a_iload_n C 1 dX9_letter_26 rfl rfl ?_
    refine a_iload_n C 2 dX9_letter_27 rfl rfl ?_
    refine a_callVir C 2 [0, 1, 2, 3, 4, 5, 6, 7] 0 cs_X9_107 hd_X9_at ⟨rfl, rfl⟩ ⟨Nat.le_of_ble_eq_true rfl, Nat.le_of_ble_eq_true rfl⟩ (fun r h => c_X9_at l D J kc ki kb kl kd t t_all t_reasons t_text t_word t_order t_rows t_written t_allF t_reasonsF t_textF t_wordF t_orderF t_rowsF t_writtenF y1 t_changes t_isSaved t_result t_texted t_wordSize t_orderMany t_here t_fault t_faultAt t_commandMany t_writtenSize p1 p2 r h) rfl rfl rfl rfl rfl rfl (Nat.le_of_ble_eq_true rfl) dX9_letter_28 ⟨Nat.zero_le _, Nat.zero_le _⟩ hF (fun r28_4 er28_4 hF => ?_)
    refine a_i2c C dX9_letter_31 ?_
    refine a_goto C (tgt := 36) dX9_letter_32 (by decide) ?_
    refine a_rc hF (fun n36_5 hF => ?_)
    exact a_iret C hr n36_5 dX9_letter_36 hF rfl rfl
  unfold f_X9_letter at hF
  refine a_aload_n C 0 dX9_letter_0 rfl rfl ?_
  refine a_aload_n C 0 dX9_letter_1 rfl rfl ?_
  refine a_iload_n C 1 dX9_letter_2 rfl rfl ?_
  refine a_iload_n C 2 dX9_letter_3 rfl rfl ?_
  refine a_callVir C 2 [0, 1, 2, 3, 4, 5, 6, 7] 0 cs_X9_103 hd_X9_isPlace ⟨rfl, rfl⟩ ⟨Nat.le_of_ble_eq_true rfl, Nat.le_of_ble_eq_true rfl⟩ (fun r h => c_X9_isPlace l D J kc ki kb kl kd t t_all t_reasons t_text t_word t_order t_rows t_written t_allF t_reasonsF t_textF t_wordF t_orderF t_rowsF t_writtenF t_thrown t_changes t_isSaved t_result t_texted t_wordSize t_orderMany t_here t_fault t_faultAt t_commandMany t_writtenSize p1 p2 r h) rfl rfl rfl rfl rfl rfl (Nat.le_of_ble_eq_true rfl) dX9_letter_4 ⟨Nat.zero_le _, Nat.zero_le _⟩ hF (fun r4_1 er4_1 hF => ?_)
  refine a_if_eq C (tgt := 14) dX9_letter_7 (by decide) hF (fun c7_2 hF => ?_) (fun c7_2 hF => ?_)
  · refine a_iconst C (v := 1) dX9_letter_14 (by decide) ?_
    exact hJ15 t_thrown 1 hF
  refine a_iconst C (v := 0) dX9_letter_10 (by decide) ?_
  refine a_goto C (tgt := 15) dX9_letter_11 (by decide) ?_
  exact hJ15 t_thrown 0 hF
def f_X9_ending_J24 (q_t_orderF : Nat → Int32) (q_t_orderMany : Int32) (y1 : Int32) (p1 : Int32) (p2 : Int32) : Option (Int32 × (Nat → Int32) × Int32 × Int32) := if y1 = 0 then (if p2 = 0 then ((ldi q_t_orderF 80 p1).bind fun v59_6 => some (v59_6 / 10, q_t_orderF, y1, q_t_orderMany)) else ((ldi q_t_orderF 80 p1).bind fun v47_7 => some (v47_7 - v47_7 / 10 * 10, q_t_orderF, y1, q_t_orderMany))) else (some (0, q_t_orderF, y1, q_t_orderMany))
def f_X9_ending (t_allF : Nat → Int32) (t_orderF : Nat → Int32) (p1 : Int32) (p2 : Int32) : Option (Int32 × (Nat → Int32) × Int32 × Int32) := (f_X9_orders t_allF t_orderF).bind fun r1_1 => (f_X9_in p1 0 (r1_1.2 - 1)).bind fun r13_2 => if r13_2 = 0 then (f_X9_ending_J24 r1_1.1 r1_1.2 1 p1 p2) else (f_X9_ending_J24 r1_1.1 r1_1.2 0 p1 p2)
theorem hd_X9_ending : yX9_ending.cls = RX9 ∧ yX9_ending.cls ≠ "java/lang/invoke/MethodHandle" ∧ yX9_ending.cls ≠ "java/lang/invoke/VarHandle" ∧ (parseMethodDescriptor yX9_ending.desc).map (fun d => d.parameters.length) = some 2 := by decide +kernel
set_option maxRecDepth 100000 in
set_option maxHeartbeats 4000000 in
theorem c_X9_ending (l : Launch) (D : va_G) (J : (Nat → Nat) × (Nat → Nat)) (kc ki kb kl kd : ClassId) (t : Nat) (t_all : Nat) (t_reasons : Nat) (t_text : Nat) (t_word : Nat) (t_order : Nat) (t_rows : Nat) (t_written : Nat) (t_allF : Nat → Int32) (t_reasonsF : Nat → Int32) (t_textF : Nat → Int32) (t_wordF : Nat → Int32) (t_orderF : Nat → Int32) (t_rowsF : Nat → Int32) (t_writtenF : Nat → Int32) (t_thrown : Int32) (t_changes : Int32) (t_isSaved : Int32) (t_result : Int32) (t_texted : Int32) (t_wordSize : Int32) (t_orderMany : Int32) (t_here : Int32) (t_fault : Int32) (t_faultAt : Int32) (t_commandMany : Int32) (t_writtenSize : Int32) (p1 p2 : Int32) (res : Int32 × (Nat → Int32) × Int32 × Int32) (hF : f_X9_ending t_allF t_orderF p1 p2 = some res) : aKi l yX9_ending (aW yX9_ending cX9_ending 3 ((some .int))) ({ frames := 5, cells := 0, slots := 0, locals := 114 } : Room) D J (aTy kc ki kb kl kd) [.ref t, .int p1, .int p2] (wX9 kc ki t t_all t_reasons t_text t_word t_order t_rows t_written t_allF t_reasonsF t_textF t_wordF t_orderF t_rowsF t_writtenF t_thrown t_changes t_isSaved t_result t_texted t_wordSize t_orderMany t_here t_fault t_faultAt t_commandMany t_writtenSize) (fun r => r.1) (fun r => wX9 kc ki t t_all t_reasons t_text t_word t_order t_rows t_written t_allF t_reasonsF t_textF t_wordF r.2.1 t_rowsF t_writtenF r.2.2.1 t_changes t_isSaved t_result t_texted t_wordSize r.2.2.2 t_here t_fault t_faultAt t_commandMany t_writtenSize) res := by
  refine aKi_of (own := RX9) (by decide) rfl (Nat.le_of_ble_eq_true rfl) rfl ?_
  intro p e s m args below meth c C hr
  have hJ24 : ∀ (q_t_orderF : Nat → Int32) (q_t_thrown : Int32) (q_t_orderMany : Int32) (y1 : Int32), f_X9_ending_J24 q_t_orderF q_t_orderMany y1 p1 p2 = some res → aT p l e ({ frames := 5, cells := 0, slots := 0, locals := 114 } : Room) s m args below meth c (MQ below (aQi D (wX9 kc ki t t_all t_reasons t_text t_word t_order t_rows t_written t_allF t_reasonsF t_textF t_wordF t_orderF t_rowsF t_writtenF t_thrown t_changes t_isSaved t_result t_texted t_wordSize t_orderMany t_here t_fault t_faultAt t_commandMany t_writtenSize) s.heap.size (fun r => r.1) (fun r => wX9 kc ki t t_all t_reasons t_text t_word t_order t_rows t_written t_allF t_reasonsF t_textF t_wordF r.2.1 t_rowsF t_writtenF r.2.2.1 t_changes t_isSaved t_result t_texted t_wordSize r.2.2.2 t_here t_fault t_faultAt t_commandMany t_writtenSize) res) args s 0 0 (va_A (wX9 kc ki t t_all t_reasons t_text t_word t_order t_rows t_written t_allF t_reasonsF t_textF t_wordF t_orderF t_rowsF t_writtenF t_thrown t_changes t_isSaved t_result t_texted t_wordSize t_orderMany t_here t_fault t_faultAt t_commandMany t_writtenSize) s.heap.size)) D (va_A (wX9 kc ki t t_all t_reasons t_text t_word t_order t_rows t_written t_allF t_reasonsF t_textF t_wordF t_orderF t_rowsF t_writtenF t_thrown t_changes t_isSaved t_result t_texted t_wordSize t_orderMany t_here t_fault t_faultAt t_commandMany t_writtenSize) s.heap.size) 3 0 0 24 [(0, .ref t), (1, .int p1), (2, .int p2)] [.int y1, .ref t] (wX9 kc ki t t_all t_reasons t_text t_word t_order t_rows t_written t_allF t_reasonsF t_textF t_wordF q_t_orderF t_rowsF t_writtenF q_t_thrown t_changes t_isSaved t_result t_texted t_wordSize q_t_orderMany t_here t_fault t_faultAt t_commandMany t_writtenSize) := by
    intro q_t_orderF q_t_thrown q_t_orderMany y1 hF
    unfold f_X9_ending_J24 at hF
    refine a_put C 0 0 iwX9 tyX9_ok nmX9 rfl rfl (by decide) kf_X9_36 rfl rfl rfl (Nat.le_of_ble_eq_true rfl) dX9_ending_24 ?_
    refine a_ws C (ws' := wX9 kc ki t t_all t_reasons t_text t_word t_order t_rows t_written t_allF t_reasonsF t_textF t_wordF q_t_orderF t_rowsF t_writtenF y1 t_changes t_isSaved t_result t_texted t_wordSize q_t_orderMany t_here t_fault t_faultAt t_commandMany t_writtenSize) rfl ?_
    refine a_aload_n C 0 dX9_ending_27 rfl rfl ?_
    refine a_get C 0 0 iwX9 rfl rfl (by decide) kf_X9_36 rfl dX9_ending_28 ?_
    refine a_if_eq C (tgt := 38) dX9_ending_31 (by decide) hF (fun c31_4 hF => ?_) (fun c31_4 hF => ?_)
    · refine a_iload_n C 2 dX9_ending_38 rfl rfl ?_
      refine a_if_eq C (tgt := 54) dX9_ending_39 (by decide) hF (fun c39_5 hF => ?_) (fun c39_5 hF => ?_)
      · refine a_aload_n C 0 dX9_ending_54 rfl rfl ?_
        refine a_get C 0 10 iwX9 rfl rfl (by decide) kf_X9_23 rfl dX9_ending_55 ?_
        refine a_iload_n C 1 dX9_ending_58 rfl rfl ?_
        refine a_iald C 5 1 rfl rfl dX9_ending_59 hF (fun v59_6 ev59_6 hF => ?_)
        refine a_bipush C (v := 10) dX9_ending_60 (by decide) ?_
        refine a_idiv C dX9_ending_62 (by decide) ?_
        exact a_iret C hr rfl dX9_ending_63 hF rfl rfl
      refine a_aload_n C 0 dX9_ending_42 rfl rfl ?_
      refine a_get C 0 10 iwX9 rfl rfl (by decide) kf_X9_23 rfl dX9_ending_43 ?_
      refine a_iload_n C 1 dX9_ending_46 rfl rfl ?_
      refine a_iald C 5 1 rfl rfl dX9_ending_47 hF (fun v47_7 ev47_7 hF => ?_)
      refine a_bipush C (v := 10) dX9_ending_48 (by decide) ?_
      refine a_irem C dX9_ending_50 (by decide) ?_
      refine a_goto C (tgt := 63) dX9_ending_51 (by decide) ?_
      exact a_iret C hr rfl dX9_ending_63 hF rfl rfl
    refine a_iconst C (v := 0) dX9_ending_34 (by decide) ?_
    refine a_goto C (tgt := 63) dX9_ending_35 (by decide) ?_
    exact a_iret C hr rfl dX9_ending_63 hF rfl rfl
  unfold f_X9_ending at hF
  refine a_aload_n C 0 dX9_ending_0 rfl rfl ?_
  refine a_callVv C 0 [0, 1, 2, 3, 4, 5, 6, 7] 0 cs_X9_147 hd_X9_orders ⟨rfl, rfl⟩ ⟨Nat.le_of_ble_eq_true rfl, Nat.le_of_ble_eq_true rfl⟩ (fun r h => c_X9_orders l D J kc ki kb kl kd t t_all t_reasons t_text t_word t_order t_rows t_written t_allF t_reasonsF t_textF t_wordF t_orderF t_rowsF t_writtenF t_thrown t_changes t_isSaved t_result t_texted t_wordSize t_orderMany t_here t_fault t_faultAt t_commandMany t_writtenSize r h) rfl rfl rfl (fun _ => rfl) rfl rfl rfl (Nat.le_of_ble_eq_true rfl) dX9_ending_1 ⟨Nat.zero_le _, Nat.zero_le _⟩ hF (fun r1_1 er1_1 hF => ?_)
  refine a_ws C (ws' := wX9 kc ki t t_all t_reasons t_text t_word t_order t_rows t_written t_allF t_reasonsF t_textF t_wordF r1_1.1 t_rowsF t_writtenF t_thrown t_changes t_isSaved t_result t_texted t_wordSize r1_1.2 t_here t_fault t_faultAt t_commandMany t_writtenSize) rfl ?_
  refine a_aload_n C 0 dX9_ending_4 rfl rfl ?_
  refine a_iload_n C 1 dX9_ending_5 rfl rfl ?_
  refine a_iconst C (v := 0) dX9_ending_6 (by decide) ?_
  refine a_aload_n C 0 dX9_ending_7 rfl rfl ?_
  refine a_get C 0 11 iwX9 rfl rfl (by decide) kf_X9_141 rfl dX9_ending_8 ?_
  refine a_iconst C (v := 1) dX9_ending_11 (by decide) ?_
  refine a_isub C dX9_ending_12 ?_
  refine a_callSir C 3 [] cs_X9_49 hd_X9_in ⟨rfl, rfl⟩ ⟨Nat.le_of_ble_eq_true rfl, Nat.le_of_ble_eq_true rfl⟩ (fun r h => c_X9_in l D J kc ki kb kl kd p1 0 (r1_1.2 - 1) r h) rfl rfl rfl rfl (Nat.le_of_ble_eq_true rfl) dX9_ending_13 ⟨Nat.zero_le _, Nat.zero_le _⟩ hF (fun r13_2 er13_2 hF => ?_)
  refine a_if_eq C (tgt := 23) dX9_ending_16 (by decide) hF (fun c16_3 hF => ?_) (fun c16_3 hF => ?_)
  · refine a_iconst C (v := 1) dX9_ending_23 (by decide) ?_
    exact hJ24 r1_1.1 t_thrown r1_1.2 1 hF
  refine a_iconst C (v := 0) dX9_ending_19 (by decide) ?_
  refine a_goto C (tgt := 24) dX9_ending_20 (by decide) ?_
  exact hJ24 r1_1.1 t_thrown r1_1.2 0 hF
def f_X9_rank_J15 (q_t_orderF : Nat → Int32) (q_t_orderMany : Int32) (y1 : Int32) (p1 : Int32) (p2 : Int32) (t_allF : Nat → Int32) : Option (Int32 × (Nat → Int32) × Int32 × Int32) := if ¬ y1 = 0 then (some (0, q_t_orderF, y1, q_t_orderMany)) else ((f_X9_rankOf t_allF q_t_orderF p1 p2).bind fun r28_4 => some (r28_4.1, r28_4.2.1, y1, r28_4.2.2))
def f_X9_rank (t_allF : Nat → Int32) (t_orderF : Nat → Int32) (t_orderMany : Int32) (p1 : Int32) (p2 : Int32) : Option (Int32 × (Nat → Int32) × Int32 × Int32) := (f_X9_isPlace t_allF p1 p2).bind fun r4_1 => if r4_1 = 0 then (f_X9_rank_J15 t_orderF t_orderMany 1 p1 p2 t_allF) else (f_X9_rank_J15 t_orderF t_orderMany 0 p1 p2 t_allF)
theorem hd_X9_rank : yX9_rank.cls = RX9 ∧ yX9_rank.cls ≠ "java/lang/invoke/MethodHandle" ∧ yX9_rank.cls ≠ "java/lang/invoke/VarHandle" ∧ (parseMethodDescriptor yX9_rank.desc).map (fun d => d.parameters.length) = some 2 := by decide +kernel
set_option maxRecDepth 100000 in
set_option maxHeartbeats 4000000 in
theorem c_X9_rank (l : Launch) (D : va_G) (J : (Nat → Nat) × (Nat → Nat)) (kc ki kb kl kd : ClassId) (t : Nat) (t_all : Nat) (t_reasons : Nat) (t_text : Nat) (t_word : Nat) (t_order : Nat) (t_rows : Nat) (t_written : Nat) (t_allF : Nat → Int32) (t_reasonsF : Nat → Int32) (t_textF : Nat → Int32) (t_wordF : Nat → Int32) (t_orderF : Nat → Int32) (t_rowsF : Nat → Int32) (t_writtenF : Nat → Int32) (t_thrown : Int32) (t_changes : Int32) (t_isSaved : Int32) (t_result : Int32) (t_texted : Int32) (t_wordSize : Int32) (t_orderMany : Int32) (t_here : Int32) (t_fault : Int32) (t_faultAt : Int32) (t_commandMany : Int32) (t_writtenSize : Int32) (p1 p2 : Int32) (res : Int32 × (Nat → Int32) × Int32 × Int32) (hF : f_X9_rank t_allF t_orderF t_orderMany p1 p2 = some res) : aKi l yX9_rank (aW yX9_rank cX9_rank 3 ((some .int))) ({ frames := 6, cells := 0, slots := 0, locals := 137 } : Room) D J (aTy kc ki kb kl kd) [.ref t, .int p1, .int p2] (wX9 kc ki t t_all t_reasons t_text t_word t_order t_rows t_written t_allF t_reasonsF t_textF t_wordF t_orderF t_rowsF t_writtenF t_thrown t_changes t_isSaved t_result t_texted t_wordSize t_orderMany t_here t_fault t_faultAt t_commandMany t_writtenSize) (fun r => r.1) (fun r => wX9 kc ki t t_all t_reasons t_text t_word t_order t_rows t_written t_allF t_reasonsF t_textF t_wordF r.2.1 t_rowsF t_writtenF r.2.2.1 t_changes t_isSaved t_result t_texted t_wordSize r.2.2.2 t_here t_fault t_faultAt t_commandMany t_writtenSize) res := by
  refine aKi_of (own := RX9) (by decide) rfl (Nat.le_of_ble_eq_true rfl) rfl ?_
  intro p e s m args below meth c C hr
  have hJ15 : ∀ (q_t_orderF : Nat → Int32) (q_t_thrown : Int32) (q_t_orderMany : Int32) (y1 : Int32), f_X9_rank_J15 q_t_orderF q_t_orderMany y1 p1 p2 t_allF = some res → aT p l e ({ frames := 6, cells := 0, slots := 0, locals := 137 } : Room) s m args below meth c (MQ below (aQi D (wX9 kc ki t t_all t_reasons t_text t_word t_order t_rows t_written t_allF t_reasonsF t_textF t_wordF t_orderF t_rowsF t_writtenF t_thrown t_changes t_isSaved t_result t_texted t_wordSize t_orderMany t_here t_fault t_faultAt t_commandMany t_writtenSize) s.heap.size (fun r => r.1) (fun r => wX9 kc ki t t_all t_reasons t_text t_word t_order t_rows t_written t_allF t_reasonsF t_textF t_wordF r.2.1 t_rowsF t_writtenF r.2.2.1 t_changes t_isSaved t_result t_texted t_wordSize r.2.2.2 t_here t_fault t_faultAt t_commandMany t_writtenSize) res) args s 0 0 (va_A (wX9 kc ki t t_all t_reasons t_text t_word t_order t_rows t_written t_allF t_reasonsF t_textF t_wordF t_orderF t_rowsF t_writtenF t_thrown t_changes t_isSaved t_result t_texted t_wordSize t_orderMany t_here t_fault t_faultAt t_commandMany t_writtenSize) s.heap.size)) D (va_A (wX9 kc ki t t_all t_reasons t_text t_word t_order t_rows t_written t_allF t_reasonsF t_textF t_wordF t_orderF t_rowsF t_writtenF t_thrown t_changes t_isSaved t_result t_texted t_wordSize t_orderMany t_here t_fault t_faultAt t_commandMany t_writtenSize) s.heap.size) 3 0 0 15 [(0, .ref t), (1, .int p1), (2, .int p2)] [.int y1, .ref t] (wX9 kc ki t t_all t_reasons t_text t_word t_order t_rows t_written t_allF t_reasonsF t_textF t_wordF q_t_orderF t_rowsF t_writtenF q_t_thrown t_changes t_isSaved t_result t_texted t_wordSize q_t_orderMany t_here t_fault t_faultAt t_commandMany t_writtenSize) := by
    intro q_t_orderF q_t_thrown q_t_orderMany y1 hF
    unfold f_X9_rank_J15 at hF
    refine a_put C 0 0 iwX9 tyX9_ok nmX9 rfl rfl (by decide) kf_X9_36 rfl rfl rfl (Nat.le_of_ble_eq_true rfl) dX9_rank_15 ?_
    refine a_ws C (ws' := wX9 kc ki t t_all t_reasons t_text t_word t_order t_rows t_written t_allF t_reasonsF t_textF t_wordF q_t_orderF t_rowsF t_writtenF y1 t_changes t_isSaved t_result t_texted t_wordSize q_t_orderMany t_here t_fault t_faultAt t_commandMany t_writtenSize) rfl ?_
    refine a_aload_n C 0 dX9_rank_18 rfl rfl ?_
    refine a_get C 0 0 iwX9 rfl rfl (by decide) kf_X9_36 rfl dX9_rank_19 ?_
    refine a_if_ne C (tgt := 34) dX9_rank_22 (by decide) hF (fun c22_3 hF => ?_) (fun c22_3 hF => ?_)
    · refine a_iconst C (v := 0) dX9_rank_34 (by decide) ?_
      exact a_iret C hr rfl dX9_rank_35 hF rfl rfl
    refine a_aload_n C 0 dX9_rank_25 rfl rfl ?_
    refine a_iload_n C 1 dX9_rank_26 rfl rfl ?_
    refine a_iload_n C 2 dX9_rank_27 rfl rfl ?_
    refine a_callVi C 2 [0, 1, 2, 3, 4, 5, 6, 7] 0 cs_X9_111 hd_X9_rankOf ⟨rfl, rfl⟩ ⟨Nat.le_of_ble_eq_true rfl, Nat.le_of_ble_eq_true rfl⟩ (fun r h => c_X9_rankOf l D J kc ki kb kl kd t t_all t_reasons t_text t_word t_order t_rows t_written t_allF t_reasonsF t_textF t_wordF q_t_orderF t_rowsF t_writtenF y1 t_changes t_isSaved t_result t_texted t_wordSize q_t_orderMany t_here t_fault t_faultAt t_commandMany t_writtenSize p1 p2 r h) rfl rfl rfl (fun _ => rfl) rfl rfl rfl (Nat.le_of_ble_eq_true rfl) dX9_rank_28 ⟨Nat.zero_le _, Nat.zero_le _⟩ hF (fun r28_4 er28_4 hF => ?_)
    refine a_ws C (ws' := wX9 kc ki t t_all t_reasons t_text t_word t_order t_rows t_written t_allF t_reasonsF t_textF t_wordF r28_4.2.1 t_rowsF t_writtenF y1 t_changes t_isSaved t_result t_texted t_wordSize r28_4.2.2 t_here t_fault t_faultAt t_commandMany t_writtenSize) rfl ?_
    refine a_goto C (tgt := 35) dX9_rank_31 (by decide) ?_
    exact a_iret C hr rfl dX9_rank_35 hF rfl rfl
  unfold f_X9_rank at hF
  refine a_aload_n C 0 dX9_rank_0 rfl rfl ?_
  refine a_aload_n C 0 dX9_rank_1 rfl rfl ?_
  refine a_iload_n C 1 dX9_rank_2 rfl rfl ?_
  refine a_iload_n C 2 dX9_rank_3 rfl rfl ?_
  refine a_callVir C 2 [0, 1, 2, 3, 4, 5, 6, 7] 0 cs_X9_103 hd_X9_isPlace ⟨rfl, rfl⟩ ⟨Nat.le_of_ble_eq_true rfl, Nat.le_of_ble_eq_true rfl⟩ (fun r h => c_X9_isPlace l D J kc ki kb kl kd t t_all t_reasons t_text t_word t_order t_rows t_written t_allF t_reasonsF t_textF t_wordF t_orderF t_rowsF t_writtenF t_thrown t_changes t_isSaved t_result t_texted t_wordSize t_orderMany t_here t_fault t_faultAt t_commandMany t_writtenSize p1 p2 r h) rfl rfl rfl rfl rfl rfl (Nat.le_of_ble_eq_true rfl) dX9_rank_4 ⟨Nat.zero_le _, Nat.zero_le _⟩ hF (fun r4_1 er4_1 hF => ?_)
  refine a_if_eq C (tgt := 14) dX9_rank_7 (by decide) hF (fun c7_2 hF => ?_) (fun c7_2 hF => ?_)
  · refine a_iconst C (v := 1) dX9_rank_14 (by decide) ?_
    exact hJ15 t_orderF t_thrown t_orderMany 1 hF
  refine a_iconst C (v := 0) dX9_rank_10 (by decide) ?_
  refine a_goto C (tgt := 15) dX9_rank_11 (by decide) ?_
  exact hJ15 t_orderF t_thrown t_orderMany 0 hF
theorem cs_X9_165 : GoodIn WW (wsV RX9 165 RX9 yX9_rank (aW yX9_rank cX9_rank 3 ((some .int)))) := gdV kl_X9_165 ki_X9_rank kv_X9_rank kn_X9 kc_X9_rank
def f_X9_rankAgain (t_allF : Nat → Int32) (t_orderF : Nat → Int32) (t_orderMany : Int32) (p1 : Int32) (p2 : Int32) : Option (Int32 × (Nat → Int32) × Int32 × Int32) := (f_X9_rank t_allF t_orderF t_orderMany p1 p2).bind fun r3_1 => some (r3_1.1, r3_1.2.1, r3_1.2.2.1, r3_1.2.2.2)
theorem hd_X9_rankAgain : yX9_rankAgain.cls = RX9 ∧ yX9_rankAgain.cls ≠ "java/lang/invoke/MethodHandle" ∧ yX9_rankAgain.cls ≠ "java/lang/invoke/VarHandle" ∧ (parseMethodDescriptor yX9_rankAgain.desc).map (fun d => d.parameters.length) = some 2 := by decide +kernel
set_option maxRecDepth 100000 in
set_option maxHeartbeats 4000000 in
theorem c_X9_rankAgain (l : Launch) (D : va_G) (J : (Nat → Nat) × (Nat → Nat)) (kc ki kb kl kd : ClassId) (t : Nat) (t_all : Nat) (t_reasons : Nat) (t_text : Nat) (t_word : Nat) (t_order : Nat) (t_rows : Nat) (t_written : Nat) (t_allF : Nat → Int32) (t_reasonsF : Nat → Int32) (t_textF : Nat → Int32) (t_wordF : Nat → Int32) (t_orderF : Nat → Int32) (t_rowsF : Nat → Int32) (t_writtenF : Nat → Int32) (t_thrown : Int32) (t_changes : Int32) (t_isSaved : Int32) (t_result : Int32) (t_texted : Int32) (t_wordSize : Int32) (t_orderMany : Int32) (t_here : Int32) (t_fault : Int32) (t_faultAt : Int32) (t_commandMany : Int32) (t_writtenSize : Int32) (p1 p2 : Int32) (res : Int32 × (Nat → Int32) × Int32 × Int32) (hF : f_X9_rankAgain t_allF t_orderF t_orderMany p1 p2 = some res) : aKi l yX9_rankAgain (aW yX9_rankAgain cX9_rankAgain 3 ((some .int))) ({ frames := 7, cells := 0, slots := 0, locals := 159 } : Room) D J (aTy kc ki kb kl kd) [.ref t, .int p1, .int p2] (wX9 kc ki t t_all t_reasons t_text t_word t_order t_rows t_written t_allF t_reasonsF t_textF t_wordF t_orderF t_rowsF t_writtenF t_thrown t_changes t_isSaved t_result t_texted t_wordSize t_orderMany t_here t_fault t_faultAt t_commandMany t_writtenSize) (fun r => r.1) (fun r => wX9 kc ki t t_all t_reasons t_text t_word t_order t_rows t_written t_allF t_reasonsF t_textF t_wordF r.2.1 t_rowsF t_writtenF r.2.2.1 t_changes t_isSaved t_result t_texted t_wordSize r.2.2.2 t_here t_fault t_faultAt t_commandMany t_writtenSize) res := by
  refine aKi_of (own := RX9) (by decide) rfl (Nat.le_of_ble_eq_true rfl) rfl ?_
  intro p e s m args below meth c C hr
  unfold f_X9_rankAgain at hF
  refine a_aload_n C 0 dX9_rankAgain_0 rfl rfl ?_
  refine a_iload_n C 1 dX9_rankAgain_1 rfl rfl ?_
  refine a_iload_n C 2 dX9_rankAgain_2 rfl rfl ?_
  refine a_callVi C 2 [0, 1, 2, 3, 4, 5, 6, 7] 0 cs_X9_165 hd_X9_rank ⟨rfl, rfl⟩ ⟨Nat.le_of_ble_eq_true rfl, Nat.le_of_ble_eq_true rfl⟩ (fun r h => c_X9_rank l D J kc ki kb kl kd t t_all t_reasons t_text t_word t_order t_rows t_written t_allF t_reasonsF t_textF t_wordF t_orderF t_rowsF t_writtenF t_thrown t_changes t_isSaved t_result t_texted t_wordSize t_orderMany t_here t_fault t_faultAt t_commandMany t_writtenSize p1 p2 r h) rfl rfl rfl (fun _ => rfl) rfl rfl rfl (Nat.le_of_ble_eq_true rfl) dX9_rankAgain_3 ⟨Nat.zero_le _, Nat.zero_le _⟩ hF (fun r3_1 er3_1 hF => ?_)
  refine a_ws C (ws' := wX9 kc ki t t_all t_reasons t_text t_word t_order t_rows t_written t_allF t_reasonsF t_textF t_wordF r3_1.2.1 t_rowsF t_writtenF r3_1.2.2.1 t_changes t_isSaved t_result t_texted t_wordSize r3_1.2.2.2 t_here t_fault t_faultAt t_commandMany t_writtenSize) rfl ?_
  exact a_iret C hr rfl dX9_rankAgain_6 hF rfl rfl
theorem cs_X9_168 : GoodIn WW (wsV RX9 168 RX9 yX9_common1 (aW yX9_common1 cX9_common1 2 ((some .int)))) := gdV kl_X9_168 ki_X9_common1 kv_X9_common1 kn_X9 kc_X9_common1
def f_X9_common_J24 (q_t_orderF : Nat → Int32) (q_t_orderMany : Int32) (y1 : Int32) (p1 : Int32) (t_allF : Nat → Int32) : Option (Int32 × (Nat → Int32) × Int32 × Int32) := if ¬ y1 = 0 then (some (0, q_t_orderF, y1, q_t_orderMany)) else ((f_X9_common1 t_allF q_t_orderF p1).bind fun r36_5 => some (r36_5, q_t_orderF, y1, q_t_orderMany))
def f_X9_common (t_allF : Nat → Int32) (t_orderF : Nat → Int32) (p1 : Int32) : Option (Int32 × (Nat → Int32) × Int32 × Int32) := (f_X9_orders t_allF t_orderF).bind fun r1_1 => (f_X9_in p1 1 (r1_1.2 - 1)).bind fun r13_2 => if r13_2 = 0 then (f_X9_common_J24 r1_1.1 r1_1.2 1 p1 t_allF) else (f_X9_common_J24 r1_1.1 r1_1.2 0 p1 t_allF)
theorem hd_X9_common : yX9_common.cls = RX9 ∧ yX9_common.cls ≠ "java/lang/invoke/MethodHandle" ∧ yX9_common.cls ≠ "java/lang/invoke/VarHandle" ∧ (parseMethodDescriptor yX9_common.desc).map (fun d => d.parameters.length) = some 1 := by decide +kernel
set_option maxRecDepth 100000 in
set_option maxHeartbeats 4000000 in
theorem c_X9_common (l : Launch) (D : va_G) (J : (Nat → Nat) × (Nat → Nat)) (kc ki kb kl kd : ClassId) (t : Nat) (t_all : Nat) (t_reasons : Nat) (t_text : Nat) (t_word : Nat) (t_order : Nat) (t_rows : Nat) (t_written : Nat) (t_allF : Nat → Int32) (t_reasonsF : Nat → Int32) (t_textF : Nat → Int32) (t_wordF : Nat → Int32) (t_orderF : Nat → Int32) (t_rowsF : Nat → Int32) (t_writtenF : Nat → Int32) (t_thrown : Int32) (t_changes : Int32) (t_isSaved : Int32) (t_result : Int32) (t_texted : Int32) (t_wordSize : Int32) (t_orderMany : Int32) (t_here : Int32) (t_fault : Int32) (t_faultAt : Int32) (t_commandMany : Int32) (t_writtenSize : Int32) (p1 : Int32) (res : Int32 × (Nat → Int32) × Int32 × Int32) (hF : f_X9_common t_allF t_orderF p1 = some res) : aKi l yX9_common (aW yX9_common cX9_common 2 ((some .int))) ({ frames := 5, cells := 0, slots := 0, locals := 114 } : Room) D J (aTy kc ki kb kl kd) [.ref t, .int p1] (wX9 kc ki t t_all t_reasons t_text t_word t_order t_rows t_written t_allF t_reasonsF t_textF t_wordF t_orderF t_rowsF t_writtenF t_thrown t_changes t_isSaved t_result t_texted t_wordSize t_orderMany t_here t_fault t_faultAt t_commandMany t_writtenSize) (fun r => r.1) (fun r => wX9 kc ki t t_all t_reasons t_text t_word t_order t_rows t_written t_allF t_reasonsF t_textF t_wordF r.2.1 t_rowsF t_writtenF r.2.2.1 t_changes t_isSaved t_result t_texted t_wordSize r.2.2.2 t_here t_fault t_faultAt t_commandMany t_writtenSize) res := by
  refine aKi_of (own := RX9) (by decide) rfl (Nat.le_of_ble_eq_true rfl) rfl ?_
  intro p e s m args below meth c C hr
  have hJ24 : ∀ (q_t_orderF : Nat → Int32) (q_t_thrown : Int32) (q_t_orderMany : Int32) (y1 : Int32), f_X9_common_J24 q_t_orderF q_t_orderMany y1 p1 t_allF = some res → aT p l e ({ frames := 5, cells := 0, slots := 0, locals := 114 } : Room) s m args below meth c (MQ below (aQi D (wX9 kc ki t t_all t_reasons t_text t_word t_order t_rows t_written t_allF t_reasonsF t_textF t_wordF t_orderF t_rowsF t_writtenF t_thrown t_changes t_isSaved t_result t_texted t_wordSize t_orderMany t_here t_fault t_faultAt t_commandMany t_writtenSize) s.heap.size (fun r => r.1) (fun r => wX9 kc ki t t_all t_reasons t_text t_word t_order t_rows t_written t_allF t_reasonsF t_textF t_wordF r.2.1 t_rowsF t_writtenF r.2.2.1 t_changes t_isSaved t_result t_texted t_wordSize r.2.2.2 t_here t_fault t_faultAt t_commandMany t_writtenSize) res) args s 0 0 (va_A (wX9 kc ki t t_all t_reasons t_text t_word t_order t_rows t_written t_allF t_reasonsF t_textF t_wordF t_orderF t_rowsF t_writtenF t_thrown t_changes t_isSaved t_result t_texted t_wordSize t_orderMany t_here t_fault t_faultAt t_commandMany t_writtenSize) s.heap.size)) D (va_A (wX9 kc ki t t_all t_reasons t_text t_word t_order t_rows t_written t_allF t_reasonsF t_textF t_wordF t_orderF t_rowsF t_writtenF t_thrown t_changes t_isSaved t_result t_texted t_wordSize t_orderMany t_here t_fault t_faultAt t_commandMany t_writtenSize) s.heap.size) 2 0 0 24 [(0, .ref t), (1, .int p1)] [.int y1, .ref t] (wX9 kc ki t t_all t_reasons t_text t_word t_order t_rows t_written t_allF t_reasonsF t_textF t_wordF q_t_orderF t_rowsF t_writtenF q_t_thrown t_changes t_isSaved t_result t_texted t_wordSize q_t_orderMany t_here t_fault t_faultAt t_commandMany t_writtenSize) := by
    intro q_t_orderF q_t_thrown q_t_orderMany y1 hF
    unfold f_X9_common_J24 at hF
    refine a_put C 0 0 iwX9 tyX9_ok nmX9 rfl rfl (by decide) kf_X9_36 rfl rfl rfl (Nat.le_of_ble_eq_true rfl) dX9_common_24 ?_
    refine a_ws C (ws' := wX9 kc ki t t_all t_reasons t_text t_word t_order t_rows t_written t_allF t_reasonsF t_textF t_wordF q_t_orderF t_rowsF t_writtenF y1 t_changes t_isSaved t_result t_texted t_wordSize q_t_orderMany t_here t_fault t_faultAt t_commandMany t_writtenSize) rfl ?_
    refine a_aload_n C 0 dX9_common_27 rfl rfl ?_
    refine a_get C 0 0 iwX9 rfl rfl (by decide) kf_X9_36 rfl dX9_common_28 ?_
    refine a_if_ne C (tgt := 42) dX9_common_31 (by decide) hF (fun c31_4 hF => ?_) (fun c31_4 hF => ?_)
    · refine a_iconst C (v := 0) dX9_common_42 (by decide) ?_
      exact a_iret C hr rfl dX9_common_43 hF rfl rfl
    refine a_aload_n C 0 dX9_common_34 rfl rfl ?_
    refine a_iload_n C 1 dX9_common_35 rfl rfl ?_
    refine a_callVir C 1 [0, 1, 2, 3, 4, 5, 6, 7] 0 cs_X9_168 hd_X9_common1 ⟨rfl, rfl⟩ ⟨Nat.le_of_ble_eq_true rfl, Nat.le_of_ble_eq_true rfl⟩ (fun r h => c_X9_common1 l D J kc ki kb kl kd t t_all t_reasons t_text t_word t_order t_rows t_written t_allF t_reasonsF t_textF t_wordF q_t_orderF t_rowsF t_writtenF y1 t_changes t_isSaved t_result t_texted t_wordSize q_t_orderMany t_here t_fault t_faultAt t_commandMany t_writtenSize p1 r h) rfl rfl rfl rfl rfl rfl (Nat.le_of_ble_eq_true rfl) dX9_common_36 ⟨Nat.zero_le _, Nat.zero_le _⟩ hF (fun r36_5 er36_5 hF => ?_)
    refine a_goto C (tgt := 43) dX9_common_39 (by decide) ?_
    exact a_iret C hr rfl dX9_common_43 hF rfl rfl
  unfold f_X9_common at hF
  refine a_aload_n C 0 dX9_common_0 rfl rfl ?_
  refine a_callVv C 0 [0, 1, 2, 3, 4, 5, 6, 7] 0 cs_X9_147 hd_X9_orders ⟨rfl, rfl⟩ ⟨Nat.le_of_ble_eq_true rfl, Nat.le_of_ble_eq_true rfl⟩ (fun r h => c_X9_orders l D J kc ki kb kl kd t t_all t_reasons t_text t_word t_order t_rows t_written t_allF t_reasonsF t_textF t_wordF t_orderF t_rowsF t_writtenF t_thrown t_changes t_isSaved t_result t_texted t_wordSize t_orderMany t_here t_fault t_faultAt t_commandMany t_writtenSize r h) rfl rfl rfl (fun _ => rfl) rfl rfl rfl (Nat.le_of_ble_eq_true rfl) dX9_common_1 ⟨Nat.zero_le _, Nat.zero_le _⟩ hF (fun r1_1 er1_1 hF => ?_)
  refine a_ws C (ws' := wX9 kc ki t t_all t_reasons t_text t_word t_order t_rows t_written t_allF t_reasonsF t_textF t_wordF r1_1.1 t_rowsF t_writtenF t_thrown t_changes t_isSaved t_result t_texted t_wordSize r1_1.2 t_here t_fault t_faultAt t_commandMany t_writtenSize) rfl ?_
  refine a_aload_n C 0 dX9_common_4 rfl rfl ?_
  refine a_iload_n C 1 dX9_common_5 rfl rfl ?_
  refine a_iconst C (v := 1) dX9_common_6 (by decide) ?_
  refine a_aload_n C 0 dX9_common_7 rfl rfl ?_
  refine a_get C 0 11 iwX9 rfl rfl (by decide) kf_X9_141 rfl dX9_common_8 ?_
  refine a_iconst C (v := 1) dX9_common_11 (by decide) ?_
  refine a_isub C dX9_common_12 ?_
  refine a_callSir C 3 [] cs_X9_49 hd_X9_in ⟨rfl, rfl⟩ ⟨Nat.le_of_ble_eq_true rfl, Nat.le_of_ble_eq_true rfl⟩ (fun r h => c_X9_in l D J kc ki kb kl kd p1 1 (r1_1.2 - 1) r h) rfl rfl rfl rfl (Nat.le_of_ble_eq_true rfl) dX9_common_13 ⟨Nat.zero_le _, Nat.zero_le _⟩ hF (fun r13_2 er13_2 hF => ?_)
  refine a_if_eq C (tgt := 23) dX9_common_16 (by decide) hF (fun c16_3 hF => ?_) (fun c16_3 hF => ?_)
  · refine a_iconst C (v := 1) dX9_common_23 (by decide) ?_
    exact hJ24 r1_1.1 t_thrown r1_1.2 1 hF
  refine a_iconst C (v := 0) dX9_common_19 (by decide) ?_
  refine a_goto C (tgt := 24) dX9_common_20 (by decide) ?_
  exact hJ24 r1_1.1 t_thrown r1_1.2 0 hF
def f_X9_commonOf_J25 (y1 : Int32) (p1 : Int32) (p2 : Int32) (p3 : Int32) (p4 : Int32) (t_allF : Nat → Int32) : Option (Int32 × Int32) := if ¬ y1 = 0 then (some (0, y1)) else ((f_X9_front t_allF ((10 * p1) + p2) ((10 * p3) + p4)).bind fun r49_4 => some (r49_4, y1))
def f_X9_commonOf_J24 (p1 : Int32) (p2 : Int32) (p3 : Int32) (p4 : Int32) (t_allF : Nat → Int32) : Option (Int32 × Int32) := f_X9_commonOf_J25 1 p1 p2 p3 p4 t_allF
def f_X9_commonOf (t_allF : Nat → Int32) (p1 : Int32) (p2 : Int32) (p3 : Int32) (p4 : Int32) : Option (Int32 × Int32) := (f_X9_isPlace t_allF p1 p2).bind fun r4_1 => if r4_1 = 0 then (f_X9_commonOf_J24 p1 p2 p3 p4 t_allF) else ((f_X9_isPlace t_allF p3 p4).bind fun r14_5 => if r14_5 = 0 then (f_X9_commonOf_J24 p1 p2 p3 p4 t_allF) else (f_X9_commonOf_J25 0 p1 p2 p3 p4 t_allF))
theorem hd_X9_commonOf : yX9_commonOf.cls = RX9 ∧ yX9_commonOf.cls ≠ "java/lang/invoke/MethodHandle" ∧ yX9_commonOf.cls ≠ "java/lang/invoke/VarHandle" ∧ (parseMethodDescriptor yX9_commonOf.desc).map (fun d => d.parameters.length) = some 4 := by decide +kernel
set_option maxRecDepth 100000 in
set_option maxHeartbeats 4000000 in
theorem c_X9_commonOf (l : Launch) (D : va_G) (J : (Nat → Nat) × (Nat → Nat)) (kc ki kb kl kd : ClassId) (t : Nat) (t_all : Nat) (t_reasons : Nat) (t_text : Nat) (t_word : Nat) (t_order : Nat) (t_rows : Nat) (t_written : Nat) (t_allF : Nat → Int32) (t_reasonsF : Nat → Int32) (t_textF : Nat → Int32) (t_wordF : Nat → Int32) (t_orderF : Nat → Int32) (t_rowsF : Nat → Int32) (t_writtenF : Nat → Int32) (t_thrown : Int32) (t_changes : Int32) (t_isSaved : Int32) (t_result : Int32) (t_texted : Int32) (t_wordSize : Int32) (t_orderMany : Int32) (t_here : Int32) (t_fault : Int32) (t_faultAt : Int32) (t_commandMany : Int32) (t_writtenSize : Int32) (p1 p2 p3 p4 : Int32) (res : Int32 × Int32) (hF : f_X9_commonOf t_allF p1 p2 p3 p4 = some res) : aKi l yX9_commonOf (aW yX9_commonOf cX9_commonOf 5 ((some .int))) ({ frames := 3, cells := 0, slots := 0, locals := 67 } : Room) D J (aTy kc ki kb kl kd) [.ref t, .int p1, .int p2, .int p3, .int p4] (wX9 kc ki t t_all t_reasons t_text t_word t_order t_rows t_written t_allF t_reasonsF t_textF t_wordF t_orderF t_rowsF t_writtenF t_thrown t_changes t_isSaved t_result t_texted t_wordSize t_orderMany t_here t_fault t_faultAt t_commandMany t_writtenSize) (fun r => r.1) (fun r => wX9 kc ki t t_all t_reasons t_text t_word t_order t_rows t_written t_allF t_reasonsF t_textF t_wordF t_orderF t_rowsF t_writtenF r.2 t_changes t_isSaved t_result t_texted t_wordSize t_orderMany t_here t_fault t_faultAt t_commandMany t_writtenSize) res := by
  refine aKi_of (own := RX9) (by decide) rfl (Nat.le_of_ble_eq_true rfl) rfl ?_
  intro p e s m args below meth c C hr
  have hJ25 : ∀ (q_t_thrown : Int32) (y1 : Int32), f_X9_commonOf_J25 y1 p1 p2 p3 p4 t_allF = some res → aT p l e ({ frames := 3, cells := 0, slots := 0, locals := 67 } : Room) s m args below meth c (MQ below (aQi D (wX9 kc ki t t_all t_reasons t_text t_word t_order t_rows t_written t_allF t_reasonsF t_textF t_wordF t_orderF t_rowsF t_writtenF t_thrown t_changes t_isSaved t_result t_texted t_wordSize t_orderMany t_here t_fault t_faultAt t_commandMany t_writtenSize) s.heap.size (fun r => r.1) (fun r => wX9 kc ki t t_all t_reasons t_text t_word t_order t_rows t_written t_allF t_reasonsF t_textF t_wordF t_orderF t_rowsF t_writtenF r.2 t_changes t_isSaved t_result t_texted t_wordSize t_orderMany t_here t_fault t_faultAt t_commandMany t_writtenSize) res) args s 0 0 (va_A (wX9 kc ki t t_all t_reasons t_text t_word t_order t_rows t_written t_allF t_reasonsF t_textF t_wordF t_orderF t_rowsF t_writtenF t_thrown t_changes t_isSaved t_result t_texted t_wordSize t_orderMany t_here t_fault t_faultAt t_commandMany t_writtenSize) s.heap.size)) D (va_A (wX9 kc ki t t_all t_reasons t_text t_word t_order t_rows t_written t_allF t_reasonsF t_textF t_wordF t_orderF t_rowsF t_writtenF t_thrown t_changes t_isSaved t_result t_texted t_wordSize t_orderMany t_here t_fault t_faultAt t_commandMany t_writtenSize) s.heap.size) 5 0 0 25 [(0, .ref t), (1, .int p1), (2, .int p2), (3, .int p3), (4, .int p4)] [.int y1, .ref t] (wX9 kc ki t t_all t_reasons t_text t_word t_order t_rows t_written t_allF t_reasonsF t_textF t_wordF t_orderF t_rowsF t_writtenF q_t_thrown t_changes t_isSaved t_result t_texted t_wordSize t_orderMany t_here t_fault t_faultAt t_commandMany t_writtenSize) := by
    intro q_t_thrown y1 hF
    unfold f_X9_commonOf_J25 at hF
    refine a_put C 0 0 iwX9 tyX9_ok nmX9 rfl rfl (by decide) kf_X9_36 rfl rfl rfl (Nat.le_of_ble_eq_true rfl) dX9_commonOf_25 ?_
    refine a_ws C (ws' := wX9 kc ki t t_all t_reasons t_text t_word t_order t_rows t_written t_allF t_reasonsF t_textF t_wordF t_orderF t_rowsF t_writtenF y1 t_changes t_isSaved t_result t_texted t_wordSize t_orderMany t_here t_fault t_faultAt t_commandMany t_writtenSize) rfl ?_
    refine a_aload_n C 0 dX9_commonOf_28 rfl rfl ?_
    refine a_get C 0 0 iwX9 rfl rfl (by decide) kf_X9_36 rfl dX9_commonOf_29 ?_
    refine a_if_ne C (tgt := 55) dX9_commonOf_32 (by decide) hF (fun c32_3 hF => ?_) (fun c32_3 hF => ?_)
    · refine a_iconst C (v := 0) dX9_commonOf_55 (by decide) ?_
      exact a_iret C hr rfl dX9_commonOf_56 hF rfl rfl
    refine a_aload_n C 0 dX9_commonOf_35 rfl rfl ?_
    refine a_bipush C (v := 10) dX9_commonOf_36 (by decide) ?_
    refine a_iload_n C 1 dX9_commonOf_38 rfl rfl ?_
    refine a_imul C dX9_commonOf_39 ?_
    refine a_iload_n C 2 dX9_commonOf_40 rfl rfl ?_
    refine a_iadd C dX9_commonOf_41 ?_
    refine a_bipush C (v := 10) dX9_commonOf_42 (by decide) ?_
    refine a_iload_n C 3 dX9_commonOf_44 rfl rfl ?_
    refine a_imul C dX9_commonOf_45 ?_
    refine a_iload C 4 dX9_commonOf_46 rfl ?_
    refine a_iadd C dX9_commonOf_48 ?_
    refine a_callVir C 2 [0, 1, 2, 3, 4, 5, 6, 7] 0 cs_X9_138 hd_X9_front ⟨rfl, rfl⟩ ⟨Nat.le_of_ble_eq_true rfl, Nat.le_of_ble_eq_true rfl⟩ (fun r h => c_X9_front l D J kc ki kb kl kd t t_all t_reasons t_text t_word t_order t_rows t_written t_allF t_reasonsF t_textF t_wordF t_orderF t_rowsF t_writtenF y1 t_changes t_isSaved t_result t_texted t_wordSize t_orderMany t_here t_fault t_faultAt t_commandMany t_writtenSize ((10 * p1) + p2) ((10 * p3) + p4) r h) rfl rfl rfl rfl rfl rfl (Nat.le_of_ble_eq_true rfl) dX9_commonOf_49 ⟨Nat.zero_le _, Nat.zero_le _⟩ hF (fun r49_4 er49_4 hF => ?_)
    refine a_goto C (tgt := 56) dX9_commonOf_52 (by decide) ?_
    exact a_iret C hr rfl dX9_commonOf_56 hF rfl rfl
  have hJ24 : ∀ (q_t_thrown : Int32), f_X9_commonOf_J24 p1 p2 p3 p4 t_allF = some res → aT p l e ({ frames := 3, cells := 0, slots := 0, locals := 67 } : Room) s m args below meth c (MQ below (aQi D (wX9 kc ki t t_all t_reasons t_text t_word t_order t_rows t_written t_allF t_reasonsF t_textF t_wordF t_orderF t_rowsF t_writtenF t_thrown t_changes t_isSaved t_result t_texted t_wordSize t_orderMany t_here t_fault t_faultAt t_commandMany t_writtenSize) s.heap.size (fun r => r.1) (fun r => wX9 kc ki t t_all t_reasons t_text t_word t_order t_rows t_written t_allF t_reasonsF t_textF t_wordF t_orderF t_rowsF t_writtenF r.2 t_changes t_isSaved t_result t_texted t_wordSize t_orderMany t_here t_fault t_faultAt t_commandMany t_writtenSize) res) args s 0 0 (va_A (wX9 kc ki t t_all t_reasons t_text t_word t_order t_rows t_written t_allF t_reasonsF t_textF t_wordF t_orderF t_rowsF t_writtenF t_thrown t_changes t_isSaved t_result t_texted t_wordSize t_orderMany t_here t_fault t_faultAt t_commandMany t_writtenSize) s.heap.size)) D (va_A (wX9 kc ki t t_all t_reasons t_text t_word t_order t_rows t_written t_allF t_reasonsF t_textF t_wordF t_orderF t_rowsF t_writtenF t_thrown t_changes t_isSaved t_result t_texted t_wordSize t_orderMany t_here t_fault t_faultAt t_commandMany t_writtenSize) s.heap.size) 5 0 0 24 [(0, .ref t), (1, .int p1), (2, .int p2), (3, .int p3), (4, .int p4)] [.ref t] (wX9 kc ki t t_all t_reasons t_text t_word t_order t_rows t_written t_allF t_reasonsF t_textF t_wordF t_orderF t_rowsF t_writtenF q_t_thrown t_changes t_isSaved t_result t_texted t_wordSize t_orderMany t_here t_fault t_faultAt t_commandMany t_writtenSize) := by
    intro q_t_thrown hF
    unfold f_X9_commonOf_J24 at hF
    refine a_iconst C (v := 1) dX9_commonOf_24 (by decide) ?_
    exact hJ25 q_t_thrown 1 hF
  unfold f_X9_commonOf at hF
  refine a_aload_n C 0 dX9_commonOf_0 rfl rfl ?_
  refine a_aload_n C 0 dX9_commonOf_1 rfl rfl ?_
  refine a_iload_n C 1 dX9_commonOf_2 rfl rfl ?_
  refine a_iload_n C 2 dX9_commonOf_3 rfl rfl ?_
  refine a_callVir C 2 [0, 1, 2, 3, 4, 5, 6, 7] 0 cs_X9_103 hd_X9_isPlace ⟨rfl, rfl⟩ ⟨Nat.le_of_ble_eq_true rfl, Nat.le_of_ble_eq_true rfl⟩ (fun r h => c_X9_isPlace l D J kc ki kb kl kd t t_all t_reasons t_text t_word t_order t_rows t_written t_allF t_reasonsF t_textF t_wordF t_orderF t_rowsF t_writtenF t_thrown t_changes t_isSaved t_result t_texted t_wordSize t_orderMany t_here t_fault t_faultAt t_commandMany t_writtenSize p1 p2 r h) rfl rfl rfl rfl rfl rfl (Nat.le_of_ble_eq_true rfl) dX9_commonOf_4 ⟨Nat.zero_le _, Nat.zero_le _⟩ hF (fun r4_1 er4_1 hF => ?_)
  refine a_if_eq C (tgt := 24) dX9_commonOf_7 (by decide) hF (fun c7_2 hF => ?_) (fun c7_2 hF => ?_)
  · exact hJ24 t_thrown hF
  refine a_aload_n C 0 dX9_commonOf_10 rfl rfl ?_
  refine a_iload_n C 3 dX9_commonOf_11 rfl rfl ?_
  refine a_iload C 4 dX9_commonOf_12 rfl ?_
  refine a_callVir C 2 [0, 1, 2, 3, 4, 5, 6, 7] 0 cs_X9_103 hd_X9_isPlace ⟨rfl, rfl⟩ ⟨Nat.le_of_ble_eq_true rfl, Nat.le_of_ble_eq_true rfl⟩ (fun r h => c_X9_isPlace l D J kc ki kb kl kd t t_all t_reasons t_text t_word t_order t_rows t_written t_allF t_reasonsF t_textF t_wordF t_orderF t_rowsF t_writtenF t_thrown t_changes t_isSaved t_result t_texted t_wordSize t_orderMany t_here t_fault t_faultAt t_commandMany t_writtenSize p3 p4 r h) rfl rfl rfl rfl rfl rfl (Nat.le_of_ble_eq_true rfl) dX9_commonOf_14 ⟨Nat.zero_le _, Nat.zero_le _⟩ hF (fun r14_5 er14_5 hF => ?_)
  refine a_if_eq C (tgt := 24) dX9_commonOf_17 (by decide) hF (fun c17_6 hF => ?_) (fun c17_6 hF => ?_)
  · exact hJ24 t_thrown hF
  refine a_iconst C (v := 0) dX9_commonOf_20 (by decide) ?_
  refine a_goto C (tgt := 25) dX9_commonOf_21 (by decide) ?_
  exact hJ25 t_thrown 0 hF
def f_X9_commons_L17 (q_t_orderF : Nat → Int32) (q_t_orderMany : Int32) (t_allF : Nat → Int32) : Nat → Int32 → Int32 → Int32 → Int32 → Int32 → (Int32 → Int32 → Int32 → Int32 → Int32 → Option (Int32 × (Nat → Int32) × Int32)) → Option (Int32 × (Nat → Int32) × Int32)
  | 0, _, _, _, _, _, _ => none
  | fuel + 1, x2, x3, x4, x5, x6, k => if q_t_orderMany ≤ x6 then (k x2 x3 x4 x5 x6) else ((f_X9_common1 t_allF q_t_orderF x6).bind fun r29_3 => if r29_3 ≤ x2 then (if r29_3 ≤ x2 then (if r29_3 ≤ 0 then (f_X9_commons_L17 q_t_orderF q_t_orderMany t_allF fuel x2 x3 (x4 + r29_3) (x5 + 0) (x6 + 1) k) else (f_X9_commons_L17 q_t_orderF q_t_orderMany t_allF fuel x2 x3 (x4 + r29_3) (x5 + 1) (x6 + 1) k)) else (if r29_3 ≤ 0 then (f_X9_commons_L17 q_t_orderF q_t_orderMany t_allF fuel r29_3 x3 (x4 + r29_3) (x5 + 0) (x6 + 1) k) else (f_X9_commons_L17 q_t_orderF q_t_orderMany t_allF fuel r29_3 x3 (x4 + r29_3) (x5 + 1) (x6 + 1) k))) else (if r29_3 ≤ x2 then (if r29_3 ≤ 0 then (f_X9_commons_L17 q_t_orderF q_t_orderMany t_allF fuel x2 (x6 - 1) (x4 + r29_3) (x5 + 0) (x6 + 1) k) else (f_X9_commons_L17 q_t_orderF q_t_orderMany t_allF fuel x2 (x6 - 1) (x4 + r29_3) (x5 + 1) (x6 + 1) k)) else (if r29_3 ≤ 0 then (f_X9_commons_L17 q_t_orderF q_t_orderMany t_allF fuel r29_3 (x6 - 1) (x4 + r29_3) (x5 + 0) (x6 + 1) k) else (f_X9_commons_L17 q_t_orderF q_t_orderMany t_allF fuel r29_3 (x6 - 1) (x4 + r29_3) (x5 + 1) (x6 + 1) k))))
def f_X9_commons (t_allF : Nat → Int32) (t_orderF : Nat → Int32) (p1 : Int32) : Option (Int32 × (Nat → Int32) × Int32) := (f_X9_orders t_allF t_orderF).bind fun r1_1 => f_X9_commons_L17 r1_1.1 r1_1.2 t_allF 1000 0 ((-1)) 0 0 1 (fun x2_17_11 x3_17_12 x4_17_13 x5_17_14 x6_17_15 => if ¬ p1 = 0 then (if ¬ p1 = 1 then (if ¬ p1 = 2 then (some (x5_17_14, r1_1.1, r1_1.2)) else (some (x4_17_13, r1_1.1, r1_1.2))) else (some (x3_17_12, r1_1.1, r1_1.2))) else (some (x2_17_11, r1_1.1, r1_1.2)))
theorem hd_X9_commons : yX9_commons.cls = RX9 ∧ yX9_commons.cls ≠ "java/lang/invoke/MethodHandle" ∧ yX9_commons.cls ≠ "java/lang/invoke/VarHandle" ∧ (parseMethodDescriptor yX9_commons.desc).map (fun d => d.parameters.length) = some 1 := by decide +kernel
set_option maxRecDepth 100000 in
set_option maxHeartbeats 4000000 in
theorem c_X9_commons (l : Launch) (D : va_G) (J : (Nat → Nat) × (Nat → Nat)) (kc ki kb kl kd : ClassId) (t : Nat) (t_all : Nat) (t_reasons : Nat) (t_text : Nat) (t_word : Nat) (t_order : Nat) (t_rows : Nat) (t_written : Nat) (t_allF : Nat → Int32) (t_reasonsF : Nat → Int32) (t_textF : Nat → Int32) (t_wordF : Nat → Int32) (t_orderF : Nat → Int32) (t_rowsF : Nat → Int32) (t_writtenF : Nat → Int32) (t_thrown : Int32) (t_changes : Int32) (t_isSaved : Int32) (t_result : Int32) (t_texted : Int32) (t_wordSize : Int32) (t_orderMany : Int32) (t_here : Int32) (t_fault : Int32) (t_faultAt : Int32) (t_commandMany : Int32) (t_writtenSize : Int32) (p1 : Int32) (res : Int32 × (Nat → Int32) × Int32) (hF : f_X9_commons t_allF t_orderF p1 = some res) : aKi l yX9_commons (aW yX9_commons cX9_commons 8 ((some .int))) ({ frames := 5, cells := 0, slots := 0, locals := 114 } : Room) D J (aTy kc ki kb kl kd) [.ref t, .int p1] (wX9 kc ki t t_all t_reasons t_text t_word t_order t_rows t_written t_allF t_reasonsF t_textF t_wordF t_orderF t_rowsF t_writtenF t_thrown t_changes t_isSaved t_result t_texted t_wordSize t_orderMany t_here t_fault t_faultAt t_commandMany t_writtenSize) (fun r => r.1) (fun r => wX9 kc ki t t_all t_reasons t_text t_word t_order t_rows t_written t_allF t_reasonsF t_textF t_wordF r.2.1 t_rowsF t_writtenF t_thrown t_changes t_isSaved t_result t_texted t_wordSize r.2.2 t_here t_fault t_faultAt t_commandMany t_writtenSize) res := by
  refine aKi_of (own := RX9) (by decide) rfl (Nat.le_of_ble_eq_true rfl) rfl ?_
  intro p e s m args below meth c C hr
  have hI17 : ∀ (q_t_orderF : Nat → Int32) (q_t_orderMany : Int32) (fuel : Nat) (x2 : Int32) (x3 : Int32) (x4 : Int32) (x5 : Int32) (x6 : Int32) (k : Int32 → Int32 → Int32 → Int32 → Int32 → Option (Int32 × (Nat → Int32) × Int32)), f_X9_commons_L17 q_t_orderF q_t_orderMany t_allF fuel x2 x3 x4 x5 x6 k = some res → (∀ (x2 : Int32) (x3 : Int32) (x4 : Int32) (x5 : Int32) (x6 : Int32), k x2 x3 x4 x5 x6 = some res → aT p l e ({ frames := 5, cells := 0, slots := 0, locals := 114 } : Room) s m args below meth c (MQ below (aQi D (wX9 kc ki t t_all t_reasons t_text t_word t_order t_rows t_written t_allF t_reasonsF t_textF t_wordF t_orderF t_rowsF t_writtenF t_thrown t_changes t_isSaved t_result t_texted t_wordSize t_orderMany t_here t_fault t_faultAt t_commandMany t_writtenSize) s.heap.size (fun r => r.1) (fun r => wX9 kc ki t t_all t_reasons t_text t_word t_order t_rows t_written t_allF t_reasonsF t_textF t_wordF r.2.1 t_rowsF t_writtenF t_thrown t_changes t_isSaved t_result t_texted t_wordSize r.2.2 t_here t_fault t_faultAt t_commandMany t_writtenSize) res) args s 0 0 (va_A (wX9 kc ki t t_all t_reasons t_text t_word t_order t_rows t_written t_allF t_reasonsF t_textF t_wordF t_orderF t_rowsF t_writtenF t_thrown t_changes t_isSaved t_result t_texted t_wordSize t_orderMany t_here t_fault t_faultAt t_commandMany t_writtenSize) s.heap.size)) D (va_A (wX9 kc ki t t_all t_reasons t_text t_word t_order t_rows t_written t_allF t_reasonsF t_textF t_wordF t_orderF t_rowsF t_writtenF t_thrown t_changes t_isSaved t_result t_texted t_wordSize t_orderMany t_here t_fault t_faultAt t_commandMany t_writtenSize) s.heap.size) 8 0 0 90 [(1, .int p1), (2, .int x2), (3, .int x3), (4, .int x4), (5, .int x5)] [] (wX9 kc ki t t_all t_reasons t_text t_word t_order t_rows t_written t_allF t_reasonsF t_textF t_wordF q_t_orderF t_rowsF t_writtenF t_thrown t_changes t_isSaved t_result t_texted t_wordSize q_t_orderMany t_here t_fault t_faultAt t_commandMany t_writtenSize)) → aT p l e ({ frames := 5, cells := 0, slots := 0, locals := 114 } : Room) s m args below meth c (MQ below (aQi D (wX9 kc ki t t_all t_reasons t_text t_word t_order t_rows t_written t_allF t_reasonsF t_textF t_wordF t_orderF t_rowsF t_writtenF t_thrown t_changes t_isSaved t_result t_texted t_wordSize t_orderMany t_here t_fault t_faultAt t_commandMany t_writtenSize) s.heap.size (fun r => r.1) (fun r => wX9 kc ki t t_all t_reasons t_text t_word t_order t_rows t_written t_allF t_reasonsF t_textF t_wordF r.2.1 t_rowsF t_writtenF t_thrown t_changes t_isSaved t_result t_texted t_wordSize r.2.2 t_here t_fault t_faultAt t_commandMany t_writtenSize) res) args s 0 0 (va_A (wX9 kc ki t t_all t_reasons t_text t_word t_order t_rows t_written t_allF t_reasonsF t_textF t_wordF t_orderF t_rowsF t_writtenF t_thrown t_changes t_isSaved t_result t_texted t_wordSize t_orderMany t_here t_fault t_faultAt t_commandMany t_writtenSize) s.heap.size)) D (va_A (wX9 kc ki t t_all t_reasons t_text t_word t_order t_rows t_written t_allF t_reasonsF t_textF t_wordF t_orderF t_rowsF t_writtenF t_thrown t_changes t_isSaved t_result t_texted t_wordSize t_orderMany t_here t_fault t_faultAt t_commandMany t_writtenSize) s.heap.size) 8 0 0 17 [(0, .ref t), (1, .int p1), (2, .int x2), (3, .int x3), (4, .int x4), (5, .int x5), (6, .int x6)] [] (wX9 kc ki t t_all t_reasons t_text t_word t_order t_rows t_written t_allF t_reasonsF t_textF t_wordF q_t_orderF t_rowsF t_writtenF t_thrown t_changes t_isSaved t_result t_texted t_wordSize q_t_orderMany t_here t_fault t_faultAt t_commandMany t_writtenSize) := by
    intro q_t_orderF q_t_orderMany fuel
    induction fuel with
    | zero => intro x2 x3 x4 x5 x6 k hF hX; exact nomatch hF
    | succ fuel ih =>
      intro x2 x3 x4 x5 x6 k hF hX
      rw [f_X9_commons_L17] at hF
      refine a_iload C 6 dX9_commons_17 rfl ?_
      refine a_aload_n C 0 dX9_commons_19 rfl rfl ?_
      refine a_get C 0 11 iwX9 rfl rfl (by decide) kf_X9_141 rfl dX9_commons_20 ?_
      refine a_ic_ge C (tgt := 90) dX9_commons_23 (by decide) hF (fun c23_2 hF => ?_) (fun c23_2 hF => ?_)
      · refine a_sub C [1, 2, 3, 4, 5] [(1, .int p1), (2, .int x2), (3, .int x3), (4, .int x4), (5, .int x5)] rfl ?_
        exact hX x2 x3 x4 x5 x6 hF
      refine a_aload_n C 0 dX9_commons_26 rfl rfl ?_
      refine a_iload C 6 dX9_commons_27 rfl ?_
      refine a_callVir C 1 [0, 1, 2, 3, 4, 5, 6, 7] 0 cs_X9_168 hd_X9_common1 ⟨rfl, rfl⟩ ⟨Nat.le_of_ble_eq_true rfl, Nat.le_of_ble_eq_true rfl⟩ (fun r h => c_X9_common1 l D J kc ki kb kl kd t t_all t_reasons t_text t_word t_order t_rows t_written t_allF t_reasonsF t_textF t_wordF q_t_orderF t_rowsF t_writtenF t_thrown t_changes t_isSaved t_result t_texted t_wordSize q_t_orderMany t_here t_fault t_faultAt t_commandMany t_writtenSize x6 r h) rfl rfl rfl rfl rfl rfl (Nat.le_of_ble_eq_true rfl) dX9_commons_29 ⟨Nat.zero_le _, Nat.zero_le _⟩ hF (fun r29_3 er29_3 hF => ?_)
      refine a_istore C [(7, .int r29_3), (0, .ref t), (1, .int p1), (2, .int x2), (3, .int x3), (4, .int x4), (5, .int x5), (6, .int x6)] dX9_commons_32 (by decide) rfl ?_
      refine a_iload C 0 dX9_commons_34 rfl ?_
      refine a_iload_n C 3 dX9_commons_36 rfl rfl ?_
      refine a_ic_le C (tgt := 47) dX9_commons_37 (by decide) hF (fun c37_4 hF => ?_) (fun c37_4 hF => ?_)
      · refine a_iload_n C 4 dX9_commons_47 rfl rfl ?_
        refine a_istore_n C [(3, .int x3), (7, .int r29_3), (0, .ref t), (1, .int p1), (2, .int x2), (4, .int x4), (5, .int x5), (6, .int x6)] dX9_commons_48 rfl (by decide) rfl ?_
        refine a_iload C 1 dX9_commons_49 rfl ?_
        refine a_iload_n C 4 dX9_commons_51 rfl rfl ?_
        refine a_ic_le C (tgt := 60) dX9_commons_52 (by decide) hF (fun c52_5 hF => ?_) (fun c52_5 hF => ?_)
        · refine a_iload_n C 4 dX9_commons_60 rfl rfl ?_
          refine a_istore_n C [(2, .int x2), (3, .int x3), (7, .int r29_3), (0, .ref t), (1, .int p1), (4, .int x4), (5, .int x5), (6, .int x6)] dX9_commons_61 rfl (by decide) rfl ?_
          refine a_iload C 5 dX9_commons_62 rfl ?_
          refine a_iload C 2 dX9_commons_64 rfl ?_
          refine a_iadd C dX9_commons_66 ?_
          refine a_istore C [(4, .int (x4 + r29_3)), (2, .int x2), (3, .int x3), (7, .int r29_3), (0, .ref t), (1, .int p1), (5, .int x5), (6, .int x6)] dX9_commons_67 (by decide) rfl ?_
          refine a_iload C 6 dX9_commons_69 rfl ?_
          refine a_iload C 3 dX9_commons_71 rfl ?_
          refine a_if_le C (tgt := 80) dX9_commons_73 (by decide) hF (fun c73_6 hF => ?_) (fun c73_6 hF => ?_)
          · refine a_iconst C (v := 0) dX9_commons_80 (by decide) ?_
            refine a_iadd C dX9_commons_81 ?_
            refine a_istore C [(5, .int (x5 + 0)), (4, .int (x4 + r29_3)), (2, .int x2), (3, .int x3), (7, .int r29_3), (0, .ref t), (1, .int p1), (6, .int x6)] dX9_commons_82 (by decide) rfl ?_
            refine a_iinc C 7 [(6, .int (x6 + 1)), (5, .int (x5 + 0)), (4, .int (x4 + r29_3)), (2, .int x2), (3, .int x3), (7, .int r29_3), (0, .ref t), (1, .int p1)] dX9_commons_84 rfl rfl (by decide) rfl ?_
            refine a_goto C (tgt := 17) dX9_commons_87 (by decide) ?_
            refine a_sub C [6, 7, 3, 4, 2, 1, 0] [(0, .ref t), (1, .int p1), (2, .int x2), (3, .int x3), (4, .int (x4 + r29_3)), (5, .int (x5 + 0)), (6, .int (x6 + 1))] rfl ?_
            exact ih x2 x3 (x4 + r29_3) (x5 + 0) (x6 + 1) k hF hX
          refine a_iconst C (v := 1) dX9_commons_76 (by decide) ?_
          refine a_goto C (tgt := 81) dX9_commons_77 (by decide) ?_
          refine a_iadd C dX9_commons_81 ?_
          refine a_istore C [(5, .int (x5 + 1)), (4, .int (x4 + r29_3)), (2, .int x2), (3, .int x3), (7, .int r29_3), (0, .ref t), (1, .int p1), (6, .int x6)] dX9_commons_82 (by decide) rfl ?_
          refine a_iinc C 7 [(6, .int (x6 + 1)), (5, .int (x5 + 1)), (4, .int (x4 + r29_3)), (2, .int x2), (3, .int x3), (7, .int r29_3), (0, .ref t), (1, .int p1)] dX9_commons_84 rfl rfl (by decide) rfl ?_
          refine a_goto C (tgt := 17) dX9_commons_87 (by decide) ?_
          refine a_sub C [6, 7, 3, 4, 2, 1, 0] [(0, .ref t), (1, .int p1), (2, .int x2), (3, .int x3), (4, .int (x4 + r29_3)), (5, .int (x5 + 1)), (6, .int (x6 + 1))] rfl ?_
          exact ih x2 x3 (x4 + r29_3) (x5 + 1) (x6 + 1) k hF hX
        refine a_iload C 1 dX9_commons_55 rfl ?_
        refine a_goto C (tgt := 61) dX9_commons_57 (by decide) ?_
        refine a_istore_n C [(2, .int r29_3), (3, .int x3), (7, .int r29_3), (0, .ref t), (1, .int p1), (4, .int x4), (5, .int x5), (6, .int x6)] dX9_commons_61 rfl (by decide) rfl ?_
        refine a_iload C 5 dX9_commons_62 rfl ?_
        refine a_iload C 2 dX9_commons_64 rfl ?_
        refine a_iadd C dX9_commons_66 ?_
        refine a_istore C [(4, .int (x4 + r29_3)), (2, .int r29_3), (3, .int x3), (7, .int r29_3), (0, .ref t), (1, .int p1), (5, .int x5), (6, .int x6)] dX9_commons_67 (by decide) rfl ?_
        refine a_iload C 6 dX9_commons_69 rfl ?_
        refine a_iload C 3 dX9_commons_71 rfl ?_
        refine a_if_le C (tgt := 80) dX9_commons_73 (by decide) hF (fun c73_7 hF => ?_) (fun c73_7 hF => ?_)
        · refine a_iconst C (v := 0) dX9_commons_80 (by decide) ?_
          refine a_iadd C dX9_commons_81 ?_
          refine a_istore C [(5, .int (x5 + 0)), (4, .int (x4 + r29_3)), (2, .int r29_3), (3, .int x3), (7, .int r29_3), (0, .ref t), (1, .int p1), (6, .int x6)] dX9_commons_82 (by decide) rfl ?_
          refine a_iinc C 7 [(6, .int (x6 + 1)), (5, .int (x5 + 0)), (4, .int (x4 + r29_3)), (2, .int r29_3), (3, .int x3), (7, .int r29_3), (0, .ref t), (1, .int p1)] dX9_commons_84 rfl rfl (by decide) rfl ?_
          refine a_goto C (tgt := 17) dX9_commons_87 (by decide) ?_
          refine a_sub C [6, 7, 3, 4, 2, 1, 0] [(0, .ref t), (1, .int p1), (2, .int r29_3), (3, .int x3), (4, .int (x4 + r29_3)), (5, .int (x5 + 0)), (6, .int (x6 + 1))] rfl ?_
          exact ih r29_3 x3 (x4 + r29_3) (x5 + 0) (x6 + 1) k hF hX
        refine a_iconst C (v := 1) dX9_commons_76 (by decide) ?_
        refine a_goto C (tgt := 81) dX9_commons_77 (by decide) ?_
        refine a_iadd C dX9_commons_81 ?_
        refine a_istore C [(5, .int (x5 + 1)), (4, .int (x4 + r29_3)), (2, .int r29_3), (3, .int x3), (7, .int r29_3), (0, .ref t), (1, .int p1), (6, .int x6)] dX9_commons_82 (by decide) rfl ?_
        refine a_iinc C 7 [(6, .int (x6 + 1)), (5, .int (x5 + 1)), (4, .int (x4 + r29_3)), (2, .int r29_3), (3, .int x3), (7, .int r29_3), (0, .ref t), (1, .int p1)] dX9_commons_84 rfl rfl (by decide) rfl ?_
        refine a_goto C (tgt := 17) dX9_commons_87 (by decide) ?_
        refine a_sub C [6, 7, 3, 4, 2, 1, 0] [(0, .ref t), (1, .int p1), (2, .int r29_3), (3, .int x3), (4, .int (x4 + r29_3)), (5, .int (x5 + 1)), (6, .int (x6 + 1))] rfl ?_
        exact ih r29_3 x3 (x4 + r29_3) (x5 + 1) (x6 + 1) k hF hX
      refine a_iload C 7 dX9_commons_40 rfl ?_
      refine a_iconst C (v := 1) dX9_commons_42 (by decide) ?_
      refine a_isub C dX9_commons_43 ?_
      refine a_goto C (tgt := 48) dX9_commons_44 (by decide) ?_
      refine a_istore_n C [(3, .int (x6 - 1)), (7, .int r29_3), (0, .ref t), (1, .int p1), (2, .int x2), (4, .int x4), (5, .int x5), (6, .int x6)] dX9_commons_48 rfl (by decide) rfl ?_
      refine a_iload C 1 dX9_commons_49 rfl ?_
      refine a_iload_n C 4 dX9_commons_51 rfl rfl ?_
      refine a_ic_le C (tgt := 60) dX9_commons_52 (by decide) hF (fun c52_8 hF => ?_) (fun c52_8 hF => ?_)
      · refine a_iload_n C 4 dX9_commons_60 rfl rfl ?_
        refine a_istore_n C [(2, .int x2), (3, .int (x6 - 1)), (7, .int r29_3), (0, .ref t), (1, .int p1), (4, .int x4), (5, .int x5), (6, .int x6)] dX9_commons_61 rfl (by decide) rfl ?_
        refine a_iload C 5 dX9_commons_62 rfl ?_
        refine a_iload C 2 dX9_commons_64 rfl ?_
        refine a_iadd C dX9_commons_66 ?_
        refine a_istore C [(4, .int (x4 + r29_3)), (2, .int x2), (3, .int (x6 - 1)), (7, .int r29_3), (0, .ref t), (1, .int p1), (5, .int x5), (6, .int x6)] dX9_commons_67 (by decide) rfl ?_
        refine a_iload C 6 dX9_commons_69 rfl ?_
        refine a_iload C 3 dX9_commons_71 rfl ?_
        refine a_if_le C (tgt := 80) dX9_commons_73 (by decide) hF (fun c73_9 hF => ?_) (fun c73_9 hF => ?_)
        · refine a_iconst C (v := 0) dX9_commons_80 (by decide) ?_
          refine a_iadd C dX9_commons_81 ?_
          refine a_istore C [(5, .int (x5 + 0)), (4, .int (x4 + r29_3)), (2, .int x2), (3, .int (x6 - 1)), (7, .int r29_3), (0, .ref t), (1, .int p1), (6, .int x6)] dX9_commons_82 (by decide) rfl ?_
          refine a_iinc C 7 [(6, .int (x6 + 1)), (5, .int (x5 + 0)), (4, .int (x4 + r29_3)), (2, .int x2), (3, .int (x6 - 1)), (7, .int r29_3), (0, .ref t), (1, .int p1)] dX9_commons_84 rfl rfl (by decide) rfl ?_
          refine a_goto C (tgt := 17) dX9_commons_87 (by decide) ?_
          refine a_sub C [6, 7, 3, 4, 2, 1, 0] [(0, .ref t), (1, .int p1), (2, .int x2), (3, .int (x6 - 1)), (4, .int (x4 + r29_3)), (5, .int (x5 + 0)), (6, .int (x6 + 1))] rfl ?_
          exact ih x2 (x6 - 1) (x4 + r29_3) (x5 + 0) (x6 + 1) k hF hX
        refine a_iconst C (v := 1) dX9_commons_76 (by decide) ?_
        refine a_goto C (tgt := 81) dX9_commons_77 (by decide) ?_
        refine a_iadd C dX9_commons_81 ?_
        refine a_istore C [(5, .int (x5 + 1)), (4, .int (x4 + r29_3)), (2, .int x2), (3, .int (x6 - 1)), (7, .int r29_3), (0, .ref t), (1, .int p1), (6, .int x6)] dX9_commons_82 (by decide) rfl ?_
        refine a_iinc C 7 [(6, .int (x6 + 1)), (5, .int (x5 + 1)), (4, .int (x4 + r29_3)), (2, .int x2), (3, .int (x6 - 1)), (7, .int r29_3), (0, .ref t), (1, .int p1)] dX9_commons_84 rfl rfl (by decide) rfl ?_
        refine a_goto C (tgt := 17) dX9_commons_87 (by decide) ?_
        refine a_sub C [6, 7, 3, 4, 2, 1, 0] [(0, .ref t), (1, .int p1), (2, .int x2), (3, .int (x6 - 1)), (4, .int (x4 + r29_3)), (5, .int (x5 + 1)), (6, .int (x6 + 1))] rfl ?_
        exact ih x2 (x6 - 1) (x4 + r29_3) (x5 + 1) (x6 + 1) k hF hX
      refine a_iload C 1 dX9_commons_55 rfl ?_
      refine a_goto C (tgt := 61) dX9_commons_57 (by decide) ?_
      refine a_istore_n C [(2, .int r29_3), (3, .int (x6 - 1)), (7, .int r29_3), (0, .ref t), (1, .int p1), (4, .int x4), (5, .int x5), (6, .int x6)] dX9_commons_61 rfl (by decide) rfl ?_
      refine a_iload C 5 dX9_commons_62 rfl ?_
      refine a_iload C 2 dX9_commons_64 rfl ?_
      refine a_iadd C dX9_commons_66 ?_
      refine a_istore C [(4, .int (x4 + r29_3)), (2, .int r29_3), (3, .int (x6 - 1)), (7, .int r29_3), (0, .ref t), (1, .int p1), (5, .int x5), (6, .int x6)] dX9_commons_67 (by decide) rfl ?_
      refine a_iload C 6 dX9_commons_69 rfl ?_
      refine a_iload C 3 dX9_commons_71 rfl ?_
      refine a_if_le C (tgt := 80) dX9_commons_73 (by decide) hF (fun c73_10 hF => ?_) (fun c73_10 hF => ?_)
      · refine a_iconst C (v := 0) dX9_commons_80 (by decide) ?_
        refine a_iadd C dX9_commons_81 ?_
        refine a_istore C [(5, .int (x5 + 0)), (4, .int (x4 + r29_3)), (2, .int r29_3), (3, .int (x6 - 1)), (7, .int r29_3), (0, .ref t), (1, .int p1), (6, .int x6)] dX9_commons_82 (by decide) rfl ?_
        refine a_iinc C 7 [(6, .int (x6 + 1)), (5, .int (x5 + 0)), (4, .int (x4 + r29_3)), (2, .int r29_3), (3, .int (x6 - 1)), (7, .int r29_3), (0, .ref t), (1, .int p1)] dX9_commons_84 rfl rfl (by decide) rfl ?_
        refine a_goto C (tgt := 17) dX9_commons_87 (by decide) ?_
        refine a_sub C [6, 7, 3, 4, 2, 1, 0] [(0, .ref t), (1, .int p1), (2, .int r29_3), (3, .int (x6 - 1)), (4, .int (x4 + r29_3)), (5, .int (x5 + 0)), (6, .int (x6 + 1))] rfl ?_
        exact ih r29_3 (x6 - 1) (x4 + r29_3) (x5 + 0) (x6 + 1) k hF hX
      refine a_iconst C (v := 1) dX9_commons_76 (by decide) ?_
      refine a_goto C (tgt := 81) dX9_commons_77 (by decide) ?_
      refine a_iadd C dX9_commons_81 ?_
      refine a_istore C [(5, .int (x5 + 1)), (4, .int (x4 + r29_3)), (2, .int r29_3), (3, .int (x6 - 1)), (7, .int r29_3), (0, .ref t), (1, .int p1), (6, .int x6)] dX9_commons_82 (by decide) rfl ?_
      refine a_iinc C 7 [(6, .int (x6 + 1)), (5, .int (x5 + 1)), (4, .int (x4 + r29_3)), (2, .int r29_3), (3, .int (x6 - 1)), (7, .int r29_3), (0, .ref t), (1, .int p1)] dX9_commons_84 rfl rfl (by decide) rfl ?_
      refine a_goto C (tgt := 17) dX9_commons_87 (by decide) ?_
      refine a_sub C [6, 7, 3, 4, 2, 1, 0] [(0, .ref t), (1, .int p1), (2, .int r29_3), (3, .int (x6 - 1)), (4, .int (x4 + r29_3)), (5, .int (x5 + 1)), (6, .int (x6 + 1))] rfl ?_
      exact ih r29_3 (x6 - 1) (x4 + r29_3) (x5 + 1) (x6 + 1) k hF hX
  unfold f_X9_commons at hF
  refine a_aload_n C 0 dX9_commons_0 rfl rfl ?_
  refine a_callVv C 0 [0, 1, 2, 3, 4, 5, 6, 7] 0 cs_X9_147 hd_X9_orders ⟨rfl, rfl⟩ ⟨Nat.le_of_ble_eq_true rfl, Nat.le_of_ble_eq_true rfl⟩ (fun r h => c_X9_orders l D J kc ki kb kl kd t t_all t_reasons t_text t_word t_order t_rows t_written t_allF t_reasonsF t_textF t_wordF t_orderF t_rowsF t_writtenF t_thrown t_changes t_isSaved t_result t_texted t_wordSize t_orderMany t_here t_fault t_faultAt t_commandMany t_writtenSize r h) rfl rfl rfl (fun _ => rfl) rfl rfl rfl (Nat.le_of_ble_eq_true rfl) dX9_commons_1 ⟨Nat.zero_le _, Nat.zero_le _⟩ hF (fun r1_1 er1_1 hF => ?_)
  refine a_ws C (ws' := wX9 kc ki t t_all t_reasons t_text t_word t_order t_rows t_written t_allF t_reasonsF t_textF t_wordF r1_1.1 t_rowsF t_writtenF t_thrown t_changes t_isSaved t_result t_texted t_wordSize r1_1.2 t_here t_fault t_faultAt t_commandMany t_writtenSize) rfl ?_
  refine a_iconst C (v := 0) dX9_commons_4 (by decide) ?_
  refine a_istore_n C [(2, .int 0), (0, .ref t), (1, .int p1)] dX9_commons_5 rfl (by decide) rfl ?_
  refine a_iconst C (v := (-1)) dX9_commons_6 (by decide) ?_
  refine a_istore_n C [(3, .int ((-1))), (2, .int 0), (0, .ref t), (1, .int p1)] dX9_commons_7 rfl (by decide) rfl ?_
  refine a_iconst C (v := 0) dX9_commons_8 (by decide) ?_
  refine a_istore C [(4, .int 0), (3, .int ((-1))), (2, .int 0), (0, .ref t), (1, .int p1)] dX9_commons_9 (by decide) rfl ?_
  refine a_iconst C (v := 0) dX9_commons_11 (by decide) ?_
  refine a_istore C [(5, .int 0), (4, .int 0), (3, .int ((-1))), (2, .int 0), (0, .ref t), (1, .int p1)] dX9_commons_12 (by decide) rfl ?_
  refine a_iconst C (v := 1) dX9_commons_14 (by decide) ?_
  refine a_istore C [(6, .int 1), (5, .int 0), (4, .int 0), (3, .int ((-1))), (2, .int 0), (0, .ref t), (1, .int p1)] dX9_commons_15 (by decide) rfl ?_
  refine a_sub C [5, 6, 4, 3, 2, 1, 0] [(0, .ref t), (1, .int p1), (2, .int 0), (3, .int ((-1))), (4, .int 0), (5, .int 0), (6, .int 1)] rfl ?_
  refine hI17 r1_1.1 r1_1.2 1000 0 ((-1)) 0 0 1 _ hF (fun x2_17_11 x3_17_12 x4_17_13 x5_17_14 x6_17_15 hF => ?_)
  refine a_iload_n C 0 dX9_commons_90 rfl rfl ?_
  refine a_if_ne C (tgt := 98) dX9_commons_91 (by decide) hF (fun c91_16 hF => ?_) (fun c91_16 hF => ?_)
  · refine a_iload_n C 0 dX9_commons_98 rfl rfl ?_
    refine a_iconst C (v := 1) dX9_commons_99 (by decide) ?_
    refine a_ic_ne C (tgt := 107) dX9_commons_100 (by decide) hF (fun c100_17 hF => ?_) (fun c100_17 hF => ?_)
    · refine a_iload_n C 0 dX9_commons_107 rfl rfl ?_
      refine a_iconst C (v := 2) dX9_commons_108 (by decide) ?_
      refine a_ic_ne C (tgt := 117) dX9_commons_109 (by decide) hF (fun c109_18 hF => ?_) (fun c109_18 hF => ?_)
      · refine a_iload C 4 dX9_commons_117 rfl ?_
        exact a_iret C hr rfl dX9_commons_119 hF rfl rfl
      refine a_iload C 3 dX9_commons_112 rfl ?_
      refine a_goto C (tgt := 119) dX9_commons_114 (by decide) ?_
      exact a_iret C hr rfl dX9_commons_119 hF rfl rfl
    refine a_iload_n C 2 dX9_commons_103 rfl rfl ?_
    refine a_goto C (tgt := 119) dX9_commons_104 (by decide) ?_
    exact a_iret C hr rfl dX9_commons_119 hF rfl rfl
  refine a_iload_n C 1 dX9_commons_94 rfl rfl ?_
  refine a_goto C (tgt := 119) dX9_commons_95 (by decide) ?_
  exact a_iret C hr rfl dX9_commons_119 hF rfl rfl
theorem cs_X9_171 : GoodIn WW (wsV RX9 171 RX9 yX9_commons (aW yX9_commons cX9_commons 8 ((some .int)))) := gdV kl_X9_171 ki_X9_commons kv_X9_commons kn_X9 kc_X9_commons
def f_X9_longest (t_allF : Nat → Int32) (t_orderF : Nat → Int32) : Option (Int32 × (Nat → Int32) × Int32 × Int32) := (f_X9_commons t_allF t_orderF 0).bind fun r7_1 => some (r7_1.1, r7_1.2.1, 0, r7_1.2.2)
theorem hd_X9_longest : yX9_longest.cls = RX9 ∧ yX9_longest.cls ≠ "java/lang/invoke/MethodHandle" ∧ yX9_longest.cls ≠ "java/lang/invoke/VarHandle" ∧ (parseMethodDescriptor yX9_longest.desc).map (fun d => d.parameters.length) = some 0 := by decide +kernel
set_option maxRecDepth 100000 in
set_option maxHeartbeats 4000000 in
theorem c_X9_longest (l : Launch) (D : va_G) (J : (Nat → Nat) × (Nat → Nat)) (kc ki kb kl kd : ClassId) (t : Nat) (t_all : Nat) (t_reasons : Nat) (t_text : Nat) (t_word : Nat) (t_order : Nat) (t_rows : Nat) (t_written : Nat) (t_allF : Nat → Int32) (t_reasonsF : Nat → Int32) (t_textF : Nat → Int32) (t_wordF : Nat → Int32) (t_orderF : Nat → Int32) (t_rowsF : Nat → Int32) (t_writtenF : Nat → Int32) (t_thrown : Int32) (t_changes : Int32) (t_isSaved : Int32) (t_result : Int32) (t_texted : Int32) (t_wordSize : Int32) (t_orderMany : Int32) (t_here : Int32) (t_fault : Int32) (t_faultAt : Int32) (t_commandMany : Int32) (t_writtenSize : Int32) (res : Int32 × (Nat → Int32) × Int32 × Int32) (hF : f_X9_longest t_allF t_orderF = some res) : aKi l yX9_longest (aW yX9_longest cX9_longest 1 ((some .int))) ({ frames := 6, cells := 0, slots := 0, locals := 141 } : Room) D J (aTy kc ki kb kl kd) [.ref t] (wX9 kc ki t t_all t_reasons t_text t_word t_order t_rows t_written t_allF t_reasonsF t_textF t_wordF t_orderF t_rowsF t_writtenF t_thrown t_changes t_isSaved t_result t_texted t_wordSize t_orderMany t_here t_fault t_faultAt t_commandMany t_writtenSize) (fun r => r.1) (fun r => wX9 kc ki t t_all t_reasons t_text t_word t_order t_rows t_written t_allF t_reasonsF t_textF t_wordF r.2.1 t_rowsF t_writtenF r.2.2.1 t_changes t_isSaved t_result t_texted t_wordSize r.2.2.2 t_here t_fault t_faultAt t_commandMany t_writtenSize) res := by
  refine aKi_of (own := RX9) (by decide) rfl (Nat.le_of_ble_eq_true rfl) rfl ?_
  intro p e s m args below meth c C hr
  unfold f_X9_longest at hF
  refine a_aload_n C 0 dX9_longest_0 rfl rfl ?_
  refine a_iconst C (v := 0) dX9_longest_1 (by decide) ?_
  refine a_put C 0 0 iwX9 tyX9_ok nmX9 rfl rfl (by decide) kf_X9_36 rfl rfl rfl (Nat.le_of_ble_eq_true rfl) dX9_longest_2 ?_
  refine a_ws C (ws' := wX9 kc ki t t_all t_reasons t_text t_word t_order t_rows t_written t_allF t_reasonsF t_textF t_wordF t_orderF t_rowsF t_writtenF 0 t_changes t_isSaved t_result t_texted t_wordSize t_orderMany t_here t_fault t_faultAt t_commandMany t_writtenSize) rfl ?_
  refine a_aload_n C 0 dX9_longest_5 rfl rfl ?_
  refine a_iconst C (v := 0) dX9_longest_6 (by decide) ?_
  refine a_callVi C 1 [0, 1, 2, 3, 4, 5, 6, 7] 0 cs_X9_171 hd_X9_commons ⟨rfl, rfl⟩ ⟨Nat.le_of_ble_eq_true rfl, Nat.le_of_ble_eq_true rfl⟩ (fun r h => c_X9_commons l D J kc ki kb kl kd t t_all t_reasons t_text t_word t_order t_rows t_written t_allF t_reasonsF t_textF t_wordF t_orderF t_rowsF t_writtenF 0 t_changes t_isSaved t_result t_texted t_wordSize t_orderMany t_here t_fault t_faultAt t_commandMany t_writtenSize 0 r h) rfl rfl rfl (fun _ => rfl) rfl rfl rfl (Nat.le_of_ble_eq_true rfl) dX9_longest_7 ⟨Nat.zero_le _, Nat.zero_le _⟩ hF (fun r7_1 er7_1 hF => ?_)
  refine a_ws C (ws' := wX9 kc ki t t_all t_reasons t_text t_word t_order t_rows t_written t_allF t_reasonsF t_textF t_wordF r7_1.2.1 t_rowsF t_writtenF 0 t_changes t_isSaved t_result t_texted t_wordSize r7_1.2.2 t_here t_fault t_faultAt t_commandMany t_writtenSize) rfl ?_
  exact a_iret C hr rfl dX9_longest_10 hF rfl rfl
def f_X9_longestRank_J17 (x1 : Int32) (q_t_orderF : Nat → Int32) (q_t_orderMany : Int32) (y1 : Int32) : Option (Int32 × (Nat → Int32) × Int32 × Int32) := if ¬ y1 = 0 then (some (0, q_t_orderF, y1, q_t_orderMany)) else (some (x1, q_t_orderF, y1, q_t_orderMany))
def f_X9_longestRank (t_allF : Nat → Int32) (t_orderF : Nat → Int32) : Option (Int32 × (Nat → Int32) × Int32 × Int32) := (f_X9_commons t_allF t_orderF 1).bind fun r2_1 => if ¬ r2_1.1 = ((-1)) then (f_X9_longestRank_J17 r2_1.1 r2_1.2.1 r2_1.2.2 0) else (f_X9_longestRank_J17 r2_1.1 r2_1.2.1 r2_1.2.2 1)
theorem hd_X9_longestRank : yX9_longestRank.cls = RX9 ∧ yX9_longestRank.cls ≠ "java/lang/invoke/MethodHandle" ∧ yX9_longestRank.cls ≠ "java/lang/invoke/VarHandle" ∧ (parseMethodDescriptor yX9_longestRank.desc).map (fun d => d.parameters.length) = some 0 := by decide +kernel
set_option maxRecDepth 100000 in
set_option maxHeartbeats 4000000 in
theorem c_X9_longestRank (l : Launch) (D : va_G) (J : (Nat → Nat) × (Nat → Nat)) (kc ki kb kl kd : ClassId) (t : Nat) (t_all : Nat) (t_reasons : Nat) (t_text : Nat) (t_word : Nat) (t_order : Nat) (t_rows : Nat) (t_written : Nat) (t_allF : Nat → Int32) (t_reasonsF : Nat → Int32) (t_textF : Nat → Int32) (t_wordF : Nat → Int32) (t_orderF : Nat → Int32) (t_rowsF : Nat → Int32) (t_writtenF : Nat → Int32) (t_thrown : Int32) (t_changes : Int32) (t_isSaved : Int32) (t_result : Int32) (t_texted : Int32) (t_wordSize : Int32) (t_orderMany : Int32) (t_here : Int32) (t_fault : Int32) (t_faultAt : Int32) (t_commandMany : Int32) (t_writtenSize : Int32) (res : Int32 × (Nat → Int32) × Int32 × Int32) (hF : f_X9_longestRank t_allF t_orderF = some res) : aKi l yX9_longestRank (aW yX9_longestRank cX9_longestRank 2 ((some .int))) ({ frames := 6, cells := 0, slots := 0, locals := 141 } : Room) D J (aTy kc ki kb kl kd) [.ref t] (wX9 kc ki t t_all t_reasons t_text t_word t_order t_rows t_written t_allF t_reasonsF t_textF t_wordF t_orderF t_rowsF t_writtenF t_thrown t_changes t_isSaved t_result t_texted t_wordSize t_orderMany t_here t_fault t_faultAt t_commandMany t_writtenSize) (fun r => r.1) (fun r => wX9 kc ki t t_all t_reasons t_text t_word t_order t_rows t_written t_allF t_reasonsF t_textF t_wordF r.2.1 t_rowsF t_writtenF r.2.2.1 t_changes t_isSaved t_result t_texted t_wordSize r.2.2.2 t_here t_fault t_faultAt t_commandMany t_writtenSize) res := by
  refine aKi_of (own := RX9) (by decide) rfl (Nat.le_of_ble_eq_true rfl) rfl ?_
  intro p e s m args below meth c C hr
  have hJ17 : ∀ (x1 : Int32) (q_t_orderF : Nat → Int32) (q_t_thrown : Int32) (q_t_orderMany : Int32) (y1 : Int32), f_X9_longestRank_J17 x1 q_t_orderF q_t_orderMany y1 = some res → aT p l e ({ frames := 6, cells := 0, slots := 0, locals := 141 } : Room) s m args below meth c (MQ below (aQi D (wX9 kc ki t t_all t_reasons t_text t_word t_order t_rows t_written t_allF t_reasonsF t_textF t_wordF t_orderF t_rowsF t_writtenF t_thrown t_changes t_isSaved t_result t_texted t_wordSize t_orderMany t_here t_fault t_faultAt t_commandMany t_writtenSize) s.heap.size (fun r => r.1) (fun r => wX9 kc ki t t_all t_reasons t_text t_word t_order t_rows t_written t_allF t_reasonsF t_textF t_wordF r.2.1 t_rowsF t_writtenF r.2.2.1 t_changes t_isSaved t_result t_texted t_wordSize r.2.2.2 t_here t_fault t_faultAt t_commandMany t_writtenSize) res) args s 0 0 (va_A (wX9 kc ki t t_all t_reasons t_text t_word t_order t_rows t_written t_allF t_reasonsF t_textF t_wordF t_orderF t_rowsF t_writtenF t_thrown t_changes t_isSaved t_result t_texted t_wordSize t_orderMany t_here t_fault t_faultAt t_commandMany t_writtenSize) s.heap.size)) D (va_A (wX9 kc ki t t_all t_reasons t_text t_word t_order t_rows t_written t_allF t_reasonsF t_textF t_wordF t_orderF t_rowsF t_writtenF t_thrown t_changes t_isSaved t_result t_texted t_wordSize t_orderMany t_here t_fault t_faultAt t_commandMany t_writtenSize) s.heap.size) 2 0 0 17 [(0, .ref t), (1, .int x1)] [.int y1, .ref t] (wX9 kc ki t t_all t_reasons t_text t_word t_order t_rows t_written t_allF t_reasonsF t_textF t_wordF q_t_orderF t_rowsF t_writtenF q_t_thrown t_changes t_isSaved t_result t_texted t_wordSize q_t_orderMany t_here t_fault t_faultAt t_commandMany t_writtenSize) := by
    intro x1 q_t_orderF q_t_thrown q_t_orderMany y1 hF
    unfold f_X9_longestRank_J17 at hF
    refine a_put C 0 0 iwX9 tyX9_ok nmX9 rfl rfl (by decide) kf_X9_36 rfl rfl rfl (Nat.le_of_ble_eq_true rfl) dX9_longestRank_17 ?_
    refine a_ws C (ws' := wX9 kc ki t t_all t_reasons t_text t_word t_order t_rows t_written t_allF t_reasonsF t_textF t_wordF q_t_orderF t_rowsF t_writtenF y1 t_changes t_isSaved t_result t_texted t_wordSize q_t_orderMany t_here t_fault t_faultAt t_commandMany t_writtenSize) rfl ?_
    refine a_aload_n C 0 dX9_longestRank_20 rfl rfl ?_
    refine a_get C 0 0 iwX9 rfl rfl (by decide) kf_X9_36 rfl dX9_longestRank_21 ?_
    refine a_if_ne C (tgt := 31) dX9_longestRank_24 (by decide) hF (fun c24_3 hF => ?_) (fun c24_3 hF => ?_)
    · refine a_iconst C (v := 0) dX9_longestRank_31 (by decide) ?_
      exact a_iret C hr rfl dX9_longestRank_32 hF rfl rfl
    refine a_iload_n C 1 dX9_longestRank_27 rfl rfl ?_
    refine a_goto C (tgt := 32) dX9_longestRank_28 (by decide) ?_
    exact a_iret C hr rfl dX9_longestRank_32 hF rfl rfl
  unfold f_X9_longestRank at hF
  refine a_aload_n C 0 dX9_longestRank_0 rfl rfl ?_
  refine a_iconst C (v := 1) dX9_longestRank_1 (by decide) ?_
  refine a_callVi C 1 [0, 1, 2, 3, 4, 5, 6, 7] 0 cs_X9_171 hd_X9_commons ⟨rfl, rfl⟩ ⟨Nat.le_of_ble_eq_true rfl, Nat.le_of_ble_eq_true rfl⟩ (fun r h => c_X9_commons l D J kc ki kb kl kd t t_all t_reasons t_text t_word t_order t_rows t_written t_allF t_reasonsF t_textF t_wordF t_orderF t_rowsF t_writtenF t_thrown t_changes t_isSaved t_result t_texted t_wordSize t_orderMany t_here t_fault t_faultAt t_commandMany t_writtenSize 1 r h) rfl rfl rfl (fun _ => rfl) rfl rfl rfl (Nat.le_of_ble_eq_true rfl) dX9_longestRank_2 ⟨Nat.zero_le _, Nat.zero_le _⟩ hF (fun r2_1 er2_1 hF => ?_)
  refine a_ws C (ws' := wX9 kc ki t t_all t_reasons t_text t_word t_order t_rows t_written t_allF t_reasonsF t_textF t_wordF r2_1.2.1 t_rowsF t_writtenF t_thrown t_changes t_isSaved t_result t_texted t_wordSize r2_1.2.2 t_here t_fault t_faultAt t_commandMany t_writtenSize) rfl ?_
  refine a_istore_n C [(1, .int r2_1.1), (0, .ref t)] dX9_longestRank_5 rfl (by decide) rfl ?_
  refine a_aload_n C 1 dX9_longestRank_6 rfl rfl ?_
  refine a_iload_n C 0 dX9_longestRank_7 rfl rfl ?_
  refine a_iconst C (v := (-1)) dX9_longestRank_8 (by decide) ?_
  refine a_ic_ne C (tgt := 16) dX9_longestRank_9 (by decide) hF (fun c9_2 hF => ?_) (fun c9_2 hF => ?_)
  · refine a_iconst C (v := 0) dX9_longestRank_16 (by decide) ?_
    refine a_sub C [1, 0] [(0, .ref t), (1, .int r2_1.1)] rfl ?_
    exact hJ17 r2_1.1 r2_1.2.1 t_thrown r2_1.2.2 0 hF
  refine a_iconst C (v := 1) dX9_longestRank_12 (by decide) ?_
  refine a_goto C (tgt := 17) dX9_longestRank_13 (by decide) ?_
  refine a_sub C [1, 0] [(0, .ref t), (1, .int r2_1.1)] rfl ?_
  exact hJ17 r2_1.1 r2_1.2.1 t_thrown r2_1.2.2 1 hF
def f_X9_pieces_L14 (q_t_orderF : Nat → Int32) (q_t_orderMany : Int32) (t_allF : Nat → Int32) : Nat → Int32 → Int32 → (Int32 → Int32 → Option (Int32 × (Nat → Int32) × Int32 × Int32)) → Option (Int32 × (Nat → Int32) × Int32 × Int32)
  | 0, _, _, _ => none
  | fuel + 1, x1, x2, k => if q_t_orderMany ≤ x2 then (k x1 x2) else ((ldi q_t_orderF 80 x2).bind fun v29_3 => (f_X9_left t_allF v29_3).bind fun r30_4 => f_X9_pieces_L14 q_t_orderF q_t_orderMany t_allF fuel (x1 + r30_4) (x2 + 1) k)
def f_X9_pieces (t_allF : Nat → Int32) (t_orderF : Nat → Int32) : Option (Int32 × (Nat → Int32) × Int32 × Int32) := (f_X9_commons t_allF t_orderF 2).bind fun r7_1 => f_X9_pieces_L14 r7_1.2.1 r7_1.2.2 t_allF 1000 (-r7_1.1) 0 (fun x1_14_5 x2_14_6 => some (x1_14_5, r7_1.2.1, 0, r7_1.2.2))
theorem hd_X9_pieces : yX9_pieces.cls = RX9 ∧ yX9_pieces.cls ≠ "java/lang/invoke/MethodHandle" ∧ yX9_pieces.cls ≠ "java/lang/invoke/VarHandle" ∧ (parseMethodDescriptor yX9_pieces.desc).map (fun d => d.parameters.length) = some 0 := by decide +kernel
set_option maxRecDepth 100000 in
set_option maxHeartbeats 4000000 in
theorem c_X9_pieces (l : Launch) (D : va_G) (J : (Nat → Nat) × (Nat → Nat)) (kc ki kb kl kd : ClassId) (t : Nat) (t_all : Nat) (t_reasons : Nat) (t_text : Nat) (t_word : Nat) (t_order : Nat) (t_rows : Nat) (t_written : Nat) (t_allF : Nat → Int32) (t_reasonsF : Nat → Int32) (t_textF : Nat → Int32) (t_wordF : Nat → Int32) (t_orderF : Nat → Int32) (t_rowsF : Nat → Int32) (t_writtenF : Nat → Int32) (t_thrown : Int32) (t_changes : Int32) (t_isSaved : Int32) (t_result : Int32) (t_texted : Int32) (t_wordSize : Int32) (t_orderMany : Int32) (t_here : Int32) (t_fault : Int32) (t_faultAt : Int32) (t_commandMany : Int32) (t_writtenSize : Int32) (res : Int32 × (Nat → Int32) × Int32 × Int32) (hF : f_X9_pieces t_allF t_orderF = some res) : aKi l yX9_pieces (aW yX9_pieces cX9_pieces 3 ((some .int))) ({ frames := 6, cells := 0, slots := 0, locals := 141 } : Room) D J (aTy kc ki kb kl kd) [.ref t] (wX9 kc ki t t_all t_reasons t_text t_word t_order t_rows t_written t_allF t_reasonsF t_textF t_wordF t_orderF t_rowsF t_writtenF t_thrown t_changes t_isSaved t_result t_texted t_wordSize t_orderMany t_here t_fault t_faultAt t_commandMany t_writtenSize) (fun r => r.1) (fun r => wX9 kc ki t t_all t_reasons t_text t_word t_order t_rows t_written t_allF t_reasonsF t_textF t_wordF r.2.1 t_rowsF t_writtenF r.2.2.1 t_changes t_isSaved t_result t_texted t_wordSize r.2.2.2 t_here t_fault t_faultAt t_commandMany t_writtenSize) res := by
  refine aKi_of (own := RX9) (by decide) rfl (Nat.le_of_ble_eq_true rfl) rfl ?_
  intro p e s m args below meth c C hr
  have hI14 : ∀ (q_t_orderF : Nat → Int32) (q_t_thrown : Int32) (q_t_orderMany : Int32) (fuel : Nat) (x1 : Int32) (x2 : Int32) (k : Int32 → Int32 → Option (Int32 × (Nat → Int32) × Int32 × Int32)), f_X9_pieces_L14 q_t_orderF q_t_orderMany t_allF fuel x1 x2 k = some res → (∀ (x1 : Int32) (x2 : Int32), k x1 x2 = some res → aT p l e ({ frames := 6, cells := 0, slots := 0, locals := 141 } : Room) s m args below meth c (MQ below (aQi D (wX9 kc ki t t_all t_reasons t_text t_word t_order t_rows t_written t_allF t_reasonsF t_textF t_wordF t_orderF t_rowsF t_writtenF t_thrown t_changes t_isSaved t_result t_texted t_wordSize t_orderMany t_here t_fault t_faultAt t_commandMany t_writtenSize) s.heap.size (fun r => r.1) (fun r => wX9 kc ki t t_all t_reasons t_text t_word t_order t_rows t_written t_allF t_reasonsF t_textF t_wordF r.2.1 t_rowsF t_writtenF r.2.2.1 t_changes t_isSaved t_result t_texted t_wordSize r.2.2.2 t_here t_fault t_faultAt t_commandMany t_writtenSize) res) args s 0 0 (va_A (wX9 kc ki t t_all t_reasons t_text t_word t_order t_rows t_written t_allF t_reasonsF t_textF t_wordF t_orderF t_rowsF t_writtenF t_thrown t_changes t_isSaved t_result t_texted t_wordSize t_orderMany t_here t_fault t_faultAt t_commandMany t_writtenSize) s.heap.size)) D (va_A (wX9 kc ki t t_all t_reasons t_text t_word t_order t_rows t_written t_allF t_reasonsF t_textF t_wordF t_orderF t_rowsF t_writtenF t_thrown t_changes t_isSaved t_result t_texted t_wordSize t_orderMany t_here t_fault t_faultAt t_commandMany t_writtenSize) s.heap.size) 3 0 0 41 [(1, .int x1)] [] (wX9 kc ki t t_all t_reasons t_text t_word t_order t_rows t_written t_allF t_reasonsF t_textF t_wordF q_t_orderF t_rowsF t_writtenF q_t_thrown t_changes t_isSaved t_result t_texted t_wordSize q_t_orderMany t_here t_fault t_faultAt t_commandMany t_writtenSize)) → aT p l e ({ frames := 6, cells := 0, slots := 0, locals := 141 } : Room) s m args below meth c (MQ below (aQi D (wX9 kc ki t t_all t_reasons t_text t_word t_order t_rows t_written t_allF t_reasonsF t_textF t_wordF t_orderF t_rowsF t_writtenF t_thrown t_changes t_isSaved t_result t_texted t_wordSize t_orderMany t_here t_fault t_faultAt t_commandMany t_writtenSize) s.heap.size (fun r => r.1) (fun r => wX9 kc ki t t_all t_reasons t_text t_word t_order t_rows t_written t_allF t_reasonsF t_textF t_wordF r.2.1 t_rowsF t_writtenF r.2.2.1 t_changes t_isSaved t_result t_texted t_wordSize r.2.2.2 t_here t_fault t_faultAt t_commandMany t_writtenSize) res) args s 0 0 (va_A (wX9 kc ki t t_all t_reasons t_text t_word t_order t_rows t_written t_allF t_reasonsF t_textF t_wordF t_orderF t_rowsF t_writtenF t_thrown t_changes t_isSaved t_result t_texted t_wordSize t_orderMany t_here t_fault t_faultAt t_commandMany t_writtenSize) s.heap.size)) D (va_A (wX9 kc ki t t_all t_reasons t_text t_word t_order t_rows t_written t_allF t_reasonsF t_textF t_wordF t_orderF t_rowsF t_writtenF t_thrown t_changes t_isSaved t_result t_texted t_wordSize t_orderMany t_here t_fault t_faultAt t_commandMany t_writtenSize) s.heap.size) 3 0 0 14 [(0, .ref t), (1, .int x1), (2, .int x2)] [] (wX9 kc ki t t_all t_reasons t_text t_word t_order t_rows t_written t_allF t_reasonsF t_textF t_wordF q_t_orderF t_rowsF t_writtenF q_t_thrown t_changes t_isSaved t_result t_texted t_wordSize q_t_orderMany t_here t_fault t_faultAt t_commandMany t_writtenSize) := by
    intro q_t_orderF q_t_thrown q_t_orderMany fuel
    induction fuel with
    | zero => intro x1 x2 k hF hX; exact nomatch hF
    | succ fuel ih =>
      intro x1 x2 k hF hX
      rw [f_X9_pieces_L14] at hF
      refine a_iload_n C 2 dX9_pieces_14 rfl rfl ?_
      refine a_aload_n C 0 dX9_pieces_15 rfl rfl ?_
      refine a_get C 0 11 iwX9 rfl rfl (by decide) kf_X9_141 rfl dX9_pieces_16 ?_
      refine a_ic_ge C (tgt := 41) dX9_pieces_19 (by decide) hF (fun c19_2 hF => ?_) (fun c19_2 hF => ?_)
      · refine a_sub C [1] [(1, .int x1)] rfl ?_
        exact hX x1 x2 hF
      refine a_iload_n C 1 dX9_pieces_22 rfl rfl ?_
      refine a_aload_n C 0 dX9_pieces_23 rfl rfl ?_
      refine a_aload_n C 0 dX9_pieces_24 rfl rfl ?_
      refine a_get C 0 10 iwX9 rfl rfl (by decide) kf_X9_23 rfl dX9_pieces_25 ?_
      refine a_iload_n C 2 dX9_pieces_28 rfl rfl ?_
      refine a_iald C 5 1 rfl rfl dX9_pieces_29 hF (fun v29_3 ev29_3 hF => ?_)
      refine a_callVir C 1 [0, 1, 2, 3, 4, 5, 6, 7] 0 cs_X9_132 hd_X9_left ⟨rfl, rfl⟩ ⟨Nat.le_of_ble_eq_true rfl, Nat.le_of_ble_eq_true rfl⟩ (fun r h => c_X9_left l D J kc ki kb kl kd t t_all t_reasons t_text t_word t_order t_rows t_written t_allF t_reasonsF t_textF t_wordF q_t_orderF t_rowsF t_writtenF q_t_thrown t_changes t_isSaved t_result t_texted t_wordSize q_t_orderMany t_here t_fault t_faultAt t_commandMany t_writtenSize v29_3 r h) rfl rfl rfl rfl rfl rfl (Nat.le_of_ble_eq_true rfl) dX9_pieces_30 ⟨Nat.zero_le _, Nat.zero_le _⟩ hF (fun r30_4 er30_4 hF => ?_)
      refine a_iadd C dX9_pieces_33 ?_
      refine a_istore_n C [(1, .int (x1 + r30_4)), (0, .ref t), (2, .int x2)] dX9_pieces_34 rfl (by decide) rfl ?_
      refine a_iinc C 2 [(2, .int (x2 + 1)), (1, .int (x1 + r30_4)), (0, .ref t)] dX9_pieces_35 rfl rfl (by decide) rfl ?_
      refine a_goto C (tgt := 14) dX9_pieces_38 (by decide) ?_
      refine a_sub C [2, 1, 0] [(0, .ref t), (1, .int (x1 + r30_4)), (2, .int (x2 + 1))] rfl ?_
      exact ih (x1 + r30_4) (x2 + 1) k hF hX
  unfold f_X9_pieces at hF
  refine a_aload_n C 0 dX9_pieces_0 rfl rfl ?_
  refine a_iconst C (v := 0) dX9_pieces_1 (by decide) ?_
  refine a_put C 0 0 iwX9 tyX9_ok nmX9 rfl rfl (by decide) kf_X9_36 rfl rfl rfl (Nat.le_of_ble_eq_true rfl) dX9_pieces_2 ?_
  refine a_ws C (ws' := wX9 kc ki t t_all t_reasons t_text t_word t_order t_rows t_written t_allF t_reasonsF t_textF t_wordF t_orderF t_rowsF t_writtenF 0 t_changes t_isSaved t_result t_texted t_wordSize t_orderMany t_here t_fault t_faultAt t_commandMany t_writtenSize) rfl ?_
  refine a_aload_n C 0 dX9_pieces_5 rfl rfl ?_
  refine a_iconst C (v := 2) dX9_pieces_6 (by decide) ?_
  refine a_callVi C 1 [0, 1, 2, 3, 4, 5, 6, 7] 0 cs_X9_171 hd_X9_commons ⟨rfl, rfl⟩ ⟨Nat.le_of_ble_eq_true rfl, Nat.le_of_ble_eq_true rfl⟩ (fun r h => c_X9_commons l D J kc ki kb kl kd t t_all t_reasons t_text t_word t_order t_rows t_written t_allF t_reasonsF t_textF t_wordF t_orderF t_rowsF t_writtenF 0 t_changes t_isSaved t_result t_texted t_wordSize t_orderMany t_here t_fault t_faultAt t_commandMany t_writtenSize 2 r h) rfl rfl rfl (fun _ => rfl) rfl rfl rfl (Nat.le_of_ble_eq_true rfl) dX9_pieces_7 ⟨Nat.zero_le _, Nat.zero_le _⟩ hF (fun r7_1 er7_1 hF => ?_)
  refine a_ws C (ws' := wX9 kc ki t t_all t_reasons t_text t_word t_order t_rows t_written t_allF t_reasonsF t_textF t_wordF r7_1.2.1 t_rowsF t_writtenF 0 t_changes t_isSaved t_result t_texted t_wordSize r7_1.2.2 t_here t_fault t_faultAt t_commandMany t_writtenSize) rfl ?_
  refine a_ineg C dX9_pieces_10 ?_
  refine a_istore_n C [(1, .int (-r7_1.1)), (0, .ref t)] dX9_pieces_11 rfl (by decide) rfl ?_
  refine a_iconst C (v := 0) dX9_pieces_12 (by decide) ?_
  refine a_istore_n C [(2, .int 0), (1, .int (-r7_1.1)), (0, .ref t)] dX9_pieces_13 rfl (by decide) rfl ?_
  refine a_sub C [2, 1, 0] [(0, .ref t), (1, .int (-r7_1.1)), (2, .int 0)] rfl ?_
  refine hI14 r7_1.2.1 0 r7_1.2.2 1000 (-r7_1.1) 0 _ hF (fun x1_14_5 x2_14_6 hF => ?_)
  refine a_iload_n C 0 dX9_pieces_41 rfl rfl ?_
  exact a_iret C hr rfl dX9_pieces_42 hF rfl rfl
theorem cs_X9_174 : GoodIn WW (wsV RX9 174 RX9 yX9_pieces (aW yX9_pieces cX9_pieces 3 ((some .int)))) := gdV kl_X9_174 ki_X9_pieces kv_X9_pieces kn_X9 kc_X9_pieces
def f_X9_piecesAgain (t_allF : Nat → Int32) (t_orderF : Nat → Int32) : Option (Int32 × (Nat → Int32) × Int32 × Int32) := (f_X9_pieces t_allF t_orderF).bind fun r1_1 => some (r1_1.1, r1_1.2.1, r1_1.2.2.1, r1_1.2.2.2)
theorem hd_X9_piecesAgain : yX9_piecesAgain.cls = RX9 ∧ yX9_piecesAgain.cls ≠ "java/lang/invoke/MethodHandle" ∧ yX9_piecesAgain.cls ≠ "java/lang/invoke/VarHandle" ∧ (parseMethodDescriptor yX9_piecesAgain.desc).map (fun d => d.parameters.length) = some 0 := by decide +kernel
set_option maxRecDepth 100000 in
set_option maxHeartbeats 4000000 in
theorem c_X9_piecesAgain (l : Launch) (D : va_G) (J : (Nat → Nat) × (Nat → Nat)) (kc ki kb kl kd : ClassId) (t : Nat) (t_all : Nat) (t_reasons : Nat) (t_text : Nat) (t_word : Nat) (t_order : Nat) (t_rows : Nat) (t_written : Nat) (t_allF : Nat → Int32) (t_reasonsF : Nat → Int32) (t_textF : Nat → Int32) (t_wordF : Nat → Int32) (t_orderF : Nat → Int32) (t_rowsF : Nat → Int32) (t_writtenF : Nat → Int32) (t_thrown : Int32) (t_changes : Int32) (t_isSaved : Int32) (t_result : Int32) (t_texted : Int32) (t_wordSize : Int32) (t_orderMany : Int32) (t_here : Int32) (t_fault : Int32) (t_faultAt : Int32) (t_commandMany : Int32) (t_writtenSize : Int32) (res : Int32 × (Nat → Int32) × Int32 × Int32) (hF : f_X9_piecesAgain t_allF t_orderF = some res) : aKi l yX9_piecesAgain (aW yX9_piecesAgain cX9_piecesAgain 1 ((some .int))) ({ frames := 7, cells := 0, slots := 0, locals := 163 } : Room) D J (aTy kc ki kb kl kd) [.ref t] (wX9 kc ki t t_all t_reasons t_text t_word t_order t_rows t_written t_allF t_reasonsF t_textF t_wordF t_orderF t_rowsF t_writtenF t_thrown t_changes t_isSaved t_result t_texted t_wordSize t_orderMany t_here t_fault t_faultAt t_commandMany t_writtenSize) (fun r => r.1) (fun r => wX9 kc ki t t_all t_reasons t_text t_word t_order t_rows t_written t_allF t_reasonsF t_textF t_wordF r.2.1 t_rowsF t_writtenF r.2.2.1 t_changes t_isSaved t_result t_texted t_wordSize r.2.2.2 t_here t_fault t_faultAt t_commandMany t_writtenSize) res := by
  refine aKi_of (own := RX9) (by decide) rfl (Nat.le_of_ble_eq_true rfl) rfl ?_
  intro p e s m args below meth c C hr
  unfold f_X9_piecesAgain at hF
  refine a_aload_n C 0 dX9_piecesAgain_0 rfl rfl ?_
  refine a_callVi C 0 [0, 1, 2, 3, 4, 5, 6, 7] 0 cs_X9_174 hd_X9_pieces ⟨rfl, rfl⟩ ⟨Nat.le_of_ble_eq_true rfl, Nat.le_of_ble_eq_true rfl⟩ (fun r h => c_X9_pieces l D J kc ki kb kl kd t t_all t_reasons t_text t_word t_order t_rows t_written t_allF t_reasonsF t_textF t_wordF t_orderF t_rowsF t_writtenF t_thrown t_changes t_isSaved t_result t_texted t_wordSize t_orderMany t_here t_fault t_faultAt t_commandMany t_writtenSize r h) rfl rfl rfl (fun _ => rfl) rfl rfl rfl (Nat.le_of_ble_eq_true rfl) dX9_piecesAgain_1 ⟨Nat.zero_le _, Nat.zero_le _⟩ hF (fun r1_1 er1_1 hF => ?_)
  refine a_ws C (ws' := wX9 kc ki t t_all t_reasons t_text t_word t_order t_rows t_written t_allF t_reasonsF t_textF t_wordF r1_1.2.1 t_rowsF t_writtenF r1_1.2.2.1 t_changes t_isSaved t_result t_texted t_wordSize r1_1.2.2.2 t_here t_fault t_faultAt t_commandMany t_writtenSize) rfl ?_
  exact a_iret C hr rfl dX9_piecesAgain_4 hF rfl rfl
def f_X9_kinds_L19 (x2 : Int32) (t_allF : Nat → Int32) : Nat → Int32 → (Int32 → Option (Int32 × Int32)) → Option (Int32 × Int32)
  | 0, _, _ => none
  | fuel + 1, x3, k => (f_X9_areAlike t_allF x3 x2).bind fun r22_3 => if ¬ r22_3 = 0 then (k x3) else (f_X9_kinds_L19 x2 t_allF fuel (x3 + 1) k)
def f_X9_kinds_L9 (t_allF : Nat → Int32) : Nat → Int32 → Int32 → (Int32 → Int32 → Option (Int32 × Int32)) → Option (Int32 × Int32)
  | 0, _, _, _ => none
  | fuel + 1, x1, x2, k => (f_X9_many t_allF).bind fun r11_1 => if r11_1 ≤ x2 then (k x1 x2) else (f_X9_kinds_L19 x2 t_allF 1000 0 (fun x3_19_5 => if ¬ x3_19_5 = x2 then (f_X9_kinds_L9 t_allF fuel (x1 + 0) (x2 + 1) k) else (f_X9_kinds_L9 t_allF fuel (x1 + 1) (x2 + 1) k)))
def f_X9_kinds (t_allF : Nat → Int32) : Option (Int32 × Int32) := f_X9_kinds_L9 t_allF 1000 0 0 (fun x1_9_7 x2_9_8 => some (x1_9_7, 0))
theorem hd_X9_kinds : yX9_kinds.cls = RX9 ∧ yX9_kinds.cls ≠ "java/lang/invoke/MethodHandle" ∧ yX9_kinds.cls ≠ "java/lang/invoke/VarHandle" ∧ (parseMethodDescriptor yX9_kinds.desc).map (fun d => d.parameters.length) = some 0 := by decide +kernel
set_option maxRecDepth 100000 in
set_option maxHeartbeats 4000000 in
theorem c_X9_kinds (l : Launch) (D : va_G) (J : (Nat → Nat) × (Nat → Nat)) (kc ki kb kl kd : ClassId) (t : Nat) (t_all : Nat) (t_reasons : Nat) (t_text : Nat) (t_word : Nat) (t_order : Nat) (t_rows : Nat) (t_written : Nat) (t_allF : Nat → Int32) (t_reasonsF : Nat → Int32) (t_textF : Nat → Int32) (t_wordF : Nat → Int32) (t_orderF : Nat → Int32) (t_rowsF : Nat → Int32) (t_writtenF : Nat → Int32) (t_thrown : Int32) (t_changes : Int32) (t_isSaved : Int32) (t_result : Int32) (t_texted : Int32) (t_wordSize : Int32) (t_orderMany : Int32) (t_here : Int32) (t_fault : Int32) (t_faultAt : Int32) (t_commandMany : Int32) (t_writtenSize : Int32) (res : Int32 × Int32) (hF : f_X9_kinds t_allF = some res) : aKi l yX9_kinds (aW yX9_kinds cX9_kinds 4 ((some .int))) ({ frames := 4, cells := 0, slots := 0, locals := 89 } : Room) D J (aTy kc ki kb kl kd) [.ref t] (wX9 kc ki t t_all t_reasons t_text t_word t_order t_rows t_written t_allF t_reasonsF t_textF t_wordF t_orderF t_rowsF t_writtenF t_thrown t_changes t_isSaved t_result t_texted t_wordSize t_orderMany t_here t_fault t_faultAt t_commandMany t_writtenSize) (fun r => r.1) (fun r => wX9 kc ki t t_all t_reasons t_text t_word t_order t_rows t_written t_allF t_reasonsF t_textF t_wordF t_orderF t_rowsF t_writtenF r.2 t_changes t_isSaved t_result t_texted t_wordSize t_orderMany t_here t_fault t_faultAt t_commandMany t_writtenSize) res := by
  refine aKi_of (own := RX9) (by decide) rfl (Nat.le_of_ble_eq_true rfl) rfl ?_
  intro p e s m args below meth c C hr
  have hI19 : ∀ (x1 : Int32) (x2 : Int32) (q_t_thrown : Int32) (fuel : Nat) (x3 : Int32) (k : Int32 → Option (Int32 × Int32)), f_X9_kinds_L19 x2 t_allF fuel x3 k = some res → (∀ (x3 : Int32), k x3 = some res → aT p l e ({ frames := 4, cells := 0, slots := 0, locals := 89 } : Room) s m args below meth c (MQ below (aQi D (wX9 kc ki t t_all t_reasons t_text t_word t_order t_rows t_written t_allF t_reasonsF t_textF t_wordF t_orderF t_rowsF t_writtenF t_thrown t_changes t_isSaved t_result t_texted t_wordSize t_orderMany t_here t_fault t_faultAt t_commandMany t_writtenSize) s.heap.size (fun r => r.1) (fun r => wX9 kc ki t t_all t_reasons t_text t_word t_order t_rows t_written t_allF t_reasonsF t_textF t_wordF t_orderF t_rowsF t_writtenF r.2 t_changes t_isSaved t_result t_texted t_wordSize t_orderMany t_here t_fault t_faultAt t_commandMany t_writtenSize) res) args s 0 0 (va_A (wX9 kc ki t t_all t_reasons t_text t_word t_order t_rows t_written t_allF t_reasonsF t_textF t_wordF t_orderF t_rowsF t_writtenF t_thrown t_changes t_isSaved t_result t_texted t_wordSize t_orderMany t_here t_fault t_faultAt t_commandMany t_writtenSize) s.heap.size)) D (va_A (wX9 kc ki t t_all t_reasons t_text t_word t_order t_rows t_written t_allF t_reasonsF t_textF t_wordF t_orderF t_rowsF t_writtenF t_thrown t_changes t_isSaved t_result t_texted t_wordSize t_orderMany t_here t_fault t_faultAt t_commandMany t_writtenSize) s.heap.size) 4 0 0 34 [(0, .ref t), (1, .int x1), (2, .int x2), (3, .int x3)] [] (wX9 kc ki t t_all t_reasons t_text t_word t_order t_rows t_written t_allF t_reasonsF t_textF t_wordF t_orderF t_rowsF t_writtenF q_t_thrown t_changes t_isSaved t_result t_texted t_wordSize t_orderMany t_here t_fault t_faultAt t_commandMany t_writtenSize)) → aT p l e ({ frames := 4, cells := 0, slots := 0, locals := 89 } : Room) s m args below meth c (MQ below (aQi D (wX9 kc ki t t_all t_reasons t_text t_word t_order t_rows t_written t_allF t_reasonsF t_textF t_wordF t_orderF t_rowsF t_writtenF t_thrown t_changes t_isSaved t_result t_texted t_wordSize t_orderMany t_here t_fault t_faultAt t_commandMany t_writtenSize) s.heap.size (fun r => r.1) (fun r => wX9 kc ki t t_all t_reasons t_text t_word t_order t_rows t_written t_allF t_reasonsF t_textF t_wordF t_orderF t_rowsF t_writtenF r.2 t_changes t_isSaved t_result t_texted t_wordSize t_orderMany t_here t_fault t_faultAt t_commandMany t_writtenSize) res) args s 0 0 (va_A (wX9 kc ki t t_all t_reasons t_text t_word t_order t_rows t_written t_allF t_reasonsF t_textF t_wordF t_orderF t_rowsF t_writtenF t_thrown t_changes t_isSaved t_result t_texted t_wordSize t_orderMany t_here t_fault t_faultAt t_commandMany t_writtenSize) s.heap.size)) D (va_A (wX9 kc ki t t_all t_reasons t_text t_word t_order t_rows t_written t_allF t_reasonsF t_textF t_wordF t_orderF t_rowsF t_writtenF t_thrown t_changes t_isSaved t_result t_texted t_wordSize t_orderMany t_here t_fault t_faultAt t_commandMany t_writtenSize) s.heap.size) 4 0 0 19 [(0, .ref t), (1, .int x1), (2, .int x2), (3, .int x3)] [] (wX9 kc ki t t_all t_reasons t_text t_word t_order t_rows t_written t_allF t_reasonsF t_textF t_wordF t_orderF t_rowsF t_writtenF q_t_thrown t_changes t_isSaved t_result t_texted t_wordSize t_orderMany t_here t_fault t_faultAt t_commandMany t_writtenSize) := by
    intro x1 x2 q_t_thrown fuel
    induction fuel with
    | zero => intro x3 k hF hX; exact nomatch hF
    | succ fuel ih =>
      intro x3 k hF hX
      rw [f_X9_kinds_L19] at hF
      refine a_aload_n C 0 dX9_kinds_19 rfl rfl ?_
      refine a_iload_n C 3 dX9_kinds_20 rfl rfl ?_
      refine a_iload_n C 2 dX9_kinds_21 rfl rfl ?_
      refine a_callVir C 2 [0, 1, 2, 3, 4, 5, 6, 7] 0 cs_X9_150 hd_X9_areAlike ⟨rfl, rfl⟩ ⟨Nat.le_of_ble_eq_true rfl, Nat.le_of_ble_eq_true rfl⟩ (fun r h => c_X9_areAlike l D J kc ki kb kl kd t t_all t_reasons t_text t_word t_order t_rows t_written t_allF t_reasonsF t_textF t_wordF t_orderF t_rowsF t_writtenF q_t_thrown t_changes t_isSaved t_result t_texted t_wordSize t_orderMany t_here t_fault t_faultAt t_commandMany t_writtenSize x3 x2 r h) rfl rfl rfl rfl rfl rfl (Nat.le_of_ble_eq_true rfl) dX9_kinds_22 ⟨Nat.zero_le _, Nat.zero_le _⟩ hF (fun r22_3 er22_3 hF => ?_)
      refine a_if_ne C (tgt := 34) dX9_kinds_25 (by decide) hF (fun c25_4 hF => ?_) (fun c25_4 hF => ?_)
      · exact hX x3 hF
      refine a_iinc C 3 [(3, .int (x3 + 1)), (0, .ref t), (1, .int x1), (2, .int x2)] dX9_kinds_28 rfl rfl (by decide) rfl ?_
      refine a_goto C (tgt := 19) dX9_kinds_31 (by decide) ?_
      refine a_sub C [1, 2, 3, 0] [(0, .ref t), (1, .int x1), (2, .int x2), (3, .int (x3 + 1))] rfl ?_
      exact ih (x3 + 1) k hF hX
  have hI9 : ∀ (q_t_thrown : Int32) (fuel : Nat) (x1 : Int32) (x2 : Int32) (k : Int32 → Int32 → Option (Int32 × Int32)), f_X9_kinds_L9 t_allF fuel x1 x2 k = some res → (∀ (x1 : Int32) (x2 : Int32), k x1 x2 = some res → aT p l e ({ frames := 4, cells := 0, slots := 0, locals := 89 } : Room) s m args below meth c (MQ below (aQi D (wX9 kc ki t t_all t_reasons t_text t_word t_order t_rows t_written t_allF t_reasonsF t_textF t_wordF t_orderF t_rowsF t_writtenF t_thrown t_changes t_isSaved t_result t_texted t_wordSize t_orderMany t_here t_fault t_faultAt t_commandMany t_writtenSize) s.heap.size (fun r => r.1) (fun r => wX9 kc ki t t_all t_reasons t_text t_word t_order t_rows t_written t_allF t_reasonsF t_textF t_wordF t_orderF t_rowsF t_writtenF r.2 t_changes t_isSaved t_result t_texted t_wordSize t_orderMany t_here t_fault t_faultAt t_commandMany t_writtenSize) res) args s 0 0 (va_A (wX9 kc ki t t_all t_reasons t_text t_word t_order t_rows t_written t_allF t_reasonsF t_textF t_wordF t_orderF t_rowsF t_writtenF t_thrown t_changes t_isSaved t_result t_texted t_wordSize t_orderMany t_here t_fault t_faultAt t_commandMany t_writtenSize) s.heap.size)) D (va_A (wX9 kc ki t t_all t_reasons t_text t_word t_order t_rows t_written t_allF t_reasonsF t_textF t_wordF t_orderF t_rowsF t_writtenF t_thrown t_changes t_isSaved t_result t_texted t_wordSize t_orderMany t_here t_fault t_faultAt t_commandMany t_writtenSize) s.heap.size) 4 0 0 53 [(1, .int x1)] [] (wX9 kc ki t t_all t_reasons t_text t_word t_order t_rows t_written t_allF t_reasonsF t_textF t_wordF t_orderF t_rowsF t_writtenF q_t_thrown t_changes t_isSaved t_result t_texted t_wordSize t_orderMany t_here t_fault t_faultAt t_commandMany t_writtenSize)) → aT p l e ({ frames := 4, cells := 0, slots := 0, locals := 89 } : Room) s m args below meth c (MQ below (aQi D (wX9 kc ki t t_all t_reasons t_text t_word t_order t_rows t_written t_allF t_reasonsF t_textF t_wordF t_orderF t_rowsF t_writtenF t_thrown t_changes t_isSaved t_result t_texted t_wordSize t_orderMany t_here t_fault t_faultAt t_commandMany t_writtenSize) s.heap.size (fun r => r.1) (fun r => wX9 kc ki t t_all t_reasons t_text t_word t_order t_rows t_written t_allF t_reasonsF t_textF t_wordF t_orderF t_rowsF t_writtenF r.2 t_changes t_isSaved t_result t_texted t_wordSize t_orderMany t_here t_fault t_faultAt t_commandMany t_writtenSize) res) args s 0 0 (va_A (wX9 kc ki t t_all t_reasons t_text t_word t_order t_rows t_written t_allF t_reasonsF t_textF t_wordF t_orderF t_rowsF t_writtenF t_thrown t_changes t_isSaved t_result t_texted t_wordSize t_orderMany t_here t_fault t_faultAt t_commandMany t_writtenSize) s.heap.size)) D (va_A (wX9 kc ki t t_all t_reasons t_text t_word t_order t_rows t_written t_allF t_reasonsF t_textF t_wordF t_orderF t_rowsF t_writtenF t_thrown t_changes t_isSaved t_result t_texted t_wordSize t_orderMany t_here t_fault t_faultAt t_commandMany t_writtenSize) s.heap.size) 4 0 0 9 [(0, .ref t), (1, .int x1), (2, .int x2)] [] (wX9 kc ki t t_all t_reasons t_text t_word t_order t_rows t_written t_allF t_reasonsF t_textF t_wordF t_orderF t_rowsF t_writtenF q_t_thrown t_changes t_isSaved t_result t_texted t_wordSize t_orderMany t_here t_fault t_faultAt t_commandMany t_writtenSize) := by
    intro q_t_thrown fuel
    induction fuel with
    | zero => intro x1 x2 k hF hX; exact nomatch hF
    | succ fuel ih =>
      intro x1 x2 k hF hX
      rw [f_X9_kinds_L9] at hF
      refine a_iload_n C 2 dX9_kinds_9 rfl rfl ?_
      refine a_aload_n C 0 dX9_kinds_10 rfl rfl ?_
      refine a_callVir C 0 [0, 1, 2, 3, 4, 5, 6, 7] 0 cs_X9_53 hd_X9_many ⟨rfl, rfl⟩ ⟨Nat.le_of_ble_eq_true rfl, Nat.le_of_ble_eq_true rfl⟩ (fun r h => c_X9_many l D J kc ki kb kl kd t t_all t_reasons t_text t_word t_order t_rows t_written t_allF t_reasonsF t_textF t_wordF t_orderF t_rowsF t_writtenF q_t_thrown t_changes t_isSaved t_result t_texted t_wordSize t_orderMany t_here t_fault t_faultAt t_commandMany t_writtenSize r h) rfl rfl rfl rfl rfl rfl (Nat.le_of_ble_eq_true rfl) dX9_kinds_11 ⟨Nat.zero_le _, Nat.zero_le _⟩ hF (fun r11_1 er11_1 hF => ?_)
      refine a_ic_ge C (tgt := 53) dX9_kinds_14 (by decide) hF (fun c14_2 hF => ?_) (fun c14_2 hF => ?_)
      · refine a_sub C [1] [(1, .int x1)] rfl ?_
        exact hX x1 x2 hF
      refine a_iconst C (v := 0) dX9_kinds_17 (by decide) ?_
      refine a_istore_n C [(3, .int 0), (0, .ref t), (1, .int x1), (2, .int x2)] dX9_kinds_18 rfl (by decide) rfl ?_
      refine a_sub C [1, 2, 3, 0] [(0, .ref t), (1, .int x1), (2, .int x2), (3, .int 0)] rfl ?_
      refine hI19 x1 x2 q_t_thrown 1000 0 _ hF (fun x3_19_5 hF => ?_)
      refine a_iload_n C 1 dX9_kinds_34 rfl rfl ?_
      refine a_iload_n C 3 dX9_kinds_35 rfl rfl ?_
      refine a_iload_n C 2 dX9_kinds_36 rfl rfl ?_
      refine a_ic_ne C (tgt := 44) dX9_kinds_37 (by decide) hF (fun c37_6 hF => ?_) (fun c37_6 hF => ?_)
      · refine a_iconst C (v := 0) dX9_kinds_44 (by decide) ?_
        refine a_iadd C dX9_kinds_45 ?_
        refine a_istore_n C [(1, .int (x1 + 0)), (0, .ref t), (2, .int x2), (3, .int x3_19_5)] dX9_kinds_46 rfl (by decide) rfl ?_
        refine a_iinc C 2 [(2, .int (x2 + 1)), (1, .int (x1 + 0)), (0, .ref t), (3, .int x3_19_5)] dX9_kinds_47 rfl rfl (by decide) rfl ?_
        refine a_goto C (tgt := 9) dX9_kinds_50 (by decide) ?_
        refine a_sub C [2, 1, 0] [(0, .ref t), (1, .int (x1 + 0)), (2, .int (x2 + 1))] rfl ?_
        exact ih (x1 + 0) (x2 + 1) k hF hX
      refine a_iconst C (v := 1) dX9_kinds_40 (by decide) ?_
      refine a_goto C (tgt := 45) dX9_kinds_41 (by decide) ?_
      refine a_iadd C dX9_kinds_45 ?_
      refine a_istore_n C [(1, .int (x1 + 1)), (0, .ref t), (2, .int x2), (3, .int x3_19_5)] dX9_kinds_46 rfl (by decide) rfl ?_
      refine a_iinc C 2 [(2, .int (x2 + 1)), (1, .int (x1 + 1)), (0, .ref t), (3, .int x3_19_5)] dX9_kinds_47 rfl rfl (by decide) rfl ?_
      refine a_goto C (tgt := 9) dX9_kinds_50 (by decide) ?_
      refine a_sub C [2, 1, 0] [(0, .ref t), (1, .int (x1 + 1)), (2, .int (x2 + 1))] rfl ?_
      exact ih (x1 + 1) (x2 + 1) k hF hX
  unfold f_X9_kinds at hF
  refine a_aload_n C 0 dX9_kinds_0 rfl rfl ?_
  refine a_iconst C (v := 0) dX9_kinds_1 (by decide) ?_
  refine a_put C 0 0 iwX9 tyX9_ok nmX9 rfl rfl (by decide) kf_X9_36 rfl rfl rfl (Nat.le_of_ble_eq_true rfl) dX9_kinds_2 ?_
  refine a_ws C (ws' := wX9 kc ki t t_all t_reasons t_text t_word t_order t_rows t_written t_allF t_reasonsF t_textF t_wordF t_orderF t_rowsF t_writtenF 0 t_changes t_isSaved t_result t_texted t_wordSize t_orderMany t_here t_fault t_faultAt t_commandMany t_writtenSize) rfl ?_
  refine a_iconst C (v := 0) dX9_kinds_5 (by decide) ?_
  refine a_istore_n C [(1, .int 0), (0, .ref t)] dX9_kinds_6 rfl (by decide) rfl ?_
  refine a_iconst C (v := 0) dX9_kinds_7 (by decide) ?_
  refine a_istore_n C [(2, .int 0), (1, .int 0), (0, .ref t)] dX9_kinds_8 rfl (by decide) rfl ?_
  refine a_sub C [2, 1, 0] [(0, .ref t), (1, .int 0), (2, .int 0)] rfl ?_
  refine hI9 0 1000 0 0 _ hF (fun x1_9_7 x2_9_8 hF => ?_)
  refine a_iload_n C 0 dX9_kinds_53 rfl rfl ?_
  exact a_iret C hr rfl dX9_kinds_54 hF rfl rfl
def f_X9_beginsWith_L16 (p1 : Int32) (t_allF : Nat → Int32) (t_wordF : Nat → Int32) (t_wordSize : Int32) : Nat → Int32 → (Int32 → Option Int32) → Option Int32
  | 0, _, _ => none
  | fuel + 1, x2, k => if t_wordSize ≤ x2 then (k x2) else ((f_X9_letterOf t_allF p1 x2).bind fun r27_4 => (ldi t_wordF 10 x2).bind fun v35_5 => if r27_4 = v35_5 then (f_X9_beginsWith_L16 p1 t_allF t_wordF t_wordSize fuel (x2 + 1) k) else (some 0))
def f_X9_beginsWith (t_allF : Nat → Int32) (t_wordF : Nat → Int32) (t_wordSize : Int32) (p1 : Int32) : Option Int32 := (f_X9_left t_allF p1).bind fun r2_1 => if t_wordSize ≤ r2_1 then (f_X9_beginsWith_L16 p1 t_allF t_wordF t_wordSize 1000 0 (fun x2_16_7 => some 1)) else (some 0)
theorem hd_X9_beginsWith : yX9_beginsWith.cls = RX9 ∧ yX9_beginsWith.cls ≠ "java/lang/invoke/MethodHandle" ∧ yX9_beginsWith.cls ≠ "java/lang/invoke/VarHandle" ∧ (parseMethodDescriptor yX9_beginsWith.desc).map (fun d => d.parameters.length) = some 1 := by decide +kernel
set_option maxRecDepth 100000 in
set_option maxHeartbeats 4000000 in
theorem c_X9_beginsWith (l : Launch) (D : va_G) (J : (Nat → Nat) × (Nat → Nat)) (kc ki kb kl kd : ClassId) (t : Nat) (t_all : Nat) (t_reasons : Nat) (t_text : Nat) (t_word : Nat) (t_order : Nat) (t_rows : Nat) (t_written : Nat) (t_allF : Nat → Int32) (t_reasonsF : Nat → Int32) (t_textF : Nat → Int32) (t_wordF : Nat → Int32) (t_orderF : Nat → Int32) (t_rowsF : Nat → Int32) (t_writtenF : Nat → Int32) (t_thrown : Int32) (t_changes : Int32) (t_isSaved : Int32) (t_result : Int32) (t_texted : Int32) (t_wordSize : Int32) (t_orderMany : Int32) (t_here : Int32) (t_fault : Int32) (t_faultAt : Int32) (t_commandMany : Int32) (t_writtenSize : Int32) (p1 : Int32) (res : Int32) (hF : f_X9_beginsWith t_allF t_wordF t_wordSize p1 = some res) : aKi l yX9_beginsWith (aW yX9_beginsWith cX9_beginsWith 3 ((some .boolean))) ({ frames := 2, cells := 0, slots := 0, locals := 44 } : Room) D J (aTy kc ki kb kl kd) [.ref t, .int p1] (wX9 kc ki t t_all t_reasons t_text t_word t_order t_rows t_written t_allF t_reasonsF t_textF t_wordF t_orderF t_rowsF t_writtenF t_thrown t_changes t_isSaved t_result t_texted t_wordSize t_orderMany t_here t_fault t_faultAt t_commandMany t_writtenSize) (fun r => r) (fun _ => wX9 kc ki t t_all t_reasons t_text t_word t_order t_rows t_written t_allF t_reasonsF t_textF t_wordF t_orderF t_rowsF t_writtenF t_thrown t_changes t_isSaved t_result t_texted t_wordSize t_orderMany t_here t_fault t_faultAt t_commandMany t_writtenSize) res := by
  refine aKi_of (own := RX9) (by decide) rfl (Nat.le_of_ble_eq_true rfl) rfl ?_
  intro p e s m args below meth c C hr
  have hI16 : ∀ (fuel : Nat) (x2 : Int32) (k : Int32 → Option Int32), f_X9_beginsWith_L16 p1 t_allF t_wordF t_wordSize fuel x2 k = some res → (∀ (x2 : Int32), k x2 = some res → aT p l e ({ frames := 2, cells := 0, slots := 0, locals := 44 } : Room) s m args below meth c (MQ below (aQi D (wX9 kc ki t t_all t_reasons t_text t_word t_order t_rows t_written t_allF t_reasonsF t_textF t_wordF t_orderF t_rowsF t_writtenF t_thrown t_changes t_isSaved t_result t_texted t_wordSize t_orderMany t_here t_fault t_faultAt t_commandMany t_writtenSize) s.heap.size (fun r => r) (fun _ => wX9 kc ki t t_all t_reasons t_text t_word t_order t_rows t_written t_allF t_reasonsF t_textF t_wordF t_orderF t_rowsF t_writtenF t_thrown t_changes t_isSaved t_result t_texted t_wordSize t_orderMany t_here t_fault t_faultAt t_commandMany t_writtenSize) res) args s 0 0 (va_A (wX9 kc ki t t_all t_reasons t_text t_word t_order t_rows t_written t_allF t_reasonsF t_textF t_wordF t_orderF t_rowsF t_writtenF t_thrown t_changes t_isSaved t_result t_texted t_wordSize t_orderMany t_here t_fault t_faultAt t_commandMany t_writtenSize) s.heap.size)) D (va_A (wX9 kc ki t t_all t_reasons t_text t_word t_order t_rows t_written t_allF t_reasonsF t_textF t_wordF t_orderF t_rowsF t_writtenF t_thrown t_changes t_isSaved t_result t_texted t_wordSize t_orderMany t_here t_fault t_faultAt t_commandMany t_writtenSize) s.heap.size) 3 0 0 47 [] [] (wX9 kc ki t t_all t_reasons t_text t_word t_order t_rows t_written t_allF t_reasonsF t_textF t_wordF t_orderF t_rowsF t_writtenF t_thrown t_changes t_isSaved t_result t_texted t_wordSize t_orderMany t_here t_fault t_faultAt t_commandMany t_writtenSize)) → aT p l e ({ frames := 2, cells := 0, slots := 0, locals := 44 } : Room) s m args below meth c (MQ below (aQi D (wX9 kc ki t t_all t_reasons t_text t_word t_order t_rows t_written t_allF t_reasonsF t_textF t_wordF t_orderF t_rowsF t_writtenF t_thrown t_changes t_isSaved t_result t_texted t_wordSize t_orderMany t_here t_fault t_faultAt t_commandMany t_writtenSize) s.heap.size (fun r => r) (fun _ => wX9 kc ki t t_all t_reasons t_text t_word t_order t_rows t_written t_allF t_reasonsF t_textF t_wordF t_orderF t_rowsF t_writtenF t_thrown t_changes t_isSaved t_result t_texted t_wordSize t_orderMany t_here t_fault t_faultAt t_commandMany t_writtenSize) res) args s 0 0 (va_A (wX9 kc ki t t_all t_reasons t_text t_word t_order t_rows t_written t_allF t_reasonsF t_textF t_wordF t_orderF t_rowsF t_writtenF t_thrown t_changes t_isSaved t_result t_texted t_wordSize t_orderMany t_here t_fault t_faultAt t_commandMany t_writtenSize) s.heap.size)) D (va_A (wX9 kc ki t t_all t_reasons t_text t_word t_order t_rows t_written t_allF t_reasonsF t_textF t_wordF t_orderF t_rowsF t_writtenF t_thrown t_changes t_isSaved t_result t_texted t_wordSize t_orderMany t_here t_fault t_faultAt t_commandMany t_writtenSize) s.heap.size) 3 0 0 16 [(0, .ref t), (1, .int p1), (2, .int x2)] [] (wX9 kc ki t t_all t_reasons t_text t_word t_order t_rows t_written t_allF t_reasonsF t_textF t_wordF t_orderF t_rowsF t_writtenF t_thrown t_changes t_isSaved t_result t_texted t_wordSize t_orderMany t_here t_fault t_faultAt t_commandMany t_writtenSize) := by
    intro fuel
    induction fuel with
    | zero => intro x2 k hF hX; exact nomatch hF
    | succ fuel ih =>
      intro x2 k hF hX
      rw [f_X9_beginsWith_L16] at hF
      refine a_iload_n C 2 dX9_beginsWith_16 rfl rfl ?_
      refine a_aload_n C 0 dX9_beginsWith_17 rfl rfl ?_
      refine a_get C 0 9 iwX9 rfl rfl (by decide) kf_X9_72 rfl dX9_beginsWith_18 ?_
      refine a_ic_ge C (tgt := 47) dX9_beginsWith_21 (by decide) hF (fun c21_3 hF => ?_) (fun c21_3 hF => ?_)
      · refine a_sub C [] [] rfl ?_
        exact hX x2 hF
      refine a_aload_n C 0 dX9_beginsWith_24 rfl rfl ?_
      refine a_iload_n C 1 dX9_beginsWith_25 rfl rfl ?_
      refine a_iload_n C 2 dX9_beginsWith_26 rfl rfl ?_
      refine a_callVir C 2 [0, 1, 2, 3, 4, 5, 6, 7] 0 cs_X9_135 hd_X9_letterOf ⟨rfl, rfl⟩ ⟨Nat.le_of_ble_eq_true rfl, Nat.le_of_ble_eq_true rfl⟩ (fun r h => c_X9_letterOf l D J kc ki kb kl kd t t_all t_reasons t_text t_word t_order t_rows t_written t_allF t_reasonsF t_textF t_wordF t_orderF t_rowsF t_writtenF t_thrown t_changes t_isSaved t_result t_texted t_wordSize t_orderMany t_here t_fault t_faultAt t_commandMany t_writtenSize p1 x2 r h) rfl rfl rfl rfl rfl rfl (Nat.le_of_ble_eq_true rfl) dX9_beginsWith_27 ⟨Nat.zero_le _, Nat.zero_le _⟩ hF (fun r27_4 er27_4 hF => ?_)
      refine a_aload_n C 0 dX9_beginsWith_30 rfl rfl ?_
      refine a_get C 0 8 iwX9 rfl rfl (by decide) kf_X9_20 rfl dX9_beginsWith_31 ?_
      refine a_iload_n C 2 dX9_beginsWith_34 rfl rfl ?_
      refine a_iald C 4 1 rfl rfl dX9_beginsWith_35 hF (fun v35_5 ev35_5 hF => ?_)
      refine a_ic_eq C (tgt := 41) dX9_beginsWith_36 (by decide) hF (fun c36_6 hF => ?_) (fun c36_6 hF => ?_)
      · refine a_iinc C 2 [(2, .int (x2 + 1)), (0, .ref t), (1, .int p1)] dX9_beginsWith_41 rfl rfl (by decide) rfl ?_
        refine a_goto C (tgt := 16) dX9_beginsWith_44 (by decide) ?_
        refine a_sub C [1, 2, 0] [(0, .ref t), (1, .int p1), (2, .int (x2 + 1))] rfl ?_
        exact ih (x2 + 1) k hF hX
      refine a_iconst C (v := 0) dX9_beginsWith_39 (by decide) ?_
      exact a_iret C hr rfl dX9_beginsWith_40 hF rfl rfl
  unfold f_X9_beginsWith at hF
  refine a_aload_n C 0 dX9_beginsWith_0 rfl rfl ?_
  refine a_iload_n C 1 dX9_beginsWith_1 rfl rfl ?_
  refine a_callVir C 1 [0, 1, 2, 3, 4, 5, 6, 7] 0 cs_X9_132 hd_X9_left ⟨rfl, rfl⟩ ⟨Nat.le_of_ble_eq_true rfl, Nat.le_of_ble_eq_true rfl⟩ (fun r h => c_X9_left l D J kc ki kb kl kd t t_all t_reasons t_text t_word t_order t_rows t_written t_allF t_reasonsF t_textF t_wordF t_orderF t_rowsF t_writtenF t_thrown t_changes t_isSaved t_result t_texted t_wordSize t_orderMany t_here t_fault t_faultAt t_commandMany t_writtenSize p1 r h) rfl rfl rfl rfl rfl rfl (Nat.le_of_ble_eq_true rfl) dX9_beginsWith_2 ⟨Nat.zero_le _, Nat.zero_le _⟩ hF (fun r2_1 er2_1 hF => ?_)
  refine a_aload_n C 0 dX9_beginsWith_5 rfl rfl ?_
  refine a_get C 0 9 iwX9 rfl rfl (by decide) kf_X9_72 rfl dX9_beginsWith_6 ?_
  refine a_ic_ge C (tgt := 14) dX9_beginsWith_9 (by decide) hF (fun c9_2 hF => ?_) (fun c9_2 hF => ?_)
  · refine a_iconst C (v := 0) dX9_beginsWith_14 (by decide) ?_
    refine a_istore_n C [(2, .int 0), (0, .ref t), (1, .int p1)] dX9_beginsWith_15 rfl (by decide) rfl ?_
    refine a_sub C [1, 2, 0] [(0, .ref t), (1, .int p1), (2, .int 0)] rfl ?_
    refine hI16 1000 0 _ hF (fun x2_16_7 hF => ?_)
    refine a_iconst C (v := 1) dX9_beginsWith_47 (by decide) ?_
    exact a_iret C hr rfl dX9_beginsWith_48 hF rfl rfl
  refine a_iconst C (v := 0) dX9_beginsWith_12 (by decide) ?_
  exact a_iret C hr rfl dX9_beginsWith_13 hF rfl rfl
theorem cs_X9_177 : GoodIn WW (wsV RX9 177 RX9 yX9_beginsWith (aW yX9_beginsWith cX9_beginsWith 3 ((some .boolean)))) := gdV kl_X9_177 ki_X9_beginsWith kv_X9_beginsWith kn_X9 kc_X9_beginsWith
def f_X9_finds1_L8 (q_t_orderF : Nat → Int32) (q_t_orderMany : Int32) (t_allF : Nat → Int32) (t_wordF : Nat → Int32) (t_wordSize : Int32) : Nat → Int32 → Int32 → (Int32 → Int32 → Option (Int32 × (Nat → Int32) × Int32)) → Option (Int32 × (Nat → Int32) × Int32)
  | 0, _, _, _ => none
  | fuel + 1, x1, x2, k => if q_t_orderMany ≤ x2 then (k x1 x2) else ((ldi q_t_orderF 80 x2).bind fun v23_3 => (f_X9_beginsWith t_allF t_wordF t_wordSize v23_3).bind fun r24_4 => if r24_4 = 0 then (f_X9_finds1_L8 q_t_orderF q_t_orderMany t_allF t_wordF t_wordSize fuel (x1 + 0) (x2 + 1) k) else (f_X9_finds1_L8 q_t_orderF q_t_orderMany t_allF t_wordF t_wordSize fuel (x1 + 1) (x2 + 1) k))
def f_X9_finds1 (t_allF : Nat → Int32) (t_wordF : Nat → Int32) (t_orderF : Nat → Int32) (t_wordSize : Int32) : Option (Int32 × (Nat → Int32) × Int32) := (f_X9_orders t_allF t_orderF).bind fun r1_1 => f_X9_finds1_L8 r1_1.1 r1_1.2 t_allF t_wordF t_wordSize 1000 0 0 (fun x1_8_6 x2_8_7 => some (x1_8_6, r1_1.1, r1_1.2))
theorem hd_X9_finds1 : yX9_finds1.cls = RX9 ∧ yX9_finds1.cls ≠ "java/lang/invoke/MethodHandle" ∧ yX9_finds1.cls ≠ "java/lang/invoke/VarHandle" ∧ (parseMethodDescriptor yX9_finds1.desc).map (fun d => d.parameters.length) = some 0 := by decide +kernel
set_option maxRecDepth 100000 in
set_option maxHeartbeats 4000000 in
theorem c_X9_finds1 (l : Launch) (D : va_G) (J : (Nat → Nat) × (Nat → Nat)) (kc ki kb kl kd : ClassId) (t : Nat) (t_all : Nat) (t_reasons : Nat) (t_text : Nat) (t_word : Nat) (t_order : Nat) (t_rows : Nat) (t_written : Nat) (t_allF : Nat → Int32) (t_reasonsF : Nat → Int32) (t_textF : Nat → Int32) (t_wordF : Nat → Int32) (t_orderF : Nat → Int32) (t_rowsF : Nat → Int32) (t_writtenF : Nat → Int32) (t_thrown : Int32) (t_changes : Int32) (t_isSaved : Int32) (t_result : Int32) (t_texted : Int32) (t_wordSize : Int32) (t_orderMany : Int32) (t_here : Int32) (t_fault : Int32) (t_faultAt : Int32) (t_commandMany : Int32) (t_writtenSize : Int32) (res : Int32 × (Nat → Int32) × Int32) (hF : f_X9_finds1 t_allF t_wordF t_orderF t_wordSize = some res) : aKi l yX9_finds1 (aW yX9_finds1 cX9_finds1 3 ((some .int))) ({ frames := 5, cells := 0, slots := 0, locals := 114 } : Room) D J (aTy kc ki kb kl kd) [.ref t] (wX9 kc ki t t_all t_reasons t_text t_word t_order t_rows t_written t_allF t_reasonsF t_textF t_wordF t_orderF t_rowsF t_writtenF t_thrown t_changes t_isSaved t_result t_texted t_wordSize t_orderMany t_here t_fault t_faultAt t_commandMany t_writtenSize) (fun r => r.1) (fun r => wX9 kc ki t t_all t_reasons t_text t_word t_order t_rows t_written t_allF t_reasonsF t_textF t_wordF r.2.1 t_rowsF t_writtenF t_thrown t_changes t_isSaved t_result t_texted t_wordSize r.2.2 t_here t_fault t_faultAt t_commandMany t_writtenSize) res := by
  refine aKi_of (own := RX9) (by decide) rfl (Nat.le_of_ble_eq_true rfl) rfl ?_
  intro p e s m args below meth c C hr
  have hI8 : ∀ (q_t_orderF : Nat → Int32) (q_t_orderMany : Int32) (fuel : Nat) (x1 : Int32) (x2 : Int32) (k : Int32 → Int32 → Option (Int32 × (Nat → Int32) × Int32)), f_X9_finds1_L8 q_t_orderF q_t_orderMany t_allF t_wordF t_wordSize fuel x1 x2 k = some res → (∀ (x1 : Int32) (x2 : Int32), k x1 x2 = some res → aT p l e ({ frames := 5, cells := 0, slots := 0, locals := 114 } : Room) s m args below meth c (MQ below (aQi D (wX9 kc ki t t_all t_reasons t_text t_word t_order t_rows t_written t_allF t_reasonsF t_textF t_wordF t_orderF t_rowsF t_writtenF t_thrown t_changes t_isSaved t_result t_texted t_wordSize t_orderMany t_here t_fault t_faultAt t_commandMany t_writtenSize) s.heap.size (fun r => r.1) (fun r => wX9 kc ki t t_all t_reasons t_text t_word t_order t_rows t_written t_allF t_reasonsF t_textF t_wordF r.2.1 t_rowsF t_writtenF t_thrown t_changes t_isSaved t_result t_texted t_wordSize r.2.2 t_here t_fault t_faultAt t_commandMany t_writtenSize) res) args s 0 0 (va_A (wX9 kc ki t t_all t_reasons t_text t_word t_order t_rows t_written t_allF t_reasonsF t_textF t_wordF t_orderF t_rowsF t_writtenF t_thrown t_changes t_isSaved t_result t_texted t_wordSize t_orderMany t_here t_fault t_faultAt t_commandMany t_writtenSize) s.heap.size)) D (va_A (wX9 kc ki t t_all t_reasons t_text t_word t_order t_rows t_written t_allF t_reasonsF t_textF t_wordF t_orderF t_rowsF t_writtenF t_thrown t_changes t_isSaved t_result t_texted t_wordSize t_orderMany t_here t_fault t_faultAt t_commandMany t_writtenSize) s.heap.size) 3 0 0 43 [(1, .int x1)] [] (wX9 kc ki t t_all t_reasons t_text t_word t_order t_rows t_written t_allF t_reasonsF t_textF t_wordF q_t_orderF t_rowsF t_writtenF t_thrown t_changes t_isSaved t_result t_texted t_wordSize q_t_orderMany t_here t_fault t_faultAt t_commandMany t_writtenSize)) → aT p l e ({ frames := 5, cells := 0, slots := 0, locals := 114 } : Room) s m args below meth c (MQ below (aQi D (wX9 kc ki t t_all t_reasons t_text t_word t_order t_rows t_written t_allF t_reasonsF t_textF t_wordF t_orderF t_rowsF t_writtenF t_thrown t_changes t_isSaved t_result t_texted t_wordSize t_orderMany t_here t_fault t_faultAt t_commandMany t_writtenSize) s.heap.size (fun r => r.1) (fun r => wX9 kc ki t t_all t_reasons t_text t_word t_order t_rows t_written t_allF t_reasonsF t_textF t_wordF r.2.1 t_rowsF t_writtenF t_thrown t_changes t_isSaved t_result t_texted t_wordSize r.2.2 t_here t_fault t_faultAt t_commandMany t_writtenSize) res) args s 0 0 (va_A (wX9 kc ki t t_all t_reasons t_text t_word t_order t_rows t_written t_allF t_reasonsF t_textF t_wordF t_orderF t_rowsF t_writtenF t_thrown t_changes t_isSaved t_result t_texted t_wordSize t_orderMany t_here t_fault t_faultAt t_commandMany t_writtenSize) s.heap.size)) D (va_A (wX9 kc ki t t_all t_reasons t_text t_word t_order t_rows t_written t_allF t_reasonsF t_textF t_wordF t_orderF t_rowsF t_writtenF t_thrown t_changes t_isSaved t_result t_texted t_wordSize t_orderMany t_here t_fault t_faultAt t_commandMany t_writtenSize) s.heap.size) 3 0 0 8 [(0, .ref t), (1, .int x1), (2, .int x2)] [] (wX9 kc ki t t_all t_reasons t_text t_word t_order t_rows t_written t_allF t_reasonsF t_textF t_wordF q_t_orderF t_rowsF t_writtenF t_thrown t_changes t_isSaved t_result t_texted t_wordSize q_t_orderMany t_here t_fault t_faultAt t_commandMany t_writtenSize) := by
    intro q_t_orderF q_t_orderMany fuel
    induction fuel with
    | zero => intro x1 x2 k hF hX; exact nomatch hF
    | succ fuel ih =>
      intro x1 x2 k hF hX
      rw [f_X9_finds1_L8] at hF
      refine a_iload_n C 2 dX9_finds1_8 rfl rfl ?_
      refine a_aload_n C 0 dX9_finds1_9 rfl rfl ?_
      refine a_get C 0 11 iwX9 rfl rfl (by decide) kf_X9_141 rfl dX9_finds1_10 ?_
      refine a_ic_ge C (tgt := 43) dX9_finds1_13 (by decide) hF (fun c13_2 hF => ?_) (fun c13_2 hF => ?_)
      · refine a_sub C [1] [(1, .int x1)] rfl ?_
        exact hX x1 x2 hF
      refine a_iload_n C 1 dX9_finds1_16 rfl rfl ?_
      refine a_aload_n C 0 dX9_finds1_17 rfl rfl ?_
      refine a_aload_n C 0 dX9_finds1_18 rfl rfl ?_
      refine a_get C 0 10 iwX9 rfl rfl (by decide) kf_X9_23 rfl dX9_finds1_19 ?_
      refine a_iload_n C 2 dX9_finds1_22 rfl rfl ?_
      refine a_iald C 5 1 rfl rfl dX9_finds1_23 hF (fun v23_3 ev23_3 hF => ?_)
      refine a_callVir C 1 [0, 1, 2, 3, 4, 5, 6, 7] 0 cs_X9_177 hd_X9_beginsWith ⟨rfl, rfl⟩ ⟨Nat.le_of_ble_eq_true rfl, Nat.le_of_ble_eq_true rfl⟩ (fun r h => c_X9_beginsWith l D J kc ki kb kl kd t t_all t_reasons t_text t_word t_order t_rows t_written t_allF t_reasonsF t_textF t_wordF q_t_orderF t_rowsF t_writtenF t_thrown t_changes t_isSaved t_result t_texted t_wordSize q_t_orderMany t_here t_fault t_faultAt t_commandMany t_writtenSize v23_3 r h) rfl rfl rfl rfl rfl rfl (Nat.le_of_ble_eq_true rfl) dX9_finds1_24 ⟨Nat.zero_le _, Nat.zero_le _⟩ hF (fun r24_4 er24_4 hF => ?_)
      refine a_if_eq C (tgt := 34) dX9_finds1_27 (by decide) hF (fun c27_5 hF => ?_) (fun c27_5 hF => ?_)
      · refine a_iconst C (v := 0) dX9_finds1_34 (by decide) ?_
        refine a_iadd C dX9_finds1_35 ?_
        refine a_istore_n C [(1, .int (x1 + 0)), (0, .ref t), (2, .int x2)] dX9_finds1_36 rfl (by decide) rfl ?_
        refine a_iinc C 2 [(2, .int (x2 + 1)), (1, .int (x1 + 0)), (0, .ref t)] dX9_finds1_37 rfl rfl (by decide) rfl ?_
        refine a_goto C (tgt := 8) dX9_finds1_40 (by decide) ?_
        refine a_sub C [2, 1, 0] [(0, .ref t), (1, .int (x1 + 0)), (2, .int (x2 + 1))] rfl ?_
        exact ih (x1 + 0) (x2 + 1) k hF hX
      refine a_iconst C (v := 1) dX9_finds1_30 (by decide) ?_
      refine a_goto C (tgt := 35) dX9_finds1_31 (by decide) ?_
      refine a_iadd C dX9_finds1_35 ?_
      refine a_istore_n C [(1, .int (x1 + 1)), (0, .ref t), (2, .int x2)] dX9_finds1_36 rfl (by decide) rfl ?_
      refine a_iinc C 2 [(2, .int (x2 + 1)), (1, .int (x1 + 1)), (0, .ref t)] dX9_finds1_37 rfl rfl (by decide) rfl ?_
      refine a_goto C (tgt := 8) dX9_finds1_40 (by decide) ?_
      refine a_sub C [2, 1, 0] [(0, .ref t), (1, .int (x1 + 1)), (2, .int (x2 + 1))] rfl ?_
      exact ih (x1 + 1) (x2 + 1) k hF hX
  unfold f_X9_finds1 at hF
  refine a_aload_n C 0 dX9_finds1_0 rfl rfl ?_
  refine a_callVv C 0 [0, 1, 2, 3, 4, 5, 6, 7] 0 cs_X9_147 hd_X9_orders ⟨rfl, rfl⟩ ⟨Nat.le_of_ble_eq_true rfl, Nat.le_of_ble_eq_true rfl⟩ (fun r h => c_X9_orders l D J kc ki kb kl kd t t_all t_reasons t_text t_word t_order t_rows t_written t_allF t_reasonsF t_textF t_wordF t_orderF t_rowsF t_writtenF t_thrown t_changes t_isSaved t_result t_texted t_wordSize t_orderMany t_here t_fault t_faultAt t_commandMany t_writtenSize r h) rfl rfl rfl (fun _ => rfl) rfl rfl rfl (Nat.le_of_ble_eq_true rfl) dX9_finds1_1 ⟨Nat.zero_le _, Nat.zero_le _⟩ hF (fun r1_1 er1_1 hF => ?_)
  refine a_ws C (ws' := wX9 kc ki t t_all t_reasons t_text t_word t_order t_rows t_written t_allF t_reasonsF t_textF t_wordF r1_1.1 t_rowsF t_writtenF t_thrown t_changes t_isSaved t_result t_texted t_wordSize r1_1.2 t_here t_fault t_faultAt t_commandMany t_writtenSize) rfl ?_
  refine a_iconst C (v := 0) dX9_finds1_4 (by decide) ?_
  refine a_istore_n C [(1, .int 0), (0, .ref t)] dX9_finds1_5 rfl (by decide) rfl ?_
  refine a_iconst C (v := 0) dX9_finds1_6 (by decide) ?_
  refine a_istore_n C [(2, .int 0), (1, .int 0), (0, .ref t)] dX9_finds1_7 rfl (by decide) rfl ?_
  refine a_sub C [2, 1, 0] [(0, .ref t), (1, .int 0), (2, .int 0)] rfl ?_
  refine hI8 r1_1.1 r1_1.2 1000 0 0 _ hF (fun x1_8_6 x2_8_7 hF => ?_)
  refine a_iload_n C 0 dX9_finds1_43 rfl rfl ?_
  exact a_iret C hr rfl dX9_finds1_44 hF rfl rfl
theorem cs_X9_180 : GoodIn WW (wsV RX9 180 RX9 yX9_finds1 (aW yX9_finds1 cX9_finds1 3 ((some .int)))) := gdV kl_X9_180 ki_X9_finds1 kv_X9_finds1 kn_X9 kc_X9_finds1
def f_X9_finds_J13 (q_t_wordF : Nat → Int32) (q_t_orderF : Nat → Int32) (q_t_wordSize : Int32) (q_t_orderMany : Int32) (y1 : Int32) (t_allF : Nat → Int32) : Option (Int32 × (Nat → Int32) × (Nat → Int32) × Int32 × Int32 × Int32) := if ¬ y1 = 0 then (some (0, q_t_wordF, q_t_orderF, y1, q_t_wordSize, q_t_orderMany)) else ((f_X9_finds1 t_allF q_t_wordF q_t_orderF q_t_wordSize).bind fun r24_4 => some (r24_4.1, q_t_wordF, r24_4.2.1, y1, q_t_wordSize, r24_4.2.2))
def f_X9_finds (t_allF : Nat → Int32) (t_textF : Nat → Int32) (t_wordF : Nat → Int32) (t_orderF : Nat → Int32) (t_texted : Int32) (t_orderMany : Int32) : Option (Int32 × (Nat → Int32) × (Nat → Int32) × Int32 × Int32 × Int32) := (f_X9_holdsWord t_textF t_wordF t_texted).bind fun r2_1 => if r2_1.1 = 0 then (f_X9_finds_J13 r2_1.2.1 t_orderF r2_1.2.2 t_orderMany 1 t_allF) else (f_X9_finds_J13 r2_1.2.1 t_orderF r2_1.2.2 t_orderMany 0 t_allF)
theorem hd_X9_finds : yX9_finds.cls = RX9 ∧ yX9_finds.cls ≠ "java/lang/invoke/MethodHandle" ∧ yX9_finds.cls ≠ "java/lang/invoke/VarHandle" ∧ (parseMethodDescriptor yX9_finds.desc).map (fun d => d.parameters.length) = some 0 := by decide +kernel
set_option maxRecDepth 100000 in
set_option maxHeartbeats 4000000 in
theorem c_X9_finds (l : Launch) (D : va_G) (J : (Nat → Nat) × (Nat → Nat)) (kc ki kb kl kd : ClassId) (t : Nat) (t_all : Nat) (t_reasons : Nat) (t_text : Nat) (t_word : Nat) (t_order : Nat) (t_rows : Nat) (t_written : Nat) (t_allF : Nat → Int32) (t_reasonsF : Nat → Int32) (t_textF : Nat → Int32) (t_wordF : Nat → Int32) (t_orderF : Nat → Int32) (t_rowsF : Nat → Int32) (t_writtenF : Nat → Int32) (t_thrown : Int32) (t_changes : Int32) (t_isSaved : Int32) (t_result : Int32) (t_texted : Int32) (t_wordSize : Int32) (t_orderMany : Int32) (t_here : Int32) (t_fault : Int32) (t_faultAt : Int32) (t_commandMany : Int32) (t_writtenSize : Int32) (res : Int32 × (Nat → Int32) × (Nat → Int32) × Int32 × Int32 × Int32) (hF : f_X9_finds t_allF t_textF t_wordF t_orderF t_texted t_orderMany = some res) : aKi l yX9_finds (aW yX9_finds cX9_finds 1 ((some .int))) ({ frames := 6, cells := 0, slots := 0, locals := 136 } : Room) D J (aTy kc ki kb kl kd) [.ref t] (wX9 kc ki t t_all t_reasons t_text t_word t_order t_rows t_written t_allF t_reasonsF t_textF t_wordF t_orderF t_rowsF t_writtenF t_thrown t_changes t_isSaved t_result t_texted t_wordSize t_orderMany t_here t_fault t_faultAt t_commandMany t_writtenSize) (fun r => r.1) (fun r => wX9 kc ki t t_all t_reasons t_text t_word t_order t_rows t_written t_allF t_reasonsF t_textF r.2.1 r.2.2.1 t_rowsF t_writtenF r.2.2.2.1 t_changes t_isSaved t_result t_texted r.2.2.2.2.1 r.2.2.2.2.2 t_here t_fault t_faultAt t_commandMany t_writtenSize) res := by
  refine aKi_of (own := RX9) (by decide) rfl (Nat.le_of_ble_eq_true rfl) rfl ?_
  intro p e s m args below meth c C hr
  have hJ13 : ∀ (q_t_wordF : Nat → Int32) (q_t_orderF : Nat → Int32) (q_t_thrown : Int32) (q_t_wordSize : Int32) (q_t_orderMany : Int32) (y1 : Int32), f_X9_finds_J13 q_t_wordF q_t_orderF q_t_wordSize q_t_orderMany y1 t_allF = some res → aT p l e ({ frames := 6, cells := 0, slots := 0, locals := 136 } : Room) s m args below meth c (MQ below (aQi D (wX9 kc ki t t_all t_reasons t_text t_word t_order t_rows t_written t_allF t_reasonsF t_textF t_wordF t_orderF t_rowsF t_writtenF t_thrown t_changes t_isSaved t_result t_texted t_wordSize t_orderMany t_here t_fault t_faultAt t_commandMany t_writtenSize) s.heap.size (fun r => r.1) (fun r => wX9 kc ki t t_all t_reasons t_text t_word t_order t_rows t_written t_allF t_reasonsF t_textF r.2.1 r.2.2.1 t_rowsF t_writtenF r.2.2.2.1 t_changes t_isSaved t_result t_texted r.2.2.2.2.1 r.2.2.2.2.2 t_here t_fault t_faultAt t_commandMany t_writtenSize) res) args s 0 0 (va_A (wX9 kc ki t t_all t_reasons t_text t_word t_order t_rows t_written t_allF t_reasonsF t_textF t_wordF t_orderF t_rowsF t_writtenF t_thrown t_changes t_isSaved t_result t_texted t_wordSize t_orderMany t_here t_fault t_faultAt t_commandMany t_writtenSize) s.heap.size)) D (va_A (wX9 kc ki t t_all t_reasons t_text t_word t_order t_rows t_written t_allF t_reasonsF t_textF t_wordF t_orderF t_rowsF t_writtenF t_thrown t_changes t_isSaved t_result t_texted t_wordSize t_orderMany t_here t_fault t_faultAt t_commandMany t_writtenSize) s.heap.size) 1 0 0 13 [(0, .ref t)] [.int y1, .ref t] (wX9 kc ki t t_all t_reasons t_text t_word t_order t_rows t_written t_allF t_reasonsF t_textF q_t_wordF q_t_orderF t_rowsF t_writtenF q_t_thrown t_changes t_isSaved t_result t_texted q_t_wordSize q_t_orderMany t_here t_fault t_faultAt t_commandMany t_writtenSize) := by
    intro q_t_wordF q_t_orderF q_t_thrown q_t_wordSize q_t_orderMany y1 hF
    unfold f_X9_finds_J13 at hF
    refine a_put C 0 0 iwX9 tyX9_ok nmX9 rfl rfl (by decide) kf_X9_36 rfl rfl rfl (Nat.le_of_ble_eq_true rfl) dX9_finds_13 ?_
    refine a_ws C (ws' := wX9 kc ki t t_all t_reasons t_text t_word t_order t_rows t_written t_allF t_reasonsF t_textF q_t_wordF q_t_orderF t_rowsF t_writtenF y1 t_changes t_isSaved t_result t_texted q_t_wordSize q_t_orderMany t_here t_fault t_faultAt t_commandMany t_writtenSize) rfl ?_
    refine a_aload_n C 0 dX9_finds_16 rfl rfl ?_
    refine a_get C 0 0 iwX9 rfl rfl (by decide) kf_X9_36 rfl dX9_finds_17 ?_
    refine a_if_ne C (tgt := 30) dX9_finds_20 (by decide) hF (fun c20_3 hF => ?_) (fun c20_3 hF => ?_)
    · refine a_iconst C (v := 0) dX9_finds_30 (by decide) ?_
      exact a_iret C hr rfl dX9_finds_31 hF rfl rfl
    refine a_aload_n C 0 dX9_finds_23 rfl rfl ?_
    refine a_callVi C 0 [0, 1, 2, 3, 4, 5, 6, 7] 0 cs_X9_180 hd_X9_finds1 ⟨rfl, rfl⟩ ⟨Nat.le_of_ble_eq_true rfl, Nat.le_of_ble_eq_true rfl⟩ (fun r h => c_X9_finds1 l D J kc ki kb kl kd t t_all t_reasons t_text t_word t_order t_rows t_written t_allF t_reasonsF t_textF q_t_wordF q_t_orderF t_rowsF t_writtenF y1 t_changes t_isSaved t_result t_texted q_t_wordSize q_t_orderMany t_here t_fault t_faultAt t_commandMany t_writtenSize r h) rfl rfl rfl (fun _ => rfl) rfl rfl rfl (Nat.le_of_ble_eq_true rfl) dX9_finds_24 ⟨Nat.zero_le _, Nat.zero_le _⟩ hF (fun r24_4 er24_4 hF => ?_)
    refine a_ws C (ws' := wX9 kc ki t t_all t_reasons t_text t_word t_order t_rows t_written t_allF t_reasonsF t_textF q_t_wordF r24_4.2.1 t_rowsF t_writtenF y1 t_changes t_isSaved t_result t_texted q_t_wordSize r24_4.2.2 t_here t_fault t_faultAt t_commandMany t_writtenSize) rfl ?_
    refine a_goto C (tgt := 31) dX9_finds_27 (by decide) ?_
    exact a_iret C hr rfl dX9_finds_31 hF rfl rfl
  unfold f_X9_finds at hF
  refine a_aload_n C 0 dX9_finds_0 rfl rfl ?_
  refine a_aload_n C 0 dX9_finds_1 rfl rfl ?_
  refine a_callVi C 0 [0, 1, 2, 3, 4, 5, 6, 7] 0 cs_X9_79 hd_X9_holdsWord ⟨rfl, rfl⟩ ⟨Nat.le_of_ble_eq_true rfl, Nat.le_of_ble_eq_true rfl⟩ (fun r h => c_X9_holdsWord l D J kc ki kb kl kd t t_all t_reasons t_text t_word t_order t_rows t_written t_allF t_reasonsF t_textF t_wordF t_orderF t_rowsF t_writtenF t_thrown t_changes t_isSaved t_result t_texted t_wordSize t_orderMany t_here t_fault t_faultAt t_commandMany t_writtenSize r h) rfl rfl rfl (fun _ => rfl) rfl rfl rfl (Nat.le_of_ble_eq_true rfl) dX9_finds_2 ⟨Nat.zero_le _, Nat.zero_le _⟩ hF (fun r2_1 er2_1 hF => ?_)
  refine a_ws C (ws' := wX9 kc ki t t_all t_reasons t_text t_word t_order t_rows t_written t_allF t_reasonsF t_textF r2_1.2.1 t_orderF t_rowsF t_writtenF t_thrown t_changes t_isSaved t_result t_texted r2_1.2.2 t_orderMany t_here t_fault t_faultAt t_commandMany t_writtenSize) rfl ?_
  refine a_if_eq C (tgt := 12) dX9_finds_5 (by decide) hF (fun c5_2 hF => ?_) (fun c5_2 hF => ?_)
  · refine a_iconst C (v := 1) dX9_finds_12 (by decide) ?_
    exact hJ13 r2_1.2.1 t_orderF t_thrown r2_1.2.2 t_orderMany 1 hF
  refine a_iconst C (v := 0) dX9_finds_8 (by decide) ?_
  refine a_goto C (tgt := 13) dX9_finds_9 (by decide) ?_
  exact hJ13 r2_1.2.1 t_orderF t_thrown r2_1.2.2 t_orderMany 0 hF
theorem cs_X9_183 : GoodIn WW (wsV RX9 183 RX9 yX9_finds (aW yX9_finds cX9_finds 1 ((some .int)))) := gdV kl_X9_183 ki_X9_finds kv_X9_finds kn_X9 kc_X9_finds
def f_X9_findsAgain (t_allF : Nat → Int32) (t_textF : Nat → Int32) (t_wordF : Nat → Int32) (t_orderF : Nat → Int32) (t_texted : Int32) (t_orderMany : Int32) : Option (Int32 × (Nat → Int32) × (Nat → Int32) × Int32 × Int32 × Int32) := (f_X9_finds t_allF t_textF t_wordF t_orderF t_texted t_orderMany).bind fun r1_1 => some (r1_1.1, r1_1.2.1, r1_1.2.2.1, r1_1.2.2.2.1, r1_1.2.2.2.2.1, r1_1.2.2.2.2.2)
theorem hd_X9_findsAgain : yX9_findsAgain.cls = RX9 ∧ yX9_findsAgain.cls ≠ "java/lang/invoke/MethodHandle" ∧ yX9_findsAgain.cls ≠ "java/lang/invoke/VarHandle" ∧ (parseMethodDescriptor yX9_findsAgain.desc).map (fun d => d.parameters.length) = some 0 := by decide +kernel
set_option maxRecDepth 100000 in
set_option maxHeartbeats 4000000 in
theorem c_X9_findsAgain (l : Launch) (D : va_G) (J : (Nat → Nat) × (Nat → Nat)) (kc ki kb kl kd : ClassId) (t : Nat) (t_all : Nat) (t_reasons : Nat) (t_text : Nat) (t_word : Nat) (t_order : Nat) (t_rows : Nat) (t_written : Nat) (t_allF : Nat → Int32) (t_reasonsF : Nat → Int32) (t_textF : Nat → Int32) (t_wordF : Nat → Int32) (t_orderF : Nat → Int32) (t_rowsF : Nat → Int32) (t_writtenF : Nat → Int32) (t_thrown : Int32) (t_changes : Int32) (t_isSaved : Int32) (t_result : Int32) (t_texted : Int32) (t_wordSize : Int32) (t_orderMany : Int32) (t_here : Int32) (t_fault : Int32) (t_faultAt : Int32) (t_commandMany : Int32) (t_writtenSize : Int32) (res : Int32 × (Nat → Int32) × (Nat → Int32) × Int32 × Int32 × Int32) (hF : f_X9_findsAgain t_allF t_textF t_wordF t_orderF t_texted t_orderMany = some res) : aKi l yX9_findsAgain (aW yX9_findsAgain cX9_findsAgain 1 ((some .int))) ({ frames := 7, cells := 0, slots := 0, locals := 156 } : Room) D J (aTy kc ki kb kl kd) [.ref t] (wX9 kc ki t t_all t_reasons t_text t_word t_order t_rows t_written t_allF t_reasonsF t_textF t_wordF t_orderF t_rowsF t_writtenF t_thrown t_changes t_isSaved t_result t_texted t_wordSize t_orderMany t_here t_fault t_faultAt t_commandMany t_writtenSize) (fun r => r.1) (fun r => wX9 kc ki t t_all t_reasons t_text t_word t_order t_rows t_written t_allF t_reasonsF t_textF r.2.1 r.2.2.1 t_rowsF t_writtenF r.2.2.2.1 t_changes t_isSaved t_result t_texted r.2.2.2.2.1 r.2.2.2.2.2 t_here t_fault t_faultAt t_commandMany t_writtenSize) res := by
  refine aKi_of (own := RX9) (by decide) rfl (Nat.le_of_ble_eq_true rfl) rfl ?_
  intro p e s m args below meth c C hr
  unfold f_X9_findsAgain at hF
  refine a_aload_n C 0 dX9_findsAgain_0 rfl rfl ?_
  refine a_callVi C 0 [0, 1, 2, 3, 4, 5, 6, 7] 0 cs_X9_183 hd_X9_finds ⟨rfl, rfl⟩ ⟨Nat.le_of_ble_eq_true rfl, Nat.le_of_ble_eq_true rfl⟩ (fun r h => c_X9_finds l D J kc ki kb kl kd t t_all t_reasons t_text t_word t_order t_rows t_written t_allF t_reasonsF t_textF t_wordF t_orderF t_rowsF t_writtenF t_thrown t_changes t_isSaved t_result t_texted t_wordSize t_orderMany t_here t_fault t_faultAt t_commandMany t_writtenSize r h) rfl rfl rfl (fun _ => rfl) rfl rfl rfl (Nat.le_of_ble_eq_true rfl) dX9_findsAgain_1 ⟨Nat.zero_le _, Nat.zero_le _⟩ hF (fun r1_1 er1_1 hF => ?_)
  refine a_ws C (ws' := wX9 kc ki t t_all t_reasons t_text t_word t_order t_rows t_written t_allF t_reasonsF t_textF r1_1.2.1 r1_1.2.2.1 t_rowsF t_writtenF r1_1.2.2.2.1 t_changes t_isSaved t_result t_texted r1_1.2.2.2.2.1 r1_1.2.2.2.2.2 t_here t_fault t_faultAt t_commandMany t_writtenSize) rfl ?_
  exact a_iret C hr rfl dX9_findsAgain_4 hF rfl rfl
def f_X9_firstFind_L38 (q_t_wordF : Nat → Int32) (q_t_orderF : Nat → Int32) (q_t_wordSize : Int32) (t_allF : Nat → Int32) : Nat → Int32 → (Int32 → Option (Int32 × (Nat → Int32) × (Nat → Int32) × Int32 × Int32 × Int32)) → Option (Int32 × (Nat → Int32) × (Nat → Int32) × Int32 × Int32 × Int32)
  | 0, _, _ => none
  | fuel + 1, x1, k => (ldi q_t_orderF 80 x1).bind fun v44_6 => (f_X9_beginsWith t_allF q_t_wordF q_t_wordSize v44_6).bind fun r45_7 => if ¬ r45_7 = 0 then (k x1) else (f_X9_firstFind_L38 q_t_wordF q_t_orderF q_t_wordSize t_allF fuel (x1 + 1) k)
def f_X9_firstFind_J24 (q_t_wordF : Nat → Int32) (q_t_orderF : Nat → Int32) (q_t_wordSize : Int32) (q_t_orderMany : Int32) (y1 : Int32) (t_allF : Nat → Int32) : Option (Int32 × (Nat → Int32) × (Nat → Int32) × Int32 × Int32 × Int32) := if y1 = 0 then (f_X9_firstFind_L38 q_t_wordF q_t_orderF q_t_wordSize t_allF 1000 0 (fun x1_38_9 => some (x1_38_9, q_t_wordF, q_t_orderF, y1, q_t_wordSize, q_t_orderMany))) else (some (0, q_t_wordF, q_t_orderF, y1, q_t_wordSize, q_t_orderMany))
def f_X9_firstFind (t_allF : Nat → Int32) (t_textF : Nat → Int32) (t_wordF : Nat → Int32) (t_orderF : Nat → Int32) (t_texted : Int32) (t_orderMany : Int32) : Option (Int32 × (Nat → Int32) × (Nat → Int32) × Int32 × Int32 × Int32) := (f_X9_holdsWord t_textF t_wordF t_texted).bind fun r2_1 => if ¬ r2_1.1 = 0 then ((f_X9_finds1 t_allF r2_1.2.1 t_orderF r2_1.2.2).bind fun r13_3 => if ¬ r13_3.1 = 0 then (f_X9_firstFind_J24 r2_1.2.1 r13_3.2.1 r2_1.2.2 r13_3.2.2 0 t_allF) else (f_X9_firstFind_J24 r2_1.2.1 r13_3.2.1 r2_1.2.2 r13_3.2.2 2 t_allF)) else (f_X9_firstFind_J24 r2_1.2.1 t_orderF r2_1.2.2 t_orderMany 1 t_allF)
theorem hd_X9_firstFind : yX9_firstFind.cls = RX9 ∧ yX9_firstFind.cls ≠ "java/lang/invoke/MethodHandle" ∧ yX9_firstFind.cls ≠ "java/lang/invoke/VarHandle" ∧ (parseMethodDescriptor yX9_firstFind.desc).map (fun d => d.parameters.length) = some 0 := by decide +kernel
set_option maxRecDepth 100000 in
set_option maxHeartbeats 4000000 in
theorem c_X9_firstFind (l : Launch) (D : va_G) (J : (Nat → Nat) × (Nat → Nat)) (kc ki kb kl kd : ClassId) (t : Nat) (t_all : Nat) (t_reasons : Nat) (t_text : Nat) (t_word : Nat) (t_order : Nat) (t_rows : Nat) (t_written : Nat) (t_allF : Nat → Int32) (t_reasonsF : Nat → Int32) (t_textF : Nat → Int32) (t_wordF : Nat → Int32) (t_orderF : Nat → Int32) (t_rowsF : Nat → Int32) (t_writtenF : Nat → Int32) (t_thrown : Int32) (t_changes : Int32) (t_isSaved : Int32) (t_result : Int32) (t_texted : Int32) (t_wordSize : Int32) (t_orderMany : Int32) (t_here : Int32) (t_fault : Int32) (t_faultAt : Int32) (t_commandMany : Int32) (t_writtenSize : Int32) (res : Int32 × (Nat → Int32) × (Nat → Int32) × Int32 × Int32 × Int32) (hF : f_X9_firstFind t_allF t_textF t_wordF t_orderF t_texted t_orderMany = some res) : aKi l yX9_firstFind (aW yX9_firstFind cX9_firstFind 2 ((some .int))) ({ frames := 6, cells := 0, slots := 0, locals := 136 } : Room) D J (aTy kc ki kb kl kd) [.ref t] (wX9 kc ki t t_all t_reasons t_text t_word t_order t_rows t_written t_allF t_reasonsF t_textF t_wordF t_orderF t_rowsF t_writtenF t_thrown t_changes t_isSaved t_result t_texted t_wordSize t_orderMany t_here t_fault t_faultAt t_commandMany t_writtenSize) (fun r => r.1) (fun r => wX9 kc ki t t_all t_reasons t_text t_word t_order t_rows t_written t_allF t_reasonsF t_textF r.2.1 r.2.2.1 t_rowsF t_writtenF r.2.2.2.1 t_changes t_isSaved t_result t_texted r.2.2.2.2.1 r.2.2.2.2.2 t_here t_fault t_faultAt t_commandMany t_writtenSize) res := by
  refine aKi_of (own := RX9) (by decide) rfl (Nat.le_of_ble_eq_true rfl) rfl ?_
  intro p e s m args below meth c C hr
  have hI38 : ∀ (q_t_wordF : Nat → Int32) (q_t_orderF : Nat → Int32) (q_t_thrown : Int32) (q_t_wordSize : Int32) (q_t_orderMany : Int32) (fuel : Nat) (x1 : Int32) (k : Int32 → Option (Int32 × (Nat → Int32) × (Nat → Int32) × Int32 × Int32 × Int32)), f_X9_firstFind_L38 q_t_wordF q_t_orderF q_t_wordSize t_allF fuel x1 k = some res → (∀ (x1 : Int32), k x1 = some res → aT p l e ({ frames := 6, cells := 0, slots := 0, locals := 136 } : Room) s m args below meth c (MQ below (aQi D (wX9 kc ki t t_all t_reasons t_text t_word t_order t_rows t_written t_allF t_reasonsF t_textF t_wordF t_orderF t_rowsF t_writtenF t_thrown t_changes t_isSaved t_result t_texted t_wordSize t_orderMany t_here t_fault t_faultAt t_commandMany t_writtenSize) s.heap.size (fun r => r.1) (fun r => wX9 kc ki t t_all t_reasons t_text t_word t_order t_rows t_written t_allF t_reasonsF t_textF r.2.1 r.2.2.1 t_rowsF t_writtenF r.2.2.2.1 t_changes t_isSaved t_result t_texted r.2.2.2.2.1 r.2.2.2.2.2 t_here t_fault t_faultAt t_commandMany t_writtenSize) res) args s 0 0 (va_A (wX9 kc ki t t_all t_reasons t_text t_word t_order t_rows t_written t_allF t_reasonsF t_textF t_wordF t_orderF t_rowsF t_writtenF t_thrown t_changes t_isSaved t_result t_texted t_wordSize t_orderMany t_here t_fault t_faultAt t_commandMany t_writtenSize) s.heap.size)) D (va_A (wX9 kc ki t t_all t_reasons t_text t_word t_order t_rows t_written t_allF t_reasonsF t_textF t_wordF t_orderF t_rowsF t_writtenF t_thrown t_changes t_isSaved t_result t_texted t_wordSize t_orderMany t_here t_fault t_faultAt t_commandMany t_writtenSize) s.heap.size) 2 0 0 57 [(1, .int x1)] [] (wX9 kc ki t t_all t_reasons t_text t_word t_order t_rows t_written t_allF t_reasonsF t_textF q_t_wordF q_t_orderF t_rowsF t_writtenF q_t_thrown t_changes t_isSaved t_result t_texted q_t_wordSize q_t_orderMany t_here t_fault t_faultAt t_commandMany t_writtenSize)) → aT p l e ({ frames := 6, cells := 0, slots := 0, locals := 136 } : Room) s m args below meth c (MQ below (aQi D (wX9 kc ki t t_all t_reasons t_text t_word t_order t_rows t_written t_allF t_reasonsF t_textF t_wordF t_orderF t_rowsF t_writtenF t_thrown t_changes t_isSaved t_result t_texted t_wordSize t_orderMany t_here t_fault t_faultAt t_commandMany t_writtenSize) s.heap.size (fun r => r.1) (fun r => wX9 kc ki t t_all t_reasons t_text t_word t_order t_rows t_written t_allF t_reasonsF t_textF r.2.1 r.2.2.1 t_rowsF t_writtenF r.2.2.2.1 t_changes t_isSaved t_result t_texted r.2.2.2.2.1 r.2.2.2.2.2 t_here t_fault t_faultAt t_commandMany t_writtenSize) res) args s 0 0 (va_A (wX9 kc ki t t_all t_reasons t_text t_word t_order t_rows t_written t_allF t_reasonsF t_textF t_wordF t_orderF t_rowsF t_writtenF t_thrown t_changes t_isSaved t_result t_texted t_wordSize t_orderMany t_here t_fault t_faultAt t_commandMany t_writtenSize) s.heap.size)) D (va_A (wX9 kc ki t t_all t_reasons t_text t_word t_order t_rows t_written t_allF t_reasonsF t_textF t_wordF t_orderF t_rowsF t_writtenF t_thrown t_changes t_isSaved t_result t_texted t_wordSize t_orderMany t_here t_fault t_faultAt t_commandMany t_writtenSize) s.heap.size) 2 0 0 38 [(0, .ref t), (1, .int x1)] [] (wX9 kc ki t t_all t_reasons t_text t_word t_order t_rows t_written t_allF t_reasonsF t_textF q_t_wordF q_t_orderF t_rowsF t_writtenF q_t_thrown t_changes t_isSaved t_result t_texted q_t_wordSize q_t_orderMany t_here t_fault t_faultAt t_commandMany t_writtenSize) := by
    intro q_t_wordF q_t_orderF q_t_thrown q_t_wordSize q_t_orderMany fuel
    induction fuel with
    | zero => intro x1 k hF hX; exact nomatch hF
    | succ fuel ih =>
      intro x1 k hF hX
      rw [f_X9_firstFind_L38] at hF
      refine a_aload_n C 0 dX9_firstFind_38 rfl rfl ?_
      refine a_aload_n C 0 dX9_firstFind_39 rfl rfl ?_
      refine a_get C 0 10 iwX9 rfl rfl (by decide) kf_X9_23 rfl dX9_firstFind_40 ?_
      refine a_iload_n C 1 dX9_firstFind_43 rfl rfl ?_
      refine a_iald C 5 1 rfl rfl dX9_firstFind_44 hF (fun v44_6 ev44_6 hF => ?_)
      refine a_callVir C 1 [0, 1, 2, 3, 4, 5, 6, 7] 0 cs_X9_177 hd_X9_beginsWith ⟨rfl, rfl⟩ ⟨Nat.le_of_ble_eq_true rfl, Nat.le_of_ble_eq_true rfl⟩ (fun r h => c_X9_beginsWith l D J kc ki kb kl kd t t_all t_reasons t_text t_word t_order t_rows t_written t_allF t_reasonsF t_textF q_t_wordF q_t_orderF t_rowsF t_writtenF q_t_thrown t_changes t_isSaved t_result t_texted q_t_wordSize q_t_orderMany t_here t_fault t_faultAt t_commandMany t_writtenSize v44_6 r h) rfl rfl rfl rfl rfl rfl (Nat.le_of_ble_eq_true rfl) dX9_firstFind_45 ⟨Nat.zero_le _, Nat.zero_le _⟩ hF (fun r45_7 er45_7 hF => ?_)
      refine a_if_ne C (tgt := 57) dX9_firstFind_48 (by decide) hF (fun c48_8 hF => ?_) (fun c48_8 hF => ?_)
      · refine a_sub C [1] [(1, .int x1)] rfl ?_
        exact hX x1 hF
      refine a_iinc C 1 [(1, .int (x1 + 1)), (0, .ref t)] dX9_firstFind_51 rfl rfl (by decide) rfl ?_
      refine a_goto C (tgt := 38) dX9_firstFind_54 (by decide) ?_
      refine a_sub C [1, 0] [(0, .ref t), (1, .int (x1 + 1))] rfl ?_
      exact ih (x1 + 1) k hF hX
  have hJ24 : ∀ (q_t_wordF : Nat → Int32) (q_t_orderF : Nat → Int32) (q_t_thrown : Int32) (q_t_wordSize : Int32) (q_t_orderMany : Int32) (y1 : Int32), f_X9_firstFind_J24 q_t_wordF q_t_orderF q_t_wordSize q_t_orderMany y1 t_allF = some res → aT p l e ({ frames := 6, cells := 0, slots := 0, locals := 136 } : Room) s m args below meth c (MQ below (aQi D (wX9 kc ki t t_all t_reasons t_text t_word t_order t_rows t_written t_allF t_reasonsF t_textF t_wordF t_orderF t_rowsF t_writtenF t_thrown t_changes t_isSaved t_result t_texted t_wordSize t_orderMany t_here t_fault t_faultAt t_commandMany t_writtenSize) s.heap.size (fun r => r.1) (fun r => wX9 kc ki t t_all t_reasons t_text t_word t_order t_rows t_written t_allF t_reasonsF t_textF r.2.1 r.2.2.1 t_rowsF t_writtenF r.2.2.2.1 t_changes t_isSaved t_result t_texted r.2.2.2.2.1 r.2.2.2.2.2 t_here t_fault t_faultAt t_commandMany t_writtenSize) res) args s 0 0 (va_A (wX9 kc ki t t_all t_reasons t_text t_word t_order t_rows t_written t_allF t_reasonsF t_textF t_wordF t_orderF t_rowsF t_writtenF t_thrown t_changes t_isSaved t_result t_texted t_wordSize t_orderMany t_here t_fault t_faultAt t_commandMany t_writtenSize) s.heap.size)) D (va_A (wX9 kc ki t t_all t_reasons t_text t_word t_order t_rows t_written t_allF t_reasonsF t_textF t_wordF t_orderF t_rowsF t_writtenF t_thrown t_changes t_isSaved t_result t_texted t_wordSize t_orderMany t_here t_fault t_faultAt t_commandMany t_writtenSize) s.heap.size) 2 0 0 24 [(0, .ref t)] [.int y1, .ref t] (wX9 kc ki t t_all t_reasons t_text t_word t_order t_rows t_written t_allF t_reasonsF t_textF q_t_wordF q_t_orderF t_rowsF t_writtenF q_t_thrown t_changes t_isSaved t_result t_texted q_t_wordSize q_t_orderMany t_here t_fault t_faultAt t_commandMany t_writtenSize) := by
    intro q_t_wordF q_t_orderF q_t_thrown q_t_wordSize q_t_orderMany y1 hF
    unfold f_X9_firstFind_J24 at hF
    refine a_put C 0 0 iwX9 tyX9_ok nmX9 rfl rfl (by decide) kf_X9_36 rfl rfl rfl (Nat.le_of_ble_eq_true rfl) dX9_firstFind_24 ?_
    refine a_ws C (ws' := wX9 kc ki t t_all t_reasons t_text t_word t_order t_rows t_written t_allF t_reasonsF t_textF q_t_wordF q_t_orderF t_rowsF t_writtenF y1 t_changes t_isSaved t_result t_texted q_t_wordSize q_t_orderMany t_here t_fault t_faultAt t_commandMany t_writtenSize) rfl ?_
    refine a_aload_n C 0 dX9_firstFind_27 rfl rfl ?_
    refine a_get C 0 0 iwX9 rfl rfl (by decide) kf_X9_36 rfl dX9_firstFind_28 ?_
    refine a_if_eq C (tgt := 36) dX9_firstFind_31 (by decide) hF (fun c31_5 hF => ?_) (fun c31_5 hF => ?_)
    · refine a_iconst C (v := 0) dX9_firstFind_36 (by decide) ?_
      refine a_istore_n C [(1, .int 0), (0, .ref t)] dX9_firstFind_37 rfl (by decide) rfl ?_
      refine a_sub C [1, 0] [(0, .ref t), (1, .int 0)] rfl ?_
      refine hI38 q_t_wordF q_t_orderF y1 q_t_wordSize q_t_orderMany 1000 0 _ hF (fun x1_38_9 hF => ?_)
      refine a_iload_n C 0 dX9_firstFind_57 rfl rfl ?_
      exact a_iret C hr rfl dX9_firstFind_58 hF rfl rfl
    refine a_iconst C (v := 0) dX9_firstFind_34 (by decide) ?_
    exact a_iret C hr rfl dX9_firstFind_35 hF rfl rfl
  unfold f_X9_firstFind at hF
  refine a_aload_n C 0 dX9_firstFind_0 rfl rfl ?_
  refine a_aload_n C 0 dX9_firstFind_1 rfl rfl ?_
  refine a_callVi C 0 [0, 1, 2, 3, 4, 5, 6, 7] 0 cs_X9_79 hd_X9_holdsWord ⟨rfl, rfl⟩ ⟨Nat.le_of_ble_eq_true rfl, Nat.le_of_ble_eq_true rfl⟩ (fun r h => c_X9_holdsWord l D J kc ki kb kl kd t t_all t_reasons t_text t_word t_order t_rows t_written t_allF t_reasonsF t_textF t_wordF t_orderF t_rowsF t_writtenF t_thrown t_changes t_isSaved t_result t_texted t_wordSize t_orderMany t_here t_fault t_faultAt t_commandMany t_writtenSize r h) rfl rfl rfl (fun _ => rfl) rfl rfl rfl (Nat.le_of_ble_eq_true rfl) dX9_firstFind_2 ⟨Nat.zero_le _, Nat.zero_le _⟩ hF (fun r2_1 er2_1 hF => ?_)
  refine a_ws C (ws' := wX9 kc ki t t_all t_reasons t_text t_word t_order t_rows t_written t_allF t_reasonsF t_textF r2_1.2.1 t_orderF t_rowsF t_writtenF t_thrown t_changes t_isSaved t_result t_texted r2_1.2.2 t_orderMany t_here t_fault t_faultAt t_commandMany t_writtenSize) rfl ?_
  refine a_if_ne C (tgt := 12) dX9_firstFind_5 (by decide) hF (fun c5_2 hF => ?_) (fun c5_2 hF => ?_)
  · refine a_aload_n C 0 dX9_firstFind_12 rfl rfl ?_
    refine a_callVi C 0 [0, 1, 2, 3, 4, 5, 6, 7] 0 cs_X9_180 hd_X9_finds1 ⟨rfl, rfl⟩ ⟨Nat.le_of_ble_eq_true rfl, Nat.le_of_ble_eq_true rfl⟩ (fun r h => c_X9_finds1 l D J kc ki kb kl kd t t_all t_reasons t_text t_word t_order t_rows t_written t_allF t_reasonsF t_textF r2_1.2.1 t_orderF t_rowsF t_writtenF t_thrown t_changes t_isSaved t_result t_texted r2_1.2.2 t_orderMany t_here t_fault t_faultAt t_commandMany t_writtenSize r h) rfl rfl rfl (fun _ => rfl) rfl rfl rfl (Nat.le_of_ble_eq_true rfl) dX9_firstFind_13 ⟨Nat.zero_le _, Nat.zero_le _⟩ hF (fun r13_3 er13_3 hF => ?_)
    refine a_ws C (ws' := wX9 kc ki t t_all t_reasons t_text t_word t_order t_rows t_written t_allF t_reasonsF t_textF r2_1.2.1 r13_3.2.1 t_rowsF t_writtenF t_thrown t_changes t_isSaved t_result t_texted r2_1.2.2 r13_3.2.2 t_here t_fault t_faultAt t_commandMany t_writtenSize) rfl ?_
    refine a_if_ne C (tgt := 23) dX9_firstFind_16 (by decide) hF (fun c16_4 hF => ?_) (fun c16_4 hF => ?_)
    · refine a_iconst C (v := 0) dX9_firstFind_23 (by decide) ?_
      exact hJ24 r2_1.2.1 r13_3.2.1 t_thrown r2_1.2.2 r13_3.2.2 0 hF
    refine a_iconst C (v := 2) dX9_firstFind_19 (by decide) ?_
    refine a_goto C (tgt := 24) dX9_firstFind_20 (by decide) ?_
    exact hJ24 r2_1.2.1 r13_3.2.1 t_thrown r2_1.2.2 r13_3.2.2 2 hF
  refine a_iconst C (v := 1) dX9_firstFind_8 (by decide) ?_
  refine a_goto C (tgt := 24) dX9_firstFind_9 (by decide) ?_
  exact hJ24 r2_1.2.1 t_orderF t_thrown r2_1.2.2 t_orderMany 1 hF
def f_X9_isLine_L18 (q_t_wordF : Nat → Int32) (q_t_thrown : Int32) (q_t_wordSize : Int32) (t_allF : Nat → Int32) : Nat → Int32 → (Int32 → Option (Int32 × (Nat → Int32) × Int32 × Int32)) → Option (Int32 × (Nat → Int32) × Int32 × Int32)
  | 0, _, _ => none
  | fuel + 1, x1, k => (f_X9_many t_allF).bind fun r20_3 => if r20_3 ≤ x1 then (k x1) else (if ¬ q_t_thrown = 0 then (k x1) else ((f_X9_size t_allF x1).bind fun r35_6 => if ¬ r35_6 = q_t_wordSize then (f_X9_isLine_L18 q_t_wordF q_t_thrown q_t_wordSize t_allF fuel (x1 + 1) k) else ((f_X9_beginsWith t_allF q_t_wordF q_t_wordSize (10 * x1)).bind fun r50_8 => if r50_8 = 0 then (f_X9_isLine_L18 q_t_wordF q_t_thrown q_t_wordSize t_allF fuel (x1 + 1) k) else (some (1, q_t_wordF, q_t_thrown, q_t_wordSize)))))
def f_X9_isLine_J13 (q_t_wordF : Nat → Int32) (q_t_wordSize : Int32) (y1 : Int32) (t_allF : Nat → Int32) : Option (Int32 × (Nat → Int32) × Int32 × Int32) := f_X9_isLine_L18 q_t_wordF y1 q_t_wordSize t_allF 1000 0 (fun x1_18_10 => some (0, q_t_wordF, y1, q_t_wordSize))
def f_X9_isLine (t_allF : Nat → Int32) (t_textF : Nat → Int32) (t_wordF : Nat → Int32) (t_texted : Int32) : Option (Int32 × (Nat → Int32) × Int32 × Int32) := (f_X9_holdsWord t_textF t_wordF t_texted).bind fun r2_1 => if r2_1.1 = 0 then (f_X9_isLine_J13 r2_1.2.1 r2_1.2.2 1 t_allF) else (f_X9_isLine_J13 r2_1.2.1 r2_1.2.2 0 t_allF)
theorem hd_X9_isLine : yX9_isLine.cls = RX9 ∧ yX9_isLine.cls ≠ "java/lang/invoke/MethodHandle" ∧ yX9_isLine.cls ≠ "java/lang/invoke/VarHandle" ∧ (parseMethodDescriptor yX9_isLine.desc).map (fun d => d.parameters.length) = some 0 := by decide +kernel
set_option maxRecDepth 100000 in
set_option maxHeartbeats 4000000 in
theorem c_X9_isLine (l : Launch) (D : va_G) (J : (Nat → Nat) × (Nat → Nat)) (kc ki kb kl kd : ClassId) (t : Nat) (t_all : Nat) (t_reasons : Nat) (t_text : Nat) (t_word : Nat) (t_order : Nat) (t_rows : Nat) (t_written : Nat) (t_allF : Nat → Int32) (t_reasonsF : Nat → Int32) (t_textF : Nat → Int32) (t_wordF : Nat → Int32) (t_orderF : Nat → Int32) (t_rowsF : Nat → Int32) (t_writtenF : Nat → Int32) (t_thrown : Int32) (t_changes : Int32) (t_isSaved : Int32) (t_result : Int32) (t_texted : Int32) (t_wordSize : Int32) (t_orderMany : Int32) (t_here : Int32) (t_fault : Int32) (t_faultAt : Int32) (t_commandMany : Int32) (t_writtenSize : Int32) (res : Int32 × (Nat → Int32) × Int32 × Int32) (hF : f_X9_isLine t_allF t_textF t_wordF t_texted = some res) : aKi l yX9_isLine (aW yX9_isLine cX9_isLine 2 ((some .boolean))) ({ frames := 3, cells := 0, slots := 0, locals := 66 } : Room) D J (aTy kc ki kb kl kd) [.ref t] (wX9 kc ki t t_all t_reasons t_text t_word t_order t_rows t_written t_allF t_reasonsF t_textF t_wordF t_orderF t_rowsF t_writtenF t_thrown t_changes t_isSaved t_result t_texted t_wordSize t_orderMany t_here t_fault t_faultAt t_commandMany t_writtenSize) (fun r => r.1) (fun r => wX9 kc ki t t_all t_reasons t_text t_word t_order t_rows t_written t_allF t_reasonsF t_textF r.2.1 t_orderF t_rowsF t_writtenF r.2.2.1 t_changes t_isSaved t_result t_texted r.2.2.2 t_orderMany t_here t_fault t_faultAt t_commandMany t_writtenSize) res := by
  refine aKi_of (own := RX9) (by decide) rfl (Nat.le_of_ble_eq_true rfl) rfl ?_
  intro p e s m args below meth c C hr
  have hI18 : ∀ (q_t_wordF : Nat → Int32) (q_t_thrown : Int32) (q_t_wordSize : Int32) (fuel : Nat) (x1 : Int32) (k : Int32 → Option (Int32 × (Nat → Int32) × Int32 × Int32)), f_X9_isLine_L18 q_t_wordF q_t_thrown q_t_wordSize t_allF fuel x1 k = some res → (∀ (x1 : Int32), k x1 = some res → aT p l e ({ frames := 3, cells := 0, slots := 0, locals := 66 } : Room) s m args below meth c (MQ below (aQi D (wX9 kc ki t t_all t_reasons t_text t_word t_order t_rows t_written t_allF t_reasonsF t_textF t_wordF t_orderF t_rowsF t_writtenF t_thrown t_changes t_isSaved t_result t_texted t_wordSize t_orderMany t_here t_fault t_faultAt t_commandMany t_writtenSize) s.heap.size (fun r => r.1) (fun r => wX9 kc ki t t_all t_reasons t_text t_word t_order t_rows t_written t_allF t_reasonsF t_textF r.2.1 t_orderF t_rowsF t_writtenF r.2.2.1 t_changes t_isSaved t_result t_texted r.2.2.2 t_orderMany t_here t_fault t_faultAt t_commandMany t_writtenSize) res) args s 0 0 (va_A (wX9 kc ki t t_all t_reasons t_text t_word t_order t_rows t_written t_allF t_reasonsF t_textF t_wordF t_orderF t_rowsF t_writtenF t_thrown t_changes t_isSaved t_result t_texted t_wordSize t_orderMany t_here t_fault t_faultAt t_commandMany t_writtenSize) s.heap.size)) D (va_A (wX9 kc ki t t_all t_reasons t_text t_word t_order t_rows t_written t_allF t_reasonsF t_textF t_wordF t_orderF t_rowsF t_writtenF t_thrown t_changes t_isSaved t_result t_texted t_wordSize t_orderMany t_here t_fault t_faultAt t_commandMany t_writtenSize) s.heap.size) 2 0 0 64 [] [] (wX9 kc ki t t_all t_reasons t_text t_word t_order t_rows t_written t_allF t_reasonsF t_textF q_t_wordF t_orderF t_rowsF t_writtenF q_t_thrown t_changes t_isSaved t_result t_texted q_t_wordSize t_orderMany t_here t_fault t_faultAt t_commandMany t_writtenSize)) → aT p l e ({ frames := 3, cells := 0, slots := 0, locals := 66 } : Room) s m args below meth c (MQ below (aQi D (wX9 kc ki t t_all t_reasons t_text t_word t_order t_rows t_written t_allF t_reasonsF t_textF t_wordF t_orderF t_rowsF t_writtenF t_thrown t_changes t_isSaved t_result t_texted t_wordSize t_orderMany t_here t_fault t_faultAt t_commandMany t_writtenSize) s.heap.size (fun r => r.1) (fun r => wX9 kc ki t t_all t_reasons t_text t_word t_order t_rows t_written t_allF t_reasonsF t_textF r.2.1 t_orderF t_rowsF t_writtenF r.2.2.1 t_changes t_isSaved t_result t_texted r.2.2.2 t_orderMany t_here t_fault t_faultAt t_commandMany t_writtenSize) res) args s 0 0 (va_A (wX9 kc ki t t_all t_reasons t_text t_word t_order t_rows t_written t_allF t_reasonsF t_textF t_wordF t_orderF t_rowsF t_writtenF t_thrown t_changes t_isSaved t_result t_texted t_wordSize t_orderMany t_here t_fault t_faultAt t_commandMany t_writtenSize) s.heap.size)) D (va_A (wX9 kc ki t t_all t_reasons t_text t_word t_order t_rows t_written t_allF t_reasonsF t_textF t_wordF t_orderF t_rowsF t_writtenF t_thrown t_changes t_isSaved t_result t_texted t_wordSize t_orderMany t_here t_fault t_faultAt t_commandMany t_writtenSize) s.heap.size) 2 0 0 18 [(0, .ref t), (1, .int x1)] [] (wX9 kc ki t t_all t_reasons t_text t_word t_order t_rows t_written t_allF t_reasonsF t_textF q_t_wordF t_orderF t_rowsF t_writtenF q_t_thrown t_changes t_isSaved t_result t_texted q_t_wordSize t_orderMany t_here t_fault t_faultAt t_commandMany t_writtenSize) := by
    intro q_t_wordF q_t_thrown q_t_wordSize fuel
    induction fuel with
    | zero => intro x1 k hF hX; exact nomatch hF
    | succ fuel ih =>
      intro x1 k hF hX
      rw [f_X9_isLine_L18] at hF
      refine a_iload_n C 1 dX9_isLine_18 rfl rfl ?_
      refine a_aload_n C 0 dX9_isLine_19 rfl rfl ?_
      refine a_callVir C 0 [0, 1, 2, 3, 4, 5, 6, 7] 0 cs_X9_53 hd_X9_many ⟨rfl, rfl⟩ ⟨Nat.le_of_ble_eq_true rfl, Nat.le_of_ble_eq_true rfl⟩ (fun r h => c_X9_many l D J kc ki kb kl kd t t_all t_reasons t_text t_word t_order t_rows t_written t_allF t_reasonsF t_textF q_t_wordF t_orderF t_rowsF t_writtenF q_t_thrown t_changes t_isSaved t_result t_texted q_t_wordSize t_orderMany t_here t_fault t_faultAt t_commandMany t_writtenSize r h) rfl rfl rfl rfl rfl rfl (Nat.le_of_ble_eq_true rfl) dX9_isLine_20 ⟨Nat.zero_le _, Nat.zero_le _⟩ hF (fun r20_3 er20_3 hF => ?_)
      refine a_ic_ge C (tgt := 64) dX9_isLine_23 (by decide) hF (fun c23_4 hF => ?_) (fun c23_4 hF => ?_)
      · refine a_sub C [] [] rfl ?_
        exact hX x1 hF
      refine a_aload_n C 0 dX9_isLine_26 rfl rfl ?_
      refine a_get C 0 0 iwX9 rfl rfl (by decide) kf_X9_36 rfl dX9_isLine_27 ?_
      refine a_if_ne C (tgt := 64) dX9_isLine_30 (by decide) hF (fun c30_5 hF => ?_) (fun c30_5 hF => ?_)
      · refine a_sub C [] [] rfl ?_
        exact hX x1 hF
      refine a_aload_n C 0 dX9_isLine_33 rfl rfl ?_
      refine a_iload_n C 1 dX9_isLine_34 rfl rfl ?_
      refine a_callVir C 1 [0, 1, 2, 3, 4, 5, 6, 7] 0 cs_X9_61 hd_X9_size ⟨rfl, rfl⟩ ⟨Nat.le_of_ble_eq_true rfl, Nat.le_of_ble_eq_true rfl⟩ (fun r h => c_X9_size l D J kc ki kb kl kd t t_all t_reasons t_text t_word t_order t_rows t_written t_allF t_reasonsF t_textF q_t_wordF t_orderF t_rowsF t_writtenF q_t_thrown t_changes t_isSaved t_result t_texted q_t_wordSize t_orderMany t_here t_fault t_faultAt t_commandMany t_writtenSize x1 r h) rfl rfl rfl rfl rfl rfl (Nat.le_of_ble_eq_true rfl) dX9_isLine_35 ⟨Nat.zero_le _, Nat.zero_le _⟩ hF (fun r35_6 er35_6 hF => ?_)
      refine a_aload_n C 0 dX9_isLine_38 rfl rfl ?_
      refine a_get C 0 9 iwX9 rfl rfl (by decide) kf_X9_72 rfl dX9_isLine_39 ?_
      refine a_ic_ne C (tgt := 58) dX9_isLine_42 (by decide) hF (fun c42_7 hF => ?_) (fun c42_7 hF => ?_)
      · refine a_iinc C 1 [(1, .int (x1 + 1)), (0, .ref t)] dX9_isLine_58 rfl rfl (by decide) rfl ?_
        refine a_goto C (tgt := 18) dX9_isLine_61 (by decide) ?_
        refine a_sub C [1, 0] [(0, .ref t), (1, .int (x1 + 1))] rfl ?_
        exact ih (x1 + 1) k hF hX
      refine a_aload_n C 0 dX9_isLine_45 rfl rfl ?_
      refine a_bipush C (v := 10) dX9_isLine_46 (by decide) ?_
      refine a_iload_n C 1 dX9_isLine_48 rfl rfl ?_
      refine a_imul C dX9_isLine_49 ?_
      refine a_callVir C 1 [0, 1, 2, 3, 4, 5, 6, 7] 0 cs_X9_177 hd_X9_beginsWith ⟨rfl, rfl⟩ ⟨Nat.le_of_ble_eq_true rfl, Nat.le_of_ble_eq_true rfl⟩ (fun r h => c_X9_beginsWith l D J kc ki kb kl kd t t_all t_reasons t_text t_word t_order t_rows t_written t_allF t_reasonsF t_textF q_t_wordF t_orderF t_rowsF t_writtenF q_t_thrown t_changes t_isSaved t_result t_texted q_t_wordSize t_orderMany t_here t_fault t_faultAt t_commandMany t_writtenSize (10 * x1) r h) rfl rfl rfl rfl rfl rfl (Nat.le_of_ble_eq_true rfl) dX9_isLine_50 ⟨Nat.zero_le _, Nat.zero_le _⟩ hF (fun r50_8 er50_8 hF => ?_)
      refine a_if_eq C (tgt := 58) dX9_isLine_53 (by decide) hF (fun c53_9 hF => ?_) (fun c53_9 hF => ?_)
      · refine a_iinc C 1 [(1, .int (x1 + 1)), (0, .ref t)] dX9_isLine_58 rfl rfl (by decide) rfl ?_
        refine a_goto C (tgt := 18) dX9_isLine_61 (by decide) ?_
        refine a_sub C [1, 0] [(0, .ref t), (1, .int (x1 + 1))] rfl ?_
        exact ih (x1 + 1) k hF hX
      refine a_iconst C (v := 1) dX9_isLine_56 (by decide) ?_
      exact a_iret C hr rfl dX9_isLine_57 hF rfl rfl
  have hJ13 : ∀ (q_t_wordF : Nat → Int32) (q_t_thrown : Int32) (q_t_wordSize : Int32) (y1 : Int32), f_X9_isLine_J13 q_t_wordF q_t_wordSize y1 t_allF = some res → aT p l e ({ frames := 3, cells := 0, slots := 0, locals := 66 } : Room) s m args below meth c (MQ below (aQi D (wX9 kc ki t t_all t_reasons t_text t_word t_order t_rows t_written t_allF t_reasonsF t_textF t_wordF t_orderF t_rowsF t_writtenF t_thrown t_changes t_isSaved t_result t_texted t_wordSize t_orderMany t_here t_fault t_faultAt t_commandMany t_writtenSize) s.heap.size (fun r => r.1) (fun r => wX9 kc ki t t_all t_reasons t_text t_word t_order t_rows t_written t_allF t_reasonsF t_textF r.2.1 t_orderF t_rowsF t_writtenF r.2.2.1 t_changes t_isSaved t_result t_texted r.2.2.2 t_orderMany t_here t_fault t_faultAt t_commandMany t_writtenSize) res) args s 0 0 (va_A (wX9 kc ki t t_all t_reasons t_text t_word t_order t_rows t_written t_allF t_reasonsF t_textF t_wordF t_orderF t_rowsF t_writtenF t_thrown t_changes t_isSaved t_result t_texted t_wordSize t_orderMany t_here t_fault t_faultAt t_commandMany t_writtenSize) s.heap.size)) D (va_A (wX9 kc ki t t_all t_reasons t_text t_word t_order t_rows t_written t_allF t_reasonsF t_textF t_wordF t_orderF t_rowsF t_writtenF t_thrown t_changes t_isSaved t_result t_texted t_wordSize t_orderMany t_here t_fault t_faultAt t_commandMany t_writtenSize) s.heap.size) 2 0 0 13 [(0, .ref t)] [.int y1, .ref t] (wX9 kc ki t t_all t_reasons t_text t_word t_order t_rows t_written t_allF t_reasonsF t_textF q_t_wordF t_orderF t_rowsF t_writtenF q_t_thrown t_changes t_isSaved t_result t_texted q_t_wordSize t_orderMany t_here t_fault t_faultAt t_commandMany t_writtenSize) := by
    intro q_t_wordF q_t_thrown q_t_wordSize y1 hF
    unfold f_X9_isLine_J13 at hF
    refine a_put C 0 0 iwX9 tyX9_ok nmX9 rfl rfl (by decide) kf_X9_36 rfl rfl rfl (Nat.le_of_ble_eq_true rfl) dX9_isLine_13 ?_
    refine a_ws C (ws' := wX9 kc ki t t_all t_reasons t_text t_word t_order t_rows t_written t_allF t_reasonsF t_textF q_t_wordF t_orderF t_rowsF t_writtenF y1 t_changes t_isSaved t_result t_texted q_t_wordSize t_orderMany t_here t_fault t_faultAt t_commandMany t_writtenSize) rfl ?_
    refine a_iconst C (v := 0) dX9_isLine_16 (by decide) ?_
    refine a_istore_n C [(1, .int 0), (0, .ref t)] dX9_isLine_17 rfl (by decide) rfl ?_
    refine a_sub C [1, 0] [(0, .ref t), (1, .int 0)] rfl ?_
    refine hI18 q_t_wordF y1 q_t_wordSize 1000 0 _ hF (fun x1_18_10 hF => ?_)
    refine a_iconst C (v := 0) dX9_isLine_64 (by decide) ?_
    exact a_iret C hr rfl dX9_isLine_65 hF rfl rfl
  unfold f_X9_isLine at hF
  refine a_aload_n C 0 dX9_isLine_0 rfl rfl ?_
  refine a_aload_n C 0 dX9_isLine_1 rfl rfl ?_
  refine a_callVi C 0 [0, 1, 2, 3, 4, 5, 6, 7] 0 cs_X9_79 hd_X9_holdsWord ⟨rfl, rfl⟩ ⟨Nat.le_of_ble_eq_true rfl, Nat.le_of_ble_eq_true rfl⟩ (fun r h => c_X9_holdsWord l D J kc ki kb kl kd t t_all t_reasons t_text t_word t_order t_rows t_written t_allF t_reasonsF t_textF t_wordF t_orderF t_rowsF t_writtenF t_thrown t_changes t_isSaved t_result t_texted t_wordSize t_orderMany t_here t_fault t_faultAt t_commandMany t_writtenSize r h) rfl rfl rfl (fun _ => rfl) rfl rfl rfl (Nat.le_of_ble_eq_true rfl) dX9_isLine_2 ⟨Nat.zero_le _, Nat.zero_le _⟩ hF (fun r2_1 er2_1 hF => ?_)
  refine a_ws C (ws' := wX9 kc ki t t_all t_reasons t_text t_word t_order t_rows t_written t_allF t_reasonsF t_textF r2_1.2.1 t_orderF t_rowsF t_writtenF t_thrown t_changes t_isSaved t_result t_texted r2_1.2.2 t_orderMany t_here t_fault t_faultAt t_commandMany t_writtenSize) rfl ?_
  refine a_if_eq C (tgt := 12) dX9_isLine_5 (by decide) hF (fun c5_2 hF => ?_) (fun c5_2 hF => ?_)
  · refine a_iconst C (v := 1) dX9_isLine_12 (by decide) ?_
    exact hJ13 r2_1.2.1 t_thrown r2_1.2.2 1 hF
  refine a_iconst C (v := 0) dX9_isLine_8 (by decide) ?_
  refine a_goto C (tgt := 13) dX9_isLine_9 (by decide) ?_
  exact hJ13 r2_1.2.1 t_thrown r2_1.2.2 0 hF
def f_X9_shared_J22 (y1 : Int32) (p1 : Int32) (p2 : Int32) (t_allF : Nat → Int32) : Option (Int32 × Int32) := if y1 = 0 then (if ¬ p1 = p2 then ((f_X9_longestOf t_allF p1 p2).bind fun r52_5 => some (r52_5, y1)) else ((f_X9_size t_allF p1).bind fun r43_6 => some (r43_6, y1))) else (some (0, y1))
def f_X9_shared_J21 (p1 : Int32) (p2 : Int32) (t_allF : Nat → Int32) : Option (Int32 × Int32) := f_X9_shared_J22 1 p1 p2 t_allF
def f_X9_shared (t_allF : Nat → Int32) (p1 : Int32) (p2 : Int32) : Option (Int32 × Int32) := (f_X9_isLineNumber t_allF p1).bind fun r3_1 => if r3_1 = 0 then (f_X9_shared_J21 p1 p2 t_allF) else ((f_X9_isLineNumber t_allF p2).bind fun r11_7 => if r11_7 = 0 then (f_X9_shared_J21 p1 p2 t_allF) else (f_X9_shared_J22 0 p1 p2 t_allF))
theorem hd_X9_shared : yX9_shared.cls = RX9 ∧ yX9_shared.cls ≠ "java/lang/invoke/MethodHandle" ∧ yX9_shared.cls ≠ "java/lang/invoke/VarHandle" ∧ (parseMethodDescriptor yX9_shared.desc).map (fun d => d.parameters.length) = some 2 := by decide +kernel
set_option maxRecDepth 100000 in
set_option maxHeartbeats 4000000 in
theorem c_X9_shared (l : Launch) (D : va_G) (J : (Nat → Nat) × (Nat → Nat)) (kc ki kb kl kd : ClassId) (t : Nat) (t_all : Nat) (t_reasons : Nat) (t_text : Nat) (t_word : Nat) (t_order : Nat) (t_rows : Nat) (t_written : Nat) (t_allF : Nat → Int32) (t_reasonsF : Nat → Int32) (t_textF : Nat → Int32) (t_wordF : Nat → Int32) (t_orderF : Nat → Int32) (t_rowsF : Nat → Int32) (t_writtenF : Nat → Int32) (t_thrown : Int32) (t_changes : Int32) (t_isSaved : Int32) (t_result : Int32) (t_texted : Int32) (t_wordSize : Int32) (t_orderMany : Int32) (t_here : Int32) (t_fault : Int32) (t_faultAt : Int32) (t_commandMany : Int32) (t_writtenSize : Int32) (p1 p2 : Int32) (res : Int32 × Int32) (hF : f_X9_shared t_allF p1 p2 = some res) : aKi l yX9_shared (aW yX9_shared cX9_shared 3 ((some .int))) ({ frames := 4, cells := 0, slots := 0, locals := 93 } : Room) D J (aTy kc ki kb kl kd) [.ref t, .int p1, .int p2] (wX9 kc ki t t_all t_reasons t_text t_word t_order t_rows t_written t_allF t_reasonsF t_textF t_wordF t_orderF t_rowsF t_writtenF t_thrown t_changes t_isSaved t_result t_texted t_wordSize t_orderMany t_here t_fault t_faultAt t_commandMany t_writtenSize) (fun r => r.1) (fun r => wX9 kc ki t t_all t_reasons t_text t_word t_order t_rows t_written t_allF t_reasonsF t_textF t_wordF t_orderF t_rowsF t_writtenF r.2 t_changes t_isSaved t_result t_texted t_wordSize t_orderMany t_here t_fault t_faultAt t_commandMany t_writtenSize) res := by
  refine aKi_of (own := RX9) (by decide) rfl (Nat.le_of_ble_eq_true rfl) rfl ?_
  intro p e s m args below meth c C hr
  have hJ22 : ∀ (q_t_thrown : Int32) (y1 : Int32), f_X9_shared_J22 y1 p1 p2 t_allF = some res → aT p l e ({ frames := 4, cells := 0, slots := 0, locals := 93 } : Room) s m args below meth c (MQ below (aQi D (wX9 kc ki t t_all t_reasons t_text t_word t_order t_rows t_written t_allF t_reasonsF t_textF t_wordF t_orderF t_rowsF t_writtenF t_thrown t_changes t_isSaved t_result t_texted t_wordSize t_orderMany t_here t_fault t_faultAt t_commandMany t_writtenSize) s.heap.size (fun r => r.1) (fun r => wX9 kc ki t t_all t_reasons t_text t_word t_order t_rows t_written t_allF t_reasonsF t_textF t_wordF t_orderF t_rowsF t_writtenF r.2 t_changes t_isSaved t_result t_texted t_wordSize t_orderMany t_here t_fault t_faultAt t_commandMany t_writtenSize) res) args s 0 0 (va_A (wX9 kc ki t t_all t_reasons t_text t_word t_order t_rows t_written t_allF t_reasonsF t_textF t_wordF t_orderF t_rowsF t_writtenF t_thrown t_changes t_isSaved t_result t_texted t_wordSize t_orderMany t_here t_fault t_faultAt t_commandMany t_writtenSize) s.heap.size)) D (va_A (wX9 kc ki t t_all t_reasons t_text t_word t_order t_rows t_written t_allF t_reasonsF t_textF t_wordF t_orderF t_rowsF t_writtenF t_thrown t_changes t_isSaved t_result t_texted t_wordSize t_orderMany t_here t_fault t_faultAt t_commandMany t_writtenSize) s.heap.size) 3 0 0 22 [(0, .ref t), (1, .int p1), (2, .int p2)] [.int y1, .ref t] (wX9 kc ki t t_all t_reasons t_text t_word t_order t_rows t_written t_allF t_reasonsF t_textF t_wordF t_orderF t_rowsF t_writtenF q_t_thrown t_changes t_isSaved t_result t_texted t_wordSize t_orderMany t_here t_fault t_faultAt t_commandMany t_writtenSize) := by
    intro q_t_thrown y1 hF
    unfold f_X9_shared_J22 at hF
    refine a_put C 0 0 iwX9 tyX9_ok nmX9 rfl rfl (by decide) kf_X9_36 rfl rfl rfl (Nat.le_of_ble_eq_true rfl) dX9_shared_22 ?_
    refine a_ws C (ws' := wX9 kc ki t t_all t_reasons t_text t_word t_order t_rows t_written t_allF t_reasonsF t_textF t_wordF t_orderF t_rowsF t_writtenF y1 t_changes t_isSaved t_result t_texted t_wordSize t_orderMany t_here t_fault t_faultAt t_commandMany t_writtenSize) rfl ?_
    refine a_aload_n C 0 dX9_shared_25 rfl rfl ?_
    refine a_get C 0 0 iwX9 rfl rfl (by decide) kf_X9_36 rfl dX9_shared_26 ?_
    refine a_if_eq C (tgt := 36) dX9_shared_29 (by decide) hF (fun c29_3 hF => ?_) (fun c29_3 hF => ?_)
    · refine a_iload_n C 1 dX9_shared_36 rfl rfl ?_
      refine a_iload_n C 2 dX9_shared_37 rfl rfl ?_
      refine a_ic_ne C (tgt := 49) dX9_shared_38 (by decide) hF (fun c38_4 hF => ?_) (fun c38_4 hF => ?_)
      · refine a_aload_n C 0 dX9_shared_49 rfl rfl ?_
        refine a_iload_n C 1 dX9_shared_50 rfl rfl ?_
        refine a_iload_n C 2 dX9_shared_51 rfl rfl ?_
        refine a_callVir C 2 [0, 1, 2, 3, 4, 5, 6, 7] 0 cs_X9_162 hd_X9_longestOf ⟨rfl, rfl⟩ ⟨Nat.le_of_ble_eq_true rfl, Nat.le_of_ble_eq_true rfl⟩ (fun r h => c_X9_longestOf l D J kc ki kb kl kd t t_all t_reasons t_text t_word t_order t_rows t_written t_allF t_reasonsF t_textF t_wordF t_orderF t_rowsF t_writtenF y1 t_changes t_isSaved t_result t_texted t_wordSize t_orderMany t_here t_fault t_faultAt t_commandMany t_writtenSize p1 p2 r h) rfl rfl rfl rfl rfl rfl (Nat.le_of_ble_eq_true rfl) dX9_shared_52 ⟨Nat.zero_le _, Nat.zero_le _⟩ hF (fun r52_5 er52_5 hF => ?_)
        exact a_iret C hr rfl dX9_shared_55 hF rfl rfl
      refine a_aload_n C 0 dX9_shared_41 rfl rfl ?_
      refine a_iload_n C 1 dX9_shared_42 rfl rfl ?_
      refine a_callVir C 1 [0, 1, 2, 3, 4, 5, 6, 7] 0 cs_X9_61 hd_X9_size ⟨rfl, rfl⟩ ⟨Nat.le_of_ble_eq_true rfl, Nat.le_of_ble_eq_true rfl⟩ (fun r h => c_X9_size l D J kc ki kb kl kd t t_all t_reasons t_text t_word t_order t_rows t_written t_allF t_reasonsF t_textF t_wordF t_orderF t_rowsF t_writtenF y1 t_changes t_isSaved t_result t_texted t_wordSize t_orderMany t_here t_fault t_faultAt t_commandMany t_writtenSize p1 r h) rfl rfl rfl rfl rfl rfl (Nat.le_of_ble_eq_true rfl) dX9_shared_43 ⟨Nat.zero_le _, Nat.zero_le _⟩ hF (fun r43_6 er43_6 hF => ?_)
      refine a_goto C (tgt := 55) dX9_shared_46 (by decide) ?_
      exact a_iret C hr rfl dX9_shared_55 hF rfl rfl
    refine a_iconst C (v := 0) dX9_shared_32 (by decide) ?_
    refine a_goto C (tgt := 55) dX9_shared_33 (by decide) ?_
    exact a_iret C hr rfl dX9_shared_55 hF rfl rfl
  have hJ21 : ∀ (q_t_thrown : Int32), f_X9_shared_J21 p1 p2 t_allF = some res → aT p l e ({ frames := 4, cells := 0, slots := 0, locals := 93 } : Room) s m args below meth c (MQ below (aQi D (wX9 kc ki t t_all t_reasons t_text t_word t_order t_rows t_written t_allF t_reasonsF t_textF t_wordF t_orderF t_rowsF t_writtenF t_thrown t_changes t_isSaved t_result t_texted t_wordSize t_orderMany t_here t_fault t_faultAt t_commandMany t_writtenSize) s.heap.size (fun r => r.1) (fun r => wX9 kc ki t t_all t_reasons t_text t_word t_order t_rows t_written t_allF t_reasonsF t_textF t_wordF t_orderF t_rowsF t_writtenF r.2 t_changes t_isSaved t_result t_texted t_wordSize t_orderMany t_here t_fault t_faultAt t_commandMany t_writtenSize) res) args s 0 0 (va_A (wX9 kc ki t t_all t_reasons t_text t_word t_order t_rows t_written t_allF t_reasonsF t_textF t_wordF t_orderF t_rowsF t_writtenF t_thrown t_changes t_isSaved t_result t_texted t_wordSize t_orderMany t_here t_fault t_faultAt t_commandMany t_writtenSize) s.heap.size)) D (va_A (wX9 kc ki t t_all t_reasons t_text t_word t_order t_rows t_written t_allF t_reasonsF t_textF t_wordF t_orderF t_rowsF t_writtenF t_thrown t_changes t_isSaved t_result t_texted t_wordSize t_orderMany t_here t_fault t_faultAt t_commandMany t_writtenSize) s.heap.size) 3 0 0 21 [(0, .ref t), (1, .int p1), (2, .int p2)] [.ref t] (wX9 kc ki t t_all t_reasons t_text t_word t_order t_rows t_written t_allF t_reasonsF t_textF t_wordF t_orderF t_rowsF t_writtenF q_t_thrown t_changes t_isSaved t_result t_texted t_wordSize t_orderMany t_here t_fault t_faultAt t_commandMany t_writtenSize) := by
    intro q_t_thrown hF
    unfold f_X9_shared_J21 at hF
    refine a_iconst C (v := 1) dX9_shared_21 (by decide) ?_
    exact hJ22 q_t_thrown 1 hF
  unfold f_X9_shared at hF
  refine a_aload_n C 0 dX9_shared_0 rfl rfl ?_
  refine a_aload_n C 0 dX9_shared_1 rfl rfl ?_
  refine a_iload_n C 1 dX9_shared_2 rfl rfl ?_
  refine a_callVir C 1 [0, 1, 2, 3, 4, 5, 6, 7] 0 cs_X9_57 hd_X9_isLineNumber ⟨rfl, rfl⟩ ⟨Nat.le_of_ble_eq_true rfl, Nat.le_of_ble_eq_true rfl⟩ (fun r h => c_X9_isLineNumber l D J kc ki kb kl kd t t_all t_reasons t_text t_word t_order t_rows t_written t_allF t_reasonsF t_textF t_wordF t_orderF t_rowsF t_writtenF t_thrown t_changes t_isSaved t_result t_texted t_wordSize t_orderMany t_here t_fault t_faultAt t_commandMany t_writtenSize p1 r h) rfl rfl rfl rfl rfl rfl (Nat.le_of_ble_eq_true rfl) dX9_shared_3 ⟨Nat.zero_le _, Nat.zero_le _⟩ hF (fun r3_1 er3_1 hF => ?_)
  refine a_if_eq C (tgt := 21) dX9_shared_6 (by decide) hF (fun c6_2 hF => ?_) (fun c6_2 hF => ?_)
  · exact hJ21 t_thrown hF
  refine a_aload_n C 0 dX9_shared_9 rfl rfl ?_
  refine a_iload_n C 2 dX9_shared_10 rfl rfl ?_
  refine a_callVir C 1 [0, 1, 2, 3, 4, 5, 6, 7] 0 cs_X9_57 hd_X9_isLineNumber ⟨rfl, rfl⟩ ⟨Nat.le_of_ble_eq_true rfl, Nat.le_of_ble_eq_true rfl⟩ (fun r h => c_X9_isLineNumber l D J kc ki kb kl kd t t_all t_reasons t_text t_word t_order t_rows t_written t_allF t_reasonsF t_textF t_wordF t_orderF t_rowsF t_writtenF t_thrown t_changes t_isSaved t_result t_texted t_wordSize t_orderMany t_here t_fault t_faultAt t_commandMany t_writtenSize p2 r h) rfl rfl rfl rfl rfl rfl (Nat.le_of_ble_eq_true rfl) dX9_shared_11 ⟨Nat.zero_le _, Nat.zero_le _⟩ hF (fun r11_7 er11_7 hF => ?_)
  refine a_if_eq C (tgt := 21) dX9_shared_14 (by decide) hF (fun c14_8 hF => ?_) (fun c14_8 hF => ?_)
  · exact hJ21 t_thrown hF
  refine a_iconst C (v := 0) dX9_shared_17 (by decide) ?_
  refine a_goto C (tgt := 22) dX9_shared_18 (by decide) ?_
  exact hJ22 t_thrown 0 hF
def f_X9_aloneFrom_L17 (x4 : Int32) (p1 : Int32) (p2 : Int32) (t_allF : Nat → Int32) : Nat → Int32 → Int32 → (Int32 → Int32 → Option Int32) → Option Int32
  | 0, _, _, _ => none
  | fuel + 1, x3, x5, k => (f_X9_size t_allF x4).bind fun r22_3 => if r22_3 ≤ x5 then (k x3 x5) else (if x4 = p1 then (k x3 x5) else ((f_X9_front t_allF ((10 * p1) + p2) ((10 * x4) + x5)).bind fun r49_6 => if r49_6 ≤ x3 then (f_X9_aloneFrom_L17 x4 p1 p2 t_allF fuel x3 (x5 + 1) k) else (f_X9_aloneFrom_L17 x4 p1 p2 t_allF fuel r49_6 (x5 + 1) k)))
def f_X9_aloneFrom_L5 (p1 : Int32) (p2 : Int32) (t_allF : Nat → Int32) : Nat → Int32 → Int32 → (Int32 → Int32 → Option Int32) → Option Int32
  | 0, _, _, _ => none
  | fuel + 1, x3, x4, k => (f_X9_many t_allF).bind fun r8_1 => if r8_1 ≤ x4 then (k x3 x4) else (f_X9_aloneFrom_L17 x4 p1 p2 t_allF 1000 x3 0 (fun x3_17_8 x5_17_9 => f_X9_aloneFrom_L5 p1 p2 t_allF fuel x3_17_8 (x4 + 1) k))
def f_X9_aloneFrom (t_allF : Nat → Int32) (p1 : Int32) (p2 : Int32) : Option Int32 := f_X9_aloneFrom_L5 p1 p2 t_allF 1000 0 0 (fun x3_5_10 x4_5_11 => (f_X9_size t_allF p1).bind fun r82_12 => if (r82_12 - p2) ≤ x3_5_10 then (some (-1)) else (some (x3_5_10 + 1)))
theorem hd_X9_aloneFrom : yX9_aloneFrom.cls = RX9 ∧ yX9_aloneFrom.cls ≠ "java/lang/invoke/MethodHandle" ∧ yX9_aloneFrom.cls ≠ "java/lang/invoke/VarHandle" ∧ (parseMethodDescriptor yX9_aloneFrom.desc).map (fun d => d.parameters.length) = some 2 := by decide +kernel
set_option maxRecDepth 100000 in
set_option maxHeartbeats 4000000 in
theorem c_X9_aloneFrom (l : Launch) (D : va_G) (J : (Nat → Nat) × (Nat → Nat)) (kc ki kb kl kd : ClassId) (t : Nat) (t_all : Nat) (t_reasons : Nat) (t_text : Nat) (t_word : Nat) (t_order : Nat) (t_rows : Nat) (t_written : Nat) (t_allF : Nat → Int32) (t_reasonsF : Nat → Int32) (t_textF : Nat → Int32) (t_wordF : Nat → Int32) (t_orderF : Nat → Int32) (t_rowsF : Nat → Int32) (t_writtenF : Nat → Int32) (t_thrown : Int32) (t_changes : Int32) (t_isSaved : Int32) (t_result : Int32) (t_texted : Int32) (t_wordSize : Int32) (t_orderMany : Int32) (t_here : Int32) (t_fault : Int32) (t_faultAt : Int32) (t_commandMany : Int32) (t_writtenSize : Int32) (p1 p2 : Int32) (res : Int32) (hF : f_X9_aloneFrom t_allF p1 p2 = some res) : aKi l yX9_aloneFrom (aW yX9_aloneFrom cX9_aloneFrom 7 ((some .int))) ({ frames := 3, cells := 0, slots := 0, locals := 67 } : Room) D J (aTy kc ki kb kl kd) [.ref t, .int p1, .int p2] (wX9 kc ki t t_all t_reasons t_text t_word t_order t_rows t_written t_allF t_reasonsF t_textF t_wordF t_orderF t_rowsF t_writtenF t_thrown t_changes t_isSaved t_result t_texted t_wordSize t_orderMany t_here t_fault t_faultAt t_commandMany t_writtenSize) (fun r => r) (fun _ => wX9 kc ki t t_all t_reasons t_text t_word t_order t_rows t_written t_allF t_reasonsF t_textF t_wordF t_orderF t_rowsF t_writtenF t_thrown t_changes t_isSaved t_result t_texted t_wordSize t_orderMany t_here t_fault t_faultAt t_commandMany t_writtenSize) res := by
  refine aKi_of (own := RX9) (by decide) rfl (Nat.le_of_ble_eq_true rfl) rfl ?_
  intro p e s m args below meth c C hr
  have hI17 : ∀ (x4 : Int32) (fuel : Nat) (x3 : Int32) (x5 : Int32) (k : Int32 → Int32 → Option Int32), f_X9_aloneFrom_L17 x4 p1 p2 t_allF fuel x3 x5 k = some res → (∀ (x3 : Int32) (x5 : Int32), k x3 x5 = some res → aT p l e ({ frames := 3, cells := 0, slots := 0, locals := 67 } : Room) s m args below meth c (MQ below (aQi D (wX9 kc ki t t_all t_reasons t_text t_word t_order t_rows t_written t_allF t_reasonsF t_textF t_wordF t_orderF t_rowsF t_writtenF t_thrown t_changes t_isSaved t_result t_texted t_wordSize t_orderMany t_here t_fault t_faultAt t_commandMany t_writtenSize) s.heap.size (fun r => r) (fun _ => wX9 kc ki t t_all t_reasons t_text t_word t_order t_rows t_written t_allF t_reasonsF t_textF t_wordF t_orderF t_rowsF t_writtenF t_thrown t_changes t_isSaved t_result t_texted t_wordSize t_orderMany t_here t_fault t_faultAt t_commandMany t_writtenSize) res) args s 0 0 (va_A (wX9 kc ki t t_all t_reasons t_text t_word t_order t_rows t_written t_allF t_reasonsF t_textF t_wordF t_orderF t_rowsF t_writtenF t_thrown t_changes t_isSaved t_result t_texted t_wordSize t_orderMany t_here t_fault t_faultAt t_commandMany t_writtenSize) s.heap.size)) D (va_A (wX9 kc ki t t_all t_reasons t_text t_word t_order t_rows t_written t_allF t_reasonsF t_textF t_wordF t_orderF t_rowsF t_writtenF t_thrown t_changes t_isSaved t_result t_texted t_wordSize t_orderMany t_here t_fault t_faultAt t_commandMany t_writtenSize) s.heap.size) 7 0 0 73 [(0, .ref t), (1, .int p1), (2, .int p2), (3, .int x3), (4, .int x4)] [] (wX9 kc ki t t_all t_reasons t_text t_word t_order t_rows t_written t_allF t_reasonsF t_textF t_wordF t_orderF t_rowsF t_writtenF t_thrown t_changes t_isSaved t_result t_texted t_wordSize t_orderMany t_here t_fault t_faultAt t_commandMany t_writtenSize)) → aT p l e ({ frames := 3, cells := 0, slots := 0, locals := 67 } : Room) s m args below meth c (MQ below (aQi D (wX9 kc ki t t_all t_reasons t_text t_word t_order t_rows t_written t_allF t_reasonsF t_textF t_wordF t_orderF t_rowsF t_writtenF t_thrown t_changes t_isSaved t_result t_texted t_wordSize t_orderMany t_here t_fault t_faultAt t_commandMany t_writtenSize) s.heap.size (fun r => r) (fun _ => wX9 kc ki t t_all t_reasons t_text t_word t_order t_rows t_written t_allF t_reasonsF t_textF t_wordF t_orderF t_rowsF t_writtenF t_thrown t_changes t_isSaved t_result t_texted t_wordSize t_orderMany t_here t_fault t_faultAt t_commandMany t_writtenSize) res) args s 0 0 (va_A (wX9 kc ki t t_all t_reasons t_text t_word t_order t_rows t_written t_allF t_reasonsF t_textF t_wordF t_orderF t_rowsF t_writtenF t_thrown t_changes t_isSaved t_result t_texted t_wordSize t_orderMany t_here t_fault t_faultAt t_commandMany t_writtenSize) s.heap.size)) D (va_A (wX9 kc ki t t_all t_reasons t_text t_word t_order t_rows t_written t_allF t_reasonsF t_textF t_wordF t_orderF t_rowsF t_writtenF t_thrown t_changes t_isSaved t_result t_texted t_wordSize t_orderMany t_here t_fault t_faultAt t_commandMany t_writtenSize) s.heap.size) 7 0 0 17 [(0, .ref t), (1, .int p1), (2, .int p2), (3, .int x3), (4, .int x4), (5, .int x5)] [] (wX9 kc ki t t_all t_reasons t_text t_word t_order t_rows t_written t_allF t_reasonsF t_textF t_wordF t_orderF t_rowsF t_writtenF t_thrown t_changes t_isSaved t_result t_texted t_wordSize t_orderMany t_here t_fault t_faultAt t_commandMany t_writtenSize) := by
    intro x4 fuel
    induction fuel with
    | zero => intro x3 x5 k hF hX; exact nomatch hF
    | succ fuel ih =>
      intro x3 x5 k hF hX
      rw [f_X9_aloneFrom_L17] at hF
      refine a_iload C 5 dX9_aloneFrom_17 rfl ?_
      refine a_aload_n C 0 dX9_aloneFrom_19 rfl rfl ?_
      refine a_iload C 4 dX9_aloneFrom_20 rfl ?_
      refine a_callVir C 1 [0, 1, 2, 3, 4, 5, 6, 7] 0 cs_X9_61 hd_X9_size ⟨rfl, rfl⟩ ⟨Nat.le_of_ble_eq_true rfl, Nat.le_of_ble_eq_true rfl⟩ (fun r h => c_X9_size l D J kc ki kb kl kd t t_all t_reasons t_text t_word t_order t_rows t_written t_allF t_reasonsF t_textF t_wordF t_orderF t_rowsF t_writtenF t_thrown t_changes t_isSaved t_result t_texted t_wordSize t_orderMany t_here t_fault t_faultAt t_commandMany t_writtenSize x4 r h) rfl rfl rfl rfl rfl rfl (Nat.le_of_ble_eq_true rfl) dX9_aloneFrom_22 ⟨Nat.zero_le _, Nat.zero_le _⟩ hF (fun r22_3 er22_3 hF => ?_)
      refine a_ic_ge C (tgt := 73) dX9_aloneFrom_25 (by decide) hF (fun c25_4 hF => ?_) (fun c25_4 hF => ?_)
      · refine a_sub C [0, 1, 2, 3, 4] [(0, .ref t), (1, .int p1), (2, .int p2), (3, .int x3), (4, .int x4)] rfl ?_
        exact hX x3 x5 hF
      refine a_iload C 4 dX9_aloneFrom_28 rfl ?_
      refine a_iload_n C 1 dX9_aloneFrom_30 rfl rfl ?_
      refine a_ic_eq C (tgt := 73) dX9_aloneFrom_31 (by decide) hF (fun c31_5 hF => ?_) (fun c31_5 hF => ?_)
      · refine a_sub C [0, 1, 2, 3, 4] [(0, .ref t), (1, .int p1), (2, .int p2), (3, .int x3), (4, .int x4)] rfl ?_
        exact hX x3 x5 hF
      refine a_aload_n C 0 dX9_aloneFrom_34 rfl rfl ?_
      refine a_bipush C (v := 10) dX9_aloneFrom_35 (by decide) ?_
      refine a_iload_n C 1 dX9_aloneFrom_37 rfl rfl ?_
      refine a_imul C dX9_aloneFrom_38 ?_
      refine a_iload_n C 2 dX9_aloneFrom_39 rfl rfl ?_
      refine a_iadd C dX9_aloneFrom_40 ?_
      refine a_bipush C (v := 10) dX9_aloneFrom_41 (by decide) ?_
      refine a_iload C 4 dX9_aloneFrom_43 rfl ?_
      refine a_imul C dX9_aloneFrom_45 ?_
      refine a_iload C 5 dX9_aloneFrom_46 rfl ?_
      refine a_iadd C dX9_aloneFrom_48 ?_
      refine a_callVir C 2 [0, 1, 2, 3, 4, 5, 6, 7] 0 cs_X9_138 hd_X9_front ⟨rfl, rfl⟩ ⟨Nat.le_of_ble_eq_true rfl, Nat.le_of_ble_eq_true rfl⟩ (fun r h => c_X9_front l D J kc ki kb kl kd t t_all t_reasons t_text t_word t_order t_rows t_written t_allF t_reasonsF t_textF t_wordF t_orderF t_rowsF t_writtenF t_thrown t_changes t_isSaved t_result t_texted t_wordSize t_orderMany t_here t_fault t_faultAt t_commandMany t_writtenSize ((10 * p1) + p2) ((10 * x4) + x5) r h) rfl rfl rfl rfl rfl rfl (Nat.le_of_ble_eq_true rfl) dX9_aloneFrom_49 ⟨Nat.zero_le _, Nat.zero_le _⟩ hF (fun r49_6 er49_6 hF => ?_)
      refine a_istore C [(6, .int r49_6), (0, .ref t), (1, .int p1), (2, .int p2), (3, .int x3), (4, .int x4), (5, .int x5)] dX9_aloneFrom_52 (by decide) rfl ?_
      refine a_iload C 0 dX9_aloneFrom_54 rfl ?_
      refine a_iload_n C 4 dX9_aloneFrom_56 rfl rfl ?_
      refine a_ic_le C (tgt := 65) dX9_aloneFrom_57 (by decide) hF (fun c57_7 hF => ?_) (fun c57_7 hF => ?_)
      · refine a_iload_n C 4 dX9_aloneFrom_65 rfl rfl ?_
        refine a_istore_n C [(3, .int x3), (6, .int r49_6), (0, .ref t), (1, .int p1), (2, .int p2), (4, .int x4), (5, .int x5)] dX9_aloneFrom_66 rfl (by decide) rfl ?_
        refine a_iinc C 6 [(5, .int (x5 + 1)), (3, .int x3), (6, .int r49_6), (0, .ref t), (1, .int p1), (2, .int p2), (4, .int x4)] dX9_aloneFrom_67 rfl rfl (by decide) rfl ?_
        refine a_goto C (tgt := 17) dX9_aloneFrom_70 (by decide) ?_
        refine a_sub C [3, 4, 5, 1, 6, 0] [(0, .ref t), (1, .int p1), (2, .int p2), (3, .int x3), (4, .int x4), (5, .int (x5 + 1))] rfl ?_
        exact ih x3 (x5 + 1) k hF hX
      refine a_iload C 0 dX9_aloneFrom_60 rfl ?_
      refine a_goto C (tgt := 66) dX9_aloneFrom_62 (by decide) ?_
      refine a_istore_n C [(3, .int r49_6), (6, .int r49_6), (0, .ref t), (1, .int p1), (2, .int p2), (4, .int x4), (5, .int x5)] dX9_aloneFrom_66 rfl (by decide) rfl ?_
      refine a_iinc C 6 [(5, .int (x5 + 1)), (3, .int r49_6), (6, .int r49_6), (0, .ref t), (1, .int p1), (2, .int p2), (4, .int x4)] dX9_aloneFrom_67 rfl rfl (by decide) rfl ?_
      refine a_goto C (tgt := 17) dX9_aloneFrom_70 (by decide) ?_
      refine a_sub C [3, 4, 5, 1, 6, 0] [(0, .ref t), (1, .int p1), (2, .int p2), (3, .int r49_6), (4, .int x4), (5, .int (x5 + 1))] rfl ?_
      exact ih r49_6 (x5 + 1) k hF hX
  have hI5 : ∀ (fuel : Nat) (x3 : Int32) (x4 : Int32) (k : Int32 → Int32 → Option Int32), f_X9_aloneFrom_L5 p1 p2 t_allF fuel x3 x4 k = some res → (∀ (x3 : Int32) (x4 : Int32), k x3 x4 = some res → aT p l e ({ frames := 3, cells := 0, slots := 0, locals := 67 } : Room) s m args below meth c (MQ below (aQi D (wX9 kc ki t t_all t_reasons t_text t_word t_order t_rows t_written t_allF t_reasonsF t_textF t_wordF t_orderF t_rowsF t_writtenF t_thrown t_changes t_isSaved t_result t_texted t_wordSize t_orderMany t_here t_fault t_faultAt t_commandMany t_writtenSize) s.heap.size (fun r => r) (fun _ => wX9 kc ki t t_all t_reasons t_text t_word t_order t_rows t_written t_allF t_reasonsF t_textF t_wordF t_orderF t_rowsF t_writtenF t_thrown t_changes t_isSaved t_result t_texted t_wordSize t_orderMany t_here t_fault t_faultAt t_commandMany t_writtenSize) res) args s 0 0 (va_A (wX9 kc ki t t_all t_reasons t_text t_word t_order t_rows t_written t_allF t_reasonsF t_textF t_wordF t_orderF t_rowsF t_writtenF t_thrown t_changes t_isSaved t_result t_texted t_wordSize t_orderMany t_here t_fault t_faultAt t_commandMany t_writtenSize) s.heap.size)) D (va_A (wX9 kc ki t t_all t_reasons t_text t_word t_order t_rows t_written t_allF t_reasonsF t_textF t_wordF t_orderF t_rowsF t_writtenF t_thrown t_changes t_isSaved t_result t_texted t_wordSize t_orderMany t_here t_fault t_faultAt t_commandMany t_writtenSize) s.heap.size) 7 0 0 79 [(0, .ref t), (1, .int p1), (2, .int p2), (3, .int x3)] [] (wX9 kc ki t t_all t_reasons t_text t_word t_order t_rows t_written t_allF t_reasonsF t_textF t_wordF t_orderF t_rowsF t_writtenF t_thrown t_changes t_isSaved t_result t_texted t_wordSize t_orderMany t_here t_fault t_faultAt t_commandMany t_writtenSize)) → aT p l e ({ frames := 3, cells := 0, slots := 0, locals := 67 } : Room) s m args below meth c (MQ below (aQi D (wX9 kc ki t t_all t_reasons t_text t_word t_order t_rows t_written t_allF t_reasonsF t_textF t_wordF t_orderF t_rowsF t_writtenF t_thrown t_changes t_isSaved t_result t_texted t_wordSize t_orderMany t_here t_fault t_faultAt t_commandMany t_writtenSize) s.heap.size (fun r => r) (fun _ => wX9 kc ki t t_all t_reasons t_text t_word t_order t_rows t_written t_allF t_reasonsF t_textF t_wordF t_orderF t_rowsF t_writtenF t_thrown t_changes t_isSaved t_result t_texted t_wordSize t_orderMany t_here t_fault t_faultAt t_commandMany t_writtenSize) res) args s 0 0 (va_A (wX9 kc ki t t_all t_reasons t_text t_word t_order t_rows t_written t_allF t_reasonsF t_textF t_wordF t_orderF t_rowsF t_writtenF t_thrown t_changes t_isSaved t_result t_texted t_wordSize t_orderMany t_here t_fault t_faultAt t_commandMany t_writtenSize) s.heap.size)) D (va_A (wX9 kc ki t t_all t_reasons t_text t_word t_order t_rows t_written t_allF t_reasonsF t_textF t_wordF t_orderF t_rowsF t_writtenF t_thrown t_changes t_isSaved t_result t_texted t_wordSize t_orderMany t_here t_fault t_faultAt t_commandMany t_writtenSize) s.heap.size) 7 0 0 5 [(0, .ref t), (1, .int p1), (2, .int p2), (3, .int x3), (4, .int x4)] [] (wX9 kc ki t t_all t_reasons t_text t_word t_order t_rows t_written t_allF t_reasonsF t_textF t_wordF t_orderF t_rowsF t_writtenF t_thrown t_changes t_isSaved t_result t_texted t_wordSize t_orderMany t_here t_fault t_faultAt t_commandMany t_writtenSize) := by
    intro fuel
    induction fuel with
    | zero => intro x3 x4 k hF hX; exact nomatch hF
    | succ fuel ih =>
      intro x3 x4 k hF hX
      rw [f_X9_aloneFrom_L5] at hF
      refine a_iload C 4 dX9_aloneFrom_5 rfl ?_
      refine a_aload_n C 0 dX9_aloneFrom_7 rfl rfl ?_
      refine a_callVir C 0 [0, 1, 2, 3, 4, 5, 6, 7] 0 cs_X9_53 hd_X9_many ⟨rfl, rfl⟩ ⟨Nat.le_of_ble_eq_true rfl, Nat.le_of_ble_eq_true rfl⟩ (fun r h => c_X9_many l D J kc ki kb kl kd t t_all t_reasons t_text t_word t_order t_rows t_written t_allF t_reasonsF t_textF t_wordF t_orderF t_rowsF t_writtenF t_thrown t_changes t_isSaved t_result t_texted t_wordSize t_orderMany t_here t_fault t_faultAt t_commandMany t_writtenSize r h) rfl rfl rfl rfl rfl rfl (Nat.le_of_ble_eq_true rfl) dX9_aloneFrom_8 ⟨Nat.zero_le _, Nat.zero_le _⟩ hF (fun r8_1 er8_1 hF => ?_)
      refine a_ic_ge C (tgt := 79) dX9_aloneFrom_11 (by decide) hF (fun c11_2 hF => ?_) (fun c11_2 hF => ?_)
      · refine a_sub C [0, 1, 2, 3] [(0, .ref t), (1, .int p1), (2, .int p2), (3, .int x3)] rfl ?_
        exact hX x3 x4 hF
      refine a_iconst C (v := 0) dX9_aloneFrom_14 (by decide) ?_
      refine a_istore C [(5, .int 0), (0, .ref t), (1, .int p1), (2, .int p2), (3, .int x3), (4, .int x4)] dX9_aloneFrom_15 (by decide) rfl ?_
      refine a_sub C [1, 2, 3, 4, 5, 0] [(0, .ref t), (1, .int p1), (2, .int p2), (3, .int x3), (4, .int x4), (5, .int 0)] rfl ?_
      refine hI17 x4 1000 x3 0 _ hF (fun x3_17_8 x5_17_9 hF => ?_)
      refine a_iinc C 4 [(4, .int (x4 + 1)), (0, .ref t), (1, .int p1), (2, .int p2), (3, .int x3_17_8)] dX9_aloneFrom_73 rfl rfl (by decide) rfl ?_
      refine a_goto C (tgt := 5) dX9_aloneFrom_76 (by decide) ?_
      refine a_sub C [1, 2, 3, 4, 0] [(0, .ref t), (1, .int p1), (2, .int p2), (3, .int x3_17_8), (4, .int (x4 + 1))] rfl ?_
      exact ih x3_17_8 (x4 + 1) k hF hX
  unfold f_X9_aloneFrom at hF
  refine a_iconst C (v := 0) dX9_aloneFrom_0 (by decide) ?_
  refine a_istore_n C [(3, .int 0), (0, .ref t), (1, .int p1), (2, .int p2)] dX9_aloneFrom_1 rfl (by decide) rfl ?_
  refine a_iconst C (v := 0) dX9_aloneFrom_2 (by decide) ?_
  refine a_istore C [(4, .int 0), (3, .int 0), (0, .ref t), (1, .int p1), (2, .int p2)] dX9_aloneFrom_3 (by decide) rfl ?_
  refine a_sub C [2, 3, 4, 1, 0] [(0, .ref t), (1, .int p1), (2, .int p2), (3, .int 0), (4, .int 0)] rfl ?_
  refine hI5 1000 0 0 _ hF (fun x3_5_10 x4_5_11 hF => ?_)
  refine a_iload_n C 3 dX9_aloneFrom_79 rfl rfl ?_
  refine a_aload_n C 0 dX9_aloneFrom_80 rfl rfl ?_
  refine a_iload_n C 1 dX9_aloneFrom_81 rfl rfl ?_
  refine a_callVir C 1 [0, 1, 2, 3, 4, 5, 6, 7] 0 cs_X9_61 hd_X9_size ⟨rfl, rfl⟩ ⟨Nat.le_of_ble_eq_true rfl, Nat.le_of_ble_eq_true rfl⟩ (fun r h => c_X9_size l D J kc ki kb kl kd t t_all t_reasons t_text t_word t_order t_rows t_written t_allF t_reasonsF t_textF t_wordF t_orderF t_rowsF t_writtenF t_thrown t_changes t_isSaved t_result t_texted t_wordSize t_orderMany t_here t_fault t_faultAt t_commandMany t_writtenSize p1 r h) rfl rfl rfl rfl rfl rfl (Nat.le_of_ble_eq_true rfl) dX9_aloneFrom_82 ⟨Nat.zero_le _, Nat.zero_le _⟩ hF (fun r82_12 er82_12 hF => ?_)
  refine a_iload_n C 2 dX9_aloneFrom_85 rfl rfl ?_
  refine a_isub C dX9_aloneFrom_86 ?_
  refine a_ic_ge C (tgt := 96) dX9_aloneFrom_87 (by decide) hF (fun c87_13 hF => ?_) (fun c87_13 hF => ?_)
  · refine a_iconst C (v := (-1)) dX9_aloneFrom_96 (by decide) ?_
    exact a_iret C hr rfl dX9_aloneFrom_97 hF rfl rfl
  refine a_iload_n C 3 dX9_aloneFrom_90 rfl rfl ?_
  refine a_iconst C (v := 1) dX9_aloneFrom_91 (by decide) ?_
  refine a_iadd C dX9_aloneFrom_92 ?_
  refine a_goto C (tgt := 97) dX9_aloneFrom_93 (by decide) ?_
  exact a_iret C hr rfl dX9_aloneFrom_97 hF rfl rfl
theorem cs_X9_186 : GoodIn WW (wsV RX9 186 RX9 yX9_aloneFrom (aW yX9_aloneFrom cX9_aloneFrom 7 ((some .int)))) := gdV kl_X9_186 ki_X9_aloneFrom kv_X9_aloneFrom kn_X9 kc_X9_aloneFrom
def f_X9_aloneOf_L8 (p1 : Int32) (t_allF : Nat → Int32) : Nat → Int32 → Int32 → Int32 → (Int32 → Int32 → Int32 → Option Int32) → Option Int32
  | 0, _, _, _, _ => none
  | fuel + 1, x3, x4, x5, k => (f_X9_size t_allF p1).bind fun r12_1 => if r12_1 ≤ x5 then (k x3 x4 x5) else ((f_X9_aloneFrom t_allF p1 x5).bind fun r22_3 => if r22_3 = ((-1)) then (f_X9_aloneOf_L8 p1 t_allF fuel x3 x4 (x5 + 1) k) else (if x3 = ((-1)) then (f_X9_aloneOf_L8 p1 t_allF fuel r22_3 x5 (x5 + 1) k) else (if r22_3 < x3 then (f_X9_aloneOf_L8 p1 t_allF fuel r22_3 x5 (x5 + 1) k) else (f_X9_aloneOf_L8 p1 t_allF fuel x3 x4 (x5 + 1) k))))
def f_X9_aloneOf (t_allF : Nat → Int32) (p1 : Int32) (p2 : Int32) : Option Int32 := f_X9_aloneOf_L8 p1 t_allF 1000 ((-1)) ((-1)) 0 (fun x3_8_7 x4_8_8 x5_8_9 => if p2 = 0 then (some x3_8_7) else (some x4_8_8))
theorem hd_X9_aloneOf : yX9_aloneOf.cls = RX9 ∧ yX9_aloneOf.cls ≠ "java/lang/invoke/MethodHandle" ∧ yX9_aloneOf.cls ≠ "java/lang/invoke/VarHandle" ∧ (parseMethodDescriptor yX9_aloneOf.desc).map (fun d => d.parameters.length) = some 2 := by decide +kernel
set_option maxRecDepth 100000 in
set_option maxHeartbeats 4000000 in
theorem c_X9_aloneOf (l : Launch) (D : va_G) (J : (Nat → Nat) × (Nat → Nat)) (kc ki kb kl kd : ClassId) (t : Nat) (t_all : Nat) (t_reasons : Nat) (t_text : Nat) (t_word : Nat) (t_order : Nat) (t_rows : Nat) (t_written : Nat) (t_allF : Nat → Int32) (t_reasonsF : Nat → Int32) (t_textF : Nat → Int32) (t_wordF : Nat → Int32) (t_orderF : Nat → Int32) (t_rowsF : Nat → Int32) (t_writtenF : Nat → Int32) (t_thrown : Int32) (t_changes : Int32) (t_isSaved : Int32) (t_result : Int32) (t_texted : Int32) (t_wordSize : Int32) (t_orderMany : Int32) (t_here : Int32) (t_fault : Int32) (t_faultAt : Int32) (t_commandMany : Int32) (t_writtenSize : Int32) (p1 p2 : Int32) (res : Int32) (hF : f_X9_aloneOf t_allF p1 p2 = some res) : aKi l yX9_aloneOf (aW yX9_aloneOf cX9_aloneOf 7 ((some .int))) ({ frames := 4, cells := 0, slots := 0, locals := 93 } : Room) D J (aTy kc ki kb kl kd) [.ref t, .int p1, .int p2] (wX9 kc ki t t_all t_reasons t_text t_word t_order t_rows t_written t_allF t_reasonsF t_textF t_wordF t_orderF t_rowsF t_writtenF t_thrown t_changes t_isSaved t_result t_texted t_wordSize t_orderMany t_here t_fault t_faultAt t_commandMany t_writtenSize) (fun r => r) (fun _ => wX9 kc ki t t_all t_reasons t_text t_word t_order t_rows t_written t_allF t_reasonsF t_textF t_wordF t_orderF t_rowsF t_writtenF t_thrown t_changes t_isSaved t_result t_texted t_wordSize t_orderMany t_here t_fault t_faultAt t_commandMany t_writtenSize) res := by
  refine aKi_of (own := RX9) (by decide) rfl (Nat.le_of_ble_eq_true rfl) rfl ?_
  intro p e s m args below meth c C hr
  have hI8 : ∀ (fuel : Nat) (x3 : Int32) (x4 : Int32) (x5 : Int32) (k : Int32 → Int32 → Int32 → Option Int32), f_X9_aloneOf_L8 p1 t_allF fuel x3 x4 x5 k = some res → (∀ (x3 : Int32) (x4 : Int32) (x5 : Int32), k x3 x4 x5 = some res → aT p l e ({ frames := 4, cells := 0, slots := 0, locals := 93 } : Room) s m args below meth c (MQ below (aQi D (wX9 kc ki t t_all t_reasons t_text t_word t_order t_rows t_written t_allF t_reasonsF t_textF t_wordF t_orderF t_rowsF t_writtenF t_thrown t_changes t_isSaved t_result t_texted t_wordSize t_orderMany t_here t_fault t_faultAt t_commandMany t_writtenSize) s.heap.size (fun r => r) (fun _ => wX9 kc ki t t_all t_reasons t_text t_word t_order t_rows t_written t_allF t_reasonsF t_textF t_wordF t_orderF t_rowsF t_writtenF t_thrown t_changes t_isSaved t_result t_texted t_wordSize t_orderMany t_here t_fault t_faultAt t_commandMany t_writtenSize) res) args s 0 0 (va_A (wX9 kc ki t t_all t_reasons t_text t_word t_order t_rows t_written t_allF t_reasonsF t_textF t_wordF t_orderF t_rowsF t_writtenF t_thrown t_changes t_isSaved t_result t_texted t_wordSize t_orderMany t_here t_fault t_faultAt t_commandMany t_writtenSize) s.heap.size)) D (va_A (wX9 kc ki t t_all t_reasons t_text t_word t_order t_rows t_written t_allF t_reasonsF t_textF t_wordF t_orderF t_rowsF t_writtenF t_thrown t_changes t_isSaved t_result t_texted t_wordSize t_orderMany t_here t_fault t_faultAt t_commandMany t_writtenSize) s.heap.size) 7 0 0 60 [(2, .int p2), (3, .int x3), (4, .int x4)] [] (wX9 kc ki t t_all t_reasons t_text t_word t_order t_rows t_written t_allF t_reasonsF t_textF t_wordF t_orderF t_rowsF t_writtenF t_thrown t_changes t_isSaved t_result t_texted t_wordSize t_orderMany t_here t_fault t_faultAt t_commandMany t_writtenSize)) → aT p l e ({ frames := 4, cells := 0, slots := 0, locals := 93 } : Room) s m args below meth c (MQ below (aQi D (wX9 kc ki t t_all t_reasons t_text t_word t_order t_rows t_written t_allF t_reasonsF t_textF t_wordF t_orderF t_rowsF t_writtenF t_thrown t_changes t_isSaved t_result t_texted t_wordSize t_orderMany t_here t_fault t_faultAt t_commandMany t_writtenSize) s.heap.size (fun r => r) (fun _ => wX9 kc ki t t_all t_reasons t_text t_word t_order t_rows t_written t_allF t_reasonsF t_textF t_wordF t_orderF t_rowsF t_writtenF t_thrown t_changes t_isSaved t_result t_texted t_wordSize t_orderMany t_here t_fault t_faultAt t_commandMany t_writtenSize) res) args s 0 0 (va_A (wX9 kc ki t t_all t_reasons t_text t_word t_order t_rows t_written t_allF t_reasonsF t_textF t_wordF t_orderF t_rowsF t_writtenF t_thrown t_changes t_isSaved t_result t_texted t_wordSize t_orderMany t_here t_fault t_faultAt t_commandMany t_writtenSize) s.heap.size)) D (va_A (wX9 kc ki t t_all t_reasons t_text t_word t_order t_rows t_written t_allF t_reasonsF t_textF t_wordF t_orderF t_rowsF t_writtenF t_thrown t_changes t_isSaved t_result t_texted t_wordSize t_orderMany t_here t_fault t_faultAt t_commandMany t_writtenSize) s.heap.size) 7 0 0 8 [(0, .ref t), (1, .int p1), (2, .int p2), (3, .int x3), (4, .int x4), (5, .int x5)] [] (wX9 kc ki t t_all t_reasons t_text t_word t_order t_rows t_written t_allF t_reasonsF t_textF t_wordF t_orderF t_rowsF t_writtenF t_thrown t_changes t_isSaved t_result t_texted t_wordSize t_orderMany t_here t_fault t_faultAt t_commandMany t_writtenSize) := by
    intro fuel
    induction fuel with
    | zero => intro x3 x4 x5 k hF hX; exact nomatch hF
    | succ fuel ih =>
      intro x3 x4 x5 k hF hX
      rw [f_X9_aloneOf_L8] at hF
      refine a_iload C 5 dX9_aloneOf_8 rfl ?_
      refine a_aload_n C 0 dX9_aloneOf_10 rfl rfl ?_
      refine a_iload_n C 1 dX9_aloneOf_11 rfl rfl ?_
      refine a_callVir C 1 [0, 1, 2, 3, 4, 5, 6, 7] 0 cs_X9_61 hd_X9_size ⟨rfl, rfl⟩ ⟨Nat.le_of_ble_eq_true rfl, Nat.le_of_ble_eq_true rfl⟩ (fun r h => c_X9_size l D J kc ki kb kl kd t t_all t_reasons t_text t_word t_order t_rows t_written t_allF t_reasonsF t_textF t_wordF t_orderF t_rowsF t_writtenF t_thrown t_changes t_isSaved t_result t_texted t_wordSize t_orderMany t_here t_fault t_faultAt t_commandMany t_writtenSize p1 r h) rfl rfl rfl rfl rfl rfl (Nat.le_of_ble_eq_true rfl) dX9_aloneOf_12 ⟨Nat.zero_le _, Nat.zero_le _⟩ hF (fun r12_1 er12_1 hF => ?_)
      refine a_ic_ge C (tgt := 60) dX9_aloneOf_15 (by decide) hF (fun c15_2 hF => ?_) (fun c15_2 hF => ?_)
      · refine a_sub C [2, 3, 4] [(2, .int p2), (3, .int x3), (4, .int x4)] rfl ?_
        exact hX x3 x4 x5 hF
      refine a_aload_n C 0 dX9_aloneOf_18 rfl rfl ?_
      refine a_iload_n C 1 dX9_aloneOf_19 rfl rfl ?_
      refine a_iload C 5 dX9_aloneOf_20 rfl ?_
      refine a_callVir C 2 [0, 1, 2, 3, 4, 5, 6, 7] 0 cs_X9_186 hd_X9_aloneFrom ⟨rfl, rfl⟩ ⟨Nat.le_of_ble_eq_true rfl, Nat.le_of_ble_eq_true rfl⟩ (fun r h => c_X9_aloneFrom l D J kc ki kb kl kd t t_all t_reasons t_text t_word t_order t_rows t_written t_allF t_reasonsF t_textF t_wordF t_orderF t_rowsF t_writtenF t_thrown t_changes t_isSaved t_result t_texted t_wordSize t_orderMany t_here t_fault t_faultAt t_commandMany t_writtenSize p1 x5 r h) rfl rfl rfl rfl rfl rfl (Nat.le_of_ble_eq_true rfl) dX9_aloneOf_22 ⟨Nat.zero_le _, Nat.zero_le _⟩ hF (fun r22_3 er22_3 hF => ?_)
      refine a_istore C [(6, .int r22_3), (0, .ref t), (1, .int p1), (2, .int p2), (3, .int x3), (4, .int x4), (5, .int x5)] dX9_aloneOf_25 (by decide) rfl ?_
      refine a_iload C 0 dX9_aloneOf_27 rfl ?_
      refine a_iconst C (v := (-1)) dX9_aloneOf_29 (by decide) ?_
      refine a_ic_eq C (tgt := 54) dX9_aloneOf_30 (by decide) hF (fun c30_4 hF => ?_) (fun c30_4 hF => ?_)
      · refine a_iinc C 6 [(5, .int (x5 + 1)), (6, .int r22_3), (0, .ref t), (1, .int p1), (2, .int p2), (3, .int x3), (4, .int x4)] dX9_aloneOf_54 rfl rfl (by decide) rfl ?_
        refine a_goto C (tgt := 8) dX9_aloneOf_57 (by decide) ?_
        refine a_sub C [2, 3, 4, 5, 6, 0] [(0, .ref t), (1, .int p1), (2, .int p2), (3, .int x3), (4, .int x4), (5, .int (x5 + 1))] rfl ?_
        exact ih x3 x4 (x5 + 1) k hF hX
      refine a_iload_n C 4 dX9_aloneOf_33 rfl rfl ?_
      refine a_iconst C (v := (-1)) dX9_aloneOf_34 (by decide) ?_
      refine a_ic_eq C (tgt := 47) dX9_aloneOf_35 (by decide) hF (fun c35_5 hF => ?_) (fun c35_5 hF => ?_)
      · refine a_iload C 0 dX9_aloneOf_47 rfl ?_
        refine a_istore_n C [(3, .int r22_3), (6, .int r22_3), (0, .ref t), (1, .int p1), (2, .int p2), (4, .int x4), (5, .int x5)] dX9_aloneOf_49 rfl (by decide) rfl ?_
        refine a_iload C 6 dX9_aloneOf_50 rfl ?_
        refine a_istore C [(4, .int x5), (3, .int r22_3), (6, .int r22_3), (0, .ref t), (1, .int p1), (2, .int p2), (5, .int x5)] dX9_aloneOf_52 (by decide) rfl ?_
        refine a_iinc C 6 [(5, .int (x5 + 1)), (4, .int x5), (3, .int r22_3), (6, .int r22_3), (0, .ref t), (1, .int p1), (2, .int p2)] dX9_aloneOf_54 rfl rfl (by decide) rfl ?_
        refine a_goto C (tgt := 8) dX9_aloneOf_57 (by decide) ?_
        refine a_sub C [4, 5, 6, 2, 1, 0] [(0, .ref t), (1, .int p1), (2, .int p2), (3, .int r22_3), (4, .int x5), (5, .int (x5 + 1))] rfl ?_
        exact ih r22_3 x5 (x5 + 1) k hF hX
      refine a_iload C 0 dX9_aloneOf_38 rfl ?_
      refine a_iload_n C 4 dX9_aloneOf_40 rfl rfl ?_
      refine a_ic_lt C (tgt := 47) dX9_aloneOf_41 (by decide) hF (fun c41_6 hF => ?_) (fun c41_6 hF => ?_)
      · refine a_iload C 0 dX9_aloneOf_47 rfl ?_
        refine a_istore_n C [(3, .int r22_3), (6, .int r22_3), (0, .ref t), (1, .int p1), (2, .int p2), (4, .int x4), (5, .int x5)] dX9_aloneOf_49 rfl (by decide) rfl ?_
        refine a_iload C 6 dX9_aloneOf_50 rfl ?_
        refine a_istore C [(4, .int x5), (3, .int r22_3), (6, .int r22_3), (0, .ref t), (1, .int p1), (2, .int p2), (5, .int x5)] dX9_aloneOf_52 (by decide) rfl ?_
        refine a_iinc C 6 [(5, .int (x5 + 1)), (4, .int x5), (3, .int r22_3), (6, .int r22_3), (0, .ref t), (1, .int p1), (2, .int p2)] dX9_aloneOf_54 rfl rfl (by decide) rfl ?_
        refine a_goto C (tgt := 8) dX9_aloneOf_57 (by decide) ?_
        refine a_sub C [4, 5, 6, 2, 1, 0] [(0, .ref t), (1, .int p1), (2, .int p2), (3, .int r22_3), (4, .int x5), (5, .int (x5 + 1))] rfl ?_
        exact ih r22_3 x5 (x5 + 1) k hF hX
      refine a_goto C (tgt := 54) dX9_aloneOf_44 (by decide) ?_
      refine a_iinc C 6 [(5, .int (x5 + 1)), (6, .int r22_3), (0, .ref t), (1, .int p1), (2, .int p2), (3, .int x3), (4, .int x4)] dX9_aloneOf_54 rfl rfl (by decide) rfl ?_
      refine a_goto C (tgt := 8) dX9_aloneOf_57 (by decide) ?_
      refine a_sub C [2, 3, 4, 5, 6, 0] [(0, .ref t), (1, .int p1), (2, .int p2), (3, .int x3), (4, .int x4), (5, .int (x5 + 1))] rfl ?_
      exact ih x3 x4 (x5 + 1) k hF hX
  unfold f_X9_aloneOf at hF
  refine a_iconst C (v := (-1)) dX9_aloneOf_0 (by decide) ?_
  refine a_istore_n C [(3, .int ((-1))), (0, .ref t), (1, .int p1), (2, .int p2)] dX9_aloneOf_1 rfl (by decide) rfl ?_
  refine a_iconst C (v := (-1)) dX9_aloneOf_2 (by decide) ?_
  refine a_istore C [(4, .int ((-1))), (3, .int ((-1))), (0, .ref t), (1, .int p1), (2, .int p2)] dX9_aloneOf_3 (by decide) rfl ?_
  refine a_iconst C (v := 0) dX9_aloneOf_5 (by decide) ?_
  refine a_istore C [(5, .int 0), (4, .int ((-1))), (3, .int ((-1))), (0, .ref t), (1, .int p1), (2, .int p2)] dX9_aloneOf_6 (by decide) rfl ?_
  refine a_sub C [3, 4, 5, 2, 1, 0] [(0, .ref t), (1, .int p1), (2, .int p2), (3, .int ((-1))), (4, .int ((-1))), (5, .int 0)] rfl ?_
  refine hI8 1000 ((-1)) ((-1)) 0 _ hF (fun x3_8_7 x4_8_8 x5_8_9 hF => ?_)
  refine a_iload_n C 0 dX9_aloneOf_60 rfl rfl ?_
  refine a_if_eq C (tgt := 69) dX9_aloneOf_61 (by decide) hF (fun c61_10 hF => ?_) (fun c61_10 hF => ?_)
  · refine a_iload_n C 1 dX9_aloneOf_69 rfl rfl ?_
    exact a_iret C hr rfl dX9_aloneOf_70 hF rfl rfl
  refine a_iload C 2 dX9_aloneOf_64 rfl ?_
  refine a_goto C (tgt := 70) dX9_aloneOf_66 (by decide) ?_
  exact a_iret C hr rfl dX9_aloneOf_70 hF rfl rfl
theorem cs_X9_189 : GoodIn WW (wsV RX9 189 RX9 yX9_aloneOf (aW yX9_aloneOf cX9_aloneOf 7 ((some .int)))) := gdV kl_X9_189 ki_X9_aloneOf kv_X9_aloneOf kn_X9 kc_X9_aloneOf
def f_X9_aloneAsked_J28 (y1 : Int32) (p1 : Int32) (p2 : Int32) (t_allF : Nat → Int32) : Option (Int32 × Int32) := if ¬ y1 = 0 then (some (0, y1)) else ((f_X9_aloneOf t_allF p1 p2).bind fun r41_6 => some (r41_6, y1))
def f_X9_aloneAsked (t_allF : Nat → Int32) (p1 : Int32) (p2 : Int32) : Option (Int32 × Int32) := (f_X9_isLineNumber t_allF p1).bind fun r3_1 => if ¬ r3_1 = 0 then ((f_X9_aloneOf t_allF p1 p2).bind fun r16_3 => if ¬ r16_3 = ((-1)) then (f_X9_aloneAsked_J28 0 p1 p2 t_allF) else (f_X9_aloneAsked_J28 2 p1 p2 t_allF)) else (f_X9_aloneAsked_J28 1 p1 p2 t_allF)
theorem hd_X9_aloneAsked : yX9_aloneAsked.cls = RX9 ∧ yX9_aloneAsked.cls ≠ "java/lang/invoke/MethodHandle" ∧ yX9_aloneAsked.cls ≠ "java/lang/invoke/VarHandle" ∧ (parseMethodDescriptor yX9_aloneAsked.desc).map (fun d => d.parameters.length) = some 2 := by decide +kernel
set_option maxRecDepth 100000 in
set_option maxHeartbeats 4000000 in
theorem c_X9_aloneAsked (l : Launch) (D : va_G) (J : (Nat → Nat) × (Nat → Nat)) (kc ki kb kl kd : ClassId) (t : Nat) (t_all : Nat) (t_reasons : Nat) (t_text : Nat) (t_word : Nat) (t_order : Nat) (t_rows : Nat) (t_written : Nat) (t_allF : Nat → Int32) (t_reasonsF : Nat → Int32) (t_textF : Nat → Int32) (t_wordF : Nat → Int32) (t_orderF : Nat → Int32) (t_rowsF : Nat → Int32) (t_writtenF : Nat → Int32) (t_thrown : Int32) (t_changes : Int32) (t_isSaved : Int32) (t_result : Int32) (t_texted : Int32) (t_wordSize : Int32) (t_orderMany : Int32) (t_here : Int32) (t_fault : Int32) (t_faultAt : Int32) (t_commandMany : Int32) (t_writtenSize : Int32) (p1 p2 : Int32) (res : Int32 × Int32) (hF : f_X9_aloneAsked t_allF p1 p2 = some res) : aKi l yX9_aloneAsked (aW yX9_aloneAsked cX9_aloneAsked 3 ((some .int))) ({ frames := 5, cells := 0, slots := 0, locals := 119 } : Room) D J (aTy kc ki kb kl kd) [.ref t, .int p1, .int p2] (wX9 kc ki t t_all t_reasons t_text t_word t_order t_rows t_written t_allF t_reasonsF t_textF t_wordF t_orderF t_rowsF t_writtenF t_thrown t_changes t_isSaved t_result t_texted t_wordSize t_orderMany t_here t_fault t_faultAt t_commandMany t_writtenSize) (fun r => r.1) (fun r => wX9 kc ki t t_all t_reasons t_text t_word t_order t_rows t_written t_allF t_reasonsF t_textF t_wordF t_orderF t_rowsF t_writtenF r.2 t_changes t_isSaved t_result t_texted t_wordSize t_orderMany t_here t_fault t_faultAt t_commandMany t_writtenSize) res := by
  refine aKi_of (own := RX9) (by decide) rfl (Nat.le_of_ble_eq_true rfl) rfl ?_
  intro p e s m args below meth c C hr
  have hJ28 : ∀ (q_t_thrown : Int32) (y1 : Int32), f_X9_aloneAsked_J28 y1 p1 p2 t_allF = some res → aT p l e ({ frames := 5, cells := 0, slots := 0, locals := 119 } : Room) s m args below meth c (MQ below (aQi D (wX9 kc ki t t_all t_reasons t_text t_word t_order t_rows t_written t_allF t_reasonsF t_textF t_wordF t_orderF t_rowsF t_writtenF t_thrown t_changes t_isSaved t_result t_texted t_wordSize t_orderMany t_here t_fault t_faultAt t_commandMany t_writtenSize) s.heap.size (fun r => r.1) (fun r => wX9 kc ki t t_all t_reasons t_text t_word t_order t_rows t_written t_allF t_reasonsF t_textF t_wordF t_orderF t_rowsF t_writtenF r.2 t_changes t_isSaved t_result t_texted t_wordSize t_orderMany t_here t_fault t_faultAt t_commandMany t_writtenSize) res) args s 0 0 (va_A (wX9 kc ki t t_all t_reasons t_text t_word t_order t_rows t_written t_allF t_reasonsF t_textF t_wordF t_orderF t_rowsF t_writtenF t_thrown t_changes t_isSaved t_result t_texted t_wordSize t_orderMany t_here t_fault t_faultAt t_commandMany t_writtenSize) s.heap.size)) D (va_A (wX9 kc ki t t_all t_reasons t_text t_word t_order t_rows t_written t_allF t_reasonsF t_textF t_wordF t_orderF t_rowsF t_writtenF t_thrown t_changes t_isSaved t_result t_texted t_wordSize t_orderMany t_here t_fault t_faultAt t_commandMany t_writtenSize) s.heap.size) 3 0 0 28 [(0, .ref t), (1, .int p1), (2, .int p2)] [.int y1, .ref t] (wX9 kc ki t t_all t_reasons t_text t_word t_order t_rows t_written t_allF t_reasonsF t_textF t_wordF t_orderF t_rowsF t_writtenF q_t_thrown t_changes t_isSaved t_result t_texted t_wordSize t_orderMany t_here t_fault t_faultAt t_commandMany t_writtenSize) := by
    intro q_t_thrown y1 hF
    unfold f_X9_aloneAsked_J28 at hF
    refine a_put C 0 0 iwX9 tyX9_ok nmX9 rfl rfl (by decide) kf_X9_36 rfl rfl rfl (Nat.le_of_ble_eq_true rfl) dX9_aloneAsked_28 ?_
    refine a_ws C (ws' := wX9 kc ki t t_all t_reasons t_text t_word t_order t_rows t_written t_allF t_reasonsF t_textF t_wordF t_orderF t_rowsF t_writtenF y1 t_changes t_isSaved t_result t_texted t_wordSize t_orderMany t_here t_fault t_faultAt t_commandMany t_writtenSize) rfl ?_
    refine a_aload_n C 0 dX9_aloneAsked_31 rfl rfl ?_
    refine a_get C 0 0 iwX9 rfl rfl (by decide) kf_X9_36 rfl dX9_aloneAsked_32 ?_
    refine a_if_ne C (tgt := 47) dX9_aloneAsked_35 (by decide) hF (fun c35_5 hF => ?_) (fun c35_5 hF => ?_)
    · refine a_iconst C (v := 0) dX9_aloneAsked_47 (by decide) ?_
      exact a_iret C hr rfl dX9_aloneAsked_48 hF rfl rfl
    refine a_aload_n C 0 dX9_aloneAsked_38 rfl rfl ?_
    refine a_iload_n C 1 dX9_aloneAsked_39 rfl rfl ?_
    refine a_iload_n C 2 dX9_aloneAsked_40 rfl rfl ?_
    refine a_callVir C 2 [0, 1, 2, 3, 4, 5, 6, 7] 0 cs_X9_189 hd_X9_aloneOf ⟨rfl, rfl⟩ ⟨Nat.le_of_ble_eq_true rfl, Nat.le_of_ble_eq_true rfl⟩ (fun r h => c_X9_aloneOf l D J kc ki kb kl kd t t_all t_reasons t_text t_word t_order t_rows t_written t_allF t_reasonsF t_textF t_wordF t_orderF t_rowsF t_writtenF y1 t_changes t_isSaved t_result t_texted t_wordSize t_orderMany t_here t_fault t_faultAt t_commandMany t_writtenSize p1 p2 r h) rfl rfl rfl rfl rfl rfl (Nat.le_of_ble_eq_true rfl) dX9_aloneAsked_41 ⟨Nat.zero_le _, Nat.zero_le _⟩ hF (fun r41_6 er41_6 hF => ?_)
    refine a_goto C (tgt := 48) dX9_aloneAsked_44 (by decide) ?_
    exact a_iret C hr rfl dX9_aloneAsked_48 hF rfl rfl
  unfold f_X9_aloneAsked at hF
  refine a_aload_n C 0 dX9_aloneAsked_0 rfl rfl ?_
  refine a_aload_n C 0 dX9_aloneAsked_1 rfl rfl ?_
  refine a_iload_n C 1 dX9_aloneAsked_2 rfl rfl ?_
  refine a_callVir C 1 [0, 1, 2, 3, 4, 5, 6, 7] 0 cs_X9_57 hd_X9_isLineNumber ⟨rfl, rfl⟩ ⟨Nat.le_of_ble_eq_true rfl, Nat.le_of_ble_eq_true rfl⟩ (fun r h => c_X9_isLineNumber l D J kc ki kb kl kd t t_all t_reasons t_text t_word t_order t_rows t_written t_allF t_reasonsF t_textF t_wordF t_orderF t_rowsF t_writtenF t_thrown t_changes t_isSaved t_result t_texted t_wordSize t_orderMany t_here t_fault t_faultAt t_commandMany t_writtenSize p1 r h) rfl rfl rfl rfl rfl rfl (Nat.le_of_ble_eq_true rfl) dX9_aloneAsked_3 ⟨Nat.zero_le _, Nat.zero_le _⟩ hF (fun r3_1 er3_1 hF => ?_)
  refine a_if_ne C (tgt := 13) dX9_aloneAsked_6 (by decide) hF (fun c6_2 hF => ?_) (fun c6_2 hF => ?_)
  · refine a_aload_n C 0 dX9_aloneAsked_13 rfl rfl ?_
    refine a_iload_n C 1 dX9_aloneAsked_14 rfl rfl ?_
    refine a_iload_n C 2 dX9_aloneAsked_15 rfl rfl ?_
    refine a_callVir C 2 [0, 1, 2, 3, 4, 5, 6, 7] 0 cs_X9_189 hd_X9_aloneOf ⟨rfl, rfl⟩ ⟨Nat.le_of_ble_eq_true rfl, Nat.le_of_ble_eq_true rfl⟩ (fun r h => c_X9_aloneOf l D J kc ki kb kl kd t t_all t_reasons t_text t_word t_order t_rows t_written t_allF t_reasonsF t_textF t_wordF t_orderF t_rowsF t_writtenF t_thrown t_changes t_isSaved t_result t_texted t_wordSize t_orderMany t_here t_fault t_faultAt t_commandMany t_writtenSize p1 p2 r h) rfl rfl rfl rfl rfl rfl (Nat.le_of_ble_eq_true rfl) dX9_aloneAsked_16 ⟨Nat.zero_le _, Nat.zero_le _⟩ hF (fun r16_3 er16_3 hF => ?_)
    refine a_iconst C (v := (-1)) dX9_aloneAsked_19 (by decide) ?_
    refine a_ic_ne C (tgt := 27) dX9_aloneAsked_20 (by decide) hF (fun c20_4 hF => ?_) (fun c20_4 hF => ?_)
    · refine a_iconst C (v := 0) dX9_aloneAsked_27 (by decide) ?_
      exact hJ28 t_thrown 0 hF
    refine a_iconst C (v := 2) dX9_aloneAsked_23 (by decide) ?_
    refine a_goto C (tgt := 28) dX9_aloneAsked_24 (by decide) ?_
    exact hJ28 t_thrown 2 hF
  refine a_iconst C (v := 1) dX9_aloneAsked_9 (by decide) ?_
  refine a_goto C (tgt := 28) dX9_aloneAsked_10 (by decide) ?_
  exact hJ28 t_thrown 1 hF
