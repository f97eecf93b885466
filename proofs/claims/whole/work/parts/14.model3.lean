theorem cs_X9_193 : GoodIn WW (wsV RX9 193 RX9 yX9_aloneAsked (aW yX9_aloneAsked cX9_aloneAsked 3 ((some .int)))) := gdV kl_X9_193 ki_X9_aloneAsked kv_X9_aloneAsked kn_X9 kc_X9_aloneAsked
def f_X9_alone (t_allF : Nat → Int32) (p1 : Int32) : Option (Int32 × Int32) := (f_X9_aloneAsked t_allF p1 0).bind fun r3_1 => some (r3_1.1, r3_1.2)
theorem hd_X9_alone : yX9_alone.cls = RX9 ∧ yX9_alone.cls ≠ "java/lang/invoke/MethodHandle" ∧ yX9_alone.cls ≠ "java/lang/invoke/VarHandle" ∧ (parseMethodDescriptor yX9_alone.desc).map (fun d => d.parameters.length) = some 1 := by decide +kernel
set_option maxRecDepth 100000 in
set_option maxHeartbeats 4000000 in
theorem c_X9_alone (l : Launch) (D : va_G) (J : (Nat → Nat) × (Nat → Nat)) (kc ki kb kl kd : ClassId) (t : Nat) (t_all : Nat) (t_reasons : Nat) (t_text : Nat) (t_word : Nat) (t_order : Nat) (t_rows : Nat) (t_written : Nat) (t_allF : Nat → Int32) (t_reasonsF : Nat → Int32) (t_textF : Nat → Int32) (t_wordF : Nat → Int32) (t_orderF : Nat → Int32) (t_rowsF : Nat → Int32) (t_writtenF : Nat → Int32) (t_thrown : Int32) (t_changes : Int32) (t_isSaved : Int32) (t_result : Int32) (t_texted : Int32) (t_wordSize : Int32) (t_orderMany : Int32) (t_here : Int32) (t_fault : Int32) (t_faultAt : Int32) (t_commandMany : Int32) (t_writtenSize : Int32) (p1 : Int32) (res : Int32 × Int32) (hF : f_X9_alone t_allF p1 = some res) : aKi l yX9_alone (aW yX9_alone cX9_alone 2 ((some .int))) ({ frames := 6, cells := 0, slots := 0, locals := 141 } : Room) D J (aTy kc ki kb kl kd) [.ref t, .int p1] (wX9 kc ki t t_all t_reasons t_text t_word t_order t_rows t_written t_allF t_reasonsF t_textF t_wordF t_orderF t_rowsF t_writtenF t_thrown t_changes t_isSaved t_result t_texted t_wordSize t_orderMany t_here t_fault t_faultAt t_commandMany t_writtenSize) (fun r => r.1) (fun r => wX9 kc ki t t_all t_reasons t_text t_word t_order t_rows t_written t_allF t_reasonsF t_textF t_wordF t_orderF t_rowsF t_writtenF r.2 t_changes t_isSaved t_result t_texted t_wordSize t_orderMany t_here t_fault t_faultAt t_commandMany t_writtenSize) res := by
  refine aKi_of (own := RX9) (by decide) rfl (Nat.le_of_ble_eq_true rfl) rfl ?_
  intro p e s m args below meth c C hr
  unfold f_X9_alone at hF
  refine a_aload_n C 0 dX9_alone_0 rfl rfl ?_
  refine a_iload_n C 1 dX9_alone_1 rfl rfl ?_
  refine a_iconst C (v := 0) dX9_alone_2 (by decide) ?_
  refine a_callVi C 2 [0, 1, 2, 3, 4, 5, 6, 7] 0 cs_X9_193 hd_X9_aloneAsked ⟨rfl, rfl⟩ ⟨Nat.le_of_ble_eq_true rfl, Nat.le_of_ble_eq_true rfl⟩ (fun r h => c_X9_aloneAsked l D J kc ki kb kl kd t t_all t_reasons t_text t_word t_order t_rows t_written t_allF t_reasonsF t_textF t_wordF t_orderF t_rowsF t_writtenF t_thrown t_changes t_isSaved t_result t_texted t_wordSize t_orderMany t_here t_fault t_faultAt t_commandMany t_writtenSize p1 0 r h) rfl rfl rfl (fun _ => rfl) rfl rfl rfl (Nat.le_of_ble_eq_true rfl) dX9_alone_3 ⟨Nat.zero_le _, Nat.zero_le _⟩ hF (fun r3_1 er3_1 hF => ?_)
  refine a_ws C (ws' := wX9 kc ki t t_all t_reasons t_text t_word t_order t_rows t_written t_allF t_reasonsF t_textF t_wordF t_orderF t_rowsF t_writtenF r3_1.2 t_changes t_isSaved t_result t_texted t_wordSize t_orderMany t_here t_fault t_faultAt t_commandMany t_writtenSize) rfl ?_
  exact a_iret C hr rfl dX9_alone_6 hF rfl rfl
def f_X9_alonePlace (t_allF : Nat → Int32) (p1 : Int32) : Option (Int32 × Int32) := (f_X9_aloneAsked t_allF p1 1).bind fun r3_1 => some (r3_1.1, r3_1.2)
theorem hd_X9_alonePlace : yX9_alonePlace.cls = RX9 ∧ yX9_alonePlace.cls ≠ "java/lang/invoke/MethodHandle" ∧ yX9_alonePlace.cls ≠ "java/lang/invoke/VarHandle" ∧ (parseMethodDescriptor yX9_alonePlace.desc).map (fun d => d.parameters.length) = some 1 := by decide +kernel
set_option maxRecDepth 100000 in
set_option maxHeartbeats 4000000 in
theorem c_X9_alonePlace (l : Launch) (D : va_G) (J : (Nat → Nat) × (Nat → Nat)) (kc ki kb kl kd : ClassId) (t : Nat) (t_all : Nat) (t_reasons : Nat) (t_text : Nat) (t_word : Nat) (t_order : Nat) (t_rows : Nat) (t_written : Nat) (t_allF : Nat → Int32) (t_reasonsF : Nat → Int32) (t_textF : Nat → Int32) (t_wordF : Nat → Int32) (t_orderF : Nat → Int32) (t_rowsF : Nat → Int32) (t_writtenF : Nat → Int32) (t_thrown : Int32) (t_changes : Int32) (t_isSaved : Int32) (t_result : Int32) (t_texted : Int32) (t_wordSize : Int32) (t_orderMany : Int32) (t_here : Int32) (t_fault : Int32) (t_faultAt : Int32) (t_commandMany : Int32) (t_writtenSize : Int32) (p1 : Int32) (res : Int32 × Int32) (hF : f_X9_alonePlace t_allF p1 = some res) : aKi l yX9_alonePlace (aW yX9_alonePlace cX9_alonePlace 2 ((some .int))) ({ frames := 6, cells := 0, slots := 0, locals := 141 } : Room) D J (aTy kc ki kb kl kd) [.ref t, .int p1] (wX9 kc ki t t_all t_reasons t_text t_word t_order t_rows t_written t_allF t_reasonsF t_textF t_wordF t_orderF t_rowsF t_writtenF t_thrown t_changes t_isSaved t_result t_texted t_wordSize t_orderMany t_here t_fault t_faultAt t_commandMany t_writtenSize) (fun r => r.1) (fun r => wX9 kc ki t t_all t_reasons t_text t_word t_order t_rows t_written t_allF t_reasonsF t_textF t_wordF t_orderF t_rowsF t_writtenF r.2 t_changes t_isSaved t_result t_texted t_wordSize t_orderMany t_here t_fault t_faultAt t_commandMany t_writtenSize) res := by
  refine aKi_of (own := RX9) (by decide) rfl (Nat.le_of_ble_eq_true rfl) rfl ?_
  intro p e s m args below meth c C hr
  unfold f_X9_alonePlace at hF
  refine a_aload_n C 0 dX9_alonePlace_0 rfl rfl ?_
  refine a_iload_n C 1 dX9_alonePlace_1 rfl rfl ?_
  refine a_iconst C (v := 1) dX9_alonePlace_2 (by decide) ?_
  refine a_callVi C 2 [0, 1, 2, 3, 4, 5, 6, 7] 0 cs_X9_193 hd_X9_aloneAsked ⟨rfl, rfl⟩ ⟨Nat.le_of_ble_eq_true rfl, Nat.le_of_ble_eq_true rfl⟩ (fun r h => c_X9_aloneAsked l D J kc ki kb kl kd t t_all t_reasons t_text t_word t_order t_rows t_written t_allF t_reasonsF t_textF t_wordF t_orderF t_rowsF t_writtenF t_thrown t_changes t_isSaved t_result t_texted t_wordSize t_orderMany t_here t_fault t_faultAt t_commandMany t_writtenSize p1 1 r h) rfl rfl rfl (fun _ => rfl) rfl rfl rfl (Nat.le_of_ble_eq_true rfl) dX9_alonePlace_3 ⟨Nat.zero_le _, Nat.zero_le _⟩ hF (fun r3_1 er3_1 hF => ?_)
  refine a_ws C (ws' := wX9 kc ki t t_all t_reasons t_text t_word t_order t_rows t_written t_allF t_reasonsF t_textF t_wordF t_orderF t_rowsF t_writtenF r3_1.2 t_changes t_isSaved t_result t_texted t_wordSize t_orderMany t_here t_fault t_faultAt t_commandMany t_writtenSize) rfl ?_
  exact a_iret C hr rfl dX9_alonePlace_6 hF rfl rfl
def f_X9_isTurned_J22 (y1 : Int32) (p1 : Int32) (p2 : Int32) (t_allF : Nat → Int32) : Option (Int32 × Int32) := if ¬ y1 = 0 then (some (0, y1)) else ((f_X9_isBack t_allF p1 p2).bind fun r35_4 => if r35_4 = 0 then (some (0, y1)) else (some (1, y1)))
def f_X9_isTurned_J21 (p1 : Int32) (p2 : Int32) (t_allF : Nat → Int32) : Option (Int32 × Int32) := f_X9_isTurned_J22 1 p1 p2 t_allF
def f_X9_isTurned (t_allF : Nat → Int32) (p1 : Int32) (p2 : Int32) : Option (Int32 × Int32) := (f_X9_isLineNumber t_allF p1).bind fun r3_1 => if r3_1 = 0 then (f_X9_isTurned_J21 p1 p2 t_allF) else ((f_X9_isLineNumber t_allF p2).bind fun r11_6 => if r11_6 = 0 then (f_X9_isTurned_J21 p1 p2 t_allF) else (f_X9_isTurned_J22 0 p1 p2 t_allF))
theorem hd_X9_isTurned : yX9_isTurned.cls = RX9 ∧ yX9_isTurned.cls ≠ "java/lang/invoke/MethodHandle" ∧ yX9_isTurned.cls ≠ "java/lang/invoke/VarHandle" ∧ (parseMethodDescriptor yX9_isTurned.desc).map (fun d => d.parameters.length) = some 2 := by decide +kernel
set_option maxRecDepth 100000 in
set_option maxHeartbeats 4000000 in
theorem c_X9_isTurned (l : Launch) (D : va_G) (J : (Nat → Nat) × (Nat → Nat)) (kc ki kb kl kd : ClassId) (t : Nat) (t_all : Nat) (t_reasons : Nat) (t_text : Nat) (t_word : Nat) (t_order : Nat) (t_rows : Nat) (t_written : Nat) (t_allF : Nat → Int32) (t_reasonsF : Nat → Int32) (t_textF : Nat → Int32) (t_wordF : Nat → Int32) (t_orderF : Nat → Int32) (t_rowsF : Nat → Int32) (t_writtenF : Nat → Int32) (t_thrown : Int32) (t_changes : Int32) (t_isSaved : Int32) (t_result : Int32) (t_texted : Int32) (t_wordSize : Int32) (t_orderMany : Int32) (t_here : Int32) (t_fault : Int32) (t_faultAt : Int32) (t_commandMany : Int32) (t_writtenSize : Int32) (p1 p2 : Int32) (res : Int32 × Int32) (hF : f_X9_isTurned t_allF p1 p2 = some res) : aKi l yX9_isTurned (aW yX9_isTurned cX9_isTurned 3 ((some .boolean))) ({ frames := 2, cells := 0, slots := 0, locals := 46 } : Room) D J (aTy kc ki kb kl kd) [.ref t, .int p1, .int p2] (wX9 kc ki t t_all t_reasons t_text t_word t_order t_rows t_written t_allF t_reasonsF t_textF t_wordF t_orderF t_rowsF t_writtenF t_thrown t_changes t_isSaved t_result t_texted t_wordSize t_orderMany t_here t_fault t_faultAt t_commandMany t_writtenSize) (fun r => r.1) (fun r => wX9 kc ki t t_all t_reasons t_text t_word t_order t_rows t_written t_allF t_reasonsF t_textF t_wordF t_orderF t_rowsF t_writtenF r.2 t_changes t_isSaved t_result t_texted t_wordSize t_orderMany t_here t_fault t_faultAt t_commandMany t_writtenSize) res := by
  refine aKi_of (own := RX9) (by decide) rfl (Nat.le_of_ble_eq_true rfl) rfl ?_
  intro p e s m args below meth c C hr
  have hJ22 : ∀ (q_t_thrown : Int32) (y1 : Int32), f_X9_isTurned_J22 y1 p1 p2 t_allF = some res → aT p l e ({ frames := 2, cells := 0, slots := 0, locals := 46 } : Room) s m args below meth c (MQ below (aQi D (wX9 kc ki t t_all t_reasons t_text t_word t_order t_rows t_written t_allF t_reasonsF t_textF t_wordF t_orderF t_rowsF t_writtenF t_thrown t_changes t_isSaved t_result t_texted t_wordSize t_orderMany t_here t_fault t_faultAt t_commandMany t_writtenSize) s.heap.size (fun r => r.1) (fun r => wX9 kc ki t t_all t_reasons t_text t_word t_order t_rows t_written t_allF t_reasonsF t_textF t_wordF t_orderF t_rowsF t_writtenF r.2 t_changes t_isSaved t_result t_texted t_wordSize t_orderMany t_here t_fault t_faultAt t_commandMany t_writtenSize) res) args s 0 0 (va_A (wX9 kc ki t t_all t_reasons t_text t_word t_order t_rows t_written t_allF t_reasonsF t_textF t_wordF t_orderF t_rowsF t_writtenF t_thrown t_changes t_isSaved t_result t_texted t_wordSize t_orderMany t_here t_fault t_faultAt t_commandMany t_writtenSize) s.heap.size)) D (va_A (wX9 kc ki t t_all t_reasons t_text t_word t_order t_rows t_written t_allF t_reasonsF t_textF t_wordF t_orderF t_rowsF t_writtenF t_thrown t_changes t_isSaved t_result t_texted t_wordSize t_orderMany t_here t_fault t_faultAt t_commandMany t_writtenSize) s.heap.size) 3 0 0 22 [(0, .ref t), (1, .int p1), (2, .int p2)] [.int y1, .ref t] (wX9 kc ki t t_all t_reasons t_text t_word t_order t_rows t_written t_allF t_reasonsF t_textF t_wordF t_orderF t_rowsF t_writtenF q_t_thrown t_changes t_isSaved t_result t_texted t_wordSize t_orderMany t_here t_fault t_faultAt t_commandMany t_writtenSize) := by
    intro q_t_thrown y1 hF
    unfold f_X9_isTurned_J22 at hF
    refine a_put C 0 0 iwX9 tyX9_ok nmX9 rfl rfl (by decide) kf_X9_36 rfl rfl rfl (Nat.le_of_ble_eq_true rfl) dX9_isTurned_22 ?_
    refine a_ws C (ws' := wX9 kc ki t t_all t_reasons t_text t_word t_order t_rows t_written t_allF t_reasonsF t_textF t_wordF t_orderF t_rowsF t_writtenF y1 t_changes t_isSaved t_result t_texted t_wordSize t_orderMany t_here t_fault t_faultAt t_commandMany t_writtenSize) rfl ?_
    refine a_aload_n C 0 dX9_isTurned_25 rfl rfl ?_
    refine a_get C 0 0 iwX9 rfl rfl (by decide) kf_X9_36 rfl dX9_isTurned_26 ?_
    refine a_if_ne C (tgt := 45) dX9_isTurned_29 (by decide) hF (fun c29_3 hF => ?_) (fun c29_3 hF => ?_)
    · refine a_iconst C (v := 0) dX9_isTurned_45 (by decide) ?_
      exact a_iret C hr rfl dX9_isTurned_46 hF rfl rfl
    refine a_aload_n C 0 dX9_isTurned_32 rfl rfl ?_
    refine a_iload_n C 1 dX9_isTurned_33 rfl rfl ?_
    refine a_iload_n C 2 dX9_isTurned_34 rfl rfl ?_
    refine a_callVir C 2 [0, 1, 2, 3, 4, 5, 6, 7] 0 cs_X9_126 hd_X9_isBack ⟨rfl, rfl⟩ ⟨Nat.le_of_ble_eq_true rfl, Nat.le_of_ble_eq_true rfl⟩ (fun r h => c_X9_isBack l D J kc ki kb kl kd t t_all t_reasons t_text t_word t_order t_rows t_written t_allF t_reasonsF t_textF t_wordF t_orderF t_rowsF t_writtenF y1 t_changes t_isSaved t_result t_texted t_wordSize t_orderMany t_here t_fault t_faultAt t_commandMany t_writtenSize p1 p2 r h) rfl rfl rfl rfl rfl rfl (Nat.le_of_ble_eq_true rfl) dX9_isTurned_35 ⟨Nat.zero_le _, Nat.zero_le _⟩ hF (fun r35_4 er35_4 hF => ?_)
    refine a_if_eq C (tgt := 45) dX9_isTurned_38 (by decide) hF (fun c38_5 hF => ?_) (fun c38_5 hF => ?_)
    · refine a_iconst C (v := 0) dX9_isTurned_45 (by decide) ?_
      exact a_iret C hr rfl dX9_isTurned_46 hF rfl rfl
    refine a_iconst C (v := 1) dX9_isTurned_41 (by decide) ?_
    refine a_goto C (tgt := 46) dX9_isTurned_42 (by decide) ?_
    exact a_iret C hr rfl dX9_isTurned_46 hF rfl rfl
  have hJ21 : ∀ (q_t_thrown : Int32), f_X9_isTurned_J21 p1 p2 t_allF = some res → aT p l e ({ frames := 2, cells := 0, slots := 0, locals := 46 } : Room) s m args below meth c (MQ below (aQi D (wX9 kc ki t t_all t_reasons t_text t_word t_order t_rows t_written t_allF t_reasonsF t_textF t_wordF t_orderF t_rowsF t_writtenF t_thrown t_changes t_isSaved t_result t_texted t_wordSize t_orderMany t_here t_fault t_faultAt t_commandMany t_writtenSize) s.heap.size (fun r => r.1) (fun r => wX9 kc ki t t_all t_reasons t_text t_word t_order t_rows t_written t_allF t_reasonsF t_textF t_wordF t_orderF t_rowsF t_writtenF r.2 t_changes t_isSaved t_result t_texted t_wordSize t_orderMany t_here t_fault t_faultAt t_commandMany t_writtenSize) res) args s 0 0 (va_A (wX9 kc ki t t_all t_reasons t_text t_word t_order t_rows t_written t_allF t_reasonsF t_textF t_wordF t_orderF t_rowsF t_writtenF t_thrown t_changes t_isSaved t_result t_texted t_wordSize t_orderMany t_here t_fault t_faultAt t_commandMany t_writtenSize) s.heap.size)) D (va_A (wX9 kc ki t t_all t_reasons t_text t_word t_order t_rows t_written t_allF t_reasonsF t_textF t_wordF t_orderF t_rowsF t_writtenF t_thrown t_changes t_isSaved t_result t_texted t_wordSize t_orderMany t_here t_fault t_faultAt t_commandMany t_writtenSize) s.heap.size) 3 0 0 21 [(0, .ref t), (1, .int p1), (2, .int p2)] [.ref t] (wX9 kc ki t t_all t_reasons t_text t_word t_order t_rows t_written t_allF t_reasonsF t_textF t_wordF t_orderF t_rowsF t_writtenF q_t_thrown t_changes t_isSaved t_result t_texted t_wordSize t_orderMany t_here t_fault t_faultAt t_commandMany t_writtenSize) := by
    intro q_t_thrown hF
    unfold f_X9_isTurned_J21 at hF
    refine a_iconst C (v := 1) dX9_isTurned_21 (by decide) ?_
    exact hJ22 q_t_thrown 1 hF
  unfold f_X9_isTurned at hF
  refine a_aload_n C 0 dX9_isTurned_0 rfl rfl ?_
  refine a_aload_n C 0 dX9_isTurned_1 rfl rfl ?_
  refine a_iload_n C 1 dX9_isTurned_2 rfl rfl ?_
  refine a_callVir C 1 [0, 1, 2, 3, 4, 5, 6, 7] 0 cs_X9_57 hd_X9_isLineNumber ⟨rfl, rfl⟩ ⟨Nat.le_of_ble_eq_true rfl, Nat.le_of_ble_eq_true rfl⟩ (fun r h => c_X9_isLineNumber l D J kc ki kb kl kd t t_all t_reasons t_text t_word t_order t_rows t_written t_allF t_reasonsF t_textF t_wordF t_orderF t_rowsF t_writtenF t_thrown t_changes t_isSaved t_result t_texted t_wordSize t_orderMany t_here t_fault t_faultAt t_commandMany t_writtenSize p1 r h) rfl rfl rfl rfl rfl rfl (Nat.le_of_ble_eq_true rfl) dX9_isTurned_3 ⟨Nat.zero_le _, Nat.zero_le _⟩ hF (fun r3_1 er3_1 hF => ?_)
  refine a_if_eq C (tgt := 21) dX9_isTurned_6 (by decide) hF (fun c6_2 hF => ?_) (fun c6_2 hF => ?_)
  · exact hJ21 t_thrown hF
  refine a_aload_n C 0 dX9_isTurned_9 rfl rfl ?_
  refine a_iload_n C 2 dX9_isTurned_10 rfl rfl ?_
  refine a_callVir C 1 [0, 1, 2, 3, 4, 5, 6, 7] 0 cs_X9_57 hd_X9_isLineNumber ⟨rfl, rfl⟩ ⟨Nat.le_of_ble_eq_true rfl, Nat.le_of_ble_eq_true rfl⟩ (fun r h => c_X9_isLineNumber l D J kc ki kb kl kd t t_all t_reasons t_text t_word t_order t_rows t_written t_allF t_reasonsF t_textF t_wordF t_orderF t_rowsF t_writtenF t_thrown t_changes t_isSaved t_result t_texted t_wordSize t_orderMany t_here t_fault t_faultAt t_commandMany t_writtenSize p2 r h) rfl rfl rfl rfl rfl rfl (Nat.le_of_ble_eq_true rfl) dX9_isTurned_11 ⟨Nat.zero_le _, Nat.zero_le _⟩ hF (fun r11_6 er11_6 hF => ?_)
  refine a_if_eq C (tgt := 21) dX9_isTurned_14 (by decide) hF (fun c14_7 hF => ?_) (fun c14_7 hF => ?_)
  · exact hJ21 t_thrown hF
  refine a_iconst C (v := 0) dX9_isTurned_17 (by decide) ?_
  refine a_goto C (tgt := 22) dX9_isTurned_18 (by decide) ?_
  exact hJ22 t_thrown 0 hF
def f_X9_sign (t_textF : Nat → Int32) (t_texted : Int32) (t_here : Int32) : Option Int32 := if t_texted ≤ t_here then (some (-1)) else ((ldc t_textF 60 t_here).bind fun v19_2 => some v19_2)
theorem hd_X9_sign : yX9_sign.cls = RX9 ∧ yX9_sign.cls ≠ "java/lang/invoke/MethodHandle" ∧ yX9_sign.cls ≠ "java/lang/invoke/VarHandle" ∧ (parseMethodDescriptor yX9_sign.desc).map (fun d => d.parameters.length) = some 0 := by decide +kernel
set_option maxRecDepth 100000 in
set_option maxHeartbeats 4000000 in
theorem c_X9_sign (l : Launch) (D : va_G) (J : (Nat → Nat) × (Nat → Nat)) (kc ki kb kl kd : ClassId) (t : Nat) (t_all : Nat) (t_reasons : Nat) (t_text : Nat) (t_word : Nat) (t_order : Nat) (t_rows : Nat) (t_written : Nat) (t_allF : Nat → Int32) (t_reasonsF : Nat → Int32) (t_textF : Nat → Int32) (t_wordF : Nat → Int32) (t_orderF : Nat → Int32) (t_rowsF : Nat → Int32) (t_writtenF : Nat → Int32) (t_thrown : Int32) (t_changes : Int32) (t_isSaved : Int32) (t_result : Int32) (t_texted : Int32) (t_wordSize : Int32) (t_orderMany : Int32) (t_here : Int32) (t_fault : Int32) (t_faultAt : Int32) (t_commandMany : Int32) (t_writtenSize : Int32) (res : Int32) (hF : f_X9_sign t_textF t_texted t_here = some res) : aKi l yX9_sign (aW yX9_sign cX9_sign 1 ((some .int))) ({ frames := 0, cells := 0, slots := 0, locals := 0 } : Room) D J (aTy kc ki kb kl kd) [.ref t] (wX9 kc ki t t_all t_reasons t_text t_word t_order t_rows t_written t_allF t_reasonsF t_textF t_wordF t_orderF t_rowsF t_writtenF t_thrown t_changes t_isSaved t_result t_texted t_wordSize t_orderMany t_here t_fault t_faultAt t_commandMany t_writtenSize) (fun r => r) (fun _ => wX9 kc ki t t_all t_reasons t_text t_word t_order t_rows t_written t_allF t_reasonsF t_textF t_wordF t_orderF t_rowsF t_writtenF t_thrown t_changes t_isSaved t_result t_texted t_wordSize t_orderMany t_here t_fault t_faultAt t_commandMany t_writtenSize) res := by
  refine aKi_of (own := RX9) (by decide) rfl (Nat.le_of_ble_eq_true rfl) rfl ?_
  intro p e s m args below meth c C hr
  unfold f_X9_sign at hF
  refine a_aload_n C 0 dX9_sign_0 rfl rfl ?_
  refine a_get C 0 12 iwX9 rfl rfl (by decide) kf_X9_196 rfl dX9_sign_1 ?_
  refine a_aload_n C 0 dX9_sign_4 rfl rfl ?_
  refine a_get C 0 7 iwX9 rfl rfl (by decide) kf_X9_69 rfl dX9_sign_5 ?_
  refine a_ic_ge C (tgt := 23) dX9_sign_8 (by decide) hF (fun c8_1 hF => ?_) (fun c8_1 hF => ?_)
  · refine a_iconst C (v := (-1)) dX9_sign_23 (by decide) ?_
    exact a_iret C hr rfl dX9_sign_24 hF rfl rfl
  refine a_aload_n C 0 dX9_sign_11 rfl rfl ?_
  refine a_get C 0 6 iwX9 rfl rfl (by decide) kf_X9_16 rfl dX9_sign_12 ?_
  refine a_aload_n C 0 dX9_sign_15 rfl rfl ?_
  refine a_get C 0 12 iwX9 rfl rfl (by decide) kf_X9_196 rfl dX9_sign_16 ?_
  refine a_cald C 3 0 rfl rfl dX9_sign_19 hF (fun v19_2 ev19_2 hF => ?_)
  refine a_goto C (tgt := 24) dX9_sign_20 (by decide) ?_
  exact a_iret C hr rfl dX9_sign_24 hF rfl rfl
theorem cs_X9_202 : GoodIn WW (wsV RX9 202 RX9 yX9_sign (aW yX9_sign cX9_sign 1 ((some .int)))) := gdV kl_X9_202 ki_X9_sign kv_X9_sign kn_X9 kc_X9_sign
def f_X9_digit (t_textF : Nat → Int32) (t_texted : Int32) (t_here : Int32) (t_fault : Int32) : Option (Int32 × Int32 × Int32) := if t_fault < 0 then ((f_X9_sign t_textF t_texted t_here).bind fun r10_2 => (f_X9_in r10_2 48 57).bind fun r17_3 => if ¬ r17_3 = 0 then ((ldc t_textF 60 ((t_here + 1) - 1)).bind fun v53_5 => some (v53_5 - 48, t_here + 1, t_fault)) else (some (0, t_here, t_here))) else (some (0, t_here, t_fault))
theorem hd_X9_digit : yX9_digit.cls = RX9 ∧ yX9_digit.cls ≠ "java/lang/invoke/MethodHandle" ∧ yX9_digit.cls ≠ "java/lang/invoke/VarHandle" ∧ (parseMethodDescriptor yX9_digit.desc).map (fun d => d.parameters.length) = some 0 := by decide +kernel
set_option maxRecDepth 100000 in
set_option maxHeartbeats 4000000 in
theorem c_X9_digit (l : Launch) (D : va_G) (J : (Nat → Nat) × (Nat → Nat)) (kc ki kb kl kd : ClassId) (t : Nat) (t_all : Nat) (t_reasons : Nat) (t_text : Nat) (t_word : Nat) (t_order : Nat) (t_rows : Nat) (t_written : Nat) (t_allF : Nat → Int32) (t_reasonsF : Nat → Int32) (t_textF : Nat → Int32) (t_wordF : Nat → Int32) (t_orderF : Nat → Int32) (t_rowsF : Nat → Int32) (t_writtenF : Nat → Int32) (t_thrown : Int32) (t_changes : Int32) (t_isSaved : Int32) (t_result : Int32) (t_texted : Int32) (t_wordSize : Int32) (t_orderMany : Int32) (t_here : Int32) (t_fault : Int32) (t_faultAt : Int32) (t_commandMany : Int32) (t_writtenSize : Int32) (res : Int32 × Int32 × Int32) (hF : f_X9_digit t_textF t_texted t_here t_fault = some res) : aKi l yX9_digit (aW yX9_digit cX9_digit 1 ((some .int))) ({ frames := 1, cells := 0, slots := 0, locals := 22 } : Room) D J (aTy kc ki kb kl kd) [.ref t] (wX9 kc ki t t_all t_reasons t_text t_word t_order t_rows t_written t_allF t_reasonsF t_textF t_wordF t_orderF t_rowsF t_writtenF t_thrown t_changes t_isSaved t_result t_texted t_wordSize t_orderMany t_here t_fault t_faultAt t_commandMany t_writtenSize) (fun r => r.1) (fun r => wX9 kc ki t t_all t_reasons t_text t_word t_order t_rows t_written t_allF t_reasonsF t_textF t_wordF t_orderF t_rowsF t_writtenF t_thrown t_changes t_isSaved t_result t_texted t_wordSize t_orderMany r.2.1 r.2.2 t_faultAt t_commandMany t_writtenSize) res := by
  refine aKi_of (own := RX9) (by decide) rfl (Nat.le_of_ble_eq_true rfl) rfl ?_
  intro p e s m args below meth c C hr
  unfold f_X9_digit at hF
  refine a_aload_n C 0 dX9_digit_0 rfl rfl ?_
  refine a_get C 0 13 iwX9 rfl rfl (by decide) kf_X9_199 rfl dX9_digit_1 ?_
  refine a_if_lt C (tgt := 9) dX9_digit_4 (by decide) hF (fun c4_1 hF => ?_) (fun c4_1 hF => ?_)
  · refine a_aload_n C 0 dX9_digit_9 rfl rfl ?_
    refine a_callVir C 0 [0, 1, 2, 3, 4, 5, 6, 7] 0 cs_X9_202 hd_X9_sign ⟨rfl, rfl⟩ ⟨Nat.le_of_ble_eq_true rfl, Nat.le_of_ble_eq_true rfl⟩ (fun r h => c_X9_sign l D J kc ki kb kl kd t t_all t_reasons t_text t_word t_order t_rows t_written t_allF t_reasonsF t_textF t_wordF t_orderF t_rowsF t_writtenF t_thrown t_changes t_isSaved t_result t_texted t_wordSize t_orderMany t_here t_fault t_faultAt t_commandMany t_writtenSize r h) rfl rfl rfl rfl rfl rfl (Nat.le_of_ble_eq_true rfl) dX9_digit_10 ⟨Nat.zero_le _, Nat.zero_le _⟩ hF (fun r10_2 er10_2 hF => ?_)
    refine a_bipush C (v := 48) dX9_digit_13 (by decide) ?_
    refine a_bipush C (v := 57) dX9_digit_15 (by decide) ?_
    refine a_callSir C 3 [] cs_X9_49 hd_X9_in ⟨rfl, rfl⟩ ⟨Nat.le_of_ble_eq_true rfl, Nat.le_of_ble_eq_true rfl⟩ (fun r h => c_X9_in l D J kc ki kb kl kd r10_2 48 57 r h) rfl rfl rfl rfl (Nat.le_of_ble_eq_true rfl) dX9_digit_17 ⟨Nat.zero_le _, Nat.zero_le _⟩ hF (fun r17_3 er17_3 hF => ?_)
    refine a_if_ne C (tgt := 33) dX9_digit_20 (by decide) hF (fun c20_4 hF => ?_) (fun c20_4 hF => ?_)
    · refine a_aload_n C 0 dX9_digit_33 rfl rfl ?_
      refine a_dup C dX9_digit_34 rfl ?_
      refine a_get C 0 12 iwX9 rfl rfl (by decide) kf_X9_196 rfl dX9_digit_35 ?_
      refine a_iconst C (v := 1) dX9_digit_38 (by decide) ?_
      refine a_iadd C dX9_digit_39 ?_
      refine a_put C 0 12 iwX9 tyX9_ok nmX9 rfl rfl (by decide) kf_X9_196 rfl rfl rfl (Nat.le_of_ble_eq_true rfl) dX9_digit_40 ?_
      refine a_ws C (ws' := wX9 kc ki t t_all t_reasons t_text t_word t_order t_rows t_written t_allF t_reasonsF t_textF t_wordF t_orderF t_rowsF t_writtenF t_thrown t_changes t_isSaved t_result t_texted t_wordSize t_orderMany (t_here + 1) t_fault t_faultAt t_commandMany t_writtenSize) rfl ?_
      refine a_aload_n C 0 dX9_digit_43 rfl rfl ?_
      refine a_get C 0 6 iwX9 rfl rfl (by decide) kf_X9_16 rfl dX9_digit_44 ?_
      refine a_aload_n C 0 dX9_digit_47 rfl rfl ?_
      refine a_get C 0 12 iwX9 rfl rfl (by decide) kf_X9_196 rfl dX9_digit_48 ?_
      refine a_iconst C (v := 1) dX9_digit_51 (by decide) ?_
      refine a_isub C dX9_digit_52 ?_
      refine a_cald C 3 0 rfl rfl dX9_digit_53 hF (fun v53_5 ev53_5 hF => ?_)
      refine a_bipush C (v := 48) dX9_digit_54 (by decide) ?_
      refine a_isub C dX9_digit_56 ?_
      exact a_iret C hr rfl dX9_digit_57 hF rfl rfl
    refine a_aload_n C 0 dX9_digit_23 rfl rfl ?_
    refine a_aload_n C 0 dX9_digit_24 rfl rfl ?_
    refine a_get C 0 12 iwX9 rfl rfl (by decide) kf_X9_196 rfl dX9_digit_25 ?_
    refine a_put C 0 13 iwX9 tyX9_ok nmX9 rfl rfl (by decide) kf_X9_199 rfl rfl rfl (Nat.le_of_ble_eq_true rfl) dX9_digit_28 ?_
    refine a_ws C (ws' := wX9 kc ki t t_all t_reasons t_text t_word t_order t_rows t_written t_allF t_reasonsF t_textF t_wordF t_orderF t_rowsF t_writtenF t_thrown t_changes t_isSaved t_result t_texted t_wordSize t_orderMany t_here t_here t_faultAt t_commandMany t_writtenSize) rfl ?_
    refine a_iconst C (v := 0) dX9_digit_31 (by decide) ?_
    exact a_iret C hr rfl dX9_digit_32 hF rfl rfl
  refine a_iconst C (v := 0) dX9_digit_7 (by decide) ?_
  exact a_iret C hr rfl dX9_digit_8 hF rfl rfl
def f_X9_letters_L2 (q_t_fault : Int32) (p1 : Int32) (t_textF : Nat → Int32) (t_texted : Int32) : Nat → Int32 → Int32 → (Int32 → Int32 → Option (Int32 × Int32 × Int32)) → Option (Int32 × Int32 × Int32)
  | 0, _, _, _ => none
  | fuel + 1, x2, q_t_here, k => if 0 ≤ q_t_fault then (k x2 q_t_here) else (if p1 ≤ x2 then (k x2 q_t_here) else ((f_X9_sign t_textF t_texted q_t_here).bind fun r15_3 => (f_X9_in r15_3 97 122).bind fun r22_4 => if r22_4 = 0 then (k x2 q_t_here) else (f_X9_letters_L2 q_t_fault p1 t_textF t_texted fuel (x2 + 1) (q_t_here + 1) k)))
def f_X9_letters_J44 (x2 : Int32) (q_t_here : Int32) (q_t_fault : Int32) : Option (Int32 × Int32 × Int32) := if 0 ≤ q_t_fault then (some (x2, q_t_here, q_t_fault)) else (if ¬ x2 = 0 then (some (x2, q_t_here, q_t_fault)) else (some (x2, q_t_here, q_t_here)))
def f_X9_letters (t_textF : Nat → Int32) (t_texted : Int32) (t_here : Int32) (t_fault : Int32) (p1 : Int32) : Option (Int32 × Int32 × Int32) := f_X9_letters_L2 t_fault p1 t_textF t_texted 1000 0 t_here (fun x2_2_6 q_t_here_2_7 => f_X9_letters_J44 x2_2_6 q_t_here_2_7 t_fault)
theorem hd_X9_letters : yX9_letters.cls = RX9 ∧ yX9_letters.cls ≠ "java/lang/invoke/MethodHandle" ∧ yX9_letters.cls ≠ "java/lang/invoke/VarHandle" ∧ (parseMethodDescriptor yX9_letters.desc).map (fun d => d.parameters.length) = some 1 := by decide +kernel
set_option maxRecDepth 100000 in
set_option maxHeartbeats 4000000 in
theorem c_X9_letters (l : Launch) (D : va_G) (J : (Nat → Nat) × (Nat → Nat)) (kc ki kb kl kd : ClassId) (t : Nat) (t_all : Nat) (t_reasons : Nat) (t_text : Nat) (t_word : Nat) (t_order : Nat) (t_rows : Nat) (t_written : Nat) (t_allF : Nat → Int32) (t_reasonsF : Nat → Int32) (t_textF : Nat → Int32) (t_wordF : Nat → Int32) (t_orderF : Nat → Int32) (t_rowsF : Nat → Int32) (t_writtenF : Nat → Int32) (t_thrown : Int32) (t_changes : Int32) (t_isSaved : Int32) (t_result : Int32) (t_texted : Int32) (t_wordSize : Int32) (t_orderMany : Int32) (t_here : Int32) (t_fault : Int32) (t_faultAt : Int32) (t_commandMany : Int32) (t_writtenSize : Int32) (p1 : Int32) (res : Int32 × Int32 × Int32) (hF : f_X9_letters t_textF t_texted t_here t_fault p1 = some res) : aKi l yX9_letters (aW yX9_letters cX9_letters 3 ((some .int))) ({ frames := 1, cells := 0, slots := 0, locals := 22 } : Room) D J (aTy kc ki kb kl kd) [.ref t, .int p1] (wX9 kc ki t t_all t_reasons t_text t_word t_order t_rows t_written t_allF t_reasonsF t_textF t_wordF t_orderF t_rowsF t_writtenF t_thrown t_changes t_isSaved t_result t_texted t_wordSize t_orderMany t_here t_fault t_faultAt t_commandMany t_writtenSize) (fun r => r.1) (fun r => wX9 kc ki t t_all t_reasons t_text t_word t_order t_rows t_written t_allF t_reasonsF t_textF t_wordF t_orderF t_rowsF t_writtenF t_thrown t_changes t_isSaved t_result t_texted t_wordSize t_orderMany r.2.1 r.2.2 t_faultAt t_commandMany t_writtenSize) res := by
  refine aKi_of (own := RX9) (by decide) rfl (Nat.le_of_ble_eq_true rfl) rfl ?_
  intro p e s m args below meth c C hr
  have hI2 : ∀ (q_t_fault : Int32) (fuel : Nat) (x2 : Int32) (q_t_here : Int32) (k : Int32 → Int32 → Option (Int32 × Int32 × Int32)), f_X9_letters_L2 q_t_fault p1 t_textF t_texted fuel x2 q_t_here k = some res → (∀ (x2 : Int32) (q_t_here : Int32), k x2 q_t_here = some res → aT p l e ({ frames := 1, cells := 0, slots := 0, locals := 22 } : Room) s m args below meth c (MQ below (aQi D (wX9 kc ki t t_all t_reasons t_text t_word t_order t_rows t_written t_allF t_reasonsF t_textF t_wordF t_orderF t_rowsF t_writtenF t_thrown t_changes t_isSaved t_result t_texted t_wordSize t_orderMany t_here t_fault t_faultAt t_commandMany t_writtenSize) s.heap.size (fun r => r.1) (fun r => wX9 kc ki t t_all t_reasons t_text t_word t_order t_rows t_written t_allF t_reasonsF t_textF t_wordF t_orderF t_rowsF t_writtenF t_thrown t_changes t_isSaved t_result t_texted t_wordSize t_orderMany r.2.1 r.2.2 t_faultAt t_commandMany t_writtenSize) res) args s 0 0 (va_A (wX9 kc ki t t_all t_reasons t_text t_word t_order t_rows t_written t_allF t_reasonsF t_textF t_wordF t_orderF t_rowsF t_writtenF t_thrown t_changes t_isSaved t_result t_texted t_wordSize t_orderMany t_here t_fault t_faultAt t_commandMany t_writtenSize) s.heap.size)) D (va_A (wX9 kc ki t t_all t_reasons t_text t_word t_order t_rows t_written t_allF t_reasonsF t_textF t_wordF t_orderF t_rowsF t_writtenF t_thrown t_changes t_isSaved t_result t_texted t_wordSize t_orderMany t_here t_fault t_faultAt t_commandMany t_writtenSize) s.heap.size) 3 0 0 44 [(0, .ref t), (2, .int x2)] [] (wX9 kc ki t t_all t_reasons t_text t_word t_order t_rows t_written t_allF t_reasonsF t_textF t_wordF t_orderF t_rowsF t_writtenF t_thrown t_changes t_isSaved t_result t_texted t_wordSize t_orderMany q_t_here q_t_fault t_faultAt t_commandMany t_writtenSize)) → aT p l e ({ frames := 1, cells := 0, slots := 0, locals := 22 } : Room) s m args below meth c (MQ below (aQi D (wX9 kc ki t t_all t_reasons t_text t_word t_order t_rows t_written t_allF t_reasonsF t_textF t_wordF t_orderF t_rowsF t_writtenF t_thrown t_changes t_isSaved t_result t_texted t_wordSize t_orderMany t_here t_fault t_faultAt t_commandMany t_writtenSize) s.heap.size (fun r => r.1) (fun r => wX9 kc ki t t_all t_reasons t_text t_word t_order t_rows t_written t_allF t_reasonsF t_textF t_wordF t_orderF t_rowsF t_writtenF t_thrown t_changes t_isSaved t_result t_texted t_wordSize t_orderMany r.2.1 r.2.2 t_faultAt t_commandMany t_writtenSize) res) args s 0 0 (va_A (wX9 kc ki t t_all t_reasons t_text t_word t_order t_rows t_written t_allF t_reasonsF t_textF t_wordF t_orderF t_rowsF t_writtenF t_thrown t_changes t_isSaved t_result t_texted t_wordSize t_orderMany t_here t_fault t_faultAt t_commandMany t_writtenSize) s.heap.size)) D (va_A (wX9 kc ki t t_all t_reasons t_text t_word t_order t_rows t_written t_allF t_reasonsF t_textF t_wordF t_orderF t_rowsF t_writtenF t_thrown t_changes t_isSaved t_result t_texted t_wordSize t_orderMany t_here t_fault t_faultAt t_commandMany t_writtenSize) s.heap.size) 3 0 0 2 [(0, .ref t), (1, .int p1), (2, .int x2)] [] (wX9 kc ki t t_all t_reasons t_text t_word t_order t_rows t_written t_allF t_reasonsF t_textF t_wordF t_orderF t_rowsF t_writtenF t_thrown t_changes t_isSaved t_result t_texted t_wordSize t_orderMany q_t_here q_t_fault t_faultAt t_commandMany t_writtenSize) := by
    intro q_t_fault fuel
    induction fuel with
    | zero => intro x2 q_t_here k hF hX; exact nomatch hF
    | succ fuel ih =>
      intro x2 q_t_here k hF hX
      rw [f_X9_letters_L2] at hF
      refine a_aload_n C 0 dX9_letters_2 rfl rfl ?_
      refine a_get C 0 13 iwX9 rfl rfl (by decide) kf_X9_199 rfl dX9_letters_3 ?_
      refine a_if_ge C (tgt := 44) dX9_letters_6 (by decide) hF (fun c6_1 hF => ?_) (fun c6_1 hF => ?_)
      · refine a_sub C [0, 2] [(0, .ref t), (2, .int x2)] rfl ?_
        exact hX x2 q_t_here hF
      refine a_iload_n C 2 dX9_letters_9 rfl rfl ?_
      refine a_iload_n C 1 dX9_letters_10 rfl rfl ?_
      refine a_ic_ge C (tgt := 44) dX9_letters_11 (by decide) hF (fun c11_2 hF => ?_) (fun c11_2 hF => ?_)
      · refine a_sub C [0, 2] [(0, .ref t), (2, .int x2)] rfl ?_
        exact hX x2 q_t_here hF
      refine a_aload_n C 0 dX9_letters_14 rfl rfl ?_
      refine a_callVir C 0 [0, 1, 2, 3, 4, 5, 6, 7] 0 cs_X9_202 hd_X9_sign ⟨rfl, rfl⟩ ⟨Nat.le_of_ble_eq_true rfl, Nat.le_of_ble_eq_true rfl⟩ (fun r h => c_X9_sign l D J kc ki kb kl kd t t_all t_reasons t_text t_word t_order t_rows t_written t_allF t_reasonsF t_textF t_wordF t_orderF t_rowsF t_writtenF t_thrown t_changes t_isSaved t_result t_texted t_wordSize t_orderMany q_t_here q_t_fault t_faultAt t_commandMany t_writtenSize r h) rfl rfl rfl rfl rfl rfl (Nat.le_of_ble_eq_true rfl) dX9_letters_15 ⟨Nat.zero_le _, Nat.zero_le _⟩ hF (fun r15_3 er15_3 hF => ?_)
      refine a_bipush C (v := 97) dX9_letters_18 (by decide) ?_
      refine a_bipush C (v := 122) dX9_letters_20 (by decide) ?_
      refine a_callSir C 3 [] cs_X9_49 hd_X9_in ⟨rfl, rfl⟩ ⟨Nat.le_of_ble_eq_true rfl, Nat.le_of_ble_eq_true rfl⟩ (fun r h => c_X9_in l D J kc ki kb kl kd r15_3 97 122 r h) rfl rfl rfl rfl (Nat.le_of_ble_eq_true rfl) dX9_letters_22 ⟨Nat.zero_le _, Nat.zero_le _⟩ hF (fun r22_4 er22_4 hF => ?_)
      refine a_if_eq C (tgt := 44) dX9_letters_25 (by decide) hF (fun c25_5 hF => ?_) (fun c25_5 hF => ?_)
      · refine a_sub C [0, 2] [(0, .ref t), (2, .int x2)] rfl ?_
        exact hX x2 q_t_here hF
      refine a_aload_n C 0 dX9_letters_28 rfl rfl ?_
      refine a_dup C dX9_letters_29 rfl ?_
      refine a_get C 0 12 iwX9 rfl rfl (by decide) kf_X9_196 rfl dX9_letters_30 ?_
      refine a_iconst C (v := 1) dX9_letters_33 (by decide) ?_
      refine a_iadd C dX9_letters_34 ?_
      refine a_put C 0 12 iwX9 tyX9_ok nmX9 rfl rfl (by decide) kf_X9_196 rfl rfl rfl (Nat.le_of_ble_eq_true rfl) dX9_letters_35 ?_
      refine a_ws C (ws' := wX9 kc ki t t_all t_reasons t_text t_word t_order t_rows t_written t_allF t_reasonsF t_textF t_wordF t_orderF t_rowsF t_writtenF t_thrown t_changes t_isSaved t_result t_texted t_wordSize t_orderMany (q_t_here + 1) q_t_fault t_faultAt t_commandMany t_writtenSize) rfl ?_
      refine a_iinc C 2 [(2, .int (x2 + 1)), (0, .ref t), (1, .int p1)] dX9_letters_38 rfl rfl (by decide) rfl ?_
      refine a_goto C (tgt := 2) dX9_letters_41 (by decide) ?_
      refine a_sub C [1, 2, 0] [(0, .ref t), (1, .int p1), (2, .int (x2 + 1))] rfl ?_
      exact ih (x2 + 1) (q_t_here + 1) k hF hX
  have hJ44 : ∀ (x2 : Int32) (q_t_here : Int32) (q_t_fault : Int32), f_X9_letters_J44 x2 q_t_here q_t_fault = some res → aT p l e ({ frames := 1, cells := 0, slots := 0, locals := 22 } : Room) s m args below meth c (MQ below (aQi D (wX9 kc ki t t_all t_reasons t_text t_word t_order t_rows t_written t_allF t_reasonsF t_textF t_wordF t_orderF t_rowsF t_writtenF t_thrown t_changes t_isSaved t_result t_texted t_wordSize t_orderMany t_here t_fault t_faultAt t_commandMany t_writtenSize) s.heap.size (fun r => r.1) (fun r => wX9 kc ki t t_all t_reasons t_text t_word t_order t_rows t_written t_allF t_reasonsF t_textF t_wordF t_orderF t_rowsF t_writtenF t_thrown t_changes t_isSaved t_result t_texted t_wordSize t_orderMany r.2.1 r.2.2 t_faultAt t_commandMany t_writtenSize) res) args s 0 0 (va_A (wX9 kc ki t t_all t_reasons t_text t_word t_order t_rows t_written t_allF t_reasonsF t_textF t_wordF t_orderF t_rowsF t_writtenF t_thrown t_changes t_isSaved t_result t_texted t_wordSize t_orderMany t_here t_fault t_faultAt t_commandMany t_writtenSize) s.heap.size)) D (va_A (wX9 kc ki t t_all t_reasons t_text t_word t_order t_rows t_written t_allF t_reasonsF t_textF t_wordF t_orderF t_rowsF t_writtenF t_thrown t_changes t_isSaved t_result t_texted t_wordSize t_orderMany t_here t_fault t_faultAt t_commandMany t_writtenSize) s.heap.size) 3 0 0 44 [(0, .ref t), (2, .int x2)] [] (wX9 kc ki t t_all t_reasons t_text t_word t_order t_rows t_written t_allF t_reasonsF t_textF t_wordF t_orderF t_rowsF t_writtenF t_thrown t_changes t_isSaved t_result t_texted t_wordSize t_orderMany q_t_here q_t_fault t_faultAt t_commandMany t_writtenSize) := by
    intro x2 q_t_here q_t_fault hF
    unfold f_X9_letters_J44 at hF
    refine a_aload_n C 0 dX9_letters_44 rfl rfl ?_
    refine a_get C 0 13 iwX9 rfl rfl (by decide) kf_X9_199 rfl dX9_letters_45 ?_
    refine a_if_ge C (tgt := 63) dX9_letters_48 (by decide) hF (fun c48_8 hF => ?_) (fun c48_8 hF => ?_)
    · refine a_iload_n C 1 dX9_letters_63 rfl rfl ?_
      exact a_iret C hr rfl dX9_letters_64 hF rfl rfl
    refine a_iload_n C 1 dX9_letters_51 rfl rfl ?_
    refine a_if_ne C (tgt := 63) dX9_letters_52 (by decide) hF (fun c52_9 hF => ?_) (fun c52_9 hF => ?_)
    · refine a_iload_n C 1 dX9_letters_63 rfl rfl ?_
      exact a_iret C hr rfl dX9_letters_64 hF rfl rfl
    refine a_aload_n C 0 dX9_letters_55 rfl rfl ?_
    refine a_aload_n C 0 dX9_letters_56 rfl rfl ?_
    refine a_get C 0 12 iwX9 rfl rfl (by decide) kf_X9_196 rfl dX9_letters_57 ?_
    refine a_put C 0 13 iwX9 tyX9_ok nmX9 rfl rfl (by decide) kf_X9_199 rfl rfl rfl (Nat.le_of_ble_eq_true rfl) dX9_letters_60 ?_
    refine a_ws C (ws' := wX9 kc ki t t_all t_reasons t_text t_word t_order t_rows t_written t_allF t_reasonsF t_textF t_wordF t_orderF t_rowsF t_writtenF t_thrown t_changes t_isSaved t_result t_texted t_wordSize t_orderMany q_t_here q_t_here t_faultAt t_commandMany t_writtenSize) rfl ?_
    refine a_iload_n C 1 dX9_letters_63 rfl rfl ?_
    exact a_iret C hr rfl dX9_letters_64 hF rfl rfl
  unfold f_X9_letters at hF
  refine a_iconst C (v := 0) dX9_letters_0 (by decide) ?_
  refine a_istore_n C [(2, .int 0), (0, .ref t), (1, .int p1)] dX9_letters_1 rfl (by decide) rfl ?_
  refine a_sub C [1, 2, 0] [(0, .ref t), (1, .int p1), (2, .int 0)] rfl ?_
  refine hI2 t_fault 1000 0 t_here _ hF (fun x2_2_6 q_t_here_2_7 hF => ?_)
  exact hJ44 x2_2_6 q_t_here_2_7 t_fault hF
theorem cs_X9_211 : GoodIn WW (wsV RX9 211 RX9 yX9_digit (aW yX9_digit cX9_digit 1 ((some .int)))) := gdV kl_X9_211 ki_X9_digit kv_X9_digit kn_X9 kc_X9_digit
theorem cs_X9_208 : GoodIn WW (wsV RX9 208 RX9 yX9_letters (aW yX9_letters cX9_letters 3 ((some .int)))) := gdV kl_X9_208 ki_X9_letters kv_X9_letters kn_X9 kc_X9_letters
def f_X9_command_L24 (x1 : Int32) : Nat → Int32 → (Nat → Int32) → (Int32 → (Nat → Int32) → Option ((Nat → Int32) × Int32 × Int32 × Int32)) → Option ((Nat → Int32) × Int32 × Int32 × Int32)
  | 0, _, _, _ => none
  | fuel + 1, x3, q_t_rowsF, k => if 4 ≤ x3 then (k x3 q_t_rowsF) else ((sti q_t_rowsF 244 (x1 + x3) 0).bind fun g37_3 => f_X9_command_L24 x1 fuel (x3 + 1) g37_3 k)
def f_X9_command_J184 (x1 : Int32) (x2 : Int32) (q_t_rowsF : Nat → Int32) (q_t_here : Int32) (q_t_fault : Int32) (q_t_commandMany : Int32) (y1 : Int32) (y2 : Int32) (t_textF : Nat → Int32) (t_texted : Int32) : Option ((Nat → Int32) × Int32 × Int32 × Int32) := (sti q_t_rowsF 244 y1 y2).bind fun g184_13 => if x2 = 61 then ((f_X9_letters t_textF t_texted q_t_here q_t_fault 1).bind fun r194_15 => if ¬ r194_15.1 = 1 then ((sti g184_13 244 (x1 + 3) 0).bind fun g225_17 => some (g225_17, r194_15.2.1, r194_15.2.2, q_t_commandMany)) else ((ldc t_textF 60 (r194_15.2.1 - 1)).bind fun v220_18 => (sti g184_13 244 (x1 + 3) v220_18).bind fun g225_19 => some (g225_19, r194_15.2.1, r194_15.2.2, q_t_commandMany))) else (some (g184_13, q_t_here, q_t_fault, q_t_commandMany))
def f_X9_command_J176 (x1 : Int32) (x2 : Int32) (q_t_rowsF : Nat → Int32) (q_t_here : Int32) (q_t_fault : Int32) (q_t_commandMany : Int32) (y1 : Int32) (t_textF : Nat → Int32) (t_texted : Int32) : Option ((Nat → Int32) × Int32 × Int32 × Int32) := (f_X9_digit t_textF t_texted q_t_here q_t_fault).bind fun r177_12 => f_X9_command_J184 x1 x2 q_t_rowsF r177_12.2.1 r177_12.2.2 q_t_commandMany y1 r177_12.1 t_textF t_texted
def f_X9_command_J96 (x1 : Int32) (x2 : Int32) (q_t_rowsF : Nat → Int32) (q_t_here : Int32) (q_t_fault : Int32) (q_t_commandMany : Int32) (t_textF : Nat → Int32) (t_texted : Int32) : Option ((Nat → Int32) × Int32 × Int32 × Int32) := if ¬ x2 = 43 then ((f_X9_digit t_textF t_texted (q_t_here + 1) q_t_fault).bind fun r147_9 => (sti q_t_rowsF 244 (x1 + 1) r147_9.1).bind fun g150_10 => if x2 = 61 then (f_X9_command_J176 x1 x2 g150_10 r147_9.2.1 r147_9.2.2 q_t_commandMany (x1 + 2) t_textF t_texted) else (if x2 = 120 then (f_X9_command_J176 x1 x2 g150_10 r147_9.2.1 r147_9.2.2 q_t_commandMany (x1 + 2) t_textF t_texted) else (if ¬ x2 = 106 then (f_X9_command_J184 x1 x2 g150_10 r147_9.2.1 r147_9.2.2 q_t_commandMany (x1 + 2) 0 t_textF t_texted) else (f_X9_command_J176 x1 x2 g150_10 r147_9.2.1 r147_9.2.2 q_t_commandMany (x1 + 2) t_textF t_texted)))) else ((sti q_t_rowsF 244 (x1 + 1) (q_t_here + 1)).bind fun g123_22 => (f_X9_letters t_textF t_texted (q_t_here + 1) q_t_fault 10).bind fun r134_23 => (sti g123_22 244 (x1 + 2) r134_23.1).bind fun g137_24 => some (g137_24, r134_23.2.1, r134_23.2.2, q_t_commandMany))
def f_X9_command (t_textF : Nat → Int32) (t_rowsF : Nat → Int32) (t_texted : Int32) (t_here : Int32) (t_fault : Int32) (t_commandMany : Int32) : Option ((Nat → Int32) × Int32 × Int32 × Int32) := (f_X9_sign t_textF t_texted t_here).bind fun r18_1 => f_X9_command_L24 (4 * t_commandMany) 1000 0 t_rowsF (fun x3_24_4 q_t_rowsF_24_5 => (sti q_t_rowsF_24_5 244 (4 * t_commandMany) r18_1).bind fun g50_6 => if r18_1 = 43 then (f_X9_command_J96 (4 * t_commandMany) r18_1 g50_6 t_here t_fault (t_commandMany + 1) t_textF t_texted) else (if r18_1 = 45 then (f_X9_command_J96 (4 * t_commandMany) r18_1 g50_6 t_here t_fault (t_commandMany + 1) t_textF t_texted) else (if r18_1 = 61 then (f_X9_command_J96 (4 * t_commandMany) r18_1 g50_6 t_here t_fault (t_commandMany + 1) t_textF t_texted) else (if r18_1 = 120 then (f_X9_command_J96 (4 * t_commandMany) r18_1 g50_6 t_here t_fault (t_commandMany + 1) t_textF t_texted) else (if r18_1 = 106 then (f_X9_command_J96 (4 * t_commandMany) r18_1 g50_6 t_here t_fault (t_commandMany + 1) t_textF t_texted) else (if r18_1 = 116 then (f_X9_command_J96 (4 * t_commandMany) r18_1 g50_6 t_here t_fault (t_commandMany + 1) t_textF t_texted) else (some (g50_6, t_here, t_here, t_commandMany + 1))))))))
theorem hd_X9_command : yX9_command.cls = RX9 ∧ yX9_command.cls ≠ "java/lang/invoke/MethodHandle" ∧ yX9_command.cls ≠ "java/lang/invoke/VarHandle" ∧ (parseMethodDescriptor yX9_command.desc).map (fun d => d.parameters.length) = some 0 := by decide +kernel
set_option maxRecDepth 100000 in
set_option maxHeartbeats 4000000 in
theorem c_X9_command (l : Launch) (D : va_G) (J : (Nat → Nat) × (Nat → Nat)) (kc ki kb kl kd : ClassId) (t : Nat) (t_all : Nat) (t_reasons : Nat) (t_text : Nat) (t_word : Nat) (t_order : Nat) (t_rows : Nat) (t_written : Nat) (t_allF : Nat → Int32) (t_reasonsF : Nat → Int32) (t_textF : Nat → Int32) (t_wordF : Nat → Int32) (t_orderF : Nat → Int32) (t_rowsF : Nat → Int32) (t_writtenF : Nat → Int32) (t_thrown : Int32) (t_changes : Int32) (t_isSaved : Int32) (t_result : Int32) (t_texted : Int32) (t_wordSize : Int32) (t_orderMany : Int32) (t_here : Int32) (t_fault : Int32) (t_faultAt : Int32) (t_commandMany : Int32) (t_writtenSize : Int32) (res : (Nat → Int32) × Int32 × Int32 × Int32) (hF : f_X9_command t_textF t_rowsF t_texted t_here t_fault t_commandMany = some res) : aKv l yX9_command (aW yX9_command cX9_command 4 none) ({ frames := 2, cells := 0, slots := 0, locals := 44 } : Room) D J (aTy kc ki kb kl kd) [.ref t] (wX9 kc ki t t_all t_reasons t_text t_word t_order t_rows t_written t_allF t_reasonsF t_textF t_wordF t_orderF t_rowsF t_writtenF t_thrown t_changes t_isSaved t_result t_texted t_wordSize t_orderMany t_here t_fault t_faultAt t_commandMany t_writtenSize) (fun r => wX9 kc ki t t_all t_reasons t_text t_word t_order t_rows t_written t_allF t_reasonsF t_textF t_wordF t_orderF r.1 t_writtenF t_thrown t_changes t_isSaved t_result t_texted t_wordSize t_orderMany r.2.1 r.2.2.1 t_faultAt r.2.2.2 t_writtenSize) res := by
  refine aKv_of (own := RX9) (by decide) rfl (Nat.le_of_ble_eq_true rfl) rfl ?_
  intro p e s m args below meth c C hr
  have hI24 : ∀ (x1 : Int32) (x2 : Int32) (q_t_here : Int32) (q_t_fault : Int32) (q_t_commandMany : Int32) (fuel : Nat) (x3 : Int32) (q_t_rowsF : Nat → Int32) (k : Int32 → (Nat → Int32) → Option ((Nat → Int32) × Int32 × Int32 × Int32)), f_X9_command_L24 x1 fuel x3 q_t_rowsF k = some res → (∀ (x3 : Int32) (q_t_rowsF : Nat → Int32), k x3 q_t_rowsF = some res → aT p l e ({ frames := 2, cells := 0, slots := 0, locals := 44 } : Room) s m args below meth c (MQ below (aQv D (wX9 kc ki t t_all t_reasons t_text t_word t_order t_rows t_written t_allF t_reasonsF t_textF t_wordF t_orderF t_rowsF t_writtenF t_thrown t_changes t_isSaved t_result t_texted t_wordSize t_orderMany t_here t_fault t_faultAt t_commandMany t_writtenSize) s.heap.size (fun r => wX9 kc ki t t_all t_reasons t_text t_word t_order t_rows t_written t_allF t_reasonsF t_textF t_wordF t_orderF r.1 t_writtenF t_thrown t_changes t_isSaved t_result t_texted t_wordSize t_orderMany r.2.1 r.2.2.1 t_faultAt r.2.2.2 t_writtenSize) res) args s 0 0 (va_A (wX9 kc ki t t_all t_reasons t_text t_word t_order t_rows t_written t_allF t_reasonsF t_textF t_wordF t_orderF t_rowsF t_writtenF t_thrown t_changes t_isSaved t_result t_texted t_wordSize t_orderMany t_here t_fault t_faultAt t_commandMany t_writtenSize) s.heap.size)) D (va_A (wX9 kc ki t t_all t_reasons t_text t_word t_order t_rows t_written t_allF t_reasonsF t_textF t_wordF t_orderF t_rowsF t_writtenF t_thrown t_changes t_isSaved t_result t_texted t_wordSize t_orderMany t_here t_fault t_faultAt t_commandMany t_writtenSize) s.heap.size) 4 0 0 44 [(0, .ref t), (1, .int x1), (2, .int x2)] [] (wX9 kc ki t t_all t_reasons t_text t_word t_order t_rows t_written t_allF t_reasonsF t_textF t_wordF t_orderF q_t_rowsF t_writtenF t_thrown t_changes t_isSaved t_result t_texted t_wordSize t_orderMany q_t_here q_t_fault t_faultAt q_t_commandMany t_writtenSize)) → aT p l e ({ frames := 2, cells := 0, slots := 0, locals := 44 } : Room) s m args below meth c (MQ below (aQv D (wX9 kc ki t t_all t_reasons t_text t_word t_order t_rows t_written t_allF t_reasonsF t_textF t_wordF t_orderF t_rowsF t_writtenF t_thrown t_changes t_isSaved t_result t_texted t_wordSize t_orderMany t_here t_fault t_faultAt t_commandMany t_writtenSize) s.heap.size (fun r => wX9 kc ki t t_all t_reasons t_text t_word t_order t_rows t_written t_allF t_reasonsF t_textF t_wordF t_orderF r.1 t_writtenF t_thrown t_changes t_isSaved t_result t_texted t_wordSize t_orderMany r.2.1 r.2.2.1 t_faultAt r.2.2.2 t_writtenSize) res) args s 0 0 (va_A (wX9 kc ki t t_all t_reasons t_text t_word t_order t_rows t_written t_allF t_reasonsF t_textF t_wordF t_orderF t_rowsF t_writtenF t_thrown t_changes t_isSaved t_result t_texted t_wordSize t_orderMany t_here t_fault t_faultAt t_commandMany t_writtenSize) s.heap.size)) D (va_A (wX9 kc ki t t_all t_reasons t_text t_word t_order t_rows t_written t_allF t_reasonsF t_textF t_wordF t_orderF t_rowsF t_writtenF t_thrown t_changes t_isSaved t_result t_texted t_wordSize t_orderMany t_here t_fault t_faultAt t_commandMany t_writtenSize) s.heap.size) 4 0 0 24 [(0, .ref t), (1, .int x1), (2, .int x2), (3, .int x3)] [] (wX9 kc ki t t_all t_reasons t_text t_word t_order t_rows t_written t_allF t_reasonsF t_textF t_wordF t_orderF q_t_rowsF t_writtenF t_thrown t_changes t_isSaved t_result t_texted t_wordSize t_orderMany q_t_here q_t_fault t_faultAt q_t_commandMany t_writtenSize) := by
    intro x1 x2 q_t_here q_t_fault q_t_commandMany fuel
    induction fuel with
    | zero => intro x3 q_t_rowsF k hF hX; exact nomatch hF
    | succ fuel ih =>
      intro x3 q_t_rowsF k hF hX
      rw [f_X9_command_L24] at hF
      refine a_iload_n C 3 dX9_command_24 rfl rfl ?_
      refine a_iconst C (v := 4) dX9_command_25 (by decide) ?_
      refine a_ic_ge C (tgt := 44) dX9_command_26 (by decide) hF (fun c26_2 hF => ?_) (fun c26_2 hF => ?_)
      · refine a_sub C [0, 1, 2] [(0, .ref t), (1, .int x1), (2, .int x2)] rfl ?_
        exact hX x3 q_t_rowsF hF
      refine a_aload_n C 0 dX9_command_29 rfl rfl ?_
      refine a_get C 0 15 iwX9 rfl rfl (by decide) kf_X9_30 rfl dX9_command_30 ?_
      refine a_iload_n C 1 dX9_command_33 rfl rfl ?_
      refine a_iload_n C 3 dX9_command_34 rfl rfl ?_
      refine a_iadd C dX9_command_35 ?_
      refine a_iconst C (v := 0) dX9_command_36 (by decide) ?_
      refine a_iast C 6 1 rfl rfl dX9_command_37 hF (fun g37_3 eg37_3 hF => ?_)
      refine a_ws C (ws' := wX9 kc ki t t_all t_reasons t_text t_word t_order t_rows t_written t_allF t_reasonsF t_textF t_wordF t_orderF g37_3 t_writtenF t_thrown t_changes t_isSaved t_result t_texted t_wordSize t_orderMany q_t_here q_t_fault t_faultAt q_t_commandMany t_writtenSize) rfl ?_
      refine a_iinc C 3 [(3, .int (x3 + 1)), (0, .ref t), (1, .int x1), (2, .int x2)] dX9_command_38 rfl rfl (by decide) rfl ?_
      refine a_goto C (tgt := 24) dX9_command_41 (by decide) ?_
      refine a_sub C [1, 2, 3, 0] [(0, .ref t), (1, .int x1), (2, .int x2), (3, .int (x3 + 1))] rfl ?_
      exact ih (x3 + 1) g37_3 k hF hX
  have hJ184 : ∀ (x1 : Int32) (x2 : Int32) (q_t_rowsF : Nat → Int32) (q_t_here : Int32) (q_t_fault : Int32) (q_t_commandMany : Int32) (y1 : Int32) (y2 : Int32), f_X9_command_J184 x1 x2 q_t_rowsF q_t_here q_t_fault q_t_commandMany y1 y2 t_textF t_texted = some res → aT p l e ({ frames := 2, cells := 0, slots := 0, locals := 44 } : Room) s m args below meth c (MQ below (aQv D (wX9 kc ki t t_all t_reasons t_text t_word t_order t_rows t_written t_allF t_reasonsF t_textF t_wordF t_orderF t_rowsF t_writtenF t_thrown t_changes t_isSaved t_result t_texted t_wordSize t_orderMany t_here t_fault t_faultAt t_commandMany t_writtenSize) s.heap.size (fun r => wX9 kc ki t t_all t_reasons t_text t_word t_order t_rows t_written t_allF t_reasonsF t_textF t_wordF t_orderF r.1 t_writtenF t_thrown t_changes t_isSaved t_result t_texted t_wordSize t_orderMany r.2.1 r.2.2.1 t_faultAt r.2.2.2 t_writtenSize) res) args s 0 0 (va_A (wX9 kc ki t t_all t_reasons t_text t_word t_order t_rows t_written t_allF t_reasonsF t_textF t_wordF t_orderF t_rowsF t_writtenF t_thrown t_changes t_isSaved t_result t_texted t_wordSize t_orderMany t_here t_fault t_faultAt t_commandMany t_writtenSize) s.heap.size)) D (va_A (wX9 kc ki t t_all t_reasons t_text t_word t_order t_rows t_written t_allF t_reasonsF t_textF t_wordF t_orderF t_rowsF t_writtenF t_thrown t_changes t_isSaved t_result t_texted t_wordSize t_orderMany t_here t_fault t_faultAt t_commandMany t_writtenSize) s.heap.size) 4 0 0 184 [(0, .ref t), (1, .int x1), (2, .int x2)] [.int y2, .int y1, .ref t_rows] (wX9 kc ki t t_all t_reasons t_text t_word t_order t_rows t_written t_allF t_reasonsF t_textF t_wordF t_orderF q_t_rowsF t_writtenF t_thrown t_changes t_isSaved t_result t_texted t_wordSize t_orderMany q_t_here q_t_fault t_faultAt q_t_commandMany t_writtenSize) := by
    intro x1 x2 q_t_rowsF q_t_here q_t_fault q_t_commandMany y1 y2 hF
    unfold f_X9_command_J184 at hF
    refine a_iast C 6 1 rfl rfl dX9_command_184 hF (fun g184_13 eg184_13 hF => ?_)
    refine a_ws C (ws' := wX9 kc ki t t_all t_reasons t_text t_word t_order t_rows t_written t_allF t_reasonsF t_textF t_wordF t_orderF g184_13 t_writtenF t_thrown t_changes t_isSaved t_result t_texted t_wordSize t_orderMany q_t_here q_t_fault t_faultAt q_t_commandMany t_writtenSize) rfl ?_
    refine a_iload_n C 2 dX9_command_185 rfl rfl ?_
    refine a_bipush C (v := 61) dX9_command_186 (by decide) ?_
    refine a_ic_eq C (tgt := 192) dX9_command_188 (by decide) hF (fun c188_14 hF => ?_) (fun c188_14 hF => ?_)
    · refine a_aload_n C 0 dX9_command_192 rfl rfl ?_
      refine a_iconst C (v := 1) dX9_command_193 (by decide) ?_
      refine a_callVi C 1 [0, 1, 2, 3, 4, 5, 6, 7] 0 cs_X9_208 hd_X9_letters ⟨rfl, rfl⟩ ⟨Nat.le_of_ble_eq_true rfl, Nat.le_of_ble_eq_true rfl⟩ (fun r h => c_X9_letters l D J kc ki kb kl kd t t_all t_reasons t_text t_word t_order t_rows t_written t_allF t_reasonsF t_textF t_wordF t_orderF g184_13 t_writtenF t_thrown t_changes t_isSaved t_result t_texted t_wordSize t_orderMany q_t_here q_t_fault t_faultAt q_t_commandMany t_writtenSize 1 r h) rfl rfl rfl (fun _ => rfl) rfl rfl rfl (Nat.le_of_ble_eq_true rfl) dX9_command_194 ⟨Nat.zero_le _, Nat.zero_le _⟩ hF (fun r194_15 er194_15 hF => ?_)
      refine a_ws C (ws' := wX9 kc ki t t_all t_reasons t_text t_word t_order t_rows t_written t_allF t_reasonsF t_textF t_wordF t_orderF g184_13 t_writtenF t_thrown t_changes t_isSaved t_result t_texted t_wordSize t_orderMany r194_15.2.1 r194_15.2.2 t_faultAt q_t_commandMany t_writtenSize) rfl ?_
      refine a_istore_n C [(3, .int r194_15.1), (0, .ref t), (1, .int x1), (2, .int x2)] dX9_command_197 rfl (by decide) rfl ?_
      refine a_aload_n C 1 dX9_command_198 rfl rfl ?_
      refine a_get C 0 15 iwX9 rfl rfl (by decide) kf_X9_30 rfl dX9_command_199 ?_
      refine a_iload_n C 2 dX9_command_202 rfl rfl ?_
      refine a_iconst C (v := 3) dX9_command_203 (by decide) ?_
      refine a_iadd C dX9_command_204 ?_
      refine a_iload_n C 0 dX9_command_205 rfl rfl ?_
      refine a_iconst C (v := 1) dX9_command_206 (by decide) ?_
      refine a_ic_ne C (tgt := 224) dX9_command_207 (by decide) hF (fun c207_16 hF => ?_) (fun c207_16 hF => ?_)
      · refine a_iconst C (v := 0) dX9_command_224 (by decide) ?_
        refine a_iast C 6 1 rfl rfl dX9_command_225 hF (fun g225_17 eg225_17 hF => ?_)
        refine a_ws C (ws' := wX9 kc ki t t_all t_reasons t_text t_word t_order t_rows t_written t_allF t_reasonsF t_textF t_wordF t_orderF g225_17 t_writtenF t_thrown t_changes t_isSaved t_result t_texted t_wordSize t_orderMany r194_15.2.1 r194_15.2.2 t_faultAt q_t_commandMany t_writtenSize) rfl ?_
        exact a_vret C hr dX9_command_226 hF rfl
      refine a_aload_n C 1 dX9_command_210 rfl rfl ?_
      refine a_get C 0 6 iwX9 rfl rfl (by decide) kf_X9_16 rfl dX9_command_211 ?_
      refine a_aload_n C 1 dX9_command_214 rfl rfl ?_
      refine a_get C 0 12 iwX9 rfl rfl (by decide) kf_X9_196 rfl dX9_command_215 ?_
      refine a_iconst C (v := 1) dX9_command_218 (by decide) ?_
      refine a_isub C dX9_command_219 ?_
      refine a_cald C 3 0 rfl rfl dX9_command_220 hF (fun v220_18 ev220_18 hF => ?_)
      refine a_goto C (tgt := 225) dX9_command_221 (by decide) ?_
      refine a_iast C 6 1 rfl rfl dX9_command_225 hF (fun g225_19 eg225_19 hF => ?_)
      refine a_ws C (ws' := wX9 kc ki t t_all t_reasons t_text t_word t_order t_rows t_written t_allF t_reasonsF t_textF t_wordF t_orderF g225_19 t_writtenF t_thrown t_changes t_isSaved t_result t_texted t_wordSize t_orderMany r194_15.2.1 r194_15.2.2 t_faultAt q_t_commandMany t_writtenSize) rfl ?_
      exact a_vret C hr dX9_command_226 hF rfl
    exact a_vret C hr dX9_command_191 hF rfl
  have hJ176 : ∀ (x1 : Int32) (x2 : Int32) (q_t_rowsF : Nat → Int32) (q_t_here : Int32) (q_t_fault : Int32) (q_t_commandMany : Int32) (y1 : Int32), f_X9_command_J176 x1 x2 q_t_rowsF q_t_here q_t_fault q_t_commandMany y1 t_textF t_texted = some res → aT p l e ({ frames := 2, cells := 0, slots := 0, locals := 44 } : Room) s m args below meth c (MQ below (aQv D (wX9 kc ki t t_all t_reasons t_text t_word t_order t_rows t_written t_allF t_reasonsF t_textF t_wordF t_orderF t_rowsF t_writtenF t_thrown t_changes t_isSaved t_result t_texted t_wordSize t_orderMany t_here t_fault t_faultAt t_commandMany t_writtenSize) s.heap.size (fun r => wX9 kc ki t t_all t_reasons t_text t_word t_order t_rows t_written t_allF t_reasonsF t_textF t_wordF t_orderF r.1 t_writtenF t_thrown t_changes t_isSaved t_result t_texted t_wordSize t_orderMany r.2.1 r.2.2.1 t_faultAt r.2.2.2 t_writtenSize) res) args s 0 0 (va_A (wX9 kc ki t t_all t_reasons t_text t_word t_order t_rows t_written t_allF t_reasonsF t_textF t_wordF t_orderF t_rowsF t_writtenF t_thrown t_changes t_isSaved t_result t_texted t_wordSize t_orderMany t_here t_fault t_faultAt t_commandMany t_writtenSize) s.heap.size)) D (va_A (wX9 kc ki t t_all t_reasons t_text t_word t_order t_rows t_written t_allF t_reasonsF t_textF t_wordF t_orderF t_rowsF t_writtenF t_thrown t_changes t_isSaved t_result t_texted t_wordSize t_orderMany t_here t_fault t_faultAt t_commandMany t_writtenSize) s.heap.size) 4 0 0 176 [(0, .ref t), (1, .int x1), (2, .int x2)] [.int y1, .ref t_rows] (wX9 kc ki t t_all t_reasons t_text t_word t_order t_rows t_written t_allF t_reasonsF t_textF t_wordF t_orderF q_t_rowsF t_writtenF t_thrown t_changes t_isSaved t_result t_texted t_wordSize t_orderMany q_t_here q_t_fault t_faultAt q_t_commandMany t_writtenSize) := by
    intro x1 x2 q_t_rowsF q_t_here q_t_fault q_t_commandMany y1 hF
    unfold f_X9_command_J176 at hF
    refine a_aload_n C 0 dX9_command_176 rfl rfl ?_
    refine a_callVi C 0 [0, 1, 2, 3, 4, 5, 6, 7] 0 cs_X9_211 hd_X9_digit ⟨rfl, rfl⟩ ⟨Nat.le_of_ble_eq_true rfl, Nat.le_of_ble_eq_true rfl⟩ (fun r h => c_X9_digit l D J kc ki kb kl kd t t_all t_reasons t_text t_word t_order t_rows t_written t_allF t_reasonsF t_textF t_wordF t_orderF q_t_rowsF t_writtenF t_thrown t_changes t_isSaved t_result t_texted t_wordSize t_orderMany q_t_here q_t_fault t_faultAt q_t_commandMany t_writtenSize r h) rfl rfl rfl (fun _ => rfl) rfl rfl rfl (Nat.le_of_ble_eq_true rfl) dX9_command_177 ⟨Nat.zero_le _, Nat.zero_le _⟩ hF (fun r177_12 er177_12 hF => ?_)
    refine a_ws C (ws' := wX9 kc ki t t_all t_reasons t_text t_word t_order t_rows t_written t_allF t_reasonsF t_textF t_wordF t_orderF q_t_rowsF t_writtenF t_thrown t_changes t_isSaved t_result t_texted t_wordSize t_orderMany r177_12.2.1 r177_12.2.2 t_faultAt q_t_commandMany t_writtenSize) rfl ?_
    refine a_goto C (tgt := 184) dX9_command_180 (by decide) ?_
    exact hJ184 x1 x2 q_t_rowsF r177_12.2.1 r177_12.2.2 q_t_commandMany y1 r177_12.1 hF
  have hJ96 : ∀ (x1 : Int32) (x2 : Int32) (q_t_rowsF : Nat → Int32) (q_t_here : Int32) (q_t_fault : Int32) (q_t_commandMany : Int32), f_X9_command_J96 x1 x2 q_t_rowsF q_t_here q_t_fault q_t_commandMany t_textF t_texted = some res → aT p l e ({ frames := 2, cells := 0, slots := 0, locals := 44 } : Room) s m args below meth c (MQ below (aQv D (wX9 kc ki t t_all t_reasons t_text t_word t_order t_rows t_written t_allF t_reasonsF t_textF t_wordF t_orderF t_rowsF t_writtenF t_thrown t_changes t_isSaved t_result t_texted t_wordSize t_orderMany t_here t_fault t_faultAt t_commandMany t_writtenSize) s.heap.size (fun r => wX9 kc ki t t_all t_reasons t_text t_word t_order t_rows t_written t_allF t_reasonsF t_textF t_wordF t_orderF r.1 t_writtenF t_thrown t_changes t_isSaved t_result t_texted t_wordSize t_orderMany r.2.1 r.2.2.1 t_faultAt r.2.2.2 t_writtenSize) res) args s 0 0 (va_A (wX9 kc ki t t_all t_reasons t_text t_word t_order t_rows t_written t_allF t_reasonsF t_textF t_wordF t_orderF t_rowsF t_writtenF t_thrown t_changes t_isSaved t_result t_texted t_wordSize t_orderMany t_here t_fault t_faultAt t_commandMany t_writtenSize) s.heap.size)) D (va_A (wX9 kc ki t t_all t_reasons t_text t_word t_order t_rows t_written t_allF t_reasonsF t_textF t_wordF t_orderF t_rowsF t_writtenF t_thrown t_changes t_isSaved t_result t_texted t_wordSize t_orderMany t_here t_fault t_faultAt t_commandMany t_writtenSize) s.heap.size) 4 0 0 96 [(0, .ref t), (1, .int x1), (2, .int x2)] [] (wX9 kc ki t t_all t_reasons t_text t_word t_order t_rows t_written t_allF t_reasonsF t_textF t_wordF t_orderF q_t_rowsF t_writtenF t_thrown t_changes t_isSaved t_result t_texted t_wordSize t_orderMany q_t_here q_t_fault t_faultAt q_t_commandMany t_writtenSize) := by
    intro x1 x2 q_t_rowsF q_t_here q_t_fault q_t_commandMany hF
    unfold f_X9_command_J96 at hF
    refine a_aload_n C 0 dX9_command_96 rfl rfl ?_
    refine a_dup C dX9_command_97 rfl ?_
    refine a_get C 0 12 iwX9 rfl rfl (by decide) kf_X9_196 rfl dX9_command_98 ?_
    refine a_iconst C (v := 1) dX9_command_101 (by decide) ?_
    refine a_iadd C dX9_command_102 ?_
    refine a_put C 0 12 iwX9 tyX9_ok nmX9 rfl rfl (by decide) kf_X9_196 rfl rfl rfl (Nat.le_of_ble_eq_true rfl) dX9_command_103 ?_
    refine a_ws C (ws' := wX9 kc ki t t_all t_reasons t_text t_word t_order t_rows t_written t_allF t_reasonsF t_textF t_wordF t_orderF q_t_rowsF t_writtenF t_thrown t_changes t_isSaved t_result t_texted t_wordSize t_orderMany (q_t_here + 1) q_t_fault t_faultAt q_t_commandMany t_writtenSize) rfl ?_
    refine a_iload_n C 2 dX9_command_106 rfl rfl ?_
    refine a_bipush C (v := 43) dX9_command_107 (by decide) ?_
    refine a_ic_ne C (tgt := 139) dX9_command_109 (by decide) hF (fun c109_8 hF => ?_) (fun c109_8 hF => ?_)
    · refine a_aload_n C 0 dX9_command_139 rfl rfl ?_
      refine a_get C 0 15 iwX9 rfl rfl (by decide) kf_X9_30 rfl dX9_command_140 ?_
      refine a_iload_n C 1 dX9_command_143 rfl rfl ?_
      refine a_iconst C (v := 1) dX9_command_144 (by decide) ?_
      refine a_iadd C dX9_command_145 ?_
      refine a_aload_n C 0 dX9_command_146 rfl rfl ?_
      refine a_callVi C 0 [0, 1, 2, 3, 4, 5, 6, 7] 0 cs_X9_211 hd_X9_digit ⟨rfl, rfl⟩ ⟨Nat.le_of_ble_eq_true rfl, Nat.le_of_ble_eq_true rfl⟩ (fun r h => c_X9_digit l D J kc ki kb kl kd t t_all t_reasons t_text t_word t_order t_rows t_written t_allF t_reasonsF t_textF t_wordF t_orderF q_t_rowsF t_writtenF t_thrown t_changes t_isSaved t_result t_texted t_wordSize t_orderMany (q_t_here + 1) q_t_fault t_faultAt q_t_commandMany t_writtenSize r h) rfl rfl rfl (fun _ => rfl) rfl rfl rfl (Nat.le_of_ble_eq_true rfl) dX9_command_147 ⟨Nat.zero_le _, Nat.zero_le _⟩ hF (fun r147_9 er147_9 hF => ?_)
      refine a_ws C (ws' := wX9 kc ki t t_all t_reasons t_text t_word t_order t_rows t_written t_allF t_reasonsF t_textF t_wordF t_orderF q_t_rowsF t_writtenF t_thrown t_changes t_isSaved t_result t_texted t_wordSize t_orderMany r147_9.2.1 r147_9.2.2 t_faultAt q_t_commandMany t_writtenSize) rfl ?_
      refine a_iast C 6 1 rfl rfl dX9_command_150 hF (fun g150_10 eg150_10 hF => ?_)
      refine a_ws C (ws' := wX9 kc ki t t_all t_reasons t_text t_word t_order t_rows t_written t_allF t_reasonsF t_textF t_wordF t_orderF g150_10 t_writtenF t_thrown t_changes t_isSaved t_result t_texted t_wordSize t_orderMany r147_9.2.1 r147_9.2.2 t_faultAt q_t_commandMany t_writtenSize) rfl ?_
      refine a_aload_n C 0 dX9_command_151 rfl rfl ?_
      refine a_get C 0 15 iwX9 rfl rfl (by decide) kf_X9_30 rfl dX9_command_152 ?_
      refine a_iload_n C 1 dX9_command_155 rfl rfl ?_
      refine a_iconst C (v := 2) dX9_command_156 (by decide) ?_
      refine a_iadd C dX9_command_157 ?_
      refine a_iload_n C 2 dX9_command_158 rfl rfl ?_
      refine a_bipush C (v := 61) dX9_command_159 (by decide) ?_
      refine a_ic_eq C (tgt := 176) dX9_command_161 (by decide) hF (fun c161_11 hF => ?_) (fun c161_11 hF => ?_)
      · exact hJ176 x1 x2 g150_10 r147_9.2.1 r147_9.2.2 q_t_commandMany (x1 + 2) hF
      refine a_iload_n C 2 dX9_command_164 rfl rfl ?_
      refine a_bipush C (v := 120) dX9_command_165 (by decide) ?_
      refine a_ic_eq C (tgt := 176) dX9_command_167 (by decide) hF (fun c167_20 hF => ?_) (fun c167_20 hF => ?_)
      · exact hJ176 x1 x2 g150_10 r147_9.2.1 r147_9.2.2 q_t_commandMany (x1 + 2) hF
      refine a_iload_n C 2 dX9_command_170 rfl rfl ?_
      refine a_bipush C (v := 106) dX9_command_171 (by decide) ?_
      refine a_ic_ne C (tgt := 183) dX9_command_173 (by decide) hF (fun c173_21 hF => ?_) (fun c173_21 hF => ?_)
      · refine a_iconst C (v := 0) dX9_command_183 (by decide) ?_
        exact hJ184 x1 x2 g150_10 r147_9.2.1 r147_9.2.2 q_t_commandMany (x1 + 2) 0 hF
      exact hJ176 x1 x2 g150_10 r147_9.2.1 r147_9.2.2 q_t_commandMany (x1 + 2) hF
    refine a_aload_n C 0 dX9_command_112 rfl rfl ?_
    refine a_get C 0 15 iwX9 rfl rfl (by decide) kf_X9_30 rfl dX9_command_113 ?_
    refine a_iload_n C 1 dX9_command_116 rfl rfl ?_
    refine a_iconst C (v := 1) dX9_command_117 (by decide) ?_
    refine a_iadd C dX9_command_118 ?_
    refine a_aload_n C 0 dX9_command_119 rfl rfl ?_
    refine a_get C 0 12 iwX9 rfl rfl (by decide) kf_X9_196 rfl dX9_command_120 ?_
    refine a_iast C 6 1 rfl rfl dX9_command_123 hF (fun g123_22 eg123_22 hF => ?_)
    refine a_ws C (ws' := wX9 kc ki t t_all t_reasons t_text t_word t_order t_rows t_written t_allF t_reasonsF t_textF t_wordF t_orderF g123_22 t_writtenF t_thrown t_changes t_isSaved t_result t_texted t_wordSize t_orderMany (q_t_here + 1) q_t_fault t_faultAt q_t_commandMany t_writtenSize) rfl ?_
    refine a_aload_n C 0 dX9_command_124 rfl rfl ?_
    refine a_get C 0 15 iwX9 rfl rfl (by decide) kf_X9_30 rfl dX9_command_125 ?_
    refine a_iload_n C 1 dX9_command_128 rfl rfl ?_
    refine a_iconst C (v := 2) dX9_command_129 (by decide) ?_
    refine a_iadd C dX9_command_130 ?_
    refine a_aload_n C 0 dX9_command_131 rfl rfl ?_
    refine a_bipush C (v := 10) dX9_command_132 (by decide) ?_
    refine a_callVi C 1 [0, 1, 2, 3, 4, 5, 6, 7] 0 cs_X9_208 hd_X9_letters ⟨rfl, rfl⟩ ⟨Nat.le_of_ble_eq_true rfl, Nat.le_of_ble_eq_true rfl⟩ (fun r h => c_X9_letters l D J kc ki kb kl kd t t_all t_reasons t_text t_word t_order t_rows t_written t_allF t_reasonsF t_textF t_wordF t_orderF g123_22 t_writtenF t_thrown t_changes t_isSaved t_result t_texted t_wordSize t_orderMany (q_t_here + 1) q_t_fault t_faultAt q_t_commandMany t_writtenSize 10 r h) rfl rfl rfl (fun _ => rfl) rfl rfl rfl (Nat.le_of_ble_eq_true rfl) dX9_command_134 ⟨Nat.zero_le _, Nat.zero_le _⟩ hF (fun r134_23 er134_23 hF => ?_)
    refine a_ws C (ws' := wX9 kc ki t t_all t_reasons t_text t_word t_order t_rows t_written t_allF t_reasonsF t_textF t_wordF t_orderF g123_22 t_writtenF t_thrown t_changes t_isSaved t_result t_texted t_wordSize t_orderMany r134_23.2.1 r134_23.2.2 t_faultAt q_t_commandMany t_writtenSize) rfl ?_
    refine a_iast C 6 1 rfl rfl dX9_command_137 hF (fun g137_24 eg137_24 hF => ?_)
    refine a_ws C (ws' := wX9 kc ki t t_all t_reasons t_text t_word t_order t_rows t_written t_allF t_reasonsF t_textF t_wordF t_orderF g137_24 t_writtenF t_thrown t_changes t_isSaved t_result t_texted t_wordSize t_orderMany r134_23.2.1 r134_23.2.2 t_faultAt q_t_commandMany t_writtenSize) rfl ?_
    exact a_vret C hr dX9_command_138 hF rfl
  unfold f_X9_command at hF
  refine a_iconst C (v := 4) dX9_command_0 (by decide) ?_
  refine a_aload_n C 0 dX9_command_1 rfl rfl ?_
  refine a_get C 0 16 iwX9 rfl rfl (by decide) kf_X9_205 rfl dX9_command_2 ?_
  refine a_imul C dX9_command_5 ?_
  refine a_istore_n C [(1, .int (4 * t_commandMany)), (0, .ref t)] dX9_command_6 rfl (by decide) rfl ?_
  refine a_aload_n C 1 dX9_command_7 rfl rfl ?_
  refine a_dup C dX9_command_8 rfl ?_
  refine a_get C 0 16 iwX9 rfl rfl (by decide) kf_X9_205 rfl dX9_command_9 ?_
  refine a_iconst C (v := 1) dX9_command_12 (by decide) ?_
  refine a_iadd C dX9_command_13 ?_
  refine a_put C 0 16 iwX9 tyX9_ok nmX9 rfl rfl (by decide) kf_X9_205 rfl rfl rfl (Nat.le_of_ble_eq_true rfl) dX9_command_14 ?_
  refine a_ws C (ws' := wX9 kc ki t t_all t_reasons t_text t_word t_order t_rows t_written t_allF t_reasonsF t_textF t_wordF t_orderF t_rowsF t_writtenF t_thrown t_changes t_isSaved t_result t_texted t_wordSize t_orderMany t_here t_fault t_faultAt (t_commandMany + 1) t_writtenSize) rfl ?_
  refine a_aload_n C 1 dX9_command_17 rfl rfl ?_
  refine a_callVir C 0 [0, 1, 2, 3, 4, 5, 6, 7] 0 cs_X9_202 hd_X9_sign ⟨rfl, rfl⟩ ⟨Nat.le_of_ble_eq_true rfl, Nat.le_of_ble_eq_true rfl⟩ (fun r h => c_X9_sign l D J kc ki kb kl kd t t_all t_reasons t_text t_word t_order t_rows t_written t_allF t_reasonsF t_textF t_wordF t_orderF t_rowsF t_writtenF t_thrown t_changes t_isSaved t_result t_texted t_wordSize t_orderMany t_here t_fault t_faultAt (t_commandMany + 1) t_writtenSize r h) rfl rfl rfl rfl rfl rfl (Nat.le_of_ble_eq_true rfl) dX9_command_18 ⟨Nat.zero_le _, Nat.zero_le _⟩ hF (fun r18_1 er18_1 hF => ?_)
  refine a_istore_n C [(2, .int r18_1), (1, .int (4 * t_commandMany)), (0, .ref t)] dX9_command_21 rfl (by decide) rfl ?_
  refine a_iconst C (v := 0) dX9_command_22 (by decide) ?_
  refine a_istore_n C [(3, .int 0), (2, .int r18_1), (1, .int (4 * t_commandMany)), (0, .ref t)] dX9_command_23 rfl (by decide) rfl ?_
  refine a_sub C [3, 2, 1, 0] [(0, .ref t), (1, .int (4 * t_commandMany)), (2, .int r18_1), (3, .int 0)] rfl ?_
  refine hI24 (4 * t_commandMany) r18_1 t_here t_fault (t_commandMany + 1) 1000 0 t_rowsF _ hF (fun x3_24_4 q_t_rowsF_24_5 hF => ?_)
  refine a_aload_n C 0 dX9_command_44 rfl rfl ?_
  refine a_get C 0 15 iwX9 rfl rfl (by decide) kf_X9_30 rfl dX9_command_45 ?_
  refine a_iload_n C 1 dX9_command_48 rfl rfl ?_
  refine a_iload_n C 2 dX9_command_49 rfl rfl ?_
  refine a_iast C 6 1 rfl rfl dX9_command_50 hF (fun g50_6 eg50_6 hF => ?_)
  refine a_ws C (ws' := wX9 kc ki t t_all t_reasons t_text t_word t_order t_rows t_written t_allF t_reasonsF t_textF t_wordF t_orderF g50_6 t_writtenF t_thrown t_changes t_isSaved t_result t_texted t_wordSize t_orderMany t_here t_fault t_faultAt (t_commandMany + 1) t_writtenSize) rfl ?_
  refine a_iload_n C 2 dX9_command_51 rfl rfl ?_
  refine a_bipush C (v := 43) dX9_command_52 (by decide) ?_
  refine a_ic_eq C (tgt := 96) dX9_command_54 (by decide) hF (fun c54_7 hF => ?_) (fun c54_7 hF => ?_)
  · exact hJ96 (4 * t_commandMany) r18_1 g50_6 t_here t_fault (t_commandMany + 1) hF
  refine a_iload_n C 2 dX9_command_57 rfl rfl ?_
  refine a_bipush C (v := 45) dX9_command_58 (by decide) ?_
  refine a_ic_eq C (tgt := 96) dX9_command_60 (by decide) hF (fun c60_25 hF => ?_) (fun c60_25 hF => ?_)
  · exact hJ96 (4 * t_commandMany) r18_1 g50_6 t_here t_fault (t_commandMany + 1) hF
  refine a_iload_n C 2 dX9_command_63 rfl rfl ?_
  refine a_bipush C (v := 61) dX9_command_64 (by decide) ?_
  refine a_ic_eq C (tgt := 96) dX9_command_66 (by decide) hF (fun c66_26 hF => ?_) (fun c66_26 hF => ?_)
  · exact hJ96 (4 * t_commandMany) r18_1 g50_6 t_here t_fault (t_commandMany + 1) hF
  refine a_iload_n C 2 dX9_command_69 rfl rfl ?_
  refine a_bipush C (v := 120) dX9_command_70 (by decide) ?_
  refine a_ic_eq C (tgt := 96) dX9_command_72 (by decide) hF (fun c72_27 hF => ?_) (fun c72_27 hF => ?_)
  · exact hJ96 (4 * t_commandMany) r18_1 g50_6 t_here t_fault (t_commandMany + 1) hF
  refine a_iload_n C 2 dX9_command_75 rfl rfl ?_
  refine a_bipush C (v := 106) dX9_command_76 (by decide) ?_
  refine a_ic_eq C (tgt := 96) dX9_command_78 (by decide) hF (fun c78_28 hF => ?_) (fun c78_28 hF => ?_)
  · exact hJ96 (4 * t_commandMany) r18_1 g50_6 t_here t_fault (t_commandMany + 1) hF
  refine a_iload_n C 2 dX9_command_81 rfl rfl ?_
  refine a_bipush C (v := 116) dX9_command_82 (by decide) ?_
  refine a_ic_eq C (tgt := 96) dX9_command_84 (by decide) hF (fun c84_29 hF => ?_) (fun c84_29 hF => ?_)
  · exact hJ96 (4 * t_commandMany) r18_1 g50_6 t_here t_fault (t_commandMany + 1) hF
  refine a_aload_n C 0 dX9_command_87 rfl rfl ?_
  refine a_aload_n C 0 dX9_command_88 rfl rfl ?_
  refine a_get C 0 12 iwX9 rfl rfl (by decide) kf_X9_196 rfl dX9_command_89 ?_
  refine a_put C 0 13 iwX9 tyX9_ok nmX9 rfl rfl (by decide) kf_X9_199 rfl rfl rfl (Nat.le_of_ble_eq_true rfl) dX9_command_92 ?_
  refine a_ws C (ws' := wX9 kc ki t t_all t_reasons t_text t_word t_order t_rows t_written t_allF t_reasonsF t_textF t_wordF t_orderF g50_6 t_writtenF t_thrown t_changes t_isSaved t_result t_texted t_wordSize t_orderMany t_here t_here t_faultAt (t_commandMany + 1) t_writtenSize) rfl ?_
  exact a_vret C hr dX9_command_95 hF rfl
theorem cs_X9_214 : GoodIn WW (wsV RX9 214 RX9 yX9_command (aW yX9_command cX9_command 4 none)) := gdV kl_X9_214 ki_X9_command kv_X9_command kn_X9 kc_X9_command
def f_X9_parse_L19 (t_textF : Nat → Int32) (t_texted : Int32) : Nat → (Nat → Int32) → Int32 → Int32 → Int32 → ((Nat → Int32) → Int32 → Int32 → Int32 → Option ((Nat → Int32) × Int32 × Int32 × Int32)) → Option ((Nat → Int32) × Int32 × Int32 × Int32)
  | 0, _, _, _, _, _ => none
  | fuel + 1, q_t_rowsF, q_t_here, q_t_fault, q_t_commandMany, k => if 0 ≤ q_t_fault then (k q_t_rowsF q_t_here q_t_fault q_t_commandMany) else ((f_X9_sign t_textF t_texted q_t_here).bind fun r27_3 => if ¬ r27_3 = 59 then (k q_t_rowsF q_t_here q_t_fault q_t_commandMany) else ((f_X9_command t_textF q_t_rowsF t_texted (q_t_here + 1) q_t_fault q_t_commandMany).bind fun r46_5 => f_X9_parse_L19 t_textF t_texted fuel r46_5.1 r46_5.2.1 r46_5.2.2.1 r46_5.2.2.2 k))
def f_X9_parse_J52 (q_t_rowsF : Nat → Int32) (q_t_here : Int32) (q_t_fault : Int32) (q_t_commandMany : Int32) (t_texted : Int32) : Option ((Nat → Int32) × Int32 × Int32 × Int32) := if 0 ≤ q_t_fault then (some (q_t_rowsF, q_t_here, q_t_fault, q_t_commandMany)) else (if t_texted ≤ q_t_here then (some (q_t_rowsF, q_t_here, q_t_fault, q_t_commandMany)) else (some (q_t_rowsF, q_t_here, q_t_here, q_t_commandMany)))
def f_X9_parse (t_textF : Nat → Int32) (t_rowsF : Nat → Int32) (t_texted : Int32) : Option ((Nat → Int32) × Int32 × Int32 × Int32) := (f_X9_command t_textF t_rowsF t_texted 0 ((-1)) 0).bind fun r16_1 => f_X9_parse_L19 t_textF t_texted 1000 r16_1.1 r16_1.2.1 r16_1.2.2.1 r16_1.2.2.2 (fun q_t_rowsF_19_6 q_t_here_19_7 q_t_fault_19_8 q_t_commandMany_19_9 => f_X9_parse_J52 q_t_rowsF_19_6 q_t_here_19_7 q_t_fault_19_8 q_t_commandMany_19_9 t_texted)
theorem hd_X9_parse : yX9_parse.cls = RX9 ∧ yX9_parse.cls ≠ "java/lang/invoke/MethodHandle" ∧ yX9_parse.cls ≠ "java/lang/invoke/VarHandle" ∧ (parseMethodDescriptor yX9_parse.desc).map (fun d => d.parameters.length) = some 0 := by decide +kernel
set_option maxRecDepth 100000 in
set_option maxHeartbeats 4000000 in
theorem c_X9_parse (l : Launch) (D : va_G) (J : (Nat → Nat) × (Nat → Nat)) (kc ki kb kl kd : ClassId) (t : Nat) (t_all : Nat) (t_reasons : Nat) (t_text : Nat) (t_word : Nat) (t_order : Nat) (t_rows : Nat) (t_written : Nat) (t_allF : Nat → Int32) (t_reasonsF : Nat → Int32) (t_textF : Nat → Int32) (t_wordF : Nat → Int32) (t_orderF : Nat → Int32) (t_rowsF : Nat → Int32) (t_writtenF : Nat → Int32) (t_thrown : Int32) (t_changes : Int32) (t_isSaved : Int32) (t_result : Int32) (t_texted : Int32) (t_wordSize : Int32) (t_orderMany : Int32) (t_here : Int32) (t_fault : Int32) (t_faultAt : Int32) (t_commandMany : Int32) (t_writtenSize : Int32) (res : (Nat → Int32) × Int32 × Int32 × Int32) (hF : f_X9_parse t_textF t_rowsF t_texted = some res) : aKv l yX9_parse (aW yX9_parse cX9_parse 1 none) ({ frames := 3, cells := 0, slots := 0, locals := 67 } : Room) D J (aTy kc ki kb kl kd) [.ref t] (wX9 kc ki t t_all t_reasons t_text t_word t_order t_rows t_written t_allF t_reasonsF t_textF t_wordF t_orderF t_rowsF t_writtenF t_thrown t_changes t_isSaved t_result t_texted t_wordSize t_orderMany t_here t_fault t_faultAt t_commandMany t_writtenSize) (fun r => wX9 kc ki t t_all t_reasons t_text t_word t_order t_rows t_written t_allF t_reasonsF t_textF t_wordF t_orderF r.1 t_writtenF t_thrown t_changes t_isSaved t_result t_texted t_wordSize t_orderMany r.2.1 r.2.2.1 t_faultAt r.2.2.2 t_writtenSize) res := by
  refine aKv_of (own := RX9) (by decide) rfl (Nat.le_of_ble_eq_true rfl) rfl ?_
  intro p e s m args below meth c C hr
  have hI19 : ∀ (fuel : Nat) (q_t_rowsF : Nat → Int32) (q_t_here : Int32) (q_t_fault : Int32) (q_t_commandMany : Int32) (k : (Nat → Int32) → Int32 → Int32 → Int32 → Option ((Nat → Int32) × Int32 × Int32 × Int32)), f_X9_parse_L19 t_textF t_texted fuel q_t_rowsF q_t_here q_t_fault q_t_commandMany k = some res → (∀ (q_t_rowsF : Nat → Int32) (q_t_here : Int32) (q_t_fault : Int32) (q_t_commandMany : Int32), k q_t_rowsF q_t_here q_t_fault q_t_commandMany = some res → aT p l e ({ frames := 3, cells := 0, slots := 0, locals := 67 } : Room) s m args below meth c (MQ below (aQv D (wX9 kc ki t t_all t_reasons t_text t_word t_order t_rows t_written t_allF t_reasonsF t_textF t_wordF t_orderF t_rowsF t_writtenF t_thrown t_changes t_isSaved t_result t_texted t_wordSize t_orderMany t_here t_fault t_faultAt t_commandMany t_writtenSize) s.heap.size (fun r => wX9 kc ki t t_all t_reasons t_text t_word t_order t_rows t_written t_allF t_reasonsF t_textF t_wordF t_orderF r.1 t_writtenF t_thrown t_changes t_isSaved t_result t_texted t_wordSize t_orderMany r.2.1 r.2.2.1 t_faultAt r.2.2.2 t_writtenSize) res) args s 0 0 (va_A (wX9 kc ki t t_all t_reasons t_text t_word t_order t_rows t_written t_allF t_reasonsF t_textF t_wordF t_orderF t_rowsF t_writtenF t_thrown t_changes t_isSaved t_result t_texted t_wordSize t_orderMany t_here t_fault t_faultAt t_commandMany t_writtenSize) s.heap.size)) D (va_A (wX9 kc ki t t_all t_reasons t_text t_word t_order t_rows t_written t_allF t_reasonsF t_textF t_wordF t_orderF t_rowsF t_writtenF t_thrown t_changes t_isSaved t_result t_texted t_wordSize t_orderMany t_here t_fault t_faultAt t_commandMany t_writtenSize) s.heap.size) 1 0 0 52 [(0, .ref t)] [] (wX9 kc ki t t_all t_reasons t_text t_word t_order t_rows t_written t_allF t_reasonsF t_textF t_wordF t_orderF q_t_rowsF t_writtenF t_thrown t_changes t_isSaved t_result t_texted t_wordSize t_orderMany q_t_here q_t_fault t_faultAt q_t_commandMany t_writtenSize)) → aT p l e ({ frames := 3, cells := 0, slots := 0, locals := 67 } : Room) s m args below meth c (MQ below (aQv D (wX9 kc ki t t_all t_reasons t_text t_word t_order t_rows t_written t_allF t_reasonsF t_textF t_wordF t_orderF t_rowsF t_writtenF t_thrown t_changes t_isSaved t_result t_texted t_wordSize t_orderMany t_here t_fault t_faultAt t_commandMany t_writtenSize) s.heap.size (fun r => wX9 kc ki t t_all t_reasons t_text t_word t_order t_rows t_written t_allF t_reasonsF t_textF t_wordF t_orderF r.1 t_writtenF t_thrown t_changes t_isSaved t_result t_texted t_wordSize t_orderMany r.2.1 r.2.2.1 t_faultAt r.2.2.2 t_writtenSize) res) args s 0 0 (va_A (wX9 kc ki t t_all t_reasons t_text t_word t_order t_rows t_written t_allF t_reasonsF t_textF t_wordF t_orderF t_rowsF t_writtenF t_thrown t_changes t_isSaved t_result t_texted t_wordSize t_orderMany t_here t_fault t_faultAt t_commandMany t_writtenSize) s.heap.size)) D (va_A (wX9 kc ki t t_all t_reasons t_text t_word t_order t_rows t_written t_allF t_reasonsF t_textF t_wordF t_orderF t_rowsF t_writtenF t_thrown t_changes t_isSaved t_result t_texted t_wordSize t_orderMany t_here t_fault t_faultAt t_commandMany t_writtenSize) s.heap.size) 1 0 0 19 [(0, .ref t)] [] (wX9 kc ki t t_all t_reasons t_text t_word t_order t_rows t_written t_allF t_reasonsF t_textF t_wordF t_orderF q_t_rowsF t_writtenF t_thrown t_changes t_isSaved t_result t_texted t_wordSize t_orderMany q_t_here q_t_fault t_faultAt q_t_commandMany t_writtenSize) := by
    intro fuel
    induction fuel with
    | zero => intro q_t_rowsF q_t_here q_t_fault q_t_commandMany k hF hX; exact nomatch hF
    | succ fuel ih =>
      intro q_t_rowsF q_t_here q_t_fault q_t_commandMany k hF hX
      rw [f_X9_parse_L19] at hF
      refine a_aload_n C 0 dX9_parse_19 rfl rfl ?_
      refine a_get C 0 13 iwX9 rfl rfl (by decide) kf_X9_199 rfl dX9_parse_20 ?_
      refine a_if_ge C (tgt := 52) dX9_parse_23 (by decide) hF (fun c23_2 hF => ?_) (fun c23_2 hF => ?_)
      · exact hX q_t_rowsF q_t_here q_t_fault q_t_commandMany hF
      refine a_aload_n C 0 dX9_parse_26 rfl rfl ?_
      refine a_callVir C 0 [0, 1, 2, 3, 4, 5, 6, 7] 0 cs_X9_202 hd_X9_sign ⟨rfl, rfl⟩ ⟨Nat.le_of_ble_eq_true rfl, Nat.le_of_ble_eq_true rfl⟩ (fun r h => c_X9_sign l D J kc ki kb kl kd t t_all t_reasons t_text t_word t_order t_rows t_written t_allF t_reasonsF t_textF t_wordF t_orderF q_t_rowsF t_writtenF t_thrown t_changes t_isSaved t_result t_texted t_wordSize t_orderMany q_t_here q_t_fault t_faultAt q_t_commandMany t_writtenSize r h) rfl rfl rfl rfl rfl rfl (Nat.le_of_ble_eq_true rfl) dX9_parse_27 ⟨Nat.zero_le _, Nat.zero_le _⟩ hF (fun r27_3 er27_3 hF => ?_)
      refine a_bipush C (v := 59) dX9_parse_30 (by decide) ?_
      refine a_ic_ne C (tgt := 52) dX9_parse_32 (by decide) hF (fun c32_4 hF => ?_) (fun c32_4 hF => ?_)
      · exact hX q_t_rowsF q_t_here q_t_fault q_t_commandMany hF
      refine a_aload_n C 0 dX9_parse_35 rfl rfl ?_
      refine a_dup C dX9_parse_36 rfl ?_
      refine a_get C 0 12 iwX9 rfl rfl (by decide) kf_X9_196 rfl dX9_parse_37 ?_
      refine a_iconst C (v := 1) dX9_parse_40 (by decide) ?_
      refine a_iadd C dX9_parse_41 ?_
      refine a_put C 0 12 iwX9 tyX9_ok nmX9 rfl rfl (by decide) kf_X9_196 rfl rfl rfl (Nat.le_of_ble_eq_true rfl) dX9_parse_42 ?_
      refine a_ws C (ws' := wX9 kc ki t t_all t_reasons t_text t_word t_order t_rows t_written t_allF t_reasonsF t_textF t_wordF t_orderF q_t_rowsF t_writtenF t_thrown t_changes t_isSaved t_result t_texted t_wordSize t_orderMany (q_t_here + 1) q_t_fault t_faultAt q_t_commandMany t_writtenSize) rfl ?_
      refine a_aload_n C 0 dX9_parse_45 rfl rfl ?_
      refine a_callVv C 0 [0, 1, 2, 3, 4, 5, 6, 7] 0 cs_X9_214 hd_X9_command ⟨rfl, rfl⟩ ⟨Nat.le_of_ble_eq_true rfl, Nat.le_of_ble_eq_true rfl⟩ (fun r h => c_X9_command l D J kc ki kb kl kd t t_all t_reasons t_text t_word t_order t_rows t_written t_allF t_reasonsF t_textF t_wordF t_orderF q_t_rowsF t_writtenF t_thrown t_changes t_isSaved t_result t_texted t_wordSize t_orderMany (q_t_here + 1) q_t_fault t_faultAt q_t_commandMany t_writtenSize r h) rfl rfl rfl (fun _ => rfl) rfl rfl rfl (Nat.le_of_ble_eq_true rfl) dX9_parse_46 ⟨Nat.zero_le _, Nat.zero_le _⟩ hF (fun r46_5 er46_5 hF => ?_)
      refine a_ws C (ws' := wX9 kc ki t t_all t_reasons t_text t_word t_order t_rows t_written t_allF t_reasonsF t_textF t_wordF t_orderF r46_5.1 t_writtenF t_thrown t_changes t_isSaved t_result t_texted t_wordSize t_orderMany r46_5.2.1 r46_5.2.2.1 t_faultAt r46_5.2.2.2 t_writtenSize) rfl ?_
      refine a_goto C (tgt := 19) dX9_parse_49 (by decide) ?_
      exact ih r46_5.1 r46_5.2.1 r46_5.2.2.1 r46_5.2.2.2 k hF hX
  have hJ52 : ∀ (q_t_rowsF : Nat → Int32) (q_t_here : Int32) (q_t_fault : Int32) (q_t_commandMany : Int32), f_X9_parse_J52 q_t_rowsF q_t_here q_t_fault q_t_commandMany t_texted = some res → aT p l e ({ frames := 3, cells := 0, slots := 0, locals := 67 } : Room) s m args below meth c (MQ below (aQv D (wX9 kc ki t t_all t_reasons t_text t_word t_order t_rows t_written t_allF t_reasonsF t_textF t_wordF t_orderF t_rowsF t_writtenF t_thrown t_changes t_isSaved t_result t_texted t_wordSize t_orderMany t_here t_fault t_faultAt t_commandMany t_writtenSize) s.heap.size (fun r => wX9 kc ki t t_all t_reasons t_text t_word t_order t_rows t_written t_allF t_reasonsF t_textF t_wordF t_orderF r.1 t_writtenF t_thrown t_changes t_isSaved t_result t_texted t_wordSize t_orderMany r.2.1 r.2.2.1 t_faultAt r.2.2.2 t_writtenSize) res) args s 0 0 (va_A (wX9 kc ki t t_all t_reasons t_text t_word t_order t_rows t_written t_allF t_reasonsF t_textF t_wordF t_orderF t_rowsF t_writtenF t_thrown t_changes t_isSaved t_result t_texted t_wordSize t_orderMany t_here t_fault t_faultAt t_commandMany t_writtenSize) s.heap.size)) D (va_A (wX9 kc ki t t_all t_reasons t_text t_word t_order t_rows t_written t_allF t_reasonsF t_textF t_wordF t_orderF t_rowsF t_writtenF t_thrown t_changes t_isSaved t_result t_texted t_wordSize t_orderMany t_here t_fault t_faultAt t_commandMany t_writtenSize) s.heap.size) 1 0 0 52 [(0, .ref t)] [] (wX9 kc ki t t_all t_reasons t_text t_word t_order t_rows t_written t_allF t_reasonsF t_textF t_wordF t_orderF q_t_rowsF t_writtenF t_thrown t_changes t_isSaved t_result t_texted t_wordSize t_orderMany q_t_here q_t_fault t_faultAt q_t_commandMany t_writtenSize) := by
    intro q_t_rowsF q_t_here q_t_fault q_t_commandMany hF
    unfold f_X9_parse_J52 at hF
    refine a_aload_n C 0 dX9_parse_52 rfl rfl ?_
    refine a_get C 0 13 iwX9 rfl rfl (by decide) kf_X9_199 rfl dX9_parse_53 ?_
    refine a_if_ge C (tgt := 78) dX9_parse_56 (by decide) hF (fun c56_10 hF => ?_) (fun c56_10 hF => ?_)
    · exact a_vret C hr dX9_parse_78 hF rfl
    refine a_aload_n C 0 dX9_parse_59 rfl rfl ?_
    refine a_get C 0 12 iwX9 rfl rfl (by decide) kf_X9_196 rfl dX9_parse_60 ?_
    refine a_aload_n C 0 dX9_parse_63 rfl rfl ?_
    refine a_get C 0 7 iwX9 rfl rfl (by decide) kf_X9_69 rfl dX9_parse_64 ?_
    refine a_ic_ge C (tgt := 78) dX9_parse_67 (by decide) hF (fun c67_11 hF => ?_) (fun c67_11 hF => ?_)
    · exact a_vret C hr dX9_parse_78 hF rfl
    refine a_aload_n C 0 dX9_parse_70 rfl rfl ?_
    refine a_aload_n C 0 dX9_parse_71 rfl rfl ?_
    refine a_get C 0 12 iwX9 rfl rfl (by decide) kf_X9_196 rfl dX9_parse_72 ?_
    refine a_put C 0 13 iwX9 tyX9_ok nmX9 rfl rfl (by decide) kf_X9_199 rfl rfl rfl (Nat.le_of_ble_eq_true rfl) dX9_parse_75 ?_
    refine a_ws C (ws' := wX9 kc ki t t_all t_reasons t_text t_word t_order t_rows t_written t_allF t_reasonsF t_textF t_wordF t_orderF q_t_rowsF t_writtenF t_thrown t_changes t_isSaved t_result t_texted t_wordSize t_orderMany q_t_here q_t_here t_faultAt q_t_commandMany t_writtenSize) rfl ?_
    exact a_vret C hr dX9_parse_78 hF rfl
  unfold f_X9_parse at hF
  refine a_aload_n C 0 dX9_parse_0 rfl rfl ?_
  refine a_iconst C (v := 0) dX9_parse_1 (by decide) ?_
  refine a_put C 0 12 iwX9 tyX9_ok nmX9 rfl rfl (by decide) kf_X9_196 rfl rfl rfl (Nat.le_of_ble_eq_true rfl) dX9_parse_2 ?_
  refine a_ws C (ws' := wX9 kc ki t t_all t_reasons t_text t_word t_order t_rows t_written t_allF t_reasonsF t_textF t_wordF t_orderF t_rowsF t_writtenF t_thrown t_changes t_isSaved t_result t_texted t_wordSize t_orderMany 0 t_fault t_faultAt t_commandMany t_writtenSize) rfl ?_
  refine a_aload_n C 0 dX9_parse_5 rfl rfl ?_
  refine a_iconst C (v := (-1)) dX9_parse_6 (by decide) ?_
  refine a_put C 0 13 iwX9 tyX9_ok nmX9 rfl rfl (by decide) kf_X9_199 rfl rfl rfl (Nat.le_of_ble_eq_true rfl) dX9_parse_7 ?_
  refine a_ws C (ws' := wX9 kc ki t t_all t_reasons t_text t_word t_order t_rows t_written t_allF t_reasonsF t_textF t_wordF t_orderF t_rowsF t_writtenF t_thrown t_changes t_isSaved t_result t_texted t_wordSize t_orderMany 0 ((-1)) t_faultAt t_commandMany t_writtenSize) rfl ?_
  refine a_aload_n C 0 dX9_parse_10 rfl rfl ?_
  refine a_iconst C (v := 0) dX9_parse_11 (by decide) ?_
  refine a_put C 0 16 iwX9 tyX9_ok nmX9 rfl rfl (by decide) kf_X9_205 rfl rfl rfl (Nat.le_of_ble_eq_true rfl) dX9_parse_12 ?_
  refine a_ws C (ws' := wX9 kc ki t t_all t_reasons t_text t_word t_order t_rows t_written t_allF t_reasonsF t_textF t_wordF t_orderF t_rowsF t_writtenF t_thrown t_changes t_isSaved t_result t_texted t_wordSize t_orderMany 0 ((-1)) t_faultAt 0 t_writtenSize) rfl ?_
  refine a_aload_n C 0 dX9_parse_15 rfl rfl ?_
  refine a_callVv C 0 [0, 1, 2, 3, 4, 5, 6, 7] 0 cs_X9_214 hd_X9_command ⟨rfl, rfl⟩ ⟨Nat.le_of_ble_eq_true rfl, Nat.le_of_ble_eq_true rfl⟩ (fun r h => c_X9_command l D J kc ki kb kl kd t t_all t_reasons t_text t_word t_order t_rows t_written t_allF t_reasonsF t_textF t_wordF t_orderF t_rowsF t_writtenF t_thrown t_changes t_isSaved t_result t_texted t_wordSize t_orderMany 0 ((-1)) t_faultAt 0 t_writtenSize r h) rfl rfl rfl (fun _ => rfl) rfl rfl rfl (Nat.le_of_ble_eq_true rfl) dX9_parse_16 ⟨Nat.zero_le _, Nat.zero_le _⟩ hF (fun r16_1 er16_1 hF => ?_)
  refine a_ws C (ws' := wX9 kc ki t t_all t_reasons t_text t_word t_order t_rows t_written t_allF t_reasonsF t_textF t_wordF t_orderF r16_1.1 t_writtenF t_thrown t_changes t_isSaved t_result t_texted t_wordSize t_orderMany r16_1.2.1 r16_1.2.2.1 t_faultAt r16_1.2.2.2 t_writtenSize) rfl ?_
  refine hI19 1000 r16_1.1 r16_1.2.1 r16_1.2.2.1 r16_1.2.2.2 _ hF (fun q_t_rowsF_19_6 q_t_here_19_7 q_t_fault_19_8 q_t_commandMany_19_9 hF => ?_)
  exact hJ52 q_t_rowsF_19_6 q_t_here_19_7 q_t_fault_19_8 q_t_commandMany_19_9 hF
def f_X9_addsFrom_L2 (p1 : Int32) (p2 : Int32) (t_textF : Nat → Int32) : Nat → Int32 → (Nat → Int32) → (Int32 → (Nat → Int32) → Option (Int32 × (Nat → Int32) × (Nat → Int32) × (Nat → Int32) × Int32 × Int32)) → Option (Int32 × (Nat → Int32) × (Nat → Int32) × (Nat → Int32) × Int32 × Int32)
  | 0, _, _, _ => none
  | fuel + 1, x3, q_t_wordF, k => if p2 ≤ x3 then (k x3 q_t_wordF) else ((ldc t_textF 60 (p1 + x3)).bind fun v19_2 => (sti q_t_wordF 10 x3 v19_2).bind fun g20_3 => f_X9_addsFrom_L2 p1 p2 t_textF fuel (x3 + 1) g20_3 k)
def f_X9_addsFrom (t_allF : Nat → Int32) (t_reasonsF : Nat → Int32) (t_textF : Nat → Int32) (t_wordF : Nat → Int32) (t_result : Int32) (p1 : Int32) (p2 : Int32) : Option (Int32 × (Nat → Int32) × (Nat → Int32) × (Nat → Int32) × Int32 × Int32) := f_X9_addsFrom_L2 p1 p2 t_textF 1000 0 t_wordF (fun x3_2_4 q_t_wordF_2_5 => (f_X9_adds t_allF t_reasonsF q_t_wordF_2_5 t_result p2).bind fun r33_6 => (rz r33_6.1).bind fun _ => some (r33_6.1, r33_6.2.1, r33_6.2.2.1, q_t_wordF_2_5, r33_6.2.2.2, p2))
theorem hd_X9_addsFrom : yX9_addsFrom.cls = RX9 ∧ yX9_addsFrom.cls ≠ "java/lang/invoke/MethodHandle" ∧ yX9_addsFrom.cls ≠ "java/lang/invoke/VarHandle" ∧ (parseMethodDescriptor yX9_addsFrom.desc).map (fun d => d.parameters.length) = some 2 := by decide +kernel
set_option maxRecDepth 100000 in
set_option maxHeartbeats 4000000 in
theorem c_X9_addsFrom (l : Launch) (D : va_G) (J : (Nat → Nat) × (Nat → Nat)) (kc ki kb kl kd : ClassId) (t : Nat) (t_all : Nat) (t_reasons : Nat) (t_text : Nat) (t_word : Nat) (t_order : Nat) (t_rows : Nat) (t_written : Nat) (t_allF : Nat → Int32) (t_reasonsF : Nat → Int32) (t_textF : Nat → Int32) (t_wordF : Nat → Int32) (t_orderF : Nat → Int32) (t_rowsF : Nat → Int32) (t_writtenF : Nat → Int32) (t_thrown : Int32) (t_changes : Int32) (t_isSaved : Int32) (t_result : Int32) (t_texted : Int32) (t_wordSize : Int32) (t_orderMany : Int32) (t_here : Int32) (t_fault : Int32) (t_faultAt : Int32) (t_commandMany : Int32) (t_writtenSize : Int32) (p1 p2 : Int32) (res : Int32 × (Nat → Int32) × (Nat → Int32) × (Nat → Int32) × Int32 × Int32) (hF : f_X9_addsFrom t_allF t_reasonsF t_textF t_wordF t_result p1 p2 = some res) : aKi l yX9_addsFrom (aW yX9_addsFrom cX9_addsFrom 4 ((some .boolean))) ({ frames := 2, cells := 0, slots := 0, locals := 45 } : Room) D J (aTy kc ki kb kl kd) [.ref t, .int p1, .int p2] (wX9 kc ki t t_all t_reasons t_text t_word t_order t_rows t_written t_allF t_reasonsF t_textF t_wordF t_orderF t_rowsF t_writtenF t_thrown t_changes t_isSaved t_result t_texted t_wordSize t_orderMany t_here t_fault t_faultAt t_commandMany t_writtenSize) (fun r => r.1) (fun r => wX9 kc ki t t_all t_reasons t_text t_word t_order t_rows t_written r.2.1 r.2.2.1 t_textF r.2.2.2.1 t_orderF t_rowsF t_writtenF t_thrown t_changes t_isSaved r.2.2.2.2.1 t_texted r.2.2.2.2.2 t_orderMany t_here t_fault t_faultAt t_commandMany t_writtenSize) res := by
  refine aKi_of (own := RX9) (by decide) rfl (Nat.le_of_ble_eq_true rfl) rfl ?_
  intro p e s m args below meth c C hr
  have hI2 : ∀ (q_t_allF : Nat → Int32) (q_t_reasonsF : Nat → Int32) (q_t_result : Int32) (q_t_wordSize : Int32) (fuel : Nat) (x3 : Int32) (q_t_wordF : Nat → Int32) (k : Int32 → (Nat → Int32) → Option (Int32 × (Nat → Int32) × (Nat → Int32) × (Nat → Int32) × Int32 × Int32)), f_X9_addsFrom_L2 p1 p2 t_textF fuel x3 q_t_wordF k = some res → (∀ (x3 : Int32) (q_t_wordF : Nat → Int32), k x3 q_t_wordF = some res → aT p l e ({ frames := 2, cells := 0, slots := 0, locals := 45 } : Room) s m args below meth c (MQ below (aQi D (wX9 kc ki t t_all t_reasons t_text t_word t_order t_rows t_written t_allF t_reasonsF t_textF t_wordF t_orderF t_rowsF t_writtenF t_thrown t_changes t_isSaved t_result t_texted t_wordSize t_orderMany t_here t_fault t_faultAt t_commandMany t_writtenSize) s.heap.size (fun r => r.1) (fun r => wX9 kc ki t t_all t_reasons t_text t_word t_order t_rows t_written r.2.1 r.2.2.1 t_textF r.2.2.2.1 t_orderF t_rowsF t_writtenF t_thrown t_changes t_isSaved r.2.2.2.2.1 t_texted r.2.2.2.2.2 t_orderMany t_here t_fault t_faultAt t_commandMany t_writtenSize) res) args s 0 0 (va_A (wX9 kc ki t t_all t_reasons t_text t_word t_order t_rows t_written t_allF t_reasonsF t_textF t_wordF t_orderF t_rowsF t_writtenF t_thrown t_changes t_isSaved t_result t_texted t_wordSize t_orderMany t_here t_fault t_faultAt t_commandMany t_writtenSize) s.heap.size)) D (va_A (wX9 kc ki t t_all t_reasons t_text t_word t_order t_rows t_written t_allF t_reasonsF t_textF t_wordF t_orderF t_rowsF t_writtenF t_thrown t_changes t_isSaved t_result t_texted t_wordSize t_orderMany t_here t_fault t_faultAt t_commandMany t_writtenSize) s.heap.size) 4 0 0 27 [(0, .ref t), (2, .int p2)] [] (wX9 kc ki t t_all t_reasons t_text t_word t_order t_rows t_written q_t_allF q_t_reasonsF t_textF q_t_wordF t_orderF t_rowsF t_writtenF t_thrown t_changes t_isSaved q_t_result t_texted q_t_wordSize t_orderMany t_here t_fault t_faultAt t_commandMany t_writtenSize)) → aT p l e ({ frames := 2, cells := 0, slots := 0, locals := 45 } : Room) s m args below meth c (MQ below (aQi D (wX9 kc ki t t_all t_reasons t_text t_word t_order t_rows t_written t_allF t_reasonsF t_textF t_wordF t_orderF t_rowsF t_writtenF t_thrown t_changes t_isSaved t_result t_texted t_wordSize t_orderMany t_here t_fault t_faultAt t_commandMany t_writtenSize) s.heap.size (fun r => r.1) (fun r => wX9 kc ki t t_all t_reasons t_text t_word t_order t_rows t_written r.2.1 r.2.2.1 t_textF r.2.2.2.1 t_orderF t_rowsF t_writtenF t_thrown t_changes t_isSaved r.2.2.2.2.1 t_texted r.2.2.2.2.2 t_orderMany t_here t_fault t_faultAt t_commandMany t_writtenSize) res) args s 0 0 (va_A (wX9 kc ki t t_all t_reasons t_text t_word t_order t_rows t_written t_allF t_reasonsF t_textF t_wordF t_orderF t_rowsF t_writtenF t_thrown t_changes t_isSaved t_result t_texted t_wordSize t_orderMany t_here t_fault t_faultAt t_commandMany t_writtenSize) s.heap.size)) D (va_A (wX9 kc ki t t_all t_reasons t_text t_word t_order t_rows t_written t_allF t_reasonsF t_textF t_wordF t_orderF t_rowsF t_writtenF t_thrown t_changes t_isSaved t_result t_texted t_wordSize t_orderMany t_here t_fault t_faultAt t_commandMany t_writtenSize) s.heap.size) 4 0 0 2 [(0, .ref t), (1, .int p1), (2, .int p2), (3, .int x3)] [] (wX9 kc ki t t_all t_reasons t_text t_word t_order t_rows t_written q_t_allF q_t_reasonsF t_textF q_t_wordF t_orderF t_rowsF t_writtenF t_thrown t_changes t_isSaved q_t_result t_texted q_t_wordSize t_orderMany t_here t_fault t_faultAt t_commandMany t_writtenSize) := by
    intro q_t_allF q_t_reasonsF q_t_result q_t_wordSize fuel
    induction fuel with
    | zero => intro x3 q_t_wordF k hF hX; exact nomatch hF
    | succ fuel ih =>
      intro x3 q_t_wordF k hF hX
      rw [f_X9_addsFrom_L2] at hF
      refine a_iload_n C 3 dX9_addsFrom_2 rfl rfl ?_
      refine a_iload_n C 2 dX9_addsFrom_3 rfl rfl ?_
      refine a_ic_ge C (tgt := 27) dX9_addsFrom_4 (by decide) hF (fun c4_1 hF => ?_) (fun c4_1 hF => ?_)
      · refine a_sub C [0, 2] [(0, .ref t), (2, .int p2)] rfl ?_
        exact hX x3 q_t_wordF hF
      refine a_aload_n C 0 dX9_addsFrom_7 rfl rfl ?_
      refine a_get C 0 8 iwX9 rfl rfl (by decide) kf_X9_20 rfl dX9_addsFrom_8 ?_
      refine a_iload_n C 3 dX9_addsFrom_11 rfl rfl ?_
      refine a_aload_n C 0 dX9_addsFrom_12 rfl rfl ?_
      refine a_get C 0 6 iwX9 rfl rfl (by decide) kf_X9_16 rfl dX9_addsFrom_13 ?_
      refine a_iload_n C 1 dX9_addsFrom_16 rfl rfl ?_
      refine a_iload_n C 3 dX9_addsFrom_17 rfl rfl ?_
      refine a_iadd C dX9_addsFrom_18 ?_
      refine a_cald C 3 0 rfl rfl dX9_addsFrom_19 hF (fun v19_2 ev19_2 hF => ?_)
      refine a_iast C 4 1 rfl rfl dX9_addsFrom_20 hF (fun g20_3 eg20_3 hF => ?_)
      refine a_ws C (ws' := wX9 kc ki t t_all t_reasons t_text t_word t_order t_rows t_written q_t_allF q_t_reasonsF t_textF g20_3 t_orderF t_rowsF t_writtenF t_thrown t_changes t_isSaved q_t_result t_texted q_t_wordSize t_orderMany t_here t_fault t_faultAt t_commandMany t_writtenSize) rfl ?_
      refine a_iinc C 3 [(3, .int (x3 + 1)), (0, .ref t), (1, .int p1), (2, .int p2)] dX9_addsFrom_21 rfl rfl (by decide) rfl ?_
      refine a_goto C (tgt := 2) dX9_addsFrom_24 (by decide) ?_
      refine a_sub C [1, 2, 3, 0] [(0, .ref t), (1, .int p1), (2, .int p2), (3, .int (x3 + 1))] rfl ?_
      exact ih (x3 + 1) g20_3 k hF hX
  unfold f_X9_addsFrom at hF
  refine a_iconst C (v := 0) dX9_addsFrom_0 (by decide) ?_
  refine a_istore_n C [(3, .int 0), (0, .ref t), (1, .int p1), (2, .int p2)] dX9_addsFrom_1 rfl (by decide) rfl ?_
  refine a_sub C [1, 2, 3, 0] [(0, .ref t), (1, .int p1), (2, .int p2), (3, .int 0)] rfl ?_
  refine hI2 t_allF t_reasonsF t_result t_wordSize 1000 0 t_wordF _ hF (fun x3_2_4 q_t_wordF_2_5 hF => ?_)
  refine a_aload_n C 0 dX9_addsFrom_27 rfl rfl ?_
  refine a_iload_n C 1 dX9_addsFrom_28 rfl rfl ?_
  refine a_put C 0 9 iwX9 tyX9_ok nmX9 rfl rfl (by decide) kf_X9_72 rfl rfl rfl (Nat.le_of_ble_eq_true rfl) dX9_addsFrom_29 ?_
  refine a_ws C (ws' := wX9 kc ki t t_all t_reasons t_text t_word t_order t_rows t_written t_allF t_reasonsF t_textF q_t_wordF_2_5 t_orderF t_rowsF t_writtenF t_thrown t_changes t_isSaved t_result t_texted p2 t_orderMany t_here t_fault t_faultAt t_commandMany t_writtenSize) rfl ?_
  refine a_aload_n C 0 dX9_addsFrom_32 rfl rfl ?_
  refine a_callVi C 0 [0, 1, 2, 3, 4, 5, 6, 7] 0 cs_X9_86 hd_X9_adds ⟨rfl, rfl⟩ ⟨Nat.le_of_ble_eq_true rfl, Nat.le_of_ble_eq_true rfl⟩ (fun r h => c_X9_adds l D J kc ki kb kl kd t t_all t_reasons t_text t_word t_order t_rows t_written t_allF t_reasonsF t_textF q_t_wordF_2_5 t_orderF t_rowsF t_writtenF t_thrown t_changes t_isSaved t_result t_texted p2 t_orderMany t_here t_fault t_faultAt t_commandMany t_writtenSize r h) rfl rfl rfl (fun _ => rfl) rfl rfl rfl (Nat.le_of_ble_eq_true rfl) dX9_addsFrom_33 ⟨Nat.zero_le _, Nat.zero_le _⟩ hF (fun r33_6 er33_6 hF => ?_)
  refine a_ws C (ws' := wX9 kc ki t t_all t_reasons t_text t_word t_order t_rows t_written r33_6.2.1 r33_6.2.2.1 t_textF q_t_wordF_2_5 t_orderF t_rowsF t_writtenF t_thrown t_changes t_isSaved r33_6.2.2.2 t_texted p2 t_orderMany t_here t_fault t_faultAt t_commandMany t_writtenSize) rfl ?_
  refine a_rz hF (fun n36_7 hF => ?_)
  exact a_iret C hr n36_7 dX9_addsFrom_36 hF rfl rfl
theorem cs_X9_217 : GoodIn WW (wsV RX9 217 RX9 yX9_addsFrom (aW yX9_addsFrom cX9_addsFrom 4 ((some .boolean)))) := gdV kl_X9_217 ki_X9_addsFrom kv_X9_addsFrom kn_X9 kc_X9_addsFrom
def f_X9_does (t_allF : Nat → Int32) (t_reasonsF : Nat → Int32) (t_textF : Nat → Int32) (t_wordF : Nat → Int32) (t_orderF : Nat → Int32) (t_rowsF : Nat → Int32) (t_result : Int32) (t_wordSize : Int32) (t_orderMany : Int32) (p1 : Int32) : Option (Int32 × (Nat → Int32) × (Nat → Int32) × (Nat → Int32) × (Nat → Int32) × Int32 × Int32 × Int32) := (ldi t_rowsF 244 (p1 + 1)).bind fun v7_1 => (ldi t_rowsF 244 (p1 + 2)).bind fun v16_2 => (ldi t_rowsF 244 p1).bind fun v23_3 => if v23_3 = 43 then ((f_X9_addsFrom t_allF t_reasonsF t_textF t_wordF t_result v7_1 v16_2).bind fun r79_4 => (rz r79_4.1).bind fun _ => some (r79_4.1, r79_4.2.1, r79_4.2.2.1, r79_4.2.2.2.1, t_orderF, r79_4.2.2.2.2.1, r79_4.2.2.2.2.2, t_orderMany)) else (if v23_3 = 45 then ((f_X9_cuts t_allF t_reasonsF t_result v7_1).bind fun r85_7 => (rz r85_7.1).bind fun _ => some (r85_7.1, r85_7.2.1, r85_7.2.2.1, t_wordF, t_orderF, r85_7.2.2.2, t_wordSize, t_orderMany)) else (if v23_3 = 61 then ((ldi t_rowsF 244 (p1 + 3)).bind fun v99_10 => (f_X9_sets t_allF t_reasonsF t_orderF t_result t_orderMany v7_1 v16_2 v99_10).bind fun r100_11 => (rz r100_11.1).bind fun _ => some (r100_11.1, r100_11.2.1, r100_11.2.2.1, t_wordF, r100_11.2.2.2.1, r100_11.2.2.2.2.1, t_wordSize, r100_11.2.2.2.2.2)) else (if v23_3 = 106 then ((f_X9_joins t_allF t_reasonsF t_result v7_1 v16_2).bind fun r114_14 => (rz r114_14.1).bind fun _ => some (r114_14.1, r114_14.2.1, r114_14.2.2.1, t_wordF, t_orderF, r114_14.2.2.2, t_wordSize, t_orderMany)) else (if v23_3 = 120 then ((f_X9_swaps t_allF t_reasonsF t_result v7_1 v16_2).bind fun r107_17 => (rz r107_17.1).bind fun _ => some (r107_17.1, r107_17.2.1, r107_17.2.2.1, t_wordF, t_orderF, r107_17.2.2.2, t_wordSize, t_orderMany)) else ((f_X9_turns t_allF t_reasonsF t_orderF t_result t_orderMany v7_1).bind fun r120_20 => (rz r120_20.1).bind fun _ => some (r120_20.1, r120_20.2.1, r120_20.2.2.1, t_wordF, r120_20.2.2.2.1, r120_20.2.2.2.2.1, t_wordSize, r120_20.2.2.2.2.2))))))
theorem hd_X9_does : yX9_does.cls = RX9 ∧ yX9_does.cls ≠ "java/lang/invoke/MethodHandle" ∧ yX9_does.cls ≠ "java/lang/invoke/VarHandle" ∧ (parseMethodDescriptor yX9_does.desc).map (fun d => d.parameters.length) = some 1 := by decide +kernel
set_option maxRecDepth 100000 in
set_option maxHeartbeats 4000000 in
theorem c_X9_does (l : Launch) (D : va_G) (J : (Nat → Nat) × (Nat → Nat)) (kc ki kb kl kd : ClassId) (t : Nat) (t_all : Nat) (t_reasons : Nat) (t_text : Nat) (t_word : Nat) (t_order : Nat) (t_rows : Nat) (t_written : Nat) (t_allF : Nat → Int32) (t_reasonsF : Nat → Int32) (t_textF : Nat → Int32) (t_wordF : Nat → Int32) (t_orderF : Nat → Int32) (t_rowsF : Nat → Int32) (t_writtenF : Nat → Int32) (t_thrown : Int32) (t_changes : Int32) (t_isSaved : Int32) (t_result : Int32) (t_texted : Int32) (t_wordSize : Int32) (t_orderMany : Int32) (t_here : Int32) (t_fault : Int32) (t_faultAt : Int32) (t_commandMany : Int32) (t_writtenSize : Int32) (p1 : Int32) (res : Int32 × (Nat → Int32) × (Nat → Int32) × (Nat → Int32) × (Nat → Int32) × Int32 × Int32 × Int32) (hF : f_X9_does t_allF t_reasonsF t_textF t_wordF t_orderF t_rowsF t_result t_wordSize t_orderMany p1 = some res) : aKi l yX9_does (aW yX9_does cX9_does 4 ((some .boolean))) ({ frames := 7, cells := 0, slots := 0, locals := 161 } : Room) D J (aTy kc ki kb kl kd) [.ref t, .int p1] (wX9 kc ki t t_all t_reasons t_text t_word t_order t_rows t_written t_allF t_reasonsF t_textF t_wordF t_orderF t_rowsF t_writtenF t_thrown t_changes t_isSaved t_result t_texted t_wordSize t_orderMany t_here t_fault t_faultAt t_commandMany t_writtenSize) (fun r => r.1) (fun r => wX9 kc ki t t_all t_reasons t_text t_word t_order t_rows t_written r.2.1 r.2.2.1 t_textF r.2.2.2.1 r.2.2.2.2.1 t_rowsF t_writtenF t_thrown t_changes t_isSaved r.2.2.2.2.2.1 t_texted r.2.2.2.2.2.2.1 r.2.2.2.2.2.2.2 t_here t_fault t_faultAt t_commandMany t_writtenSize) res := by
  refine aKi_of (own := RX9) (by decide) rfl (Nat.le_of_ble_eq_true rfl) rfl ?_
  intro p e s m args below meth c C hr
  unfold f_X9_does at hF
  refine a_aload_n C 0 dX9_does_0 rfl rfl ?_
  refine a_get C 0 15 iwX9 rfl rfl (by decide) kf_X9_30 rfl dX9_does_1 ?_
  refine a_iload_n C 1 dX9_does_4 rfl rfl ?_
  refine a_iconst C (v := 1) dX9_does_5 (by decide) ?_
  refine a_iadd C dX9_does_6 ?_
  refine a_iald C 6 1 rfl rfl dX9_does_7 hF (fun v7_1 ev7_1 hF => ?_)
  refine a_istore_n C [(2, .int v7_1), (0, .ref t), (1, .int p1)] dX9_does_8 rfl (by decide) rfl ?_
  refine a_aload_n C 1 dX9_does_9 rfl rfl ?_
  refine a_get C 0 15 iwX9 rfl rfl (by decide) kf_X9_30 rfl dX9_does_10 ?_
  refine a_iload_n C 2 dX9_does_13 rfl rfl ?_
  refine a_iconst C (v := 2) dX9_does_14 (by decide) ?_
  refine a_iadd C dX9_does_15 ?_
  refine a_iald C 6 1 rfl rfl dX9_does_16 hF (fun v16_2 ev16_2 hF => ?_)
  refine a_istore_n C [(3, .int v16_2), (2, .int v7_1), (0, .ref t), (1, .int p1)] dX9_does_17 rfl (by decide) rfl ?_
  refine a_aload_n C 2 dX9_does_18 rfl rfl ?_
  refine a_get C 0 15 iwX9 rfl rfl (by decide) kf_X9_30 rfl dX9_does_19 ?_
  refine a_iload_n C 3 dX9_does_22 rfl rfl ?_
  refine a_iald C 6 1 rfl rfl dX9_does_23 hF (fun v23_3 ev23_3 hF => ?_)
  refine a_lkcase C (tgt := 76) (v := 43) dX9_does_24 (by decide) rfl (by decide) hF (fun c24_6 hF => ?_) (fun c24_6 hF => ?_)
  · refine a_aload_n C 2 dX9_does_76 rfl rfl ?_
    refine a_iload_n C 1 dX9_does_77 rfl rfl ?_
    refine a_iload_n C 0 dX9_does_78 rfl rfl ?_
    refine a_callVi C 2 [0, 1, 2, 3, 4, 5, 6, 7] 0 cs_X9_217 hd_X9_addsFrom ⟨rfl, rfl⟩ ⟨Nat.le_of_ble_eq_true rfl, Nat.le_of_ble_eq_true rfl⟩ (fun r h => c_X9_addsFrom l D J kc ki kb kl kd t t_all t_reasons t_text t_word t_order t_rows t_written t_allF t_reasonsF t_textF t_wordF t_orderF t_rowsF t_writtenF t_thrown t_changes t_isSaved t_result t_texted t_wordSize t_orderMany t_here t_fault t_faultAt t_commandMany t_writtenSize v7_1 v16_2 r h) rfl rfl rfl (fun _ => rfl) rfl rfl rfl (Nat.le_of_ble_eq_true rfl) dX9_does_79 ⟨Nat.zero_le _, Nat.zero_le _⟩ hF (fun r79_4 er79_4 hF => ?_)
    refine a_ws C (ws' := wX9 kc ki t t_all t_reasons t_text t_word t_order t_rows t_written r79_4.2.1 r79_4.2.2.1 t_textF r79_4.2.2.2.1 t_orderF t_rowsF t_writtenF t_thrown t_changes t_isSaved r79_4.2.2.2.2.1 t_texted r79_4.2.2.2.2.2 t_orderMany t_here t_fault t_faultAt t_commandMany t_writtenSize) rfl ?_
    refine a_rz hF (fun n82_5 hF => ?_)
    exact a_iret C hr n82_5 dX9_does_82 hF rfl rfl
  refine a_lkcase C (tgt := 83) (v := 45) dX9_does_24 (by decide) rfl (by decide) hF (fun c24_9 hF => ?_) (fun c24_9 hF => ?_)
  · refine a_aload_n C 2 dX9_does_83 rfl rfl ?_
    refine a_iload_n C 1 dX9_does_84 rfl rfl ?_
    refine a_callVi C 1 [0, 1, 2, 3, 4, 5, 6, 7] 0 cs_X9_100 hd_X9_cuts ⟨rfl, rfl⟩ ⟨Nat.le_of_ble_eq_true rfl, Nat.le_of_ble_eq_true rfl⟩ (fun r h => c_X9_cuts l D J kc ki kb kl kd t t_all t_reasons t_text t_word t_order t_rows t_written t_allF t_reasonsF t_textF t_wordF t_orderF t_rowsF t_writtenF t_thrown t_changes t_isSaved t_result t_texted t_wordSize t_orderMany t_here t_fault t_faultAt t_commandMany t_writtenSize v7_1 r h) rfl rfl rfl (fun _ => rfl) rfl rfl rfl (Nat.le_of_ble_eq_true rfl) dX9_does_85 ⟨Nat.zero_le _, Nat.zero_le _⟩ hF (fun r85_7 er85_7 hF => ?_)
    refine a_ws C (ws' := wX9 kc ki t t_all t_reasons t_text t_word t_order t_rows t_written r85_7.2.1 r85_7.2.2.1 t_textF t_wordF t_orderF t_rowsF t_writtenF t_thrown t_changes t_isSaved r85_7.2.2.2 t_texted t_wordSize t_orderMany t_here t_fault t_faultAt t_commandMany t_writtenSize) rfl ?_
    refine a_rz hF (fun n88_8 hF => ?_)
    exact a_iret C hr n88_8 dX9_does_88 hF rfl rfl
  refine a_lkcase C (tgt := 89) (v := 61) dX9_does_24 (by decide) rfl (by decide) hF (fun c24_13 hF => ?_) (fun c24_13 hF => ?_)
  · refine a_aload_n C 2 dX9_does_89 rfl rfl ?_
    refine a_iload_n C 1 dX9_does_90 rfl rfl ?_
    refine a_iload_n C 0 dX9_does_91 rfl rfl ?_
    refine a_aload_n C 2 dX9_does_92 rfl rfl ?_
    refine a_get C 0 15 iwX9 rfl rfl (by decide) kf_X9_30 rfl dX9_does_93 ?_
    refine a_iload_n C 3 dX9_does_96 rfl rfl ?_
    refine a_iconst C (v := 3) dX9_does_97 (by decide) ?_
    refine a_iadd C dX9_does_98 ?_
    refine a_iald C 6 1 rfl rfl dX9_does_99 hF (fun v99_10 ev99_10 hF => ?_)
    refine a_callVi C 3 [0, 1, 2, 3, 4, 5, 6, 7] 0 cs_X9_114 hd_X9_sets ⟨rfl, rfl⟩ ⟨Nat.le_of_ble_eq_true rfl, Nat.le_of_ble_eq_true rfl⟩ (fun r h => c_X9_sets l D J kc ki kb kl kd t t_all t_reasons t_text t_word t_order t_rows t_written t_allF t_reasonsF t_textF t_wordF t_orderF t_rowsF t_writtenF t_thrown t_changes t_isSaved t_result t_texted t_wordSize t_orderMany t_here t_fault t_faultAt t_commandMany t_writtenSize v7_1 v16_2 v99_10 r h) rfl rfl rfl (fun _ => rfl) rfl rfl rfl (Nat.le_of_ble_eq_true rfl) dX9_does_100 ⟨Nat.zero_le _, Nat.zero_le _⟩ hF (fun r100_11 er100_11 hF => ?_)
    refine a_ws C (ws' := wX9 kc ki t t_all t_reasons t_text t_word t_order t_rows t_written r100_11.2.1 r100_11.2.2.1 t_textF t_wordF r100_11.2.2.2.1 t_rowsF t_writtenF t_thrown t_changes t_isSaved r100_11.2.2.2.2.1 t_texted t_wordSize r100_11.2.2.2.2.2 t_here t_fault t_faultAt t_commandMany t_writtenSize) rfl ?_
    refine a_rz hF (fun n103_12 hF => ?_)
    exact a_iret C hr n103_12 dX9_does_103 hF rfl rfl
  refine a_lkcase C (tgt := 111) (v := 106) dX9_does_24 (by decide) rfl (by decide) hF (fun c24_16 hF => ?_) (fun c24_16 hF => ?_)
  · refine a_aload_n C 2 dX9_does_111 rfl rfl ?_
    refine a_iload_n C 1 dX9_does_112 rfl rfl ?_
    refine a_iload_n C 0 dX9_does_113 rfl rfl ?_
    refine a_callVi C 2 [0, 1, 2, 3, 4, 5, 6, 7] 0 cs_X9_123 hd_X9_joins ⟨rfl, rfl⟩ ⟨Nat.le_of_ble_eq_true rfl, Nat.le_of_ble_eq_true rfl⟩ (fun r h => c_X9_joins l D J kc ki kb kl kd t t_all t_reasons t_text t_word t_order t_rows t_written t_allF t_reasonsF t_textF t_wordF t_orderF t_rowsF t_writtenF t_thrown t_changes t_isSaved t_result t_texted t_wordSize t_orderMany t_here t_fault t_faultAt t_commandMany t_writtenSize v7_1 v16_2 r h) rfl rfl rfl (fun _ => rfl) rfl rfl rfl (Nat.le_of_ble_eq_true rfl) dX9_does_114 ⟨Nat.zero_le _, Nat.zero_le _⟩ hF (fun r114_14 er114_14 hF => ?_)
    refine a_ws C (ws' := wX9 kc ki t t_all t_reasons t_text t_word t_order t_rows t_written r114_14.2.1 r114_14.2.2.1 t_textF t_wordF t_orderF t_rowsF t_writtenF t_thrown t_changes t_isSaved r114_14.2.2.2 t_texted t_wordSize t_orderMany t_here t_fault t_faultAt t_commandMany t_writtenSize) rfl ?_
    refine a_rz hF (fun n117_15 hF => ?_)
    exact a_iret C hr n117_15 dX9_does_117 hF rfl rfl
  refine a_lkcase C (tgt := 104) (v := 120) dX9_does_24 (by decide) rfl (by decide) hF (fun c24_19 hF => ?_) (fun c24_19 hF => ?_)
  · refine a_aload_n C 2 dX9_does_104 rfl rfl ?_
    refine a_iload_n C 1 dX9_does_105 rfl rfl ?_
    refine a_iload_n C 0 dX9_does_106 rfl rfl ?_
    refine a_callVi C 2 [0, 1, 2, 3, 4, 5, 6, 7] 0 cs_X9_120 hd_X9_swaps ⟨rfl, rfl⟩ ⟨Nat.le_of_ble_eq_true rfl, Nat.le_of_ble_eq_true rfl⟩ (fun r h => c_X9_swaps l D J kc ki kb kl kd t t_all t_reasons t_text t_word t_order t_rows t_written t_allF t_reasonsF t_textF t_wordF t_orderF t_rowsF t_writtenF t_thrown t_changes t_isSaved t_result t_texted t_wordSize t_orderMany t_here t_fault t_faultAt t_commandMany t_writtenSize v7_1 v16_2 r h) rfl rfl rfl (fun _ => rfl) rfl rfl rfl (Nat.le_of_ble_eq_true rfl) dX9_does_107 ⟨Nat.zero_le _, Nat.zero_le _⟩ hF (fun r107_17 er107_17 hF => ?_)
    refine a_ws C (ws' := wX9 kc ki t t_all t_reasons t_text t_word t_order t_rows t_written r107_17.2.1 r107_17.2.2.1 t_textF t_wordF t_orderF t_rowsF t_writtenF t_thrown t_changes t_isSaved r107_17.2.2.2 t_texted t_wordSize t_orderMany t_here t_fault t_faultAt t_commandMany t_writtenSize) rfl ?_
    refine a_rz hF (fun n110_18 hF => ?_)
    exact a_iret C hr n110_18 dX9_does_110 hF rfl rfl
  refine a_lkdef C (tgt := 118) (off := 94) dX9_does_24 (by decide) ((lv_osw (a := 43) c24_6 (by decide)).trans ((lv_osw (a := 45) c24_9 (by decide)).trans ((lv_osw (a := 61) c24_13 (by decide)).trans ((lv_osw (a := 106) c24_16 (by decide)).trans ((lv_osw (a := 120) c24_19 (by decide)).trans (rfl)))))) (by decide) ?_
  refine a_aload_n C 2 dX9_does_118 rfl rfl ?_
  refine a_iload_n C 1 dX9_does_119 rfl rfl ?_
  refine a_callVi C 1 [0, 1, 2, 3, 4, 5, 6, 7] 0 cs_X9_129 hd_X9_turns ⟨rfl, rfl⟩ ⟨Nat.le_of_ble_eq_true rfl, Nat.le_of_ble_eq_true rfl⟩ (fun r h => c_X9_turns l D J kc ki kb kl kd t t_all t_reasons t_text t_word t_order t_rows t_written t_allF t_reasonsF t_textF t_wordF t_orderF t_rowsF t_writtenF t_thrown t_changes t_isSaved t_result t_texted t_wordSize t_orderMany t_here t_fault t_faultAt t_commandMany t_writtenSize v7_1 r h) rfl rfl rfl (fun _ => rfl) rfl rfl rfl (Nat.le_of_ble_eq_true rfl) dX9_does_120 ⟨Nat.zero_le _, Nat.zero_le _⟩ hF (fun r120_20 er120_20 hF => ?_)
  refine a_ws C (ws' := wX9 kc ki t t_all t_reasons t_text t_word t_order t_rows t_written r120_20.2.1 r120_20.2.2.1 t_textF t_wordF r120_20.2.2.2.1 t_rowsF t_writtenF t_thrown t_changes t_isSaved r120_20.2.2.2.2.1 t_texted t_wordSize r120_20.2.2.2.2.2 t_here t_fault t_faultAt t_commandMany t_writtenSize) rfl ?_
  refine a_rz hF (fun n123_21 hF => ?_)
  exact a_iret C hr n123_21 dX9_does_123 hF rfl rfl
theorem cs_X9_220 : GoodIn WW (wsV RX9 220 RX9 yX9_parse (aW yX9_parse cX9_parse 1 none)) := gdV kl_X9_220 ki_X9_parse kv_X9_parse kn_X9 kc_X9_parse
theorem cs_X9_223 : GoodIn WW (wsV RX9 223 RX9 yX9_does (aW yX9_does cX9_does 4 ((some .boolean)))) := gdV kl_X9_223 ki_X9_does kv_X9_does kn_X9 kc_X9_does
def f_X9_commands_L37 (q_t_rowsF : Nat → Int32) (q_t_commandMany : Int32) (t_textF : Nat → Int32) : Nat → Int32 → (Nat → Int32) → (Nat → Int32) → (Nat → Int32) → (Nat → Int32) → Int32 → Int32 → Int32 → (Int32 → (Nat → Int32) → (Nat → Int32) → (Nat → Int32) → (Nat → Int32) → Int32 → Int32 → Int32 → Option (Int32 × (Nat → Int32) × (Nat → Int32) × (Nat → Int32) × (Nat → Int32) × (Nat → Int32) × Int32 × Int32 × Int32 × Int32 × Int32 × Int32 × Int32 × Int32 × Int32 × Int32)) → Option (Int32 × (Nat → Int32) × (Nat → Int32) × (Nat → Int32) × (Nat → Int32) × (Nat → Int32) × Int32 × Int32 × Int32 × Int32 × Int32 × Int32 × Int32 × Int32 × Int32 × Int32)
  | 0, _, _, _, _, _, _, _, _, _ => none
  | fuel + 1, x1, q_t_allF, q_t_reasonsF, q_t_wordF, q_t_orderF, q_t_result, q_t_wordSize, q_t_orderMany, k => if q_t_commandMany ≤ x1 then (k x1 q_t_allF q_t_reasonsF q_t_wordF q_t_orderF q_t_result q_t_wordSize q_t_orderMany) else ((f_X9_does q_t_allF q_t_reasonsF t_textF q_t_wordF q_t_orderF q_t_rowsF q_t_result q_t_wordSize q_t_orderMany (4 * x1)).bind fun r49_5 => if r49_5.1 = 0 then (k x1 r49_5.2.1 r49_5.2.2.1 r49_5.2.2.2.1 r49_5.2.2.2.2.1 r49_5.2.2.2.2.2.1 r49_5.2.2.2.2.2.2.1 r49_5.2.2.2.2.2.2.2) else (f_X9_commands_L37 q_t_rowsF q_t_commandMany t_textF fuel (x1 + 1) r49_5.2.1 r49_5.2.2.1 r49_5.2.2.2.1 r49_5.2.2.2.2.1 r49_5.2.2.2.2.2.1 r49_5.2.2.2.2.2.2.1 r49_5.2.2.2.2.2.2.2 k))
def f_X9_commands_J111 (x1 : Int32) (q_t_allF : Nat → Int32) (q_t_reasonsF : Nat → Int32) (q_t_wordF : Nat → Int32) (q_t_orderF : Nat → Int32) (q_t_rowsF : Nat → Int32) (q_t_changes : Int32) (q_t_texted : Int32) (q_t_wordSize : Int32) (q_t_orderMany : Int32) (q_t_here : Int32) (q_t_fault : Int32) (q_t_faultAt : Int32) (q_t_commandMany : Int32) : Option (Int32 × (Nat → Int32) × (Nat → Int32) × (Nat → Int32) × (Nat → Int32) × (Nat → Int32) × Int32 × Int32 × Int32 × Int32 × Int32 × Int32 × Int32 × Int32 × Int32 × Int32) := if ¬ x1 = q_t_commandMany then ((f_X9_ends q_t_allF q_t_changes q_t_commandMany 0 2).bind fun r134_17 => some (r134_17.1, r134_17.2.1, q_t_reasonsF, q_t_wordF, q_t_orderF, q_t_rowsF, r134_17.2.2.1, r134_17.2.2.2, q_t_commandMany, q_t_texted, q_t_wordSize, q_t_orderMany, q_t_here, q_t_fault, q_t_faultAt, q_t_commandMany)) else ((f_X9_ends q_t_allF q_t_changes q_t_commandMany 1 2).bind fun r134_18 => some (r134_18.1, r134_18.2.1, q_t_reasonsF, q_t_wordF, q_t_orderF, q_t_rowsF, r134_18.2.2.1, r134_18.2.2.2, q_t_commandMany, q_t_texted, q_t_wordSize, q_t_orderMany, q_t_here, q_t_fault, q_t_faultAt, q_t_commandMany))
def f_X9_commands_L71 : Nat → Int32 → (Nat → Int32) → (Int32 → (Nat → Int32) → Option (Int32 × (Nat → Int32) × (Nat → Int32) × (Nat → Int32) × (Nat → Int32) × (Nat → Int32) × Int32 × Int32 × Int32 × Int32 × Int32 × Int32 × Int32 × Int32 × Int32 × Int32)) → Option (Int32 × (Nat → Int32) × (Nat → Int32) × (Nat → Int32) × (Nat → Int32) × (Nat → Int32) × Int32 × Int32 × Int32 × Int32 × Int32 × Int32 × Int32 × Int32 × Int32 × Int32)
  | 0, _, _, _ => none
  | fuel + 1, x2, q_t_reasonsF, k => if x2 ≤ 1 then (k x2 q_t_reasonsF) else ((ldi q_t_reasonsF 6 (x2 - 2)).bind fun v88_20 => (sti q_t_reasonsF 6 x2 v88_20).bind fun g89_21 => f_X9_commands_L71 fuel (x2 + (-1)) g89_21 k)
def f_X9_commands_J61 (x1 : Int32) (q_t_allF : Nat → Int32) (q_t_reasonsF : Nat → Int32) (q_t_wordF : Nat → Int32) (q_t_orderF : Nat → Int32) (q_t_rowsF : Nat → Int32) (q_t_changes : Int32) (q_t_texted : Int32) (q_t_wordSize : Int32) (q_t_orderMany : Int32) (q_t_here : Int32) (q_t_fault : Int32) (q_t_faultAt : Int32) (q_t_commandMany : Int32) : Option (Int32 × (Nat → Int32) × (Nat → Int32) × (Nat → Int32) × (Nat → Int32) × (Nat → Int32) × Int32 × Int32 × Int32 × Int32 × Int32 × Int32 × Int32 × Int32 × Int32 × Int32) := if q_t_commandMany ≤ x1 then (f_X9_commands_J111 x1 q_t_allF q_t_reasonsF q_t_wordF q_t_orderF q_t_rowsF q_t_changes q_t_texted q_t_wordSize q_t_orderMany q_t_here q_t_fault q_t_faultAt q_t_commandMany) else (f_X9_commands_L71 1000 5 q_t_reasonsF (fun x2_71_22 q_t_reasonsF_71_23 => (sti q_t_reasonsF_71_23 6 0 10).bind fun g103_24 => (sti g103_24 6 1 x1).bind fun g110_25 => f_X9_commands_J111 x1 q_t_allF g110_25 q_t_wordF q_t_orderF q_t_rowsF q_t_changes q_t_texted q_t_wordSize q_t_orderMany q_t_here q_t_fault q_t_faultAt q_t_commandMany))
def f_X9_commands (t_allF : Nat → Int32) (t_reasonsF : Nat → Int32) (t_textF : Nat → Int32) (t_wordF : Nat → Int32) (t_orderF : Nat → Int32) (t_rowsF : Nat → Int32) (t_changes : Int32) (t_result : Int32) (t_texted : Int32) (t_wordSize : Int32) (t_orderMany : Int32) : Option (Int32 × (Nat → Int32) × (Nat → Int32) × (Nat → Int32) × (Nat → Int32) × (Nat → Int32) × Int32 × Int32 × Int32 × Int32 × Int32 × Int32 × Int32 × Int32 × Int32 × Int32) := (f_X9_parse t_textF t_rowsF t_texted).bind fun r1_1 => if r1_1.2.2.1 < 0 then ((f_X9_begins t_allF).bind fun r32_3 => f_X9_commands_L37 r1_1.1 r1_1.2.2.2 t_textF 1000 0 r32_3 t_reasonsF t_wordF t_orderF t_result t_wordSize t_orderMany (fun x1_37_7 q_t_allF_37_8 q_t_reasonsF_37_9 q_t_wordF_37_10 q_t_orderF_37_11 q_t_result_37_12 q_t_wordSize_37_13 q_t_orderMany_37_14 => f_X9_commands_J61 x1_37_7 q_t_allF_37_8 q_t_reasonsF_37_9 q_t_wordF_37_10 q_t_orderF_37_11 r1_1.1 t_changes 0 q_t_wordSize_37_13 q_t_orderMany_37_14 r1_1.2.1 r1_1.2.2.1 r1_1.2.2.1 r1_1.2.2.2)) else (some (0, t_allF, t_reasonsF, t_wordF, t_orderF, r1_1.1, 1, t_changes, t_result, 0, t_wordSize, t_orderMany, r1_1.2.1, r1_1.2.2.1, r1_1.2.2.1, r1_1.2.2.2))
theorem hd_X9_commands : yX9_commands.cls = RX9 ∧ yX9_commands.cls ≠ "java/lang/invoke/MethodHandle" ∧ yX9_commands.cls ≠ "java/lang/invoke/VarHandle" ∧ (parseMethodDescriptor yX9_commands.desc).map (fun d => d.parameters.length) = some 0 := by decide +kernel
set_option maxRecDepth 100000 in
set_option maxHeartbeats 4000000 in
theorem c_X9_commands (l : Launch) (D : va_G) (J : (Nat → Nat) × (Nat → Nat)) (kc ki kb kl kd : ClassId) (t : Nat) (t_all : Nat) (t_reasons : Nat) (t_text : Nat) (t_word : Nat) (t_order : Nat) (t_rows : Nat) (t_written : Nat) (t_allF : Nat → Int32) (t_reasonsF : Nat → Int32) (t_textF : Nat → Int32) (t_wordF : Nat → Int32) (t_orderF : Nat → Int32) (t_rowsF : Nat → Int32) (t_writtenF : Nat → Int32) (t_thrown : Int32) (t_changes : Int32) (t_isSaved : Int32) (t_result : Int32) (t_texted : Int32) (t_wordSize : Int32) (t_orderMany : Int32) (t_here : Int32) (t_fault : Int32) (t_faultAt : Int32) (t_commandMany : Int32) (t_writtenSize : Int32) (res : Int32 × (Nat → Int32) × (Nat → Int32) × (Nat → Int32) × (Nat → Int32) × (Nat → Int32) × Int32 × Int32 × Int32 × Int32 × Int32 × Int32 × Int32 × Int32 × Int32 × Int32) (hF : f_X9_commands t_allF t_reasonsF t_textF t_wordF t_orderF t_rowsF t_changes t_result t_texted t_wordSize t_orderMany = some res) : aKi l yX9_commands (aW yX9_commands cX9_commands 3 ((some .int))) ({ frames := 8, cells := 0, slots := 0, locals := 184 } : Room) D J (aTy kc ki kb kl kd) [.ref t] (wX9 kc ki t t_all t_reasons t_text t_word t_order t_rows t_written t_allF t_reasonsF t_textF t_wordF t_orderF t_rowsF t_writtenF t_thrown t_changes t_isSaved t_result t_texted t_wordSize t_orderMany t_here t_fault t_faultAt t_commandMany t_writtenSize) (fun r => r.1) (fun r => wX9 kc ki t t_all t_reasons t_text t_word t_order t_rows t_written r.2.1 r.2.2.1 t_textF r.2.2.2.1 r.2.2.2.2.1 r.2.2.2.2.2.1 t_writtenF r.2.2.2.2.2.2.1 r.2.2.2.2.2.2.2.1 t_isSaved r.2.2.2.2.2.2.2.2.1 r.2.2.2.2.2.2.2.2.2.1 r.2.2.2.2.2.2.2.2.2.2.1 r.2.2.2.2.2.2.2.2.2.2.2.1 r.2.2.2.2.2.2.2.2.2.2.2.2.1 r.2.2.2.2.2.2.2.2.2.2.2.2.2.1 r.2.2.2.2.2.2.2.2.2.2.2.2.2.2.1 r.2.2.2.2.2.2.2.2.2.2.2.2.2.2.2 t_writtenSize) res := by
  refine aKi_of (own := RX9) (by decide) rfl (Nat.le_of_ble_eq_true rfl) rfl ?_
  intro p e s m args below meth c C hr
  have hI37 : ∀ (q_t_rowsF : Nat → Int32) (q_t_thrown : Int32) (q_t_changes : Int32) (q_t_texted : Int32) (q_t_here : Int32) (q_t_fault : Int32) (q_t_faultAt : Int32) (q_t_commandMany : Int32) (fuel : Nat) (x1 : Int32) (q_t_allF : Nat → Int32) (q_t_reasonsF : Nat → Int32) (q_t_wordF : Nat → Int32) (q_t_orderF : Nat → Int32) (q_t_result : Int32) (q_t_wordSize : Int32) (q_t_orderMany : Int32) (k : Int32 → (Nat → Int32) → (Nat → Int32) → (Nat → Int32) → (Nat → Int32) → Int32 → Int32 → Int32 → Option (Int32 × (Nat → Int32) × (Nat → Int32) × (Nat → Int32) × (Nat → Int32) × (Nat → Int32) × Int32 × Int32 × Int32 × Int32 × Int32 × Int32 × Int32 × Int32 × Int32 × Int32)), f_X9_commands_L37 q_t_rowsF q_t_commandMany t_textF fuel x1 q_t_allF q_t_reasonsF q_t_wordF q_t_orderF q_t_result q_t_wordSize q_t_orderMany k = some res → (∀ (x1 : Int32) (q_t_allF : Nat → Int32) (q_t_reasonsF : Nat → Int32) (q_t_wordF : Nat → Int32) (q_t_orderF : Nat → Int32) (q_t_result : Int32) (q_t_wordSize : Int32) (q_t_orderMany : Int32), k x1 q_t_allF q_t_reasonsF q_t_wordF q_t_orderF q_t_result q_t_wordSize q_t_orderMany = some res → aT p l e ({ frames := 8, cells := 0, slots := 0, locals := 184 } : Room) s m args below meth c (MQ below (aQi D (wX9 kc ki t t_all t_reasons t_text t_word t_order t_rows t_written t_allF t_reasonsF t_textF t_wordF t_orderF t_rowsF t_writtenF t_thrown t_changes t_isSaved t_result t_texted t_wordSize t_orderMany t_here t_fault t_faultAt t_commandMany t_writtenSize) s.heap.size (fun r => r.1) (fun r => wX9 kc ki t t_all t_reasons t_text t_word t_order t_rows t_written r.2.1 r.2.2.1 t_textF r.2.2.2.1 r.2.2.2.2.1 r.2.2.2.2.2.1 t_writtenF r.2.2.2.2.2.2.1 r.2.2.2.2.2.2.2.1 t_isSaved r.2.2.2.2.2.2.2.2.1 r.2.2.2.2.2.2.2.2.2.1 r.2.2.2.2.2.2.2.2.2.2.1 r.2.2.2.2.2.2.2.2.2.2.2.1 r.2.2.2.2.2.2.2.2.2.2.2.2.1 r.2.2.2.2.2.2.2.2.2.2.2.2.2.1 r.2.2.2.2.2.2.2.2.2.2.2.2.2.2.1 r.2.2.2.2.2.2.2.2.2.2.2.2.2.2.2 t_writtenSize) res) args s 0 0 (va_A (wX9 kc ki t t_all t_reasons t_text t_word t_order t_rows t_written t_allF t_reasonsF t_textF t_wordF t_orderF t_rowsF t_writtenF t_thrown t_changes t_isSaved t_result t_texted t_wordSize t_orderMany t_here t_fault t_faultAt t_commandMany t_writtenSize) s.heap.size)) D (va_A (wX9 kc ki t t_all t_reasons t_text t_word t_order t_rows t_written t_allF t_reasonsF t_textF t_wordF t_orderF t_rowsF t_writtenF t_thrown t_changes t_isSaved t_result t_texted t_wordSize t_orderMany t_here t_fault t_faultAt t_commandMany t_writtenSize) s.heap.size) 3 0 0 61 [(0, .ref t), (1, .int x1)] [] (wX9 kc ki t t_all t_reasons t_text t_word t_order t_rows t_written q_t_allF q_t_reasonsF t_textF q_t_wordF q_t_orderF q_t_rowsF t_writtenF q_t_thrown q_t_changes t_isSaved q_t_result q_t_texted q_t_wordSize q_t_orderMany q_t_here q_t_fault q_t_faultAt q_t_commandMany t_writtenSize)) → aT p l e ({ frames := 8, cells := 0, slots := 0, locals := 184 } : Room) s m args below meth c (MQ below (aQi D (wX9 kc ki t t_all t_reasons t_text t_word t_order t_rows t_written t_allF t_reasonsF t_textF t_wordF t_orderF t_rowsF t_writtenF t_thrown t_changes t_isSaved t_result t_texted t_wordSize t_orderMany t_here t_fault t_faultAt t_commandMany t_writtenSize) s.heap.size (fun r => r.1) (fun r => wX9 kc ki t t_all t_reasons t_text t_word t_order t_rows t_written r.2.1 r.2.2.1 t_textF r.2.2.2.1 r.2.2.2.2.1 r.2.2.2.2.2.1 t_writtenF r.2.2.2.2.2.2.1 r.2.2.2.2.2.2.2.1 t_isSaved r.2.2.2.2.2.2.2.2.1 r.2.2.2.2.2.2.2.2.2.1 r.2.2.2.2.2.2.2.2.2.2.1 r.2.2.2.2.2.2.2.2.2.2.2.1 r.2.2.2.2.2.2.2.2.2.2.2.2.1 r.2.2.2.2.2.2.2.2.2.2.2.2.2.1 r.2.2.2.2.2.2.2.2.2.2.2.2.2.2.1 r.2.2.2.2.2.2.2.2.2.2.2.2.2.2.2 t_writtenSize) res) args s 0 0 (va_A (wX9 kc ki t t_all t_reasons t_text t_word t_order t_rows t_written t_allF t_reasonsF t_textF t_wordF t_orderF t_rowsF t_writtenF t_thrown t_changes t_isSaved t_result t_texted t_wordSize t_orderMany t_here t_fault t_faultAt t_commandMany t_writtenSize) s.heap.size)) D (va_A (wX9 kc ki t t_all t_reasons t_text t_word t_order t_rows t_written t_allF t_reasonsF t_textF t_wordF t_orderF t_rowsF t_writtenF t_thrown t_changes t_isSaved t_result t_texted t_wordSize t_orderMany t_here t_fault t_faultAt t_commandMany t_writtenSize) s.heap.size) 3 0 0 37 [(0, .ref t), (1, .int x1)] [] (wX9 kc ki t t_all t_reasons t_text t_word t_order t_rows t_written q_t_allF q_t_reasonsF t_textF q_t_wordF q_t_orderF q_t_rowsF t_writtenF q_t_thrown q_t_changes t_isSaved q_t_result q_t_texted q_t_wordSize q_t_orderMany q_t_here q_t_fault q_t_faultAt q_t_commandMany t_writtenSize) := by
    intro q_t_rowsF q_t_thrown q_t_changes q_t_texted q_t_here q_t_fault q_t_faultAt q_t_commandMany fuel
    induction fuel with
    | zero => intro x1 q_t_allF q_t_reasonsF q_t_wordF q_t_orderF q_t_result q_t_wordSize q_t_orderMany k hF hX; exact nomatch hF
    | succ fuel ih =>
      intro x1 q_t_allF q_t_reasonsF q_t_wordF q_t_orderF q_t_result q_t_wordSize q_t_orderMany k hF hX
      rw [f_X9_commands_L37] at hF
      refine a_iload_n C 1 dX9_commands_37 rfl rfl ?_
      refine a_aload_n C 0 dX9_commands_38 rfl rfl ?_
      refine a_get C 0 16 iwX9 rfl rfl (by decide) kf_X9_205 rfl dX9_commands_39 ?_
      refine a_ic_ge C (tgt := 61) dX9_commands_42 (by decide) hF (fun c42_4 hF => ?_) (fun c42_4 hF => ?_)
      · exact hX x1 q_t_allF q_t_reasonsF q_t_wordF q_t_orderF q_t_result q_t_wordSize q_t_orderMany hF
      refine a_aload_n C 0 dX9_commands_45 rfl rfl ?_
      refine a_iconst C (v := 4) dX9_commands_46 (by decide) ?_
      refine a_iload_n C 1 dX9_commands_47 rfl rfl ?_
      refine a_imul C dX9_commands_48 ?_
      refine a_callVi C 1 [0, 1, 2, 3, 4, 5, 6, 7] 0 cs_X9_223 hd_X9_does ⟨rfl, rfl⟩ ⟨Nat.le_of_ble_eq_true rfl, Nat.le_of_ble_eq_true rfl⟩ (fun r h => c_X9_does l D J kc ki kb kl kd t t_all t_reasons t_text t_word t_order t_rows t_written q_t_allF q_t_reasonsF t_textF q_t_wordF q_t_orderF q_t_rowsF t_writtenF q_t_thrown q_t_changes t_isSaved q_t_result q_t_texted q_t_wordSize q_t_orderMany q_t_here q_t_fault q_t_faultAt q_t_commandMany t_writtenSize (4 * x1) r h) rfl rfl rfl (fun _ => rfl) rfl rfl rfl (Nat.le_of_ble_eq_true rfl) dX9_commands_49 ⟨Nat.zero_le _, Nat.zero_le _⟩ hF (fun r49_5 er49_5 hF => ?_)
      refine a_ws C (ws' := wX9 kc ki t t_all t_reasons t_text t_word t_order t_rows t_written r49_5.2.1 r49_5.2.2.1 t_textF r49_5.2.2.2.1 r49_5.2.2.2.2.1 q_t_rowsF t_writtenF q_t_thrown q_t_changes t_isSaved r49_5.2.2.2.2.2.1 q_t_texted r49_5.2.2.2.2.2.2.1 r49_5.2.2.2.2.2.2.2 q_t_here q_t_fault q_t_faultAt q_t_commandMany t_writtenSize) rfl ?_
      refine a_if_eq C (tgt := 61) dX9_commands_52 (by decide) hF (fun c52_6 hF => ?_) (fun c52_6 hF => ?_)
      · exact hX x1 r49_5.2.1 r49_5.2.2.1 r49_5.2.2.2.1 r49_5.2.2.2.2.1 r49_5.2.2.2.2.2.1 r49_5.2.2.2.2.2.2.1 r49_5.2.2.2.2.2.2.2 hF
      refine a_iinc C 1 [(1, .int (x1 + 1)), (0, .ref t)] dX9_commands_55 rfl rfl (by decide) rfl ?_
      refine a_goto C (tgt := 37) dX9_commands_58 (by decide) ?_
      refine a_sub C [1, 0] [(0, .ref t), (1, .int (x1 + 1))] rfl ?_
      exact ih (x1 + 1) r49_5.2.1 r49_5.2.2.1 r49_5.2.2.2.1 r49_5.2.2.2.2.1 r49_5.2.2.2.2.2.1 r49_5.2.2.2.2.2.2.1 r49_5.2.2.2.2.2.2.2 k hF hX
  have hJ111 : ∀ (x1 : Int32) (q_t_allF : Nat → Int32) (q_t_reasonsF : Nat → Int32) (q_t_wordF : Nat → Int32) (q_t_orderF : Nat → Int32) (q_t_rowsF : Nat → Int32) (q_t_thrown : Int32) (q_t_changes : Int32) (q_t_result : Int32) (q_t_texted : Int32) (q_t_wordSize : Int32) (q_t_orderMany : Int32) (q_t_here : Int32) (q_t_fault : Int32) (q_t_faultAt : Int32) (q_t_commandMany : Int32), f_X9_commands_J111 x1 q_t_allF q_t_reasonsF q_t_wordF q_t_orderF q_t_rowsF q_t_changes q_t_texted q_t_wordSize q_t_orderMany q_t_here q_t_fault q_t_faultAt q_t_commandMany = some res → aT p l e ({ frames := 8, cells := 0, slots := 0, locals := 184 } : Room) s m args below meth c (MQ below (aQi D (wX9 kc ki t t_all t_reasons t_text t_word t_order t_rows t_written t_allF t_reasonsF t_textF t_wordF t_orderF t_rowsF t_writtenF t_thrown t_changes t_isSaved t_result t_texted t_wordSize t_orderMany t_here t_fault t_faultAt t_commandMany t_writtenSize) s.heap.size (fun r => r.1) (fun r => wX9 kc ki t t_all t_reasons t_text t_word t_order t_rows t_written r.2.1 r.2.2.1 t_textF r.2.2.2.1 r.2.2.2.2.1 r.2.2.2.2.2.1 t_writtenF r.2.2.2.2.2.2.1 r.2.2.2.2.2.2.2.1 t_isSaved r.2.2.2.2.2.2.2.2.1 r.2.2.2.2.2.2.2.2.2.1 r.2.2.2.2.2.2.2.2.2.2.1 r.2.2.2.2.2.2.2.2.2.2.2.1 r.2.2.2.2.2.2.2.2.2.2.2.2.1 r.2.2.2.2.2.2.2.2.2.2.2.2.2.1 r.2.2.2.2.2.2.2.2.2.2.2.2.2.2.1 r.2.2.2.2.2.2.2.2.2.2.2.2.2.2.2 t_writtenSize) res) args s 0 0 (va_A (wX9 kc ki t t_all t_reasons t_text t_word t_order t_rows t_written t_allF t_reasonsF t_textF t_wordF t_orderF t_rowsF t_writtenF t_thrown t_changes t_isSaved t_result t_texted t_wordSize t_orderMany t_here t_fault t_faultAt t_commandMany t_writtenSize) s.heap.size)) D (va_A (wX9 kc ki t t_all t_reasons t_text t_word t_order t_rows t_written t_allF t_reasonsF t_textF t_wordF t_orderF t_rowsF t_writtenF t_thrown t_changes t_isSaved t_result t_texted t_wordSize t_orderMany t_here t_fault t_faultAt t_commandMany t_writtenSize) s.heap.size) 3 0 0 111 [(0, .ref t), (1, .int x1)] [] (wX9 kc ki t t_all t_reasons t_text t_word t_order t_rows t_written q_t_allF q_t_reasonsF t_textF q_t_wordF q_t_orderF q_t_rowsF t_writtenF q_t_thrown q_t_changes t_isSaved q_t_result q_t_texted q_t_wordSize q_t_orderMany q_t_here q_t_fault q_t_faultAt q_t_commandMany t_writtenSize) := by
    intro x1 q_t_allF q_t_reasonsF q_t_wordF q_t_orderF q_t_rowsF q_t_thrown q_t_changes q_t_result q_t_texted q_t_wordSize q_t_orderMany q_t_here q_t_fault q_t_faultAt q_t_commandMany hF
    unfold f_X9_commands_J111 at hF
    refine a_aload_n C 0 dX9_commands_111 rfl rfl ?_
    refine a_aload_n C 0 dX9_commands_112 rfl rfl ?_
    refine a_get C 0 16 iwX9 rfl rfl (by decide) kf_X9_205 rfl dX9_commands_113 ?_
    refine a_put C 0 4 iwX9 tyX9_ok nmX9 rfl rfl (by decide) kf_X9_46 rfl rfl rfl (Nat.le_of_ble_eq_true rfl) dX9_commands_116 ?_
    refine a_ws C (ws' := wX9 kc ki t t_all t_reasons t_text t_word t_order t_rows t_written q_t_allF q_t_reasonsF t_textF q_t_wordF q_t_orderF q_t_rowsF t_writtenF q_t_thrown q_t_changes t_isSaved q_t_commandMany q_t_texted q_t_wordSize q_t_orderMany q_t_here q_t_fault q_t_faultAt q_t_commandMany t_writtenSize) rfl ?_
    refine a_aload_n C 0 dX9_commands_119 rfl rfl ?_
    refine a_iload_n C 1 dX9_commands_120 rfl rfl ?_
    refine a_aload_n C 0 dX9_commands_121 rfl rfl ?_
    refine a_get C 0 16 iwX9 rfl rfl (by decide) kf_X9_205 rfl dX9_commands_122 ?_
    refine a_ic_ne C (tgt := 132) dX9_commands_125 (by decide) hF (fun c125_16 hF => ?_) (fun c125_16 hF => ?_)
    · refine a_iconst C (v := 0) dX9_commands_132 (by decide) ?_
      refine a_iconst C (v := 2) dX9_commands_133 (by decide) ?_
      refine a_callVi C 2 [0, 1, 2, 3, 4, 5, 6, 7] 0 cs_X9_89 hd_X9_ends ⟨rfl, rfl⟩ ⟨Nat.le_of_ble_eq_true rfl, Nat.le_of_ble_eq_true rfl⟩ (fun r h => c_X9_ends l D J kc ki kb kl kd t t_all t_reasons t_text t_word t_order t_rows t_written q_t_allF q_t_reasonsF t_textF q_t_wordF q_t_orderF q_t_rowsF t_writtenF q_t_thrown q_t_changes t_isSaved q_t_commandMany q_t_texted q_t_wordSize q_t_orderMany q_t_here q_t_fault q_t_faultAt q_t_commandMany t_writtenSize 0 2 r h) rfl rfl rfl (fun _ => rfl) rfl rfl rfl (Nat.le_of_ble_eq_true rfl) dX9_commands_134 ⟨Nat.zero_le _, Nat.zero_le _⟩ hF (fun r134_17 er134_17 hF => ?_)
      refine a_ws C (ws' := wX9 kc ki t t_all t_reasons t_text t_word t_order t_rows t_written r134_17.2.1 q_t_reasonsF t_textF q_t_wordF q_t_orderF q_t_rowsF t_writtenF r134_17.2.2.1 r134_17.2.2.2 t_isSaved q_t_commandMany q_t_texted q_t_wordSize q_t_orderMany q_t_here q_t_fault q_t_faultAt q_t_commandMany t_writtenSize) rfl ?_
      exact a_iret C hr rfl dX9_commands_137 hF rfl rfl
    refine a_iconst C (v := 1) dX9_commands_128 (by decide) ?_
    refine a_goto C (tgt := 133) dX9_commands_129 (by decide) ?_
    refine a_iconst C (v := 2) dX9_commands_133 (by decide) ?_
    refine a_callVi C 2 [0, 1, 2, 3, 4, 5, 6, 7] 0 cs_X9_89 hd_X9_ends ⟨rfl, rfl⟩ ⟨Nat.le_of_ble_eq_true rfl, Nat.le_of_ble_eq_true rfl⟩ (fun r h => c_X9_ends l D J kc ki kb kl kd t t_all t_reasons t_text t_word t_order t_rows t_written q_t_allF q_t_reasonsF t_textF q_t_wordF q_t_orderF q_t_rowsF t_writtenF q_t_thrown q_t_changes t_isSaved q_t_commandMany q_t_texted q_t_wordSize q_t_orderMany q_t_here q_t_fault q_t_faultAt q_t_commandMany t_writtenSize 1 2 r h) rfl rfl rfl (fun _ => rfl) rfl rfl rfl (Nat.le_of_ble_eq_true rfl) dX9_commands_134 ⟨Nat.zero_le _, Nat.zero_le _⟩ hF (fun r134_18 er134_18 hF => ?_)
    refine a_ws C (ws' := wX9 kc ki t t_all t_reasons t_text t_word t_order t_rows t_written r134_18.2.1 q_t_reasonsF t_textF q_t_wordF q_t_orderF q_t_rowsF t_writtenF r134_18.2.2.1 r134_18.2.2.2 t_isSaved q_t_commandMany q_t_texted q_t_wordSize q_t_orderMany q_t_here q_t_fault q_t_faultAt q_t_commandMany t_writtenSize) rfl ?_
    exact a_iret C hr rfl dX9_commands_137 hF rfl rfl
  have hI71 : ∀ (x1 : Int32) (q_t_allF : Nat → Int32) (q_t_wordF : Nat → Int32) (q_t_orderF : Nat → Int32) (q_t_rowsF : Nat → Int32) (q_t_thrown : Int32) (q_t_changes : Int32) (q_t_result : Int32) (q_t_texted : Int32) (q_t_wordSize : Int32) (q_t_orderMany : Int32) (q_t_here : Int32) (q_t_fault : Int32) (q_t_faultAt : Int32) (q_t_commandMany : Int32) (fuel : Nat) (x2 : Int32) (q_t_reasonsF : Nat → Int32) (k : Int32 → (Nat → Int32) → Option (Int32 × (Nat → Int32) × (Nat → Int32) × (Nat → Int32) × (Nat → Int32) × (Nat → Int32) × Int32 × Int32 × Int32 × Int32 × Int32 × Int32 × Int32 × Int32 × Int32 × Int32)), f_X9_commands_L71 fuel x2 q_t_reasonsF k = some res → (∀ (x2 : Int32) (q_t_reasonsF : Nat → Int32), k x2 q_t_reasonsF = some res → aT p l e ({ frames := 8, cells := 0, slots := 0, locals := 184 } : Room) s m args below meth c (MQ below (aQi D (wX9 kc ki t t_all t_reasons t_text t_word t_order t_rows t_written t_allF t_reasonsF t_textF t_wordF t_orderF t_rowsF t_writtenF t_thrown t_changes t_isSaved t_result t_texted t_wordSize t_orderMany t_here t_fault t_faultAt t_commandMany t_writtenSize) s.heap.size (fun r => r.1) (fun r => wX9 kc ki t t_all t_reasons t_text t_word t_order t_rows t_written r.2.1 r.2.2.1 t_textF r.2.2.2.1 r.2.2.2.2.1 r.2.2.2.2.2.1 t_writtenF r.2.2.2.2.2.2.1 r.2.2.2.2.2.2.2.1 t_isSaved r.2.2.2.2.2.2.2.2.1 r.2.2.2.2.2.2.2.2.2.1 r.2.2.2.2.2.2.2.2.2.2.1 r.2.2.2.2.2.2.2.2.2.2.2.1 r.2.2.2.2.2.2.2.2.2.2.2.2.1 r.2.2.2.2.2.2.2.2.2.2.2.2.2.1 r.2.2.2.2.2.2.2.2.2.2.2.2.2.2.1 r.2.2.2.2.2.2.2.2.2.2.2.2.2.2.2 t_writtenSize) res) args s 0 0 (va_A (wX9 kc ki t t_all t_reasons t_text t_word t_order t_rows t_written t_allF t_reasonsF t_textF t_wordF t_orderF t_rowsF t_writtenF t_thrown t_changes t_isSaved t_result t_texted t_wordSize t_orderMany t_here t_fault t_faultAt t_commandMany t_writtenSize) s.heap.size)) D (va_A (wX9 kc ki t t_all t_reasons t_text t_word t_order t_rows t_written t_allF t_reasonsF t_textF t_wordF t_orderF t_rowsF t_writtenF t_thrown t_changes t_isSaved t_result t_texted t_wordSize t_orderMany t_here t_fault t_faultAt t_commandMany t_writtenSize) s.heap.size) 3 0 0 96 [(0, .ref t), (1, .int x1)] [] (wX9 kc ki t t_all t_reasons t_text t_word t_order t_rows t_written q_t_allF q_t_reasonsF t_textF q_t_wordF q_t_orderF q_t_rowsF t_writtenF q_t_thrown q_t_changes t_isSaved q_t_result q_t_texted q_t_wordSize q_t_orderMany q_t_here q_t_fault q_t_faultAt q_t_commandMany t_writtenSize)) → aT p l e ({ frames := 8, cells := 0, slots := 0, locals := 184 } : Room) s m args below meth c (MQ below (aQi D (wX9 kc ki t t_all t_reasons t_text t_word t_order t_rows t_written t_allF t_reasonsF t_textF t_wordF t_orderF t_rowsF t_writtenF t_thrown t_changes t_isSaved t_result t_texted t_wordSize t_orderMany t_here t_fault t_faultAt t_commandMany t_writtenSize) s.heap.size (fun r => r.1) (fun r => wX9 kc ki t t_all t_reasons t_text t_word t_order t_rows t_written r.2.1 r.2.2.1 t_textF r.2.2.2.1 r.2.2.2.2.1 r.2.2.2.2.2.1 t_writtenF r.2.2.2.2.2.2.1 r.2.2.2.2.2.2.2.1 t_isSaved r.2.2.2.2.2.2.2.2.1 r.2.2.2.2.2.2.2.2.2.1 r.2.2.2.2.2.2.2.2.2.2.1 r.2.2.2.2.2.2.2.2.2.2.2.1 r.2.2.2.2.2.2.2.2.2.2.2.2.1 r.2.2.2.2.2.2.2.2.2.2.2.2.2.1 r.2.2.2.2.2.2.2.2.2.2.2.2.2.2.1 r.2.2.2.2.2.2.2.2.2.2.2.2.2.2.2 t_writtenSize) res) args s 0 0 (va_A (wX9 kc ki t t_all t_reasons t_text t_word t_order t_rows t_written t_allF t_reasonsF t_textF t_wordF t_orderF t_rowsF t_writtenF t_thrown t_changes t_isSaved t_result t_texted t_wordSize t_orderMany t_here t_fault t_faultAt t_commandMany t_writtenSize) s.heap.size)) D (va_A (wX9 kc ki t t_all t_reasons t_text t_word t_order t_rows t_written t_allF t_reasonsF t_textF t_wordF t_orderF t_rowsF t_writtenF t_thrown t_changes t_isSaved t_result t_texted t_wordSize t_orderMany t_here t_fault t_faultAt t_commandMany t_writtenSize) s.heap.size) 3 0 0 71 [(0, .ref t), (1, .int x1), (2, .int x2)] [] (wX9 kc ki t t_all t_reasons t_text t_word t_order t_rows t_written q_t_allF q_t_reasonsF t_textF q_t_wordF q_t_orderF q_t_rowsF t_writtenF q_t_thrown q_t_changes t_isSaved q_t_result q_t_texted q_t_wordSize q_t_orderMany q_t_here q_t_fault q_t_faultAt q_t_commandMany t_writtenSize) := by
    intro x1 q_t_allF q_t_wordF q_t_orderF q_t_rowsF q_t_thrown q_t_changes q_t_result q_t_texted q_t_wordSize q_t_orderMany q_t_here q_t_fault q_t_faultAt q_t_commandMany fuel
    induction fuel with
    | zero => intro x2 q_t_reasonsF k hF hX; exact nomatch hF
    | succ fuel ih =>
      intro x2 q_t_reasonsF k hF hX
      rw [f_X9_commands_L71] at hF
      refine a_iload_n C 2 dX9_commands_71 rfl rfl ?_
      refine a_iconst C (v := 1) dX9_commands_72 (by decide) ?_
      refine a_ic_le C (tgt := 96) dX9_commands_73 (by decide) hF (fun c73_19 hF => ?_) (fun c73_19 hF => ?_)
      · refine a_sub C [0, 1] [(0, .ref t), (1, .int x1)] rfl ?_
        exact hX x2 q_t_reasonsF hF
      refine a_aload_n C 0 dX9_commands_76 rfl rfl ?_
      refine a_get C 0 5 iwX9 rfl rfl (by decide) kf_X9_13 rfl dX9_commands_77 ?_
      refine a_iload_n C 2 dX9_commands_80 rfl rfl ?_
      refine a_aload_n C 0 dX9_commands_81 rfl rfl ?_
      refine a_get C 0 5 iwX9 rfl rfl (by decide) kf_X9_13 rfl dX9_commands_82 ?_
      refine a_iload_n C 2 dX9_commands_85 rfl rfl ?_
      refine a_iconst C (v := 2) dX9_commands_86 (by decide) ?_
      refine a_isub C dX9_commands_87 ?_
      refine a_iald C 2 1 rfl rfl dX9_commands_88 hF (fun v88_20 ev88_20 hF => ?_)
      refine a_iast C 2 1 rfl rfl dX9_commands_89 hF (fun g89_21 eg89_21 hF => ?_)
      refine a_ws C (ws' := wX9 kc ki t t_all t_reasons t_text t_word t_order t_rows t_written q_t_allF g89_21 t_textF q_t_wordF q_t_orderF q_t_rowsF t_writtenF q_t_thrown q_t_changes t_isSaved q_t_result q_t_texted q_t_wordSize q_t_orderMany q_t_here q_t_fault q_t_faultAt q_t_commandMany t_writtenSize) rfl ?_
      refine a_iinc C 2 [(2, .int (x2 + (-1))), (0, .ref t), (1, .int x1)] dX9_commands_90 rfl rfl (by decide) rfl ?_
      refine a_goto C (tgt := 71) dX9_commands_93 (by decide) ?_
      refine a_sub C [1, 2, 0] [(0, .ref t), (1, .int x1), (2, .int (x2 + (-1)))] rfl ?_
      exact ih (x2 + (-1)) g89_21 k hF hX
  have hJ61 : ∀ (x1 : Int32) (q_t_allF : Nat → Int32) (q_t_reasonsF : Nat → Int32) (q_t_wordF : Nat → Int32) (q_t_orderF : Nat → Int32) (q_t_rowsF : Nat → Int32) (q_t_thrown : Int32) (q_t_changes : Int32) (q_t_result : Int32) (q_t_texted : Int32) (q_t_wordSize : Int32) (q_t_orderMany : Int32) (q_t_here : Int32) (q_t_fault : Int32) (q_t_faultAt : Int32) (q_t_commandMany : Int32), f_X9_commands_J61 x1 q_t_allF q_t_reasonsF q_t_wordF q_t_orderF q_t_rowsF q_t_changes q_t_texted q_t_wordSize q_t_orderMany q_t_here q_t_fault q_t_faultAt q_t_commandMany = some res → aT p l e ({ frames := 8, cells := 0, slots := 0, locals := 184 } : Room) s m args below meth c (MQ below (aQi D (wX9 kc ki t t_all t_reasons t_text t_word t_order t_rows t_written t_allF t_reasonsF t_textF t_wordF t_orderF t_rowsF t_writtenF t_thrown t_changes t_isSaved t_result t_texted t_wordSize t_orderMany t_here t_fault t_faultAt t_commandMany t_writtenSize) s.heap.size (fun r => r.1) (fun r => wX9 kc ki t t_all t_reasons t_text t_word t_order t_rows t_written r.2.1 r.2.2.1 t_textF r.2.2.2.1 r.2.2.2.2.1 r.2.2.2.2.2.1 t_writtenF r.2.2.2.2.2.2.1 r.2.2.2.2.2.2.2.1 t_isSaved r.2.2.2.2.2.2.2.2.1 r.2.2.2.2.2.2.2.2.2.1 r.2.2.2.2.2.2.2.2.2.2.1 r.2.2.2.2.2.2.2.2.2.2.2.1 r.2.2.2.2.2.2.2.2.2.2.2.2.1 r.2.2.2.2.2.2.2.2.2.2.2.2.2.1 r.2.2.2.2.2.2.2.2.2.2.2.2.2.2.1 r.2.2.2.2.2.2.2.2.2.2.2.2.2.2.2 t_writtenSize) res) args s 0 0 (va_A (wX9 kc ki t t_all t_reasons t_text t_word t_order t_rows t_written t_allF t_reasonsF t_textF t_wordF t_orderF t_rowsF t_writtenF t_thrown t_changes t_isSaved t_result t_texted t_wordSize t_orderMany t_here t_fault t_faultAt t_commandMany t_writtenSize) s.heap.size)) D (va_A (wX9 kc ki t t_all t_reasons t_text t_word t_order t_rows t_written t_allF t_reasonsF t_textF t_wordF t_orderF t_rowsF t_writtenF t_thrown t_changes t_isSaved t_result t_texted t_wordSize t_orderMany t_here t_fault t_faultAt t_commandMany t_writtenSize) s.heap.size) 3 0 0 61 [(0, .ref t), (1, .int x1)] [] (wX9 kc ki t t_all t_reasons t_text t_word t_order t_rows t_written q_t_allF q_t_reasonsF t_textF q_t_wordF q_t_orderF q_t_rowsF t_writtenF q_t_thrown q_t_changes t_isSaved q_t_result q_t_texted q_t_wordSize q_t_orderMany q_t_here q_t_fault q_t_faultAt q_t_commandMany t_writtenSize) := by
    intro x1 q_t_allF q_t_reasonsF q_t_wordF q_t_orderF q_t_rowsF q_t_thrown q_t_changes q_t_result q_t_texted q_t_wordSize q_t_orderMany q_t_here q_t_fault q_t_faultAt q_t_commandMany hF
    unfold f_X9_commands_J61 at hF
    refine a_iload_n C 1 dX9_commands_61 rfl rfl ?_
    refine a_aload_n C 0 dX9_commands_62 rfl rfl ?_
    refine a_get C 0 16 iwX9 rfl rfl (by decide) kf_X9_205 rfl dX9_commands_63 ?_
    refine a_ic_ge C (tgt := 111) dX9_commands_66 (by decide) hF (fun c66_15 hF => ?_) (fun c66_15 hF => ?_)
    · exact hJ111 x1 q_t_allF q_t_reasonsF q_t_wordF q_t_orderF q_t_rowsF q_t_thrown q_t_changes q_t_result q_t_texted q_t_wordSize q_t_orderMany q_t_here q_t_fault q_t_faultAt q_t_commandMany hF
    refine a_iconst C (v := 5) dX9_commands_69 (by decide) ?_
    refine a_istore_n C [(2, .int 5), (0, .ref t), (1, .int x1)] dX9_commands_70 rfl (by decide) rfl ?_
    refine a_sub C [1, 2, 0] [(0, .ref t), (1, .int x1), (2, .int 5)] rfl ?_
    refine hI71 x1 q_t_allF q_t_wordF q_t_orderF q_t_rowsF q_t_thrown q_t_changes q_t_result q_t_texted q_t_wordSize q_t_orderMany q_t_here q_t_fault q_t_faultAt q_t_commandMany 1000 5 q_t_reasonsF _ hF (fun x2_71_22 q_t_reasonsF_71_23 hF => ?_)
    refine a_aload_n C 0 dX9_commands_96 rfl rfl ?_
    refine a_get C 0 5 iwX9 rfl rfl (by decide) kf_X9_13 rfl dX9_commands_97 ?_
    refine a_iconst C (v := 0) dX9_commands_100 (by decide) ?_
    refine a_bipush C (v := 10) dX9_commands_101 (by decide) ?_
    refine a_iast C 2 1 rfl rfl dX9_commands_103 hF (fun g103_24 eg103_24 hF => ?_)
    refine a_ws C (ws' := wX9 kc ki t t_all t_reasons t_text t_word t_order t_rows t_written q_t_allF g103_24 t_textF q_t_wordF q_t_orderF q_t_rowsF t_writtenF q_t_thrown q_t_changes t_isSaved q_t_result q_t_texted q_t_wordSize q_t_orderMany q_t_here q_t_fault q_t_faultAt q_t_commandMany t_writtenSize) rfl ?_
    refine a_aload_n C 0 dX9_commands_104 rfl rfl ?_
    refine a_get C 0 5 iwX9 rfl rfl (by decide) kf_X9_13 rfl dX9_commands_105 ?_
    refine a_iconst C (v := 1) dX9_commands_108 (by decide) ?_
    refine a_iload_n C 1 dX9_commands_109 rfl rfl ?_
    refine a_iast C 2 1 rfl rfl dX9_commands_110 hF (fun g110_25 eg110_25 hF => ?_)
    refine a_ws C (ws' := wX9 kc ki t t_all t_reasons t_text t_word t_order t_rows t_written q_t_allF g110_25 t_textF q_t_wordF q_t_orderF q_t_rowsF t_writtenF q_t_thrown q_t_changes t_isSaved q_t_result q_t_texted q_t_wordSize q_t_orderMany q_t_here q_t_fault q_t_faultAt q_t_commandMany t_writtenSize) rfl ?_
    exact hJ111 x1 q_t_allF g110_25 q_t_wordF q_t_orderF q_t_rowsF q_t_thrown q_t_changes q_t_result q_t_texted q_t_wordSize q_t_orderMany q_t_here q_t_fault q_t_faultAt q_t_commandMany hF
  unfold f_X9_commands at hF
  refine a_aload_n C 0 dX9_commands_0 rfl rfl ?_
  refine a_callVv C 0 [0, 1, 2, 3, 4, 5, 6, 7] 0 cs_X9_220 hd_X9_parse ⟨rfl, rfl⟩ ⟨Nat.le_of_ble_eq_true rfl, Nat.le_of_ble_eq_true rfl⟩ (fun r h => c_X9_parse l D J kc ki kb kl kd t t_all t_reasons t_text t_word t_order t_rows t_written t_allF t_reasonsF t_textF t_wordF t_orderF t_rowsF t_writtenF t_thrown t_changes t_isSaved t_result t_texted t_wordSize t_orderMany t_here t_fault t_faultAt t_commandMany t_writtenSize r h) rfl rfl rfl (fun _ => rfl) rfl rfl rfl (Nat.le_of_ble_eq_true rfl) dX9_commands_1 ⟨Nat.zero_le _, Nat.zero_le _⟩ hF (fun r1_1 er1_1 hF => ?_)
  refine a_ws C (ws' := wX9 kc ki t t_all t_reasons t_text t_word t_order t_rows t_written t_allF t_reasonsF t_textF t_wordF t_orderF r1_1.1 t_writtenF t_thrown t_changes t_isSaved t_result t_texted t_wordSize t_orderMany r1_1.2.1 r1_1.2.2.1 t_faultAt r1_1.2.2.2 t_writtenSize) rfl ?_
  refine a_aload_n C 0 dX9_commands_4 rfl rfl ?_
  refine a_iconst C (v := 0) dX9_commands_5 (by decide) ?_
  refine a_put C 0 7 iwX9 tyX9_ok nmX9 rfl rfl (by decide) kf_X9_69 rfl rfl rfl (Nat.le_of_ble_eq_true rfl) dX9_commands_6 ?_
  refine a_ws C (ws' := wX9 kc ki t t_all t_reasons t_text t_word t_order t_rows t_written t_allF t_reasonsF t_textF t_wordF t_orderF r1_1.1 t_writtenF t_thrown t_changes t_isSaved t_result 0 t_wordSize t_orderMany r1_1.2.1 r1_1.2.2.1 t_faultAt r1_1.2.2.2 t_writtenSize) rfl ?_
  refine a_aload_n C 0 dX9_commands_9 rfl rfl ?_
  refine a_aload_n C 0 dX9_commands_10 rfl rfl ?_
  refine a_get C 0 13 iwX9 rfl rfl (by decide) kf_X9_199 rfl dX9_commands_11 ?_
  refine a_put C 0 14 iwX9 tyX9_ok nmX9 rfl rfl (by decide) kf_X9_26 rfl rfl rfl (Nat.le_of_ble_eq_true rfl) dX9_commands_14 ?_
  refine a_ws C (ws' := wX9 kc ki t t_all t_reasons t_text t_word t_order t_rows t_written t_allF t_reasonsF t_textF t_wordF t_orderF r1_1.1 t_writtenF t_thrown t_changes t_isSaved t_result 0 t_wordSize t_orderMany r1_1.2.1 r1_1.2.2.1 r1_1.2.2.1 r1_1.2.2.2 t_writtenSize) rfl ?_
  refine a_aload_n C 0 dX9_commands_17 rfl rfl ?_
  refine a_get C 0 13 iwX9 rfl rfl (by decide) kf_X9_199 rfl dX9_commands_18 ?_
  refine a_if_lt C (tgt := 31) dX9_commands_21 (by decide) hF (fun c21_2 hF => ?_) (fun c21_2 hF => ?_)
  · refine a_aload_n C 0 dX9_commands_31 rfl rfl ?_
    refine a_callVv C 0 [0, 1, 2, 3, 4, 5, 6, 7] 0 cs_X9_83 hd_X9_begins ⟨rfl, rfl⟩ ⟨Nat.le_of_ble_eq_true rfl, Nat.le_of_ble_eq_true rfl⟩ (fun r h => c_X9_begins l D J kc ki kb kl kd t t_all t_reasons t_text t_word t_order t_rows t_written t_allF t_reasonsF t_textF t_wordF t_orderF r1_1.1 t_writtenF t_thrown t_changes t_isSaved t_result 0 t_wordSize t_orderMany r1_1.2.1 r1_1.2.2.1 r1_1.2.2.1 r1_1.2.2.2 t_writtenSize r h) rfl rfl rfl (fun _ => rfl) rfl rfl rfl (Nat.le_of_ble_eq_true rfl) dX9_commands_32 ⟨Nat.zero_le _, Nat.zero_le _⟩ hF (fun r32_3 er32_3 hF => ?_)
    refine a_ws C (ws' := wX9 kc ki t t_all t_reasons t_text t_word t_order t_rows t_written r32_3 t_reasonsF t_textF t_wordF t_orderF r1_1.1 t_writtenF t_thrown t_changes t_isSaved t_result 0 t_wordSize t_orderMany r1_1.2.1 r1_1.2.2.1 r1_1.2.2.1 r1_1.2.2.2 t_writtenSize) rfl ?_
    refine a_iconst C (v := 0) dX9_commands_35 (by decide) ?_
    refine a_istore_n C [(1, .int 0), (0, .ref t)] dX9_commands_36 rfl (by decide) rfl ?_
    refine a_sub C [1, 0] [(0, .ref t), (1, .int 0)] rfl ?_
    refine hI37 r1_1.1 t_thrown t_changes 0 r1_1.2.1 r1_1.2.2.1 r1_1.2.2.1 r1_1.2.2.2 1000 0 r32_3 t_reasonsF t_wordF t_orderF t_result t_wordSize t_orderMany _ hF (fun x1_37_7 q_t_allF_37_8 q_t_reasonsF_37_9 q_t_wordF_37_10 q_t_orderF_37_11 q_t_result_37_12 q_t_wordSize_37_13 q_t_orderMany_37_14 hF => ?_)
    exact hJ61 x1_37_7 q_t_allF_37_8 q_t_reasonsF_37_9 q_t_wordF_37_10 q_t_orderF_37_11 r1_1.1 t_thrown t_changes q_t_result_37_12 0 q_t_wordSize_37_13 q_t_orderMany_37_14 r1_1.2.1 r1_1.2.2.1 r1_1.2.2.1 r1_1.2.2.2 hF
  refine a_aload_n C 0 dX9_commands_24 rfl rfl ?_
  refine a_iconst C (v := 1) dX9_commands_25 (by decide) ?_
  refine a_put C 0 0 iwX9 tyX9_ok nmX9 rfl rfl (by decide) kf_X9_36 rfl rfl rfl (Nat.le_of_ble_eq_true rfl) dX9_commands_26 ?_
  refine a_ws C (ws' := wX9 kc ki t t_all t_reasons t_text t_word t_order t_rows t_written t_allF t_reasonsF t_textF t_wordF t_orderF r1_1.1 t_writtenF 1 t_changes t_isSaved t_result 0 t_wordSize t_orderMany r1_1.2.1 r1_1.2.2.1 r1_1.2.2.1 r1_1.2.2.2 t_writtenSize) rfl ?_
  refine a_iconst C (v := 0) dX9_commands_29 (by decide) ?_
  exact a_iret C hr rfl dX9_commands_30 hF rfl rfl
def f_X9_faultPosition (t_faultAt : Int32) : Option (Int32 × Int32) := some (t_faultAt, 0)
theorem hd_X9_faultPosition : yX9_faultPosition.cls = RX9 ∧ yX9_faultPosition.cls ≠ "java/lang/invoke/MethodHandle" ∧ yX9_faultPosition.cls ≠ "java/lang/invoke/VarHandle" ∧ (parseMethodDescriptor yX9_faultPosition.desc).map (fun d => d.parameters.length) = some 0 := by decide +kernel
set_option maxRecDepth 100000 in
set_option maxHeartbeats 4000000 in
theorem c_X9_faultPosition (l : Launch) (D : va_G) (J : (Nat → Nat) × (Nat → Nat)) (kc ki kb kl kd : ClassId) (t : Nat) (t_all : Nat) (t_reasons : Nat) (t_text : Nat) (t_word : Nat) (t_order : Nat) (t_rows : Nat) (t_written : Nat) (t_allF : Nat → Int32) (t_reasonsF : Nat → Int32) (t_textF : Nat → Int32) (t_wordF : Nat → Int32) (t_orderF : Nat → Int32) (t_rowsF : Nat → Int32) (t_writtenF : Nat → Int32) (t_thrown : Int32) (t_changes : Int32) (t_isSaved : Int32) (t_result : Int32) (t_texted : Int32) (t_wordSize : Int32) (t_orderMany : Int32) (t_here : Int32) (t_fault : Int32) (t_faultAt : Int32) (t_commandMany : Int32) (t_writtenSize : Int32) (res : Int32 × Int32) (hF : f_X9_faultPosition t_faultAt = some res) : aKi l yX9_faultPosition (aW yX9_faultPosition cX9_faultPosition 1 ((some .int))) ({ frames := 0, cells := 0, slots := 0, locals := 0 } : Room) D J (aTy kc ki kb kl kd) [.ref t] (wX9 kc ki t t_all t_reasons t_text t_word t_order t_rows t_written t_allF t_reasonsF t_textF t_wordF t_orderF t_rowsF t_writtenF t_thrown t_changes t_isSaved t_result t_texted t_wordSize t_orderMany t_here t_fault t_faultAt t_commandMany t_writtenSize) (fun r => r.1) (fun r => wX9 kc ki t t_all t_reasons t_text t_word t_order t_rows t_written t_allF t_reasonsF t_textF t_wordF t_orderF t_rowsF t_writtenF r.2 t_changes t_isSaved t_result t_texted t_wordSize t_orderMany t_here t_fault t_faultAt t_commandMany t_writtenSize) res := by
  refine aKi_of (own := RX9) (by decide) rfl (Nat.le_of_ble_eq_true rfl) rfl ?_
  intro p e s m args below meth c C hr
  unfold f_X9_faultPosition at hF
  refine a_aload_n C 0 dX9_faultPosition_0 rfl rfl ?_
  refine a_iconst C (v := 0) dX9_faultPosition_1 (by decide) ?_
  refine a_put C 0 0 iwX9 tyX9_ok nmX9 rfl rfl (by decide) kf_X9_36 rfl rfl rfl (Nat.le_of_ble_eq_true rfl) dX9_faultPosition_2 ?_
  refine a_ws C (ws' := wX9 kc ki t t_all t_reasons t_text t_word t_order t_rows t_written t_allF t_reasonsF t_textF t_wordF t_orderF t_rowsF t_writtenF 0 t_changes t_isSaved t_result t_texted t_wordSize t_orderMany t_here t_fault t_faultAt t_commandMany t_writtenSize) rfl ?_
  refine a_aload_n C 0 dX9_faultPosition_5 rfl rfl ?_
  refine a_get C 0 14 iwX9 rfl rfl (by decide) kf_X9_26 rfl dX9_faultPosition_6 ?_
  exact a_iret C hr rfl dX9_faultPosition_9 hF rfl rfl
def f_X9_writes (t_writtenF : Nat → Int32) (t_writtenSize : Int32) (p1 : Int32) : Option ((Nat → Int32) × Int32) := (stc t_writtenF 20 t_writtenSize ((p1.toUInt32 % 65536).toInt32)).bind fun g10_1 => some (g10_1, t_writtenSize + 1)
theorem hd_X9_writes : yX9_writes.cls = RX9 ∧ yX9_writes.cls ≠ "java/lang/invoke/MethodHandle" ∧ yX9_writes.cls ≠ "java/lang/invoke/VarHandle" ∧ (parseMethodDescriptor yX9_writes.desc).map (fun d => d.parameters.length) = some 1 := by decide +kernel
set_option maxRecDepth 100000 in
set_option maxHeartbeats 4000000 in
theorem c_X9_writes (l : Launch) (D : va_G) (J : (Nat → Nat) × (Nat → Nat)) (kc ki kb kl kd : ClassId) (t : Nat) (t_all : Nat) (t_reasons : Nat) (t_text : Nat) (t_word : Nat) (t_order : Nat) (t_rows : Nat) (t_written : Nat) (t_allF : Nat → Int32) (t_reasonsF : Nat → Int32) (t_textF : Nat → Int32) (t_wordF : Nat → Int32) (t_orderF : Nat → Int32) (t_rowsF : Nat → Int32) (t_writtenF : Nat → Int32) (t_thrown : Int32) (t_changes : Int32) (t_isSaved : Int32) (t_result : Int32) (t_texted : Int32) (t_wordSize : Int32) (t_orderMany : Int32) (t_here : Int32) (t_fault : Int32) (t_faultAt : Int32) (t_commandMany : Int32) (t_writtenSize : Int32) (p1 : Int32) (res : (Nat → Int32) × Int32) (hF : f_X9_writes t_writtenF t_writtenSize p1 = some res) : aKv l yX9_writes (aW yX9_writes cX9_writes 2 none) ({ frames := 0, cells := 0, slots := 0, locals := 0 } : Room) D J (aTy kc ki kb kl kd) [.ref t, .int p1] (wX9 kc ki t t_all t_reasons t_text t_word t_order t_rows t_written t_allF t_reasonsF t_textF t_wordF t_orderF t_rowsF t_writtenF t_thrown t_changes t_isSaved t_result t_texted t_wordSize t_orderMany t_here t_fault t_faultAt t_commandMany t_writtenSize) (fun r => wX9 kc ki t t_all t_reasons t_text t_word t_order t_rows t_written t_allF t_reasonsF t_textF t_wordF t_orderF t_rowsF r.1 t_thrown t_changes t_isSaved t_result t_texted t_wordSize t_orderMany t_here t_fault t_faultAt t_commandMany r.2) res := by
  refine aKv_of (own := RX9) (by decide) rfl (Nat.le_of_ble_eq_true rfl) rfl ?_
  intro p e s m args below meth c C hr
  unfold f_X9_writes at hF
  refine a_aload_n C 0 dX9_writes_0 rfl rfl ?_
  refine a_get C 0 17 iwX9 rfl rfl (by decide) kf_X9_33 rfl dX9_writes_1 ?_
  refine a_aload_n C 0 dX9_writes_4 rfl rfl ?_
  refine a_get C 0 18 iwX9 rfl rfl (by decide) kf_X9_226 rfl dX9_writes_5 ?_
  refine a_iload_n C 1 dX9_writes_8 rfl rfl ?_
  refine a_i2c C dX9_writes_9 ?_
  refine a_cast C 7 0 rfl rfl dX9_writes_10 hF (fun g10_1 eg10_1 hF => ?_)
  refine a_ws C (ws' := wX9 kc ki t t_all t_reasons t_text t_word t_order t_rows t_written t_allF t_reasonsF t_textF t_wordF t_orderF t_rowsF g10_1 t_thrown t_changes t_isSaved t_result t_texted t_wordSize t_orderMany t_here t_fault t_faultAt t_commandMany t_writtenSize) rfl ?_
  refine a_aload_n C 0 dX9_writes_11 rfl rfl ?_
  refine a_dup C dX9_writes_12 rfl ?_
  refine a_get C 0 18 iwX9 rfl rfl (by decide) kf_X9_226 rfl dX9_writes_13 ?_
  refine a_iconst C (v := 1) dX9_writes_16 (by decide) ?_
  refine a_iadd C dX9_writes_17 ?_
  refine a_put C 0 18 iwX9 tyX9_ok nmX9 rfl rfl (by decide) kf_X9_226 rfl rfl rfl (Nat.le_of_ble_eq_true rfl) dX9_writes_18 ?_
  refine a_ws C (ws' := wX9 kc ki t t_all t_reasons t_text t_word t_order t_rows t_written t_allF t_reasonsF t_textF t_wordF t_orderF t_rowsF g10_1 t_thrown t_changes t_isSaved t_result t_texted t_wordSize t_orderMany t_here t_fault t_faultAt t_commandMany (t_writtenSize + 1)) rfl ?_
  exact a_vret C hr dX9_writes_21 hF rfl
theorem cs_X9_229 : GoodIn WW (wsV RX9 229 RX9 yX9_writes (aW yX9_writes cX9_writes 2 none)) := gdV kl_X9_229 ki_X9_writes kv_X9_writes kn_X9 kc_X9_writes
def f_X9_write_L87 (q_t_orderF : Nat → Int32) (p1 : Int32) (t_allF : Nat → Int32) : Nat → Int32 → (Nat → Int32) → Int32 → (Int32 → (Nat → Int32) → Int32 → Option (Int32 × (Nat → Int32) × (Nat → Int32) × Int32 × Int32 × Int32)) → Option (Int32 × (Nat → Int32) × (Nat → Int32) × Int32 × Int32 × Int32)
  | 0, _, _, _, _ => none
  | fuel + 1, x2, q_t_writtenF, q_t_writtenSize, k => (ldi q_t_orderF 80 p1).bind fun v94_11 => (f_X9_left t_allF v94_11).bind fun r95_12 => if r95_12 ≤ x2 then (k x2 q_t_writtenF q_t_writtenSize) else ((ldi q_t_orderF 80 p1).bind fun v108_14 => (f_X9_letterOf t_allF v108_14 x2).bind fun r110_15 => (f_X9_writes q_t_writtenF q_t_writtenSize r110_15).bind fun r113_16 => f_X9_write_L87 q_t_orderF p1 t_allF fuel (x2 + 1) r113_16.1 r113_16.2 k)
def f_X9_write_J24 (q_t_orderF : Nat → Int32) (q_t_writtenF : Nat → Int32) (q_t_orderMany : Int32) (q_t_writtenSize : Int32) (y1 : Int32) (p1 : Int32) (t_allF : Nat → Int32) : Option (Int32 × (Nat → Int32) × (Nat → Int32) × Int32 × Int32 × Int32) := if y1 = 0 then ((ldi q_t_orderF 80 p1).bind fun v49_5 => (f_X9_writes q_t_writtenF 0 (48 + (v49_5 / 10))).bind fun r54_6 => (f_X9_writes r54_6.1 r54_6.2 47).bind fun r60_7 => (ldi q_t_orderF 80 p1).bind fun v71_8 => (f_X9_writes r60_7.1 r60_7.2 (48 + (v71_8 - v71_8 / 10 * 10))).bind fun r76_9 => (f_X9_writes r76_9.1 r76_9.2 58).bind fun r82_10 => f_X9_write_L87 q_t_orderF p1 t_allF 1000 0 r82_10.1 r82_10.2 (fun x2_87_17 q_t_writtenF_87_18 q_t_writtenSize_87_19 => some (q_t_writtenSize_87_19, q_t_orderF, q_t_writtenF_87_18, y1, q_t_orderMany, q_t_writtenSize_87_19))) else (some (0, q_t_orderF, q_t_writtenF, y1, q_t_orderMany, q_t_writtenSize))
def f_X9_write (t_allF : Nat → Int32) (t_orderF : Nat → Int32) (t_writtenF : Nat → Int32) (t_writtenSize : Int32) (p1 : Int32) : Option (Int32 × (Nat → Int32) × (Nat → Int32) × Int32 × Int32 × Int32) := (f_X9_orders t_allF t_orderF).bind fun r1_1 => (f_X9_in p1 0 (r1_1.2 - 1)).bind fun r13_2 => if r13_2 = 0 then (f_X9_write_J24 r1_1.1 t_writtenF r1_1.2 t_writtenSize 1 p1 t_allF) else (f_X9_write_J24 r1_1.1 t_writtenF r1_1.2 t_writtenSize 0 p1 t_allF)
theorem hd_X9_write : yX9_write.cls = RX9 ∧ yX9_write.cls ≠ "java/lang/invoke/MethodHandle" ∧ yX9_write.cls ≠ "java/lang/invoke/VarHandle" ∧ (parseMethodDescriptor yX9_write.desc).map (fun d => d.parameters.length) = some 1 := by decide +kernel
set_option maxRecDepth 100000 in
set_option maxHeartbeats 4000000 in
theorem c_X9_write (l : Launch) (D : va_G) (J : (Nat → Nat) × (Nat → Nat)) (kc ki kb kl kd : ClassId) (t : Nat) (t_all : Nat) (t_reasons : Nat) (t_text : Nat) (t_word : Nat) (t_order : Nat) (t_rows : Nat) (t_written : Nat) (t_allF : Nat → Int32) (t_reasonsF : Nat → Int32) (t_textF : Nat → Int32) (t_wordF : Nat → Int32) (t_orderF : Nat → Int32) (t_rowsF : Nat → Int32) (t_writtenF : Nat → Int32) (t_thrown : Int32) (t_changes : Int32) (t_isSaved : Int32) (t_result : Int32) (t_texted : Int32) (t_wordSize : Int32) (t_orderMany : Int32) (t_here : Int32) (t_fault : Int32) (t_faultAt : Int32) (t_commandMany : Int32) (t_writtenSize : Int32) (p1 : Int32) (res : Int32 × (Nat → Int32) × (Nat → Int32) × Int32 × Int32 × Int32) (hF : f_X9_write t_allF t_orderF t_writtenF t_writtenSize p1 = some res) : aKi l yX9_write (aW yX9_write cX9_write 3 ((some .int))) ({ frames := 5, cells := 0, slots := 0, locals := 114 } : Room) D J (aTy kc ki kb kl kd) [.ref t, .int p1] (wX9 kc ki t t_all t_reasons t_text t_word t_order t_rows t_written t_allF t_reasonsF t_textF t_wordF t_orderF t_rowsF t_writtenF t_thrown t_changes t_isSaved t_result t_texted t_wordSize t_orderMany t_here t_fault t_faultAt t_commandMany t_writtenSize) (fun r => r.1) (fun r => wX9 kc ki t t_all t_reasons t_text t_word t_order t_rows t_written t_allF t_reasonsF t_textF t_wordF r.2.1 t_rowsF r.2.2.1 r.2.2.2.1 t_changes t_isSaved t_result t_texted t_wordSize r.2.2.2.2.1 t_here t_fault t_faultAt t_commandMany r.2.2.2.2.2) res := by
  refine aKi_of (own := RX9) (by decide) rfl (Nat.le_of_ble_eq_true rfl) rfl ?_
  intro p e s m args below meth c C hr
  have hI87 : ∀ (q_t_orderF : Nat → Int32) (q_t_thrown : Int32) (q_t_orderMany : Int32) (fuel : Nat) (x2 : Int32) (q_t_writtenF : Nat → Int32) (q_t_writtenSize : Int32) (k : Int32 → (Nat → Int32) → Int32 → Option (Int32 × (Nat → Int32) × (Nat → Int32) × Int32 × Int32 × Int32)), f_X9_write_L87 q_t_orderF p1 t_allF fuel x2 q_t_writtenF q_t_writtenSize k = some res → (∀ (x2 : Int32) (q_t_writtenF : Nat → Int32) (q_t_writtenSize : Int32), k x2 q_t_writtenF q_t_writtenSize = some res → aT p l e ({ frames := 5, cells := 0, slots := 0, locals := 114 } : Room) s m args below meth c (MQ below (aQi D (wX9 kc ki t t_all t_reasons t_text t_word t_order t_rows t_written t_allF t_reasonsF t_textF t_wordF t_orderF t_rowsF t_writtenF t_thrown t_changes t_isSaved t_result t_texted t_wordSize t_orderMany t_here t_fault t_faultAt t_commandMany t_writtenSize) s.heap.size (fun r => r.1) (fun r => wX9 kc ki t t_all t_reasons t_text t_word t_order t_rows t_written t_allF t_reasonsF t_textF t_wordF r.2.1 t_rowsF r.2.2.1 r.2.2.2.1 t_changes t_isSaved t_result t_texted t_wordSize r.2.2.2.2.1 t_here t_fault t_faultAt t_commandMany r.2.2.2.2.2) res) args s 0 0 (va_A (wX9 kc ki t t_all t_reasons t_text t_word t_order t_rows t_written t_allF t_reasonsF t_textF t_wordF t_orderF t_rowsF t_writtenF t_thrown t_changes t_isSaved t_result t_texted t_wordSize t_orderMany t_here t_fault t_faultAt t_commandMany t_writtenSize) s.heap.size)) D (va_A (wX9 kc ki t t_all t_reasons t_text t_word t_order t_rows t_written t_allF t_reasonsF t_textF t_wordF t_orderF t_rowsF t_writtenF t_thrown t_changes t_isSaved t_result t_texted t_wordSize t_orderMany t_here t_fault t_faultAt t_commandMany t_writtenSize) s.heap.size) 3 0 0 122 [(0, .ref t)] [] (wX9 kc ki t t_all t_reasons t_text t_word t_order t_rows t_written t_allF t_reasonsF t_textF t_wordF q_t_orderF t_rowsF q_t_writtenF q_t_thrown t_changes t_isSaved t_result t_texted t_wordSize q_t_orderMany t_here t_fault t_faultAt t_commandMany q_t_writtenSize)) → aT p l e ({ frames := 5, cells := 0, slots := 0, locals := 114 } : Room) s m args below meth c (MQ below (aQi D (wX9 kc ki t t_all t_reasons t_text t_word t_order t_rows t_written t_allF t_reasonsF t_textF t_wordF t_orderF t_rowsF t_writtenF t_thrown t_changes t_isSaved t_result t_texted t_wordSize t_orderMany t_here t_fault t_faultAt t_commandMany t_writtenSize) s.heap.size (fun r => r.1) (fun r => wX9 kc ki t t_all t_reasons t_text t_word t_order t_rows t_written t_allF t_reasonsF t_textF t_wordF r.2.1 t_rowsF r.2.2.1 r.2.2.2.1 t_changes t_isSaved t_result t_texted t_wordSize r.2.2.2.2.1 t_here t_fault t_faultAt t_commandMany r.2.2.2.2.2) res) args s 0 0 (va_A (wX9 kc ki t t_all t_reasons t_text t_word t_order t_rows t_written t_allF t_reasonsF t_textF t_wordF t_orderF t_rowsF t_writtenF t_thrown t_changes t_isSaved t_result t_texted t_wordSize t_orderMany t_here t_fault t_faultAt t_commandMany t_writtenSize) s.heap.size)) D (va_A (wX9 kc ki t t_all t_reasons t_text t_word t_order t_rows t_written t_allF t_reasonsF t_textF t_wordF t_orderF t_rowsF t_writtenF t_thrown t_changes t_isSaved t_result t_texted t_wordSize t_orderMany t_here t_fault t_faultAt t_commandMany t_writtenSize) s.heap.size) 3 0 0 87 [(0, .ref t), (1, .int p1), (2, .int x2)] [] (wX9 kc ki t t_all t_reasons t_text t_word t_order t_rows t_written t_allF t_reasonsF t_textF t_wordF q_t_orderF t_rowsF q_t_writtenF q_t_thrown t_changes t_isSaved t_result t_texted t_wordSize q_t_orderMany t_here t_fault t_faultAt t_commandMany q_t_writtenSize) := by
    intro q_t_orderF q_t_thrown q_t_orderMany fuel
    induction fuel with
    | zero => intro x2 q_t_writtenF q_t_writtenSize k hF hX; exact nomatch hF
    | succ fuel ih =>
      intro x2 q_t_writtenF q_t_writtenSize k hF hX
      rw [f_X9_write_L87] at hF
      refine a_iload_n C 2 dX9_write_87 rfl rfl ?_
      refine a_aload_n C 0 dX9_write_88 rfl rfl ?_
      refine a_aload_n C 0 dX9_write_89 rfl rfl ?_
      refine a_get C 0 10 iwX9 rfl rfl (by decide) kf_X9_23 rfl dX9_write_90 ?_
      refine a_iload_n C 1 dX9_write_93 rfl rfl ?_
      refine a_iald C 5 1 rfl rfl dX9_write_94 hF (fun v94_11 ev94_11 hF => ?_)
      refine a_callVir C 1 [0, 1, 2, 3, 4, 5, 6, 7] 0 cs_X9_132 hd_X9_left ⟨rfl, rfl⟩ ⟨Nat.le_of_ble_eq_true rfl, Nat.le_of_ble_eq_true rfl⟩ (fun r h => c_X9_left l D J kc ki kb kl kd t t_all t_reasons t_text t_word t_order t_rows t_written t_allF t_reasonsF t_textF t_wordF q_t_orderF t_rowsF q_t_writtenF q_t_thrown t_changes t_isSaved t_result t_texted t_wordSize q_t_orderMany t_here t_fault t_faultAt t_commandMany q_t_writtenSize v94_11 r h) rfl rfl rfl rfl rfl rfl (Nat.le_of_ble_eq_true rfl) dX9_write_95 ⟨Nat.zero_le _, Nat.zero_le _⟩ hF (fun r95_12 er95_12 hF => ?_)
      refine a_ic_ge C (tgt := 122) dX9_write_98 (by decide) hF (fun c98_13 hF => ?_) (fun c98_13 hF => ?_)
      · refine a_sub C [0] [(0, .ref t)] rfl ?_
        exact hX x2 q_t_writtenF q_t_writtenSize hF
      refine a_aload_n C 0 dX9_write_101 rfl rfl ?_
      refine a_aload_n C 0 dX9_write_102 rfl rfl ?_
      refine a_aload_n C 0 dX9_write_103 rfl rfl ?_
      refine a_get C 0 10 iwX9 rfl rfl (by decide) kf_X9_23 rfl dX9_write_104 ?_
      refine a_iload_n C 1 dX9_write_107 rfl rfl ?_
      refine a_iald C 5 1 rfl rfl dX9_write_108 hF (fun v108_14 ev108_14 hF => ?_)
      refine a_iload_n C 2 dX9_write_109 rfl rfl ?_
      refine a_callVir C 2 [0, 1, 2, 3, 4, 5, 6, 7] 0 cs_X9_135 hd_X9_letterOf ⟨rfl, rfl⟩ ⟨Nat.le_of_ble_eq_true rfl, Nat.le_of_ble_eq_true rfl⟩ (fun r h => c_X9_letterOf l D J kc ki kb kl kd t t_all t_reasons t_text t_word t_order t_rows t_written t_allF t_reasonsF t_textF t_wordF q_t_orderF t_rowsF q_t_writtenF q_t_thrown t_changes t_isSaved t_result t_texted t_wordSize q_t_orderMany t_here t_fault t_faultAt t_commandMany q_t_writtenSize v108_14 x2 r h) rfl rfl rfl rfl rfl rfl (Nat.le_of_ble_eq_true rfl) dX9_write_110 ⟨Nat.zero_le _, Nat.zero_le _⟩ hF (fun r110_15 er110_15 hF => ?_)
      refine a_callVv C 1 [0, 1, 2, 3, 4, 5, 6, 7] 0 cs_X9_229 hd_X9_writes ⟨rfl, rfl⟩ ⟨Nat.le_of_ble_eq_true rfl, Nat.le_of_ble_eq_true rfl⟩ (fun r h => c_X9_writes l D J kc ki kb kl kd t t_all t_reasons t_text t_word t_order t_rows t_written t_allF t_reasonsF t_textF t_wordF q_t_orderF t_rowsF q_t_writtenF q_t_thrown t_changes t_isSaved t_result t_texted t_wordSize q_t_orderMany t_here t_fault t_faultAt t_commandMany q_t_writtenSize r110_15 r h) rfl rfl rfl (fun _ => rfl) rfl rfl rfl (Nat.le_of_ble_eq_true rfl) dX9_write_113 ⟨Nat.zero_le _, Nat.zero_le _⟩ hF (fun r113_16 er113_16 hF => ?_)
      refine a_ws C (ws' := wX9 kc ki t t_all t_reasons t_text t_word t_order t_rows t_written t_allF t_reasonsF t_textF t_wordF q_t_orderF t_rowsF r113_16.1 q_t_thrown t_changes t_isSaved t_result t_texted t_wordSize q_t_orderMany t_here t_fault t_faultAt t_commandMany r113_16.2) rfl ?_
      refine a_iinc C 2 [(2, .int (x2 + 1)), (0, .ref t), (1, .int p1)] dX9_write_116 rfl rfl (by decide) rfl ?_
      refine a_goto C (tgt := 87) dX9_write_119 (by decide) ?_
      refine a_sub C [1, 2, 0] [(0, .ref t), (1, .int p1), (2, .int (x2 + 1))] rfl ?_
      exact ih (x2 + 1) r113_16.1 r113_16.2 k hF hX
  have hJ24 : ∀ (q_t_orderF : Nat → Int32) (q_t_writtenF : Nat → Int32) (q_t_thrown : Int32) (q_t_orderMany : Int32) (q_t_writtenSize : Int32) (y1 : Int32), f_X9_write_J24 q_t_orderF q_t_writtenF q_t_orderMany q_t_writtenSize y1 p1 t_allF = some res → aT p l e ({ frames := 5, cells := 0, slots := 0, locals := 114 } : Room) s m args below meth c (MQ below (aQi D (wX9 kc ki t t_all t_reasons t_text t_word t_order t_rows t_written t_allF t_reasonsF t_textF t_wordF t_orderF t_rowsF t_writtenF t_thrown t_changes t_isSaved t_result t_texted t_wordSize t_orderMany t_here t_fault t_faultAt t_commandMany t_writtenSize) s.heap.size (fun r => r.1) (fun r => wX9 kc ki t t_all t_reasons t_text t_word t_order t_rows t_written t_allF t_reasonsF t_textF t_wordF r.2.1 t_rowsF r.2.2.1 r.2.2.2.1 t_changes t_isSaved t_result t_texted t_wordSize r.2.2.2.2.1 t_here t_fault t_faultAt t_commandMany r.2.2.2.2.2) res) args s 0 0 (va_A (wX9 kc ki t t_all t_reasons t_text t_word t_order t_rows t_written t_allF t_reasonsF t_textF t_wordF t_orderF t_rowsF t_writtenF t_thrown t_changes t_isSaved t_result t_texted t_wordSize t_orderMany t_here t_fault t_faultAt t_commandMany t_writtenSize) s.heap.size)) D (va_A (wX9 kc ki t t_all t_reasons t_text t_word t_order t_rows t_written t_allF t_reasonsF t_textF t_wordF t_orderF t_rowsF t_writtenF t_thrown t_changes t_isSaved t_result t_texted t_wordSize t_orderMany t_here t_fault t_faultAt t_commandMany t_writtenSize) s.heap.size) 3 0 0 24 [(0, .ref t), (1, .int p1)] [.int y1, .ref t] (wX9 kc ki t t_all t_reasons t_text t_word t_order t_rows t_written t_allF t_reasonsF t_textF t_wordF q_t_orderF t_rowsF q_t_writtenF q_t_thrown t_changes t_isSaved t_result t_texted t_wordSize q_t_orderMany t_here t_fault t_faultAt t_commandMany q_t_writtenSize) := by
    intro q_t_orderF q_t_writtenF q_t_thrown q_t_orderMany q_t_writtenSize y1 hF
    unfold f_X9_write_J24 at hF
    refine a_put C 0 0 iwX9 tyX9_ok nmX9 rfl rfl (by decide) kf_X9_36 rfl rfl rfl (Nat.le_of_ble_eq_true rfl) dX9_write_24 ?_
    refine a_ws C (ws' := wX9 kc ki t t_all t_reasons t_text t_word t_order t_rows t_written t_allF t_reasonsF t_textF t_wordF q_t_orderF t_rowsF q_t_writtenF y1 t_changes t_isSaved t_result t_texted t_wordSize q_t_orderMany t_here t_fault t_faultAt t_commandMany q_t_writtenSize) rfl ?_
    refine a_aload_n C 0 dX9_write_27 rfl rfl ?_
    refine a_get C 0 0 iwX9 rfl rfl (by decide) kf_X9_36 rfl dX9_write_28 ?_
    refine a_if_eq C (tgt := 36) dX9_write_31 (by decide) hF (fun c31_4 hF => ?_) (fun c31_4 hF => ?_)
    · refine a_aload_n C 0 dX9_write_36 rfl rfl ?_
      refine a_iconst C (v := 0) dX9_write_37 (by decide) ?_
      refine a_put C 0 18 iwX9 tyX9_ok nmX9 rfl rfl (by decide) kf_X9_226 rfl rfl rfl (Nat.le_of_ble_eq_true rfl) dX9_write_38 ?_
      refine a_ws C (ws' := wX9 kc ki t t_all t_reasons t_text t_word t_order t_rows t_written t_allF t_reasonsF t_textF t_wordF q_t_orderF t_rowsF q_t_writtenF y1 t_changes t_isSaved t_result t_texted t_wordSize q_t_orderMany t_here t_fault t_faultAt t_commandMany 0) rfl ?_
      refine a_aload_n C 0 dX9_write_41 rfl rfl ?_
      refine a_bipush C (v := 48) dX9_write_42 (by decide) ?_
      refine a_aload_n C 0 dX9_write_44 rfl rfl ?_
      refine a_get C 0 10 iwX9 rfl rfl (by decide) kf_X9_23 rfl dX9_write_45 ?_
      refine a_iload_n C 1 dX9_write_48 rfl rfl ?_
      refine a_iald C 5 1 rfl rfl dX9_write_49 hF (fun v49_5 ev49_5 hF => ?_)
      refine a_bipush C (v := 10) dX9_write_50 (by decide) ?_
      refine a_idiv C dX9_write_52 (by decide) ?_
      refine a_iadd C dX9_write_53 ?_
      refine a_callVv C 1 [0, 1, 2, 3, 4, 5, 6, 7] 0 cs_X9_229 hd_X9_writes ⟨rfl, rfl⟩ ⟨Nat.le_of_ble_eq_true rfl, Nat.le_of_ble_eq_true rfl⟩ (fun r h => c_X9_writes l D J kc ki kb kl kd t t_all t_reasons t_text t_word t_order t_rows t_written t_allF t_reasonsF t_textF t_wordF q_t_orderF t_rowsF q_t_writtenF y1 t_changes t_isSaved t_result t_texted t_wordSize q_t_orderMany t_here t_fault t_faultAt t_commandMany 0 (48 + (v49_5 / 10)) r h) rfl rfl rfl (fun _ => rfl) rfl rfl rfl (Nat.le_of_ble_eq_true rfl) dX9_write_54 ⟨Nat.zero_le _, Nat.zero_le _⟩ hF (fun r54_6 er54_6 hF => ?_)
      refine a_ws C (ws' := wX9 kc ki t t_all t_reasons t_text t_word t_order t_rows t_written t_allF t_reasonsF t_textF t_wordF q_t_orderF t_rowsF r54_6.1 y1 t_changes t_isSaved t_result t_texted t_wordSize q_t_orderMany t_here t_fault t_faultAt t_commandMany r54_6.2) rfl ?_
      refine a_aload_n C 0 dX9_write_57 rfl rfl ?_
      refine a_bipush C (v := 47) dX9_write_58 (by decide) ?_
      refine a_callVv C 1 [0, 1, 2, 3, 4, 5, 6, 7] 0 cs_X9_229 hd_X9_writes ⟨rfl, rfl⟩ ⟨Nat.le_of_ble_eq_true rfl, Nat.le_of_ble_eq_true rfl⟩ (fun r h => c_X9_writes l D J kc ki kb kl kd t t_all t_reasons t_text t_word t_order t_rows t_written t_allF t_reasonsF t_textF t_wordF q_t_orderF t_rowsF r54_6.1 y1 t_changes t_isSaved t_result t_texted t_wordSize q_t_orderMany t_here t_fault t_faultAt t_commandMany r54_6.2 47 r h) rfl rfl rfl (fun _ => rfl) rfl rfl rfl (Nat.le_of_ble_eq_true rfl) dX9_write_60 ⟨Nat.zero_le _, Nat.zero_le _⟩ hF (fun r60_7 er60_7 hF => ?_)
      refine a_ws C (ws' := wX9 kc ki t t_all t_reasons t_text t_word t_order t_rows t_written t_allF t_reasonsF t_textF t_wordF q_t_orderF t_rowsF r60_7.1 y1 t_changes t_isSaved t_result t_texted t_wordSize q_t_orderMany t_here t_fault t_faultAt t_commandMany r60_7.2) rfl ?_
      refine a_aload_n C 0 dX9_write_63 rfl rfl ?_
      refine a_bipush C (v := 48) dX9_write_64 (by decide) ?_
      refine a_aload_n C 0 dX9_write_66 rfl rfl ?_
      refine a_get C 0 10 iwX9 rfl rfl (by decide) kf_X9_23 rfl dX9_write_67 ?_
      refine a_iload_n C 1 dX9_write_70 rfl rfl ?_
      refine a_iald C 5 1 rfl rfl dX9_write_71 hF (fun v71_8 ev71_8 hF => ?_)
      refine a_bipush C (v := 10) dX9_write_72 (by decide) ?_
      refine a_irem C dX9_write_74 (by decide) ?_
      refine a_iadd C dX9_write_75 ?_
      refine a_callVv C 1 [0, 1, 2, 3, 4, 5, 6, 7] 0 cs_X9_229 hd_X9_writes ⟨rfl, rfl⟩ ⟨Nat.le_of_ble_eq_true rfl, Nat.le_of_ble_eq_true rfl⟩ (fun r h => c_X9_writes l D J kc ki kb kl kd t t_all t_reasons t_text t_word t_order t_rows t_written t_allF t_reasonsF t_textF t_wordF q_t_orderF t_rowsF r60_7.1 y1 t_changes t_isSaved t_result t_texted t_wordSize q_t_orderMany t_here t_fault t_faultAt t_commandMany r60_7.2 (48 + (v71_8 - v71_8 / 10 * 10)) r h) rfl rfl rfl (fun _ => rfl) rfl rfl rfl (Nat.le_of_ble_eq_true rfl) dX9_write_76 ⟨Nat.zero_le _, Nat.zero_le _⟩ hF (fun r76_9 er76_9 hF => ?_)
      refine a_ws C (ws' := wX9 kc ki t t_all t_reasons t_text t_word t_order t_rows t_written t_allF t_reasonsF t_textF t_wordF q_t_orderF t_rowsF r76_9.1 y1 t_changes t_isSaved t_result t_texted t_wordSize q_t_orderMany t_here t_fault t_faultAt t_commandMany r76_9.2) rfl ?_
      refine a_aload_n C 0 dX9_write_79 rfl rfl ?_
      refine a_bipush C (v := 58) dX9_write_80 (by decide) ?_
      refine a_callVv C 1 [0, 1, 2, 3, 4, 5, 6, 7] 0 cs_X9_229 hd_X9_writes ⟨rfl, rfl⟩ ⟨Nat.le_of_ble_eq_true rfl, Nat.le_of_ble_eq_true rfl⟩ (fun r h => c_X9_writes l D J kc ki kb kl kd t t_all t_reasons t_text t_word t_order t_rows t_written t_allF t_reasonsF t_textF t_wordF q_t_orderF t_rowsF r76_9.1 y1 t_changes t_isSaved t_result t_texted t_wordSize q_t_orderMany t_here t_fault t_faultAt t_commandMany r76_9.2 58 r h) rfl rfl rfl (fun _ => rfl) rfl rfl rfl (Nat.le_of_ble_eq_true rfl) dX9_write_82 ⟨Nat.zero_le _, Nat.zero_le _⟩ hF (fun r82_10 er82_10 hF => ?_)
      refine a_ws C (ws' := wX9 kc ki t t_all t_reasons t_text t_word t_order t_rows t_written t_allF t_reasonsF t_textF t_wordF q_t_orderF t_rowsF r82_10.1 y1 t_changes t_isSaved t_result t_texted t_wordSize q_t_orderMany t_here t_fault t_faultAt t_commandMany r82_10.2) rfl ?_
      refine a_iconst C (v := 0) dX9_write_85 (by decide) ?_
      refine a_istore_n C [(2, .int 0), (0, .ref t), (1, .int p1)] dX9_write_86 rfl (by decide) rfl ?_
      refine a_sub C [1, 2, 0] [(0, .ref t), (1, .int p1), (2, .int 0)] rfl ?_
      refine hI87 q_t_orderF y1 q_t_orderMany 1000 0 r82_10.1 r82_10.2 _ hF (fun x2_87_17 q_t_writtenF_87_18 q_t_writtenSize_87_19 hF => ?_)
      refine a_aload_n C 0 dX9_write_122 rfl rfl ?_
      refine a_get C 0 18 iwX9 rfl rfl (by decide) kf_X9_226 rfl dX9_write_123 ?_
      exact a_iret C hr rfl dX9_write_126 hF rfl rfl
    refine a_iconst C (v := 0) dX9_write_34 (by decide) ?_
    exact a_iret C hr rfl dX9_write_35 hF rfl rfl
  unfold f_X9_write at hF
  refine a_aload_n C 0 dX9_write_0 rfl rfl ?_
  refine a_callVv C 0 [0, 1, 2, 3, 4, 5, 6, 7] 0 cs_X9_147 hd_X9_orders ⟨rfl, rfl⟩ ⟨Nat.le_of_ble_eq_true rfl, Nat.le_of_ble_eq_true rfl⟩ (fun r h => c_X9_orders l D J kc ki kb kl kd t t_all t_reasons t_text t_word t_order t_rows t_written t_allF t_reasonsF t_textF t_wordF t_orderF t_rowsF t_writtenF t_thrown t_changes t_isSaved t_result t_texted t_wordSize t_orderMany t_here t_fault t_faultAt t_commandMany t_writtenSize r h) rfl rfl rfl (fun _ => rfl) rfl rfl rfl (Nat.le_of_ble_eq_true rfl) dX9_write_1 ⟨Nat.zero_le _, Nat.zero_le _⟩ hF (fun r1_1 er1_1 hF => ?_)
  refine a_ws C (ws' := wX9 kc ki t t_all t_reasons t_text t_word t_order t_rows t_written t_allF t_reasonsF t_textF t_wordF r1_1.1 t_rowsF t_writtenF t_thrown t_changes t_isSaved t_result t_texted t_wordSize r1_1.2 t_here t_fault t_faultAt t_commandMany t_writtenSize) rfl ?_
  refine a_aload_n C 0 dX9_write_4 rfl rfl ?_
  refine a_iload_n C 1 dX9_write_5 rfl rfl ?_
  refine a_iconst C (v := 0) dX9_write_6 (by decide) ?_
  refine a_aload_n C 0 dX9_write_7 rfl rfl ?_
  refine a_get C 0 11 iwX9 rfl rfl (by decide) kf_X9_141 rfl dX9_write_8 ?_
  refine a_iconst C (v := 1) dX9_write_11 (by decide) ?_
  refine a_isub C dX9_write_12 ?_
  refine a_callSir C 3 [] cs_X9_49 hd_X9_in ⟨rfl, rfl⟩ ⟨Nat.le_of_ble_eq_true rfl, Nat.le_of_ble_eq_true rfl⟩ (fun r h => c_X9_in l D J kc ki kb kl kd p1 0 (r1_1.2 - 1) r h) rfl rfl rfl rfl (Nat.le_of_ble_eq_true rfl) dX9_write_13 ⟨Nat.zero_le _, Nat.zero_le _⟩ hF (fun r13_2 er13_2 hF => ?_)
  refine a_if_eq C (tgt := 23) dX9_write_16 (by decide) hF (fun c16_3 hF => ?_) (fun c16_3 hF => ?_)
  · refine a_iconst C (v := 1) dX9_write_23 (by decide) ?_
    exact hJ24 r1_1.1 t_writtenF t_thrown r1_1.2 t_writtenSize 1 hF
  refine a_iconst C (v := 0) dX9_write_19 (by decide) ?_
  refine a_goto C (tgt := 24) dX9_write_20 (by decide) ?_
  exact hJ24 r1_1.1 t_writtenF t_thrown r1_1.2 t_writtenSize 0 hF
def f_X9_writeLongest_L42 (x1 : Int32) (x2 : Int32) (q_t_orderF : Nat → Int32) (t_allF : Nat → Int32) : Nat → Int32 → (Nat → Int32) → Int32 → (Int32 → (Nat → Int32) → Int32 → Option (Int32 × (Nat → Int32) × (Nat → Int32) × Int32 × Int32 × Int32)) → Option (Int32 × (Nat → Int32) × (Nat → Int32) × Int32 × Int32 × Int32)
  | 0, _, _, _, _ => none
  | fuel + 1, x3, q_t_writtenF, q_t_writtenSize, k => if x2 ≤ x3 then (k x3 q_t_writtenF q_t_writtenSize) else ((ldi q_t_orderF 80 x1).bind fun v54_6 => (f_X9_letterOf t_allF v54_6 x3).bind fun r56_7 => (f_X9_writes q_t_writtenF q_t_writtenSize r56_7).bind fun r59_8 => f_X9_writeLongest_L42 x1 x2 q_t_orderF t_allF fuel (x3 + 1) r59_8.1 r59_8.2 k)
def f_X9_writeLongest_J17 (x1 : Int32) (q_t_orderF : Nat → Int32) (q_t_writtenF : Nat → Int32) (q_t_orderMany : Int32) (q_t_writtenSize : Int32) (y1 : Int32) (t_allF : Nat → Int32) : Option (Int32 × (Nat → Int32) × (Nat → Int32) × Int32 × Int32 × Int32) := if y1 = 0 then ((f_X9_commons t_allF q_t_orderF 0).bind fun r31_4 => f_X9_writeLongest_L42 x1 r31_4.1 r31_4.2.1 t_allF 1000 0 q_t_writtenF 0 (fun x3_42_9 q_t_writtenF_42_10 q_t_writtenSize_42_11 => some (r31_4.1, r31_4.2.1, q_t_writtenF_42_10, y1, r31_4.2.2, q_t_writtenSize_42_11))) else (some (0, q_t_orderF, q_t_writtenF, y1, q_t_orderMany, q_t_writtenSize))
def f_X9_writeLongest (t_allF : Nat → Int32) (t_orderF : Nat → Int32) (t_writtenF : Nat → Int32) (t_writtenSize : Int32) : Option (Int32 × (Nat → Int32) × (Nat → Int32) × Int32 × Int32 × Int32) := (f_X9_commons t_allF t_orderF 1).bind fun r2_1 => if ¬ r2_1.1 = ((-1)) then (f_X9_writeLongest_J17 r2_1.1 r2_1.2.1 t_writtenF r2_1.2.2 t_writtenSize 0 t_allF) else (f_X9_writeLongest_J17 r2_1.1 r2_1.2.1 t_writtenF r2_1.2.2 t_writtenSize 1 t_allF)
theorem hd_X9_writeLongest : yX9_writeLongest.cls = RX9 ∧ yX9_writeLongest.cls ≠ "java/lang/invoke/MethodHandle" ∧ yX9_writeLongest.cls ≠ "java/lang/invoke/VarHandle" ∧ (parseMethodDescriptor yX9_writeLongest.desc).map (fun d => d.parameters.length) = some 0 := by decide +kernel
set_option maxRecDepth 100000 in
set_option maxHeartbeats 4000000 in
theorem c_X9_writeLongest (l : Launch) (D : va_G) (J : (Nat → Nat) × (Nat → Nat)) (kc ki kb kl kd : ClassId) (t : Nat) (t_all : Nat) (t_reasons : Nat) (t_text : Nat) (t_word : Nat) (t_order : Nat) (t_rows : Nat) (t_written : Nat) (t_allF : Nat → Int32) (t_reasonsF : Nat → Int32) (t_textF : Nat → Int32) (t_wordF : Nat → Int32) (t_orderF : Nat → Int32) (t_rowsF : Nat → Int32) (t_writtenF : Nat → Int32) (t_thrown : Int32) (t_changes : Int32) (t_isSaved : Int32) (t_result : Int32) (t_texted : Int32) (t_wordSize : Int32) (t_orderMany : Int32) (t_here : Int32) (t_fault : Int32) (t_faultAt : Int32) (t_commandMany : Int32) (t_writtenSize : Int32) (res : Int32 × (Nat → Int32) × (Nat → Int32) × Int32 × Int32 × Int32) (hF : f_X9_writeLongest t_allF t_orderF t_writtenF t_writtenSize = some res) : aKi l yX9_writeLongest (aW yX9_writeLongest cX9_writeLongest 4 ((some .int))) ({ frames := 6, cells := 0, slots := 0, locals := 141 } : Room) D J (aTy kc ki kb kl kd) [.ref t] (wX9 kc ki t t_all t_reasons t_text t_word t_order t_rows t_written t_allF t_reasonsF t_textF t_wordF t_orderF t_rowsF t_writtenF t_thrown t_changes t_isSaved t_result t_texted t_wordSize t_orderMany t_here t_fault t_faultAt t_commandMany t_writtenSize) (fun r => r.1) (fun r => wX9 kc ki t t_all t_reasons t_text t_word t_order t_rows t_written t_allF t_reasonsF t_textF t_wordF r.2.1 t_rowsF r.2.2.1 r.2.2.2.1 t_changes t_isSaved t_result t_texted t_wordSize r.2.2.2.2.1 t_here t_fault t_faultAt t_commandMany r.2.2.2.2.2) res := by
  refine aKi_of (own := RX9) (by decide) rfl (Nat.le_of_ble_eq_true rfl) rfl ?_
  intro p e s m args below meth c C hr
  have hI42 : ∀ (x1 : Int32) (x2 : Int32) (q_t_orderF : Nat → Int32) (q_t_thrown : Int32) (q_t_orderMany : Int32) (fuel : Nat) (x3 : Int32) (q_t_writtenF : Nat → Int32) (q_t_writtenSize : Int32) (k : Int32 → (Nat → Int32) → Int32 → Option (Int32 × (Nat → Int32) × (Nat → Int32) × Int32 × Int32 × Int32)), f_X9_writeLongest_L42 x1 x2 q_t_orderF t_allF fuel x3 q_t_writtenF q_t_writtenSize k = some res → (∀ (x3 : Int32) (q_t_writtenF : Nat → Int32) (q_t_writtenSize : Int32), k x3 q_t_writtenF q_t_writtenSize = some res → aT p l e ({ frames := 6, cells := 0, slots := 0, locals := 141 } : Room) s m args below meth c (MQ below (aQi D (wX9 kc ki t t_all t_reasons t_text t_word t_order t_rows t_written t_allF t_reasonsF t_textF t_wordF t_orderF t_rowsF t_writtenF t_thrown t_changes t_isSaved t_result t_texted t_wordSize t_orderMany t_here t_fault t_faultAt t_commandMany t_writtenSize) s.heap.size (fun r => r.1) (fun r => wX9 kc ki t t_all t_reasons t_text t_word t_order t_rows t_written t_allF t_reasonsF t_textF t_wordF r.2.1 t_rowsF r.2.2.1 r.2.2.2.1 t_changes t_isSaved t_result t_texted t_wordSize r.2.2.2.2.1 t_here t_fault t_faultAt t_commandMany r.2.2.2.2.2) res) args s 0 0 (va_A (wX9 kc ki t t_all t_reasons t_text t_word t_order t_rows t_written t_allF t_reasonsF t_textF t_wordF t_orderF t_rowsF t_writtenF t_thrown t_changes t_isSaved t_result t_texted t_wordSize t_orderMany t_here t_fault t_faultAt t_commandMany t_writtenSize) s.heap.size)) D (va_A (wX9 kc ki t t_all t_reasons t_text t_word t_order t_rows t_written t_allF t_reasonsF t_textF t_wordF t_orderF t_rowsF t_writtenF t_thrown t_changes t_isSaved t_result t_texted t_wordSize t_orderMany t_here t_fault t_faultAt t_commandMany t_writtenSize) s.heap.size) 4 0 0 68 [(2, .int x2)] [] (wX9 kc ki t t_all t_reasons t_text t_word t_order t_rows t_written t_allF t_reasonsF t_textF t_wordF q_t_orderF t_rowsF q_t_writtenF q_t_thrown t_changes t_isSaved t_result t_texted t_wordSize q_t_orderMany t_here t_fault t_faultAt t_commandMany q_t_writtenSize)) → aT p l e ({ frames := 6, cells := 0, slots := 0, locals := 141 } : Room) s m args below meth c (MQ below (aQi D (wX9 kc ki t t_all t_reasons t_text t_word t_order t_rows t_written t_allF t_reasonsF t_textF t_wordF t_orderF t_rowsF t_writtenF t_thrown t_changes t_isSaved t_result t_texted t_wordSize t_orderMany t_here t_fault t_faultAt t_commandMany t_writtenSize) s.heap.size (fun r => r.1) (fun r => wX9 kc ki t t_all t_reasons t_text t_word t_order t_rows t_written t_allF t_reasonsF t_textF t_wordF r.2.1 t_rowsF r.2.2.1 r.2.2.2.1 t_changes t_isSaved t_result t_texted t_wordSize r.2.2.2.2.1 t_here t_fault t_faultAt t_commandMany r.2.2.2.2.2) res) args s 0 0 (va_A (wX9 kc ki t t_all t_reasons t_text t_word t_order t_rows t_written t_allF t_reasonsF t_textF t_wordF t_orderF t_rowsF t_writtenF t_thrown t_changes t_isSaved t_result t_texted t_wordSize t_orderMany t_here t_fault t_faultAt t_commandMany t_writtenSize) s.heap.size)) D (va_A (wX9 kc ki t t_all t_reasons t_text t_word t_order t_rows t_written t_allF t_reasonsF t_textF t_wordF t_orderF t_rowsF t_writtenF t_thrown t_changes t_isSaved t_result t_texted t_wordSize t_orderMany t_here t_fault t_faultAt t_commandMany t_writtenSize) s.heap.size) 4 0 0 42 [(0, .ref t), (1, .int x1), (2, .int x2), (3, .int x3)] [] (wX9 kc ki t t_all t_reasons t_text t_word t_order t_rows t_written t_allF t_reasonsF t_textF t_wordF q_t_orderF t_rowsF q_t_writtenF q_t_thrown t_changes t_isSaved t_result t_texted t_wordSize q_t_orderMany t_here t_fault t_faultAt t_commandMany q_t_writtenSize) := by
    intro x1 x2 q_t_orderF q_t_thrown q_t_orderMany fuel
    induction fuel with
    | zero => intro x3 q_t_writtenF q_t_writtenSize k hF hX; exact nomatch hF
    | succ fuel ih =>
      intro x3 q_t_writtenF q_t_writtenSize k hF hX
      rw [f_X9_writeLongest_L42] at hF
      refine a_iload_n C 3 dX9_writeLongest_42 rfl rfl ?_
      refine a_iload_n C 2 dX9_writeLongest_43 rfl rfl ?_
      refine a_ic_ge C (tgt := 68) dX9_writeLongest_44 (by decide) hF (fun c44_5 hF => ?_) (fun c44_5 hF => ?_)
      · refine a_sub C [2] [(2, .int x2)] rfl ?_
        exact hX x3 q_t_writtenF q_t_writtenSize hF
      refine a_aload_n C 0 dX9_writeLongest_47 rfl rfl ?_
      refine a_aload_n C 0 dX9_writeLongest_48 rfl rfl ?_
      refine a_aload_n C 0 dX9_writeLongest_49 rfl rfl ?_
      refine a_get C 0 10 iwX9 rfl rfl (by decide) kf_X9_23 rfl dX9_writeLongest_50 ?_
      refine a_iload_n C 1 dX9_writeLongest_53 rfl rfl ?_
      refine a_iald C 5 1 rfl rfl dX9_writeLongest_54 hF (fun v54_6 ev54_6 hF => ?_)
      refine a_iload_n C 3 dX9_writeLongest_55 rfl rfl ?_
      refine a_callVir C 2 [0, 1, 2, 3, 4, 5, 6, 7] 0 cs_X9_135 hd_X9_letterOf ⟨rfl, rfl⟩ ⟨Nat.le_of_ble_eq_true rfl, Nat.le_of_ble_eq_true rfl⟩ (fun r h => c_X9_letterOf l D J kc ki kb kl kd t t_all t_reasons t_text t_word t_order t_rows t_written t_allF t_reasonsF t_textF t_wordF q_t_orderF t_rowsF q_t_writtenF q_t_thrown t_changes t_isSaved t_result t_texted t_wordSize q_t_orderMany t_here t_fault t_faultAt t_commandMany q_t_writtenSize v54_6 x3 r h) rfl rfl rfl rfl rfl rfl (Nat.le_of_ble_eq_true rfl) dX9_writeLongest_56 ⟨Nat.zero_le _, Nat.zero_le _⟩ hF (fun r56_7 er56_7 hF => ?_)
      refine a_callVv C 1 [0, 1, 2, 3, 4, 5, 6, 7] 0 cs_X9_229 hd_X9_writes ⟨rfl, rfl⟩ ⟨Nat.le_of_ble_eq_true rfl, Nat.le_of_ble_eq_true rfl⟩ (fun r h => c_X9_writes l D J kc ki kb kl kd t t_all t_reasons t_text t_word t_order t_rows t_written t_allF t_reasonsF t_textF t_wordF q_t_orderF t_rowsF q_t_writtenF q_t_thrown t_changes t_isSaved t_result t_texted t_wordSize q_t_orderMany t_here t_fault t_faultAt t_commandMany q_t_writtenSize r56_7 r h) rfl rfl rfl (fun _ => rfl) rfl rfl rfl (Nat.le_of_ble_eq_true rfl) dX9_writeLongest_59 ⟨Nat.zero_le _, Nat.zero_le _⟩ hF (fun r59_8 er59_8 hF => ?_)
      refine a_ws C (ws' := wX9 kc ki t t_all t_reasons t_text t_word t_order t_rows t_written t_allF t_reasonsF t_textF t_wordF q_t_orderF t_rowsF r59_8.1 q_t_thrown t_changes t_isSaved t_result t_texted t_wordSize q_t_orderMany t_here t_fault t_faultAt t_commandMany r59_8.2) rfl ?_
      refine a_iinc C 3 [(3, .int (x3 + 1)), (0, .ref t), (1, .int x1), (2, .int x2)] dX9_writeLongest_62 rfl rfl (by decide) rfl ?_
      refine a_goto C (tgt := 42) dX9_writeLongest_65 (by decide) ?_
      refine a_sub C [1, 2, 3, 0] [(0, .ref t), (1, .int x1), (2, .int x2), (3, .int (x3 + 1))] rfl ?_
      exact ih (x3 + 1) r59_8.1 r59_8.2 k hF hX
  have hJ17 : ∀ (x1 : Int32) (q_t_orderF : Nat → Int32) (q_t_writtenF : Nat → Int32) (q_t_thrown : Int32) (q_t_orderMany : Int32) (q_t_writtenSize : Int32) (y1 : Int32), f_X9_writeLongest_J17 x1 q_t_orderF q_t_writtenF q_t_orderMany q_t_writtenSize y1 t_allF = some res → aT p l e ({ frames := 6, cells := 0, slots := 0, locals := 141 } : Room) s m args below meth c (MQ below (aQi D (wX9 kc ki t t_all t_reasons t_text t_word t_order t_rows t_written t_allF t_reasonsF t_textF t_wordF t_orderF t_rowsF t_writtenF t_thrown t_changes t_isSaved t_result t_texted t_wordSize t_orderMany t_here t_fault t_faultAt t_commandMany t_writtenSize) s.heap.size (fun r => r.1) (fun r => wX9 kc ki t t_all t_reasons t_text t_word t_order t_rows t_written t_allF t_reasonsF t_textF t_wordF r.2.1 t_rowsF r.2.2.1 r.2.2.2.1 t_changes t_isSaved t_result t_texted t_wordSize r.2.2.2.2.1 t_here t_fault t_faultAt t_commandMany r.2.2.2.2.2) res) args s 0 0 (va_A (wX9 kc ki t t_all t_reasons t_text t_word t_order t_rows t_written t_allF t_reasonsF t_textF t_wordF t_orderF t_rowsF t_writtenF t_thrown t_changes t_isSaved t_result t_texted t_wordSize t_orderMany t_here t_fault t_faultAt t_commandMany t_writtenSize) s.heap.size)) D (va_A (wX9 kc ki t t_all t_reasons t_text t_word t_order t_rows t_written t_allF t_reasonsF t_textF t_wordF t_orderF t_rowsF t_writtenF t_thrown t_changes t_isSaved t_result t_texted t_wordSize t_orderMany t_here t_fault t_faultAt t_commandMany t_writtenSize) s.heap.size) 4 0 0 17 [(0, .ref t), (1, .int x1)] [.int y1, .ref t] (wX9 kc ki t t_all t_reasons t_text t_word t_order t_rows t_written t_allF t_reasonsF t_textF t_wordF q_t_orderF t_rowsF q_t_writtenF q_t_thrown t_changes t_isSaved t_result t_texted t_wordSize q_t_orderMany t_here t_fault t_faultAt t_commandMany q_t_writtenSize) := by
    intro x1 q_t_orderF q_t_writtenF q_t_thrown q_t_orderMany q_t_writtenSize y1 hF
    unfold f_X9_writeLongest_J17 at hF
    refine a_put C 0 0 iwX9 tyX9_ok nmX9 rfl rfl (by decide) kf_X9_36 rfl rfl rfl (Nat.le_of_ble_eq_true rfl) dX9_writeLongest_17 ?_
    refine a_ws C (ws' := wX9 kc ki t t_all t_reasons t_text t_word t_order t_rows t_written t_allF t_reasonsF t_textF t_wordF q_t_orderF t_rowsF q_t_writtenF y1 t_changes t_isSaved t_result t_texted t_wordSize q_t_orderMany t_here t_fault t_faultAt t_commandMany q_t_writtenSize) rfl ?_
    refine a_aload_n C 0 dX9_writeLongest_20 rfl rfl ?_
    refine a_get C 0 0 iwX9 rfl rfl (by decide) kf_X9_36 rfl dX9_writeLongest_21 ?_
    refine a_if_eq C (tgt := 29) dX9_writeLongest_24 (by decide) hF (fun c24_3 hF => ?_) (fun c24_3 hF => ?_)
    · refine a_aload_n C 0 dX9_writeLongest_29 rfl rfl ?_
      refine a_iconst C (v := 0) dX9_writeLongest_30 (by decide) ?_
      refine a_callVi C 1 [0, 1, 2, 3, 4, 5, 6, 7] 0 cs_X9_171 hd_X9_commons ⟨rfl, rfl⟩ ⟨Nat.le_of_ble_eq_true rfl, Nat.le_of_ble_eq_true rfl⟩ (fun r h => c_X9_commons l D J kc ki kb kl kd t t_all t_reasons t_text t_word t_order t_rows t_written t_allF t_reasonsF t_textF t_wordF q_t_orderF t_rowsF q_t_writtenF y1 t_changes t_isSaved t_result t_texted t_wordSize q_t_orderMany t_here t_fault t_faultAt t_commandMany q_t_writtenSize 0 r h) rfl rfl rfl (fun _ => rfl) rfl rfl rfl (Nat.le_of_ble_eq_true rfl) dX9_writeLongest_31 ⟨Nat.zero_le _, Nat.zero_le _⟩ hF (fun r31_4 er31_4 hF => ?_)
      refine a_ws C (ws' := wX9 kc ki t t_all t_reasons t_text t_word t_order t_rows t_written t_allF t_reasonsF t_textF t_wordF r31_4.2.1 t_rowsF q_t_writtenF y1 t_changes t_isSaved t_result t_texted t_wordSize r31_4.2.2 t_here t_fault t_faultAt t_commandMany q_t_writtenSize) rfl ?_
      refine a_istore_n C [(2, .int r31_4.1), (0, .ref t), (1, .int x1)] dX9_writeLongest_34 rfl (by decide) rfl ?_
      refine a_aload_n C 1 dX9_writeLongest_35 rfl rfl ?_
      refine a_iconst C (v := 0) dX9_writeLongest_36 (by decide) ?_
      refine a_put C 0 18 iwX9 tyX9_ok nmX9 rfl rfl (by decide) kf_X9_226 rfl rfl rfl (Nat.le_of_ble_eq_true rfl) dX9_writeLongest_37 ?_
      refine a_ws C (ws' := wX9 kc ki t t_all t_reasons t_text t_word t_order t_rows t_written t_allF t_reasonsF t_textF t_wordF r31_4.2.1 t_rowsF q_t_writtenF y1 t_changes t_isSaved t_result t_texted t_wordSize r31_4.2.2 t_here t_fault t_faultAt t_commandMany 0) rfl ?_
      refine a_iconst C (v := 0) dX9_writeLongest_40 (by decide) ?_
      refine a_istore_n C [(3, .int 0), (2, .int r31_4.1), (0, .ref t), (1, .int x1)] dX9_writeLongest_41 rfl (by decide) rfl ?_
      refine a_sub C [2, 3, 1, 0] [(0, .ref t), (1, .int x1), (2, .int r31_4.1), (3, .int 0)] rfl ?_
      refine hI42 x1 r31_4.1 r31_4.2.1 y1 r31_4.2.2 1000 0 q_t_writtenF 0 _ hF (fun x3_42_9 q_t_writtenF_42_10 q_t_writtenSize_42_11 hF => ?_)
      refine a_iload_n C 0 dX9_writeLongest_68 rfl rfl ?_
      exact a_iret C hr rfl dX9_writeLongest_69 hF rfl rfl
    refine a_iconst C (v := 0) dX9_writeLongest_27 (by decide) ?_
    exact a_iret C hr rfl dX9_writeLongest_28 hF rfl rfl
  unfold f_X9_writeLongest at hF
  refine a_aload_n C 0 dX9_writeLongest_0 rfl rfl ?_
  refine a_iconst C (v := 1) dX9_writeLongest_1 (by decide) ?_
  refine a_callVi C 1 [0, 1, 2, 3, 4, 5, 6, 7] 0 cs_X9_171 hd_X9_commons ⟨rfl, rfl⟩ ⟨Nat.le_of_ble_eq_true rfl, Nat.le_of_ble_eq_true rfl⟩ (fun r h => c_X9_commons l D J kc ki kb kl kd t t_all t_reasons t_text t_word t_order t_rows t_written t_allF t_reasonsF t_textF t_wordF t_orderF t_rowsF t_writtenF t_thrown t_changes t_isSaved t_result t_texted t_wordSize t_orderMany t_here t_fault t_faultAt t_commandMany t_writtenSize 1 r h) rfl rfl rfl (fun _ => rfl) rfl rfl rfl (Nat.le_of_ble_eq_true rfl) dX9_writeLongest_2 ⟨Nat.zero_le _, Nat.zero_le _⟩ hF (fun r2_1 er2_1 hF => ?_)
  refine a_ws C (ws' := wX9 kc ki t t_all t_reasons t_text t_word t_order t_rows t_written t_allF t_reasonsF t_textF t_wordF r2_1.2.1 t_rowsF t_writtenF t_thrown t_changes t_isSaved t_result t_texted t_wordSize r2_1.2.2 t_here t_fault t_faultAt t_commandMany t_writtenSize) rfl ?_
  refine a_istore_n C [(1, .int r2_1.1), (0, .ref t)] dX9_writeLongest_5 rfl (by decide) rfl ?_
  refine a_aload_n C 1 dX9_writeLongest_6 rfl rfl ?_
  refine a_iload_n C 0 dX9_writeLongest_7 rfl rfl ?_
  refine a_iconst C (v := (-1)) dX9_writeLongest_8 (by decide) ?_
  refine a_ic_ne C (tgt := 16) dX9_writeLongest_9 (by decide) hF (fun c9_2 hF => ?_) (fun c9_2 hF => ?_)
  · refine a_iconst C (v := 0) dX9_writeLongest_16 (by decide) ?_
    refine a_sub C [1, 0] [(0, .ref t), (1, .int r2_1.1)] rfl ?_
    exact hJ17 r2_1.1 r2_1.2.1 t_writtenF t_thrown r2_1.2.2 t_writtenSize 0 hF
  refine a_iconst C (v := 1) dX9_writeLongest_12 (by decide) ?_
  refine a_goto C (tgt := 17) dX9_writeLongest_13 (by decide) ?_
  refine a_sub C [1, 0] [(0, .ref t), (1, .int r2_1.1)] rfl ?_
  exact hJ17 r2_1.1 r2_1.2.1 t_writtenF t_thrown r2_1.2.2 t_writtenSize 1 hF
def f_X9_character_J20 (y1 : Int32) (p1 : Int32) (t_writtenF : Nat → Int32) : Option (Int32 × Int32) := if ¬ y1 = 0 then (some (0, y1)) else ((ldc t_writtenF 20 p1).bind fun v35_4 => (rc v35_4).bind fun _ => some (v35_4, y1))
def f_X9_character (t_writtenF : Nat → Int32) (t_writtenSize : Int32) (p1 : Int32) : Option (Int32 × Int32) := (f_X9_in p1 0 (t_writtenSize - 1)).bind fun r9_1 => if r9_1 = 0 then (f_X9_character_J20 1 p1 t_writtenF) else (f_X9_character_J20 0 p1 t_writtenF)
theorem hd_X9_character : yX9_character.cls = RX9 ∧ yX9_character.cls ≠ "java/lang/invoke/MethodHandle" ∧ yX9_character.cls ≠ "java/lang/invoke/VarHandle" ∧ (parseMethodDescriptor yX9_character.desc).map (fun d => d.parameters.length) = some 1 := by decide +kernel
set_option maxRecDepth 100000 in
set_option maxHeartbeats 4000000 in
theorem c_X9_character (l : Launch) (D : va_G) (J : (Nat → Nat) × (Nat → Nat)) (kc ki kb kl kd : ClassId) (t : Nat) (t_all : Nat) (t_reasons : Nat) (t_text : Nat) (t_word : Nat) (t_order : Nat) (t_rows : Nat) (t_written : Nat) (t_allF : Nat → Int32) (t_reasonsF : Nat → Int32) (t_textF : Nat → Int32) (t_wordF : Nat → Int32) (t_orderF : Nat → Int32) (t_rowsF : Nat → Int32) (t_writtenF : Nat → Int32) (t_thrown : Int32) (t_changes : Int32) (t_isSaved : Int32) (t_result : Int32) (t_texted : Int32) (t_wordSize : Int32) (t_orderMany : Int32) (t_here : Int32) (t_fault : Int32) (t_faultAt : Int32) (t_commandMany : Int32) (t_writtenSize : Int32) (p1 : Int32) (res : Int32 × Int32) (hF : f_X9_character t_writtenF t_writtenSize p1 = some res) : aKi l yX9_character (aW yX9_character cX9_character 2 ((some .char))) ({ frames := 1, cells := 0, slots := 0, locals := 22 } : Room) D J (aTy kc ki kb kl kd) [.ref t, .int p1] (wX9 kc ki t t_all t_reasons t_text t_word t_order t_rows t_written t_allF t_reasonsF t_textF t_wordF t_orderF t_rowsF t_writtenF t_thrown t_changes t_isSaved t_result t_texted t_wordSize t_orderMany t_here t_fault t_faultAt t_commandMany t_writtenSize) (fun r => r.1) (fun r => wX9 kc ki t t_all t_reasons t_text t_word t_order t_rows t_written t_allF t_reasonsF t_textF t_wordF t_orderF t_rowsF t_writtenF r.2 t_changes t_isSaved t_result t_texted t_wordSize t_orderMany t_here t_fault t_faultAt t_commandMany t_writtenSize) res := by
  refine aKi_of (own := RX9) (by decide) rfl (Nat.le_of_ble_eq_true rfl) rfl ?_
  intro p e s m args below meth c C hr
  have hJ20 : ∀ (q_t_thrown : Int32) (y1 : Int32), f_X9_character_J20 y1 p1 t_writtenF = some res → aT p l e ({ frames := 1, cells := 0, slots := 0, locals := 22 } : Room) s m args below meth c (MQ below (aQi D (wX9 kc ki t t_all t_reasons t_text t_word t_order t_rows t_written t_allF t_reasonsF t_textF t_wordF t_orderF t_rowsF t_writtenF t_thrown t_changes t_isSaved t_result t_texted t_wordSize t_orderMany t_here t_fault t_faultAt t_commandMany t_writtenSize) s.heap.size (fun r => r.1) (fun r => wX9 kc ki t t_all t_reasons t_text t_word t_order t_rows t_written t_allF t_reasonsF t_textF t_wordF t_orderF t_rowsF t_writtenF r.2 t_changes t_isSaved t_result t_texted t_wordSize t_orderMany t_here t_fault t_faultAt t_commandMany t_writtenSize) res) args s 0 0 (va_A (wX9 kc ki t t_all t_reasons t_text t_word t_order t_rows t_written t_allF t_reasonsF t_textF t_wordF t_orderF t_rowsF t_writtenF t_thrown t_changes t_isSaved t_result t_texted t_wordSize t_orderMany t_here t_fault t_faultAt t_commandMany t_writtenSize) s.heap.size)) D (va_A (wX9 kc ki t t_all t_reasons t_text t_word t_order t_rows t_written t_allF t_reasonsF t_textF t_wordF t_orderF t_rowsF t_writtenF t_thrown t_changes t_isSaved t_result t_texted t_wordSize t_orderMany t_here t_fault t_faultAt t_commandMany t_writtenSize) s.heap.size) 2 0 0 20 [(0, .ref t), (1, .int p1)] [.int y1, .ref t] (wX9 kc ki t t_all t_reasons t_text t_word t_order t_rows t_written t_allF t_reasonsF t_textF t_wordF t_orderF t_rowsF t_writtenF q_t_thrown t_changes t_isSaved t_result t_texted t_wordSize t_orderMany t_here t_fault t_faultAt t_commandMany t_writtenSize) := by
    intro q_t_thrown y1 hF
    unfold f_X9_character_J20 at hF
    refine a_put C 0 0 iwX9 tyX9_ok nmX9 rfl rfl (by decide) kf_X9_36 rfl rfl rfl (Nat.le_of_ble_eq_true rfl) dX9_character_20 ?_
    refine a_ws C (ws' := wX9 kc ki t t_all t_reasons t_text t_word t_order t_rows t_written t_allF t_reasonsF t_textF t_wordF t_orderF t_rowsF t_writtenF y1 t_changes t_isSaved t_result t_texted t_wordSize t_orderMany t_here t_fault t_faultAt t_commandMany t_writtenSize) rfl ?_
    refine a_aload_n C 0 dX9_character_23 rfl rfl ?_
    refine a_get C 0 0 iwX9 rfl rfl (by decide) kf_X9_36 rfl dX9_character_24 ?_
    refine a_if_ne C (tgt := 39) dX9_character_27 (by decide) hF (fun c27_3 hF => ?_) (fun c27_3 hF => ?_)
    · refine a_iconst C (v := 0) dX9_character_39 (by decide) ?_
      exact a_iret C hr rfl dX9_character_40 hF rfl rfl
    refine a_aload_n C 0 dX9_character_30 rfl rfl ?_
    refine a_get C 0 17 iwX9 rfl rfl (by decide) kf_X9_33 rfl dX9_character_31 ?_
    refine a_iload_n C 1 dX9_character_34 rfl rfl ?_
    refine a_cald C 7 0 rfl rfl dX9_character_35 hF (fun v35_4 ev35_4 hF => ?_)
    refine a_goto C (tgt := 40) dX9_character_36 (by decide) ?_
    refine a_rc hF (fun n40_5 hF => ?_)
    exact a_iret C hr n40_5 dX9_character_40 hF rfl rfl
  unfold f_X9_character at hF
  refine a_aload_n C 0 dX9_character_0 rfl rfl ?_
  refine a_iload_n C 1 dX9_character_1 rfl rfl ?_
  refine a_iconst C (v := 0) dX9_character_2 (by decide) ?_
  refine a_aload_n C 0 dX9_character_3 rfl rfl ?_
  refine a_get C 0 18 iwX9 rfl rfl (by decide) kf_X9_226 rfl dX9_character_4 ?_
  refine a_iconst C (v := 1) dX9_character_7 (by decide) ?_
  refine a_isub C dX9_character_8 ?_
  refine a_callSir C 3 [] cs_X9_49 hd_X9_in ⟨rfl, rfl⟩ ⟨Nat.le_of_ble_eq_true rfl, Nat.le_of_ble_eq_true rfl⟩ (fun r h => c_X9_in l D J kc ki kb kl kd p1 0 (t_writtenSize - 1) r h) rfl rfl rfl rfl (Nat.le_of_ble_eq_true rfl) dX9_character_9 ⟨Nat.zero_le _, Nat.zero_le _⟩ hF (fun r9_1 er9_1 hF => ?_)
  refine a_if_eq C (tgt := 19) dX9_character_12 (by decide) hF (fun c12_2 hF => ?_) (fun c12_2 hF => ?_)
  · refine a_iconst C (v := 1) dX9_character_19 (by decide) ?_
    exact hJ20 t_thrown 1 hF
  refine a_iconst C (v := 0) dX9_character_15 (by decide) ?_
  refine a_goto C (tgt := 20) dX9_character_16 (by decide) ?_
  exact hJ20 t_thrown 0 hF
def f_X9_letterMany_L4 (t_allF : Nat → Int32) : Nat → Int32 → Int32 → (Int32 → Int32 → Option Int32) → Option Int32
  | 0, _, _, _ => none
  | fuel + 1, x1, x2, k => (f_X9_many t_allF).bind fun r6_1 => if r6_1 ≤ x2 then (k x1 x2) else ((f_X9_size t_allF x2).bind fun r15_3 => f_X9_letterMany_L4 t_allF fuel (x1 + r15_3) (x2 + 1) k)
def f_X9_letterMany (t_allF : Nat → Int32) : Option Int32 := f_X9_letterMany_L4 t_allF 1000 0 0 (fun x1_4_4 x2_4_5 => some x1_4_4)
theorem hd_X9_letterMany : yX9_letterMany.cls = RX9 ∧ yX9_letterMany.cls ≠ "java/lang/invoke/MethodHandle" ∧ yX9_letterMany.cls ≠ "java/lang/invoke/VarHandle" ∧ (parseMethodDescriptor yX9_letterMany.desc).map (fun d => d.parameters.length) = some 0 := by decide +kernel
set_option maxRecDepth 100000 in
set_option maxHeartbeats 4000000 in
theorem c_X9_letterMany (l : Launch) (D : va_G) (J : (Nat → Nat) × (Nat → Nat)) (kc ki kb kl kd : ClassId) (t : Nat) (t_all : Nat) (t_reasons : Nat) (t_text : Nat) (t_word : Nat) (t_order : Nat) (t_rows : Nat) (t_written : Nat) (t_allF : Nat → Int32) (t_reasonsF : Nat → Int32) (t_textF : Nat → Int32) (t_wordF : Nat → Int32) (t_orderF : Nat → Int32) (t_rowsF : Nat → Int32) (t_writtenF : Nat → Int32) (t_thrown : Int32) (t_changes : Int32) (t_isSaved : Int32) (t_result : Int32) (t_texted : Int32) (t_wordSize : Int32) (t_orderMany : Int32) (t_here : Int32) (t_fault : Int32) (t_faultAt : Int32) (t_commandMany : Int32) (t_writtenSize : Int32) (res : Int32) (hF : f_X9_letterMany t_allF = some res) : aKi l yX9_letterMany (aW yX9_letterMany cX9_letterMany 3 ((some .int))) ({ frames := 1, cells := 0, slots := 0, locals := 21 } : Room) D J (aTy kc ki kb kl kd) [.ref t] (wX9 kc ki t t_all t_reasons t_text t_word t_order t_rows t_written t_allF t_reasonsF t_textF t_wordF t_orderF t_rowsF t_writtenF t_thrown t_changes t_isSaved t_result t_texted t_wordSize t_orderMany t_here t_fault t_faultAt t_commandMany t_writtenSize) (fun r => r) (fun _ => wX9 kc ki t t_all t_reasons t_text t_word t_order t_rows t_written t_allF t_reasonsF t_textF t_wordF t_orderF t_rowsF t_writtenF t_thrown t_changes t_isSaved t_result t_texted t_wordSize t_orderMany t_here t_fault t_faultAt t_commandMany t_writtenSize) res := by
  refine aKi_of (own := RX9) (by decide) rfl (Nat.le_of_ble_eq_true rfl) rfl ?_
  intro p e s m args below meth c C hr
  have hI4 : ∀ (fuel : Nat) (x1 : Int32) (x2 : Int32) (k : Int32 → Int32 → Option Int32), f_X9_letterMany_L4 t_allF fuel x1 x2 k = some res → (∀ (x1 : Int32) (x2 : Int32), k x1 x2 = some res → aT p l e ({ frames := 1, cells := 0, slots := 0, locals := 21 } : Room) s m args below meth c (MQ below (aQi D (wX9 kc ki t t_all t_reasons t_text t_word t_order t_rows t_written t_allF t_reasonsF t_textF t_wordF t_orderF t_rowsF t_writtenF t_thrown t_changes t_isSaved t_result t_texted t_wordSize t_orderMany t_here t_fault t_faultAt t_commandMany t_writtenSize) s.heap.size (fun r => r) (fun _ => wX9 kc ki t t_all t_reasons t_text t_word t_order t_rows t_written t_allF t_reasonsF t_textF t_wordF t_orderF t_rowsF t_writtenF t_thrown t_changes t_isSaved t_result t_texted t_wordSize t_orderMany t_here t_fault t_faultAt t_commandMany t_writtenSize) res) args s 0 0 (va_A (wX9 kc ki t t_all t_reasons t_text t_word t_order t_rows t_written t_allF t_reasonsF t_textF t_wordF t_orderF t_rowsF t_writtenF t_thrown t_changes t_isSaved t_result t_texted t_wordSize t_orderMany t_here t_fault t_faultAt t_commandMany t_writtenSize) s.heap.size)) D (va_A (wX9 kc ki t t_all t_reasons t_text t_word t_order t_rows t_written t_allF t_reasonsF t_textF t_wordF t_orderF t_rowsF t_writtenF t_thrown t_changes t_isSaved t_result t_texted t_wordSize t_orderMany t_here t_fault t_faultAt t_commandMany t_writtenSize) s.heap.size) 3 0 0 26 [(1, .int x1)] [] (wX9 kc ki t t_all t_reasons t_text t_word t_order t_rows t_written t_allF t_reasonsF t_textF t_wordF t_orderF t_rowsF t_writtenF t_thrown t_changes t_isSaved t_result t_texted t_wordSize t_orderMany t_here t_fault t_faultAt t_commandMany t_writtenSize)) → aT p l e ({ frames := 1, cells := 0, slots := 0, locals := 21 } : Room) s m args below meth c (MQ below (aQi D (wX9 kc ki t t_all t_reasons t_text t_word t_order t_rows t_written t_allF t_reasonsF t_textF t_wordF t_orderF t_rowsF t_writtenF t_thrown t_changes t_isSaved t_result t_texted t_wordSize t_orderMany t_here t_fault t_faultAt t_commandMany t_writtenSize) s.heap.size (fun r => r) (fun _ => wX9 kc ki t t_all t_reasons t_text t_word t_order t_rows t_written t_allF t_reasonsF t_textF t_wordF t_orderF t_rowsF t_writtenF t_thrown t_changes t_isSaved t_result t_texted t_wordSize t_orderMany t_here t_fault t_faultAt t_commandMany t_writtenSize) res) args s 0 0 (va_A (wX9 kc ki t t_all t_reasons t_text t_word t_order t_rows t_written t_allF t_reasonsF t_textF t_wordF t_orderF t_rowsF t_writtenF t_thrown t_changes t_isSaved t_result t_texted t_wordSize t_orderMany t_here t_fault t_faultAt t_commandMany t_writtenSize) s.heap.size)) D (va_A (wX9 kc ki t t_all t_reasons t_text t_word t_order t_rows t_written t_allF t_reasonsF t_textF t_wordF t_orderF t_rowsF t_writtenF t_thrown t_changes t_isSaved t_result t_texted t_wordSize t_orderMany t_here t_fault t_faultAt t_commandMany t_writtenSize) s.heap.size) 3 0 0 4 [(0, .ref t), (1, .int x1), (2, .int x2)] [] (wX9 kc ki t t_all t_reasons t_text t_word t_order t_rows t_written t_allF t_reasonsF t_textF t_wordF t_orderF t_rowsF t_writtenF t_thrown t_changes t_isSaved t_result t_texted t_wordSize t_orderMany t_here t_fault t_faultAt t_commandMany t_writtenSize) := by
    intro fuel
    induction fuel with
    | zero => intro x1 x2 k hF hX; exact nomatch hF
    | succ fuel ih =>
      intro x1 x2 k hF hX
      rw [f_X9_letterMany_L4] at hF
      refine a_iload_n C 2 dX9_letterMany_4 rfl rfl ?_
      refine a_aload_n C 0 dX9_letterMany_5 rfl rfl ?_
      refine a_callVir C 0 [0, 1, 2, 3, 4, 5, 6, 7] 0 cs_X9_53 hd_X9_many ⟨rfl, rfl⟩ ⟨Nat.le_of_ble_eq_true rfl, Nat.le_of_ble_eq_true rfl⟩ (fun r h => c_X9_many l D J kc ki kb kl kd t t_all t_reasons t_text t_word t_order t_rows t_written t_allF t_reasonsF t_textF t_wordF t_orderF t_rowsF t_writtenF t_thrown t_changes t_isSaved t_result t_texted t_wordSize t_orderMany t_here t_fault t_faultAt t_commandMany t_writtenSize r h) rfl rfl rfl rfl rfl rfl (Nat.le_of_ble_eq_true rfl) dX9_letterMany_6 ⟨Nat.zero_le _, Nat.zero_le _⟩ hF (fun r6_1 er6_1 hF => ?_)
      refine a_ic_ge C (tgt := 26) dX9_letterMany_9 (by decide) hF (fun c9_2 hF => ?_) (fun c9_2 hF => ?_)
      · refine a_sub C [1] [(1, .int x1)] rfl ?_
        exact hX x1 x2 hF
      refine a_iload_n C 1 dX9_letterMany_12 rfl rfl ?_
      refine a_aload_n C 0 dX9_letterMany_13 rfl rfl ?_
      refine a_iload_n C 2 dX9_letterMany_14 rfl rfl ?_
      refine a_callVir C 1 [0, 1, 2, 3, 4, 5, 6, 7] 0 cs_X9_61 hd_X9_size ⟨rfl, rfl⟩ ⟨Nat.le_of_ble_eq_true rfl, Nat.le_of_ble_eq_true rfl⟩ (fun r h => c_X9_size l D J kc ki kb kl kd t t_all t_reasons t_text t_word t_order t_rows t_written t_allF t_reasonsF t_textF t_wordF t_orderF t_rowsF t_writtenF t_thrown t_changes t_isSaved t_result t_texted t_wordSize t_orderMany t_here t_fault t_faultAt t_commandMany t_writtenSize x2 r h) rfl rfl rfl rfl rfl rfl (Nat.le_of_ble_eq_true rfl) dX9_letterMany_15 ⟨Nat.zero_le _, Nat.zero_le _⟩ hF (fun r15_3 er15_3 hF => ?_)
      refine a_iadd C dX9_letterMany_18 ?_
      refine a_istore_n C [(1, .int (x1 + r15_3)), (0, .ref t), (2, .int x2)] dX9_letterMany_19 rfl (by decide) rfl ?_
      refine a_iinc C 2 [(2, .int (x2 + 1)), (1, .int (x1 + r15_3)), (0, .ref t)] dX9_letterMany_20 rfl rfl (by decide) rfl ?_
      refine a_goto C (tgt := 4) dX9_letterMany_23 (by decide) ?_
      refine a_sub C [2, 1, 0] [(0, .ref t), (1, .int (x1 + r15_3)), (2, .int (x2 + 1))] rfl ?_
      exact ih (x1 + r15_3) (x2 + 1) k hF hX
  unfold f_X9_letterMany at hF
  refine a_iconst C (v := 0) dX9_letterMany_0 (by decide) ?_
  refine a_istore_n C [(1, .int 0), (0, .ref t)] dX9_letterMany_1 rfl (by decide) rfl ?_
  refine a_iconst C (v := 0) dX9_letterMany_2 (by decide) ?_
  refine a_istore_n C [(2, .int 0), (1, .int 0), (0, .ref t)] dX9_letterMany_3 rfl (by decide) rfl ?_
  refine a_sub C [2, 1, 0] [(0, .ref t), (1, .int 0), (2, .int 0)] rfl ?_
  refine hI4 1000 0 0 _ hF (fun x1_4_4 x2_4_5 hF => ?_)
  refine a_iload_n C 0 dX9_letterMany_26 rfl rfl ?_
  exact a_iret C hr rfl dX9_letterMany_27 hF rfl rfl
def f_X9_palindromes_L4 (t_allF : Nat → Int32) : Nat → Int32 → Int32 → (Int32 → Int32 → Option Int32) → Option Int32
  | 0, _, _, _ => none
  | fuel + 1, x1, x2, k => (f_X9_many t_allF).bind fun r6_1 => if r6_1 ≤ x2 then (k x1 x2) else ((f_X9_isBack t_allF x2 x2).bind fun r16_3 => if r16_3 = 0 then (f_X9_palindromes_L4 t_allF fuel (x1 + 0) (x2 + 1) k) else (f_X9_palindromes_L4 t_allF fuel (x1 + 1) (x2 + 1) k))
def f_X9_palindromes (t_allF : Nat → Int32) : Option Int32 := f_X9_palindromes_L4 t_allF 1000 0 0 (fun x1_4_5 x2_4_6 => some x1_4_5)
theorem hd_X9_palindromes : yX9_palindromes.cls = RX9 ∧ yX9_palindromes.cls ≠ "java/lang/invoke/MethodHandle" ∧ yX9_palindromes.cls ≠ "java/lang/invoke/VarHandle" ∧ (parseMethodDescriptor yX9_palindromes.desc).map (fun d => d.parameters.length) = some 0 := by decide +kernel
set_option maxRecDepth 100000 in
set_option maxHeartbeats 4000000 in
theorem c_X9_palindromes (l : Launch) (D : va_G) (J : (Nat → Nat) × (Nat → Nat)) (kc ki kb kl kd : ClassId) (t : Nat) (t_all : Nat) (t_reasons : Nat) (t_text : Nat) (t_word : Nat) (t_order : Nat) (t_rows : Nat) (t_written : Nat) (t_allF : Nat → Int32) (t_reasonsF : Nat → Int32) (t_textF : Nat → Int32) (t_wordF : Nat → Int32) (t_orderF : Nat → Int32) (t_rowsF : Nat → Int32) (t_writtenF : Nat → Int32) (t_thrown : Int32) (t_changes : Int32) (t_isSaved : Int32) (t_result : Int32) (t_texted : Int32) (t_wordSize : Int32) (t_orderMany : Int32) (t_here : Int32) (t_fault : Int32) (t_faultAt : Int32) (t_commandMany : Int32) (t_writtenSize : Int32) (res : Int32) (hF : f_X9_palindromes t_allF = some res) : aKi l yX9_palindromes (aW yX9_palindromes cX9_palindromes 3 ((some .int))) ({ frames := 2, cells := 0, slots := 0, locals := 46 } : Room) D J (aTy kc ki kb kl kd) [.ref t] (wX9 kc ki t t_all t_reasons t_text t_word t_order t_rows t_written t_allF t_reasonsF t_textF t_wordF t_orderF t_rowsF t_writtenF t_thrown t_changes t_isSaved t_result t_texted t_wordSize t_orderMany t_here t_fault t_faultAt t_commandMany t_writtenSize) (fun r => r) (fun _ => wX9 kc ki t t_all t_reasons t_text t_word t_order t_rows t_written t_allF t_reasonsF t_textF t_wordF t_orderF t_rowsF t_writtenF t_thrown t_changes t_isSaved t_result t_texted t_wordSize t_orderMany t_here t_fault t_faultAt t_commandMany t_writtenSize) res := by
  refine aKi_of (own := RX9) (by decide) rfl (Nat.le_of_ble_eq_true rfl) rfl ?_
  intro p e s m args below meth c C hr
  have hI4 : ∀ (fuel : Nat) (x1 : Int32) (x2 : Int32) (k : Int32 → Int32 → Option Int32), f_X9_palindromes_L4 t_allF fuel x1 x2 k = some res → (∀ (x1 : Int32) (x2 : Int32), k x1 x2 = some res → aT p l e ({ frames := 2, cells := 0, slots := 0, locals := 46 } : Room) s m args below meth c (MQ below (aQi D (wX9 kc ki t t_all t_reasons t_text t_word t_order t_rows t_written t_allF t_reasonsF t_textF t_wordF t_orderF t_rowsF t_writtenF t_thrown t_changes t_isSaved t_result t_texted t_wordSize t_orderMany t_here t_fault t_faultAt t_commandMany t_writtenSize) s.heap.size (fun r => r) (fun _ => wX9 kc ki t t_all t_reasons t_text t_word t_order t_rows t_written t_allF t_reasonsF t_textF t_wordF t_orderF t_rowsF t_writtenF t_thrown t_changes t_isSaved t_result t_texted t_wordSize t_orderMany t_here t_fault t_faultAt t_commandMany t_writtenSize) res) args s 0 0 (va_A (wX9 kc ki t t_all t_reasons t_text t_word t_order t_rows t_written t_allF t_reasonsF t_textF t_wordF t_orderF t_rowsF t_writtenF t_thrown t_changes t_isSaved t_result t_texted t_wordSize t_orderMany t_here t_fault t_faultAt t_commandMany t_writtenSize) s.heap.size)) D (va_A (wX9 kc ki t t_all t_reasons t_text t_word t_order t_rows t_written t_allF t_reasonsF t_textF t_wordF t_orderF t_rowsF t_writtenF t_thrown t_changes t_isSaved t_result t_texted t_wordSize t_orderMany t_here t_fault t_faultAt t_commandMany t_writtenSize) s.heap.size) 3 0 0 35 [(1, .int x1)] [] (wX9 kc ki t t_all t_reasons t_text t_word t_order t_rows t_written t_allF t_reasonsF t_textF t_wordF t_orderF t_rowsF t_writtenF t_thrown t_changes t_isSaved t_result t_texted t_wordSize t_orderMany t_here t_fault t_faultAt t_commandMany t_writtenSize)) → aT p l e ({ frames := 2, cells := 0, slots := 0, locals := 46 } : Room) s m args below meth c (MQ below (aQi D (wX9 kc ki t t_all t_reasons t_text t_word t_order t_rows t_written t_allF t_reasonsF t_textF t_wordF t_orderF t_rowsF t_writtenF t_thrown t_changes t_isSaved t_result t_texted t_wordSize t_orderMany t_here t_fault t_faultAt t_commandMany t_writtenSize) s.heap.size (fun r => r) (fun _ => wX9 kc ki t t_all t_reasons t_text t_word t_order t_rows t_written t_allF t_reasonsF t_textF t_wordF t_orderF t_rowsF t_writtenF t_thrown t_changes t_isSaved t_result t_texted t_wordSize t_orderMany t_here t_fault t_faultAt t_commandMany t_writtenSize) res) args s 0 0 (va_A (wX9 kc ki t t_all t_reasons t_text t_word t_order t_rows t_written t_allF t_reasonsF t_textF t_wordF t_orderF t_rowsF t_writtenF t_thrown t_changes t_isSaved t_result t_texted t_wordSize t_orderMany t_here t_fault t_faultAt t_commandMany t_writtenSize) s.heap.size)) D (va_A (wX9 kc ki t t_all t_reasons t_text t_word t_order t_rows t_written t_allF t_reasonsF t_textF t_wordF t_orderF t_rowsF t_writtenF t_thrown t_changes t_isSaved t_result t_texted t_wordSize t_orderMany t_here t_fault t_faultAt t_commandMany t_writtenSize) s.heap.size) 3 0 0 4 [(0, .ref t), (1, .int x1), (2, .int x2)] [] (wX9 kc ki t t_all t_reasons t_text t_word t_order t_rows t_written t_allF t_reasonsF t_textF t_wordF t_orderF t_rowsF t_writtenF t_thrown t_changes t_isSaved t_result t_texted t_wordSize t_orderMany t_here t_fault t_faultAt t_commandMany t_writtenSize) := by
    intro fuel
    induction fuel with
    | zero => intro x1 x2 k hF hX; exact nomatch hF
    | succ fuel ih =>
      intro x1 x2 k hF hX
      rw [f_X9_palindromes_L4] at hF
      refine a_iload_n C 2 dX9_palindromes_4 rfl rfl ?_
      refine a_aload_n C 0 dX9_palindromes_5 rfl rfl ?_
      refine a_callVir C 0 [0, 1, 2, 3, 4, 5, 6, 7] 0 cs_X9_53 hd_X9_many ⟨rfl, rfl⟩ ⟨Nat.le_of_ble_eq_true rfl, Nat.le_of_ble_eq_true rfl⟩ (fun r h => c_X9_many l D J kc ki kb kl kd t t_all t_reasons t_text t_word t_order t_rows t_written t_allF t_reasonsF t_textF t_wordF t_orderF t_rowsF t_writtenF t_thrown t_changes t_isSaved t_result t_texted t_wordSize t_orderMany t_here t_fault t_faultAt t_commandMany t_writtenSize r h) rfl rfl rfl rfl rfl rfl (Nat.le_of_ble_eq_true rfl) dX9_palindromes_6 ⟨Nat.zero_le _, Nat.zero_le _⟩ hF (fun r6_1 er6_1 hF => ?_)
      refine a_ic_ge C (tgt := 35) dX9_palindromes_9 (by decide) hF (fun c9_2 hF => ?_) (fun c9_2 hF => ?_)
      · refine a_sub C [1] [(1, .int x1)] rfl ?_
        exact hX x1 x2 hF
      refine a_iload_n C 1 dX9_palindromes_12 rfl rfl ?_
      refine a_aload_n C 0 dX9_palindromes_13 rfl rfl ?_
      refine a_iload_n C 2 dX9_palindromes_14 rfl rfl ?_
      refine a_iload_n C 2 dX9_palindromes_15 rfl rfl ?_
      refine a_callVir C 2 [0, 1, 2, 3, 4, 5, 6, 7] 0 cs_X9_126 hd_X9_isBack ⟨rfl, rfl⟩ ⟨Nat.le_of_ble_eq_true rfl, Nat.le_of_ble_eq_true rfl⟩ (fun r h => c_X9_isBack l D J kc ki kb kl kd t t_all t_reasons t_text t_word t_order t_rows t_written t_allF t_reasonsF t_textF t_wordF t_orderF t_rowsF t_writtenF t_thrown t_changes t_isSaved t_result t_texted t_wordSize t_orderMany t_here t_fault t_faultAt t_commandMany t_writtenSize x2 x2 r h) rfl rfl rfl rfl rfl rfl (Nat.le_of_ble_eq_true rfl) dX9_palindromes_16 ⟨Nat.zero_le _, Nat.zero_le _⟩ hF (fun r16_3 er16_3 hF => ?_)
      refine a_if_eq C (tgt := 26) dX9_palindromes_19 (by decide) hF (fun c19_4 hF => ?_) (fun c19_4 hF => ?_)
      · refine a_iconst C (v := 0) dX9_palindromes_26 (by decide) ?_
        refine a_iadd C dX9_palindromes_27 ?_
        refine a_istore_n C [(1, .int (x1 + 0)), (0, .ref t), (2, .int x2)] dX9_palindromes_28 rfl (by decide) rfl ?_
        refine a_iinc C 2 [(2, .int (x2 + 1)), (1, .int (x1 + 0)), (0, .ref t)] dX9_palindromes_29 rfl rfl (by decide) rfl ?_
        refine a_goto C (tgt := 4) dX9_palindromes_32 (by decide) ?_
        refine a_sub C [2, 1, 0] [(0, .ref t), (1, .int (x1 + 0)), (2, .int (x2 + 1))] rfl ?_
        exact ih (x1 + 0) (x2 + 1) k hF hX
      refine a_iconst C (v := 1) dX9_palindromes_22 (by decide) ?_
      refine a_goto C (tgt := 27) dX9_palindromes_23 (by decide) ?_
      refine a_iadd C dX9_palindromes_27 ?_
      refine a_istore_n C [(1, .int (x1 + 1)), (0, .ref t), (2, .int x2)] dX9_palindromes_28 rfl (by decide) rfl ?_
      refine a_iinc C 2 [(2, .int (x2 + 1)), (1, .int (x1 + 1)), (0, .ref t)] dX9_palindromes_29 rfl rfl (by decide) rfl ?_
      refine a_goto C (tgt := 4) dX9_palindromes_32 (by decide) ?_
      refine a_sub C [2, 1, 0] [(0, .ref t), (1, .int (x1 + 1)), (2, .int (x2 + 1))] rfl ?_
      exact ih (x1 + 1) (x2 + 1) k hF hX
  unfold f_X9_palindromes at hF
  refine a_iconst C (v := 0) dX9_palindromes_0 (by decide) ?_
  refine a_istore_n C [(1, .int 0), (0, .ref t)] dX9_palindromes_1 rfl (by decide) rfl ?_
  refine a_iconst C (v := 0) dX9_palindromes_2 (by decide) ?_
  refine a_istore_n C [(2, .int 0), (1, .int 0), (0, .ref t)] dX9_palindromes_3 rfl (by decide) rfl ?_
  refine a_sub C [2, 1, 0] [(0, .ref t), (1, .int 0), (2, .int 0)] rfl ?_
  refine hI4 1000 0 0 _ hF (fun x1_4_5 x2_4_6 hF => ?_)
  refine a_iload_n C 0 dX9_palindromes_35 rfl rfl ?_
  exact a_iret C hr rfl dX9_palindromes_36 hF rfl rfl
theorem cs_X9_232 : GoodIn WW (wsV RX9 232 RX9 yX9_letterMany (aW yX9_letterMany cX9_letterMany 3 ((some .int)))) := gdV kl_X9_232 ki_X9_letterMany kv_X9_letterMany kn_X9 kc_X9_letterMany
theorem cs_X9_235 : GoodIn WW (wsV RX9 235 RX9 yX9_palindromes (aW yX9_palindromes cX9_palindromes 3 ((some .int)))) := gdV kl_X9_235 ki_X9_palindromes kv_X9_palindromes kn_X9 kc_X9_palindromes
def f_X9_account_J16 (q_t_orderF : Nat → Int32) (q_t_orderMany : Int32) (y1 : Int32) (p1 : Int32) (t_allF : Nat → Int32) (t_changes : Int32) (t_texted : Int32) : Option (Int32 × (Nat → Int32) × Int32 × Int32) := if y1 = 0 then (if p1 < 0 ∨ 5 < p1 then (some (t_texted, q_t_orderF, y1, q_t_orderMany)) else (if p1 = 0 then ((f_X9_many t_allF).bind fun r69_5 => some (r69_5, q_t_orderF, y1, q_t_orderMany)) else (if p1 = 1 then ((f_X9_letterMany t_allF).bind fun r74_7 => some (r74_7, q_t_orderF, y1, q_t_orderMany)) else (if p1 = 2 then ((f_X9_many t_allF).bind fun r81_9 => (f_X9_different t_allF 0 r81_9).bind fun r84_10 => some (r84_10, q_t_orderF, y1, q_t_orderMany)) else (if p1 = 3 then ((f_X9_commons t_allF q_t_orderF 2).bind fun r90_12 => some (r90_12.1, r90_12.2.1, y1, r90_12.2.2)) else (if p1 = 4 then ((f_X9_palindromes t_allF).bind fun r95_14 => some (r95_14, q_t_orderF, y1, q_t_orderMany)) else (if p1 = 5 then (some (t_changes, q_t_orderF, y1, q_t_orderMany)) else (none)))))))) else (some (0, q_t_orderF, y1, q_t_orderMany))
def f_X9_account (t_allF : Nat → Int32) (t_orderF : Nat → Int32) (t_changes : Int32) (t_texted : Int32) (t_orderMany : Int32) (p1 : Int32) : Option (Int32 × (Nat → Int32) × Int32 × Int32) := (f_X9_in p1 0 6).bind fun r5_1 => if r5_1 = 0 then (f_X9_account_J16 t_orderF t_orderMany 1 p1 t_allF t_changes t_texted) else (f_X9_account_J16 t_orderF t_orderMany 0 p1 t_allF t_changes t_texted)
theorem hd_X9_account : yX9_account.cls = RX9 ∧ yX9_account.cls ≠ "java/lang/invoke/MethodHandle" ∧ yX9_account.cls ≠ "java/lang/invoke/VarHandle" ∧ (parseMethodDescriptor yX9_account.desc).map (fun d => d.parameters.length) = some 1 := by decide +kernel
set_option maxRecDepth 100000 in
set_option maxHeartbeats 4000000 in
theorem c_X9_account (l : Launch) (D : va_G) (J : (Nat → Nat) × (Nat → Nat)) (kc ki kb kl kd : ClassId) (t : Nat) (t_all : Nat) (t_reasons : Nat) (t_text : Nat) (t_word : Nat) (t_order : Nat) (t_rows : Nat) (t_written : Nat) (t_allF : Nat → Int32) (t_reasonsF : Nat → Int32) (t_textF : Nat → Int32) (t_wordF : Nat → Int32) (t_orderF : Nat → Int32) (t_rowsF : Nat → Int32) (t_writtenF : Nat → Int32) (t_thrown : Int32) (t_changes : Int32) (t_isSaved : Int32) (t_result : Int32) (t_texted : Int32) (t_wordSize : Int32) (t_orderMany : Int32) (t_here : Int32) (t_fault : Int32) (t_faultAt : Int32) (t_commandMany : Int32) (t_writtenSize : Int32) (p1 : Int32) (res : Int32 × (Nat → Int32) × Int32 × Int32) (hF : f_X9_account t_allF t_orderF t_changes t_texted t_orderMany p1 = some res) : aKi l yX9_account (aW yX9_account cX9_account 2 ((some .int))) ({ frames := 6, cells := 0, slots := 0, locals := 141 } : Room) D J (aTy kc ki kb kl kd) [.ref t, .int p1] (wX9 kc ki t t_all t_reasons t_text t_word t_order t_rows t_written t_allF t_reasonsF t_textF t_wordF t_orderF t_rowsF t_writtenF t_thrown t_changes t_isSaved t_result t_texted t_wordSize t_orderMany t_here t_fault t_faultAt t_commandMany t_writtenSize) (fun r => r.1) (fun r => wX9 kc ki t t_all t_reasons t_text t_word t_order t_rows t_written t_allF t_reasonsF t_textF t_wordF r.2.1 t_rowsF t_writtenF r.2.2.1 t_changes t_isSaved t_result t_texted t_wordSize r.2.2.2 t_here t_fault t_faultAt t_commandMany t_writtenSize) res := by
  refine aKi_of (own := RX9) (by decide) rfl (Nat.le_of_ble_eq_true rfl) rfl ?_
  intro p e s m args below meth c C hr
  have hJ16 : ∀ (q_t_orderF : Nat → Int32) (q_t_thrown : Int32) (q_t_orderMany : Int32) (y1 : Int32), f_X9_account_J16 q_t_orderF q_t_orderMany y1 p1 t_allF t_changes t_texted = some res → aT p l e ({ frames := 6, cells := 0, slots := 0, locals := 141 } : Room) s m args below meth c (MQ below (aQi D (wX9 kc ki t t_all t_reasons t_text t_word t_order t_rows t_written t_allF t_reasonsF t_textF t_wordF t_orderF t_rowsF t_writtenF t_thrown t_changes t_isSaved t_result t_texted t_wordSize t_orderMany t_here t_fault t_faultAt t_commandMany t_writtenSize) s.heap.size (fun r => r.1) (fun r => wX9 kc ki t t_all t_reasons t_text t_word t_order t_rows t_written t_allF t_reasonsF t_textF t_wordF r.2.1 t_rowsF t_writtenF r.2.2.1 t_changes t_isSaved t_result t_texted t_wordSize r.2.2.2 t_here t_fault t_faultAt t_commandMany t_writtenSize) res) args s 0 0 (va_A (wX9 kc ki t t_all t_reasons t_text t_word t_order t_rows t_written t_allF t_reasonsF t_textF t_wordF t_orderF t_rowsF t_writtenF t_thrown t_changes t_isSaved t_result t_texted t_wordSize t_orderMany t_here t_fault t_faultAt t_commandMany t_writtenSize) s.heap.size)) D (va_A (wX9 kc ki t t_all t_reasons t_text t_word t_order t_rows t_written t_allF t_reasonsF t_textF t_wordF t_orderF t_rowsF t_writtenF t_thrown t_changes t_isSaved t_result t_texted t_wordSize t_orderMany t_here t_fault t_faultAt t_commandMany t_writtenSize) s.heap.size) 2 0 0 16 [(0, .ref t), (1, .int p1)] [.int y1, .ref t] (wX9 kc ki t t_all t_reasons t_text t_word t_order t_rows t_written t_allF t_reasonsF t_textF t_wordF q_t_orderF t_rowsF t_writtenF q_t_thrown t_changes t_isSaved t_result t_texted t_wordSize q_t_orderMany t_here t_fault t_faultAt t_commandMany t_writtenSize) := by
    intro q_t_orderF q_t_thrown q_t_orderMany y1 hF
    unfold f_X9_account_J16 at hF
    refine a_put C 0 0 iwX9 tyX9_ok nmX9 rfl rfl (by decide) kf_X9_36 rfl rfl rfl (Nat.le_of_ble_eq_true rfl) dX9_account_16 ?_
    refine a_ws C (ws' := wX9 kc ki t t_all t_reasons t_text t_word t_order t_rows t_written t_allF t_reasonsF t_textF t_wordF q_t_orderF t_rowsF t_writtenF y1 t_changes t_isSaved t_result t_texted t_wordSize q_t_orderMany t_here t_fault t_faultAt t_commandMany t_writtenSize) rfl ?_
    refine a_aload_n C 0 dX9_account_19 rfl rfl ?_
    refine a_get C 0 0 iwX9 rfl rfl (by decide) kf_X9_36 rfl dX9_account_20 ?_
    refine a_if_eq C (tgt := 28) dX9_account_23 (by decide) hF (fun c23_3 hF => ?_) (fun c23_3 hF => ?_)
    · refine a_iload_n C 1 dX9_account_28 rfl rfl ?_
      refine a_tsout C (tgt := 104) (lo := 0) (hi := 5) dX9_account_29 (by decide) (by decide) (by decide) hF (fun c29_4 hF => ?_) (fun c29_4 hF => ?_)
      · refine a_aload_n C 0 dX9_account_104 rfl rfl ?_
        refine a_get C 0 7 iwX9 rfl rfl (by decide) kf_X9_69 rfl dX9_account_105 ?_
        exact a_iret C hr rfl dX9_account_108 hF rfl rfl
      refine a_tscase C (tgt := 68) (v := 0) dX9_account_29 (by decide) (by decide) rfl (by decide) hF (fun c29_6 hF => ?_) (fun c29_6 hF => ?_)
      · refine a_aload_n C 0 dX9_account_68 rfl rfl ?_
        refine a_callVir C 0 [0, 1, 2, 3, 4, 5, 6, 7] 0 cs_X9_53 hd_X9_many ⟨rfl, rfl⟩ ⟨Nat.le_of_ble_eq_true rfl, Nat.le_of_ble_eq_true rfl⟩ (fun r h => c_X9_many l D J kc ki kb kl kd t t_all t_reasons t_text t_word t_order t_rows t_written t_allF t_reasonsF t_textF t_wordF q_t_orderF t_rowsF t_writtenF y1 t_changes t_isSaved t_result t_texted t_wordSize q_t_orderMany t_here t_fault t_faultAt t_commandMany t_writtenSize r h) rfl rfl rfl rfl rfl rfl (Nat.le_of_ble_eq_true rfl) dX9_account_69 ⟨Nat.zero_le _, Nat.zero_le _⟩ hF (fun r69_5 er69_5 hF => ?_)
        exact a_iret C hr rfl dX9_account_72 hF rfl rfl
      refine a_tscase C (tgt := 73) (v := 1) dX9_account_29 (by decide) (by decide) rfl (by decide) hF (fun c29_8 hF => ?_) (fun c29_8 hF => ?_)
      · refine a_aload_n C 0 dX9_account_73 rfl rfl ?_
        refine a_callVir C 0 [0, 1, 2, 3, 4, 5, 6, 7] 0 cs_X9_232 hd_X9_letterMany ⟨rfl, rfl⟩ ⟨Nat.le_of_ble_eq_true rfl, Nat.le_of_ble_eq_true rfl⟩ (fun r h => c_X9_letterMany l D J kc ki kb kl kd t t_all t_reasons t_text t_word t_order t_rows t_written t_allF t_reasonsF t_textF t_wordF q_t_orderF t_rowsF t_writtenF y1 t_changes t_isSaved t_result t_texted t_wordSize q_t_orderMany t_here t_fault t_faultAt t_commandMany t_writtenSize r h) rfl rfl rfl rfl rfl rfl (Nat.le_of_ble_eq_true rfl) dX9_account_74 ⟨Nat.zero_le _, Nat.zero_le _⟩ hF (fun r74_7 er74_7 hF => ?_)
        exact a_iret C hr rfl dX9_account_77 hF rfl rfl
      refine a_tscase C (tgt := 78) (v := 2) dX9_account_29 (by decide) (by decide) rfl (by decide) hF (fun c29_11 hF => ?_) (fun c29_11 hF => ?_)
      · refine a_aload_n C 0 dX9_account_78 rfl rfl ?_
        refine a_iconst C (v := 0) dX9_account_79 (by decide) ?_
        refine a_aload_n C 0 dX9_account_80 rfl rfl ?_
        refine a_callVir C 0 [0, 1, 2, 3, 4, 5, 6, 7] 0 cs_X9_53 hd_X9_many ⟨rfl, rfl⟩ ⟨Nat.le_of_ble_eq_true rfl, Nat.le_of_ble_eq_true rfl⟩ (fun r h => c_X9_many l D J kc ki kb kl kd t t_all t_reasons t_text t_word t_order t_rows t_written t_allF t_reasonsF t_textF t_wordF q_t_orderF t_rowsF t_writtenF y1 t_changes t_isSaved t_result t_texted t_wordSize q_t_orderMany t_here t_fault t_faultAt t_commandMany t_writtenSize r h) rfl rfl rfl rfl rfl rfl (Nat.le_of_ble_eq_true rfl) dX9_account_81 ⟨Nat.zero_le _, Nat.zero_le _⟩ hF (fun r81_9 er81_9 hF => ?_)
        refine a_callVir C 2 [0, 1, 2, 3, 4, 5, 6, 7] 0 cs_X9_153 hd_X9_different ⟨rfl, rfl⟩ ⟨Nat.le_of_ble_eq_true rfl, Nat.le_of_ble_eq_true rfl⟩ (fun r h => c_X9_different l D J kc ki kb kl kd t t_all t_reasons t_text t_word t_order t_rows t_written t_allF t_reasonsF t_textF t_wordF q_t_orderF t_rowsF t_writtenF y1 t_changes t_isSaved t_result t_texted t_wordSize q_t_orderMany t_here t_fault t_faultAt t_commandMany t_writtenSize 0 r81_9 r h) rfl rfl rfl rfl rfl rfl (Nat.le_of_ble_eq_true rfl) dX9_account_84 ⟨Nat.zero_le _, Nat.zero_le _⟩ hF (fun r84_10 er84_10 hF => ?_)
        exact a_iret C hr rfl dX9_account_87 hF rfl rfl
      refine a_tscase C (tgt := 88) (v := 3) dX9_account_29 (by decide) (by decide) rfl (by decide) hF (fun c29_13 hF => ?_) (fun c29_13 hF => ?_)
      · refine a_aload_n C 0 dX9_account_88 rfl rfl ?_
        refine a_iconst C (v := 2) dX9_account_89 (by decide) ?_
        refine a_callVi C 1 [0, 1, 2, 3, 4, 5, 6, 7] 0 cs_X9_171 hd_X9_commons ⟨rfl, rfl⟩ ⟨Nat.le_of_ble_eq_true rfl, Nat.le_of_ble_eq_true rfl⟩ (fun r h => c_X9_commons l D J kc ki kb kl kd t t_all t_reasons t_text t_word t_order t_rows t_written t_allF t_reasonsF t_textF t_wordF q_t_orderF t_rowsF t_writtenF y1 t_changes t_isSaved t_result t_texted t_wordSize q_t_orderMany t_here t_fault t_faultAt t_commandMany t_writtenSize 2 r h) rfl rfl rfl (fun _ => rfl) rfl rfl rfl (Nat.le_of_ble_eq_true rfl) dX9_account_90 ⟨Nat.zero_le _, Nat.zero_le _⟩ hF (fun r90_12 er90_12 hF => ?_)
        refine a_ws C (ws' := wX9 kc ki t t_all t_reasons t_text t_word t_order t_rows t_written t_allF t_reasonsF t_textF t_wordF r90_12.2.1 t_rowsF t_writtenF y1 t_changes t_isSaved t_result t_texted t_wordSize r90_12.2.2 t_here t_fault t_faultAt t_commandMany t_writtenSize) rfl ?_
        exact a_iret C hr rfl dX9_account_93 hF rfl rfl
      refine a_tscase C (tgt := 94) (v := 4) dX9_account_29 (by decide) (by decide) rfl (by decide) hF (fun c29_15 hF => ?_) (fun c29_15 hF => ?_)
      · refine a_aload_n C 0 dX9_account_94 rfl rfl ?_
        refine a_callVir C 0 [0, 1, 2, 3, 4, 5, 6, 7] 0 cs_X9_235 hd_X9_palindromes ⟨rfl, rfl⟩ ⟨Nat.le_of_ble_eq_true rfl, Nat.le_of_ble_eq_true rfl⟩ (fun r h => c_X9_palindromes l D J kc ki kb kl kd t t_all t_reasons t_text t_word t_order t_rows t_written t_allF t_reasonsF t_textF t_wordF q_t_orderF t_rowsF t_writtenF y1 t_changes t_isSaved t_result t_texted t_wordSize q_t_orderMany t_here t_fault t_faultAt t_commandMany t_writtenSize r h) rfl rfl rfl rfl rfl rfl (Nat.le_of_ble_eq_true rfl) dX9_account_95 ⟨Nat.zero_le _, Nat.zero_le _⟩ hF (fun r95_14 er95_14 hF => ?_)
        exact a_iret C hr rfl dX9_account_98 hF rfl rfl
      refine a_tscase C (tgt := 99) (v := 5) dX9_account_29 (by decide) (by decide) rfl (by decide) hF (fun c29_16 hF => ?_) (fun c29_16 hF => ?_)
      · refine a_aload_n C 0 dX9_account_99 rfl rfl ?_
        refine a_get C 0 2 iwX9 rfl rfl (by decide) kf_X9_43 rfl dX9_account_100 ?_
        exact a_iret C hr rfl dX9_account_103 hF rfl rfl
      exact nomatch hF
    refine a_iconst C (v := 0) dX9_account_26 (by decide) ?_
    exact a_iret C hr rfl dX9_account_27 hF rfl rfl
  unfold f_X9_account at hF
  refine a_aload_n C 0 dX9_account_0 rfl rfl ?_
  refine a_iload_n C 1 dX9_account_1 rfl rfl ?_
  refine a_iconst C (v := 0) dX9_account_2 (by decide) ?_
  refine a_bipush C (v := 6) dX9_account_3 (by decide) ?_
  refine a_callSir C 3 [] cs_X9_49 hd_X9_in ⟨rfl, rfl⟩ ⟨Nat.le_of_ble_eq_true rfl, Nat.le_of_ble_eq_true rfl⟩ (fun r h => c_X9_in l D J kc ki kb kl kd p1 0 6 r h) rfl rfl rfl rfl (Nat.le_of_ble_eq_true rfl) dX9_account_5 ⟨Nat.zero_le _, Nat.zero_le _⟩ hF (fun r5_1 er5_1 hF => ?_)
  refine a_if_eq C (tgt := 15) dX9_account_8 (by decide) hF (fun c8_2 hF => ?_) (fun c8_2 hF => ?_)
  · refine a_iconst C (v := 1) dX9_account_15 (by decide) ?_
    exact hJ16 t_orderF t_thrown t_orderMany 1 hF
  refine a_iconst C (v := 0) dX9_account_11 (by decide) ?_
  refine a_goto C (tgt := 16) dX9_account_12 (by decide) ?_
  exact hJ16 t_orderF t_thrown t_orderMany 0 hF
def f_X9_undo_J13 (q_t_allF : Nat → Int32) (q_t_changes : Int32) (y1 : Int32) : Option (Int32 × (Nat → Int32) × Int32 × Int32) := if y1 = 0 then ((f_X9_copies q_t_allF q_t_changes 0).bind fun r31_3 => some (q_t_changes - 1, r31_3, y1, q_t_changes - 1)) else (some (0, q_t_allF, y1, q_t_changes))
def f_X9_undo (t_allF : Nat → Int32) (t_changes : Int32) : Option (Int32 × (Nat → Int32) × Int32 × Int32) := if ¬ t_changes = 0 then (f_X9_undo_J13 t_allF t_changes 0) else (f_X9_undo_J13 t_allF t_changes 1)
theorem hd_X9_undo : yX9_undo.cls = RX9 ∧ yX9_undo.cls ≠ "java/lang/invoke/MethodHandle" ∧ yX9_undo.cls ≠ "java/lang/invoke/VarHandle" ∧ (parseMethodDescriptor yX9_undo.desc).map (fun d => d.parameters.length) = some 0 := by decide +kernel
set_option maxRecDepth 100000 in
set_option maxHeartbeats 4000000 in
theorem c_X9_undo (l : Launch) (D : va_G) (J : (Nat → Nat) × (Nat → Nat)) (kc ki kb kl kd : ClassId) (t : Nat) (t_all : Nat) (t_reasons : Nat) (t_text : Nat) (t_word : Nat) (t_order : Nat) (t_rows : Nat) (t_written : Nat) (t_allF : Nat → Int32) (t_reasonsF : Nat → Int32) (t_textF : Nat → Int32) (t_wordF : Nat → Int32) (t_orderF : Nat → Int32) (t_rowsF : Nat → Int32) (t_writtenF : Nat → Int32) (t_thrown : Int32) (t_changes : Int32) (t_isSaved : Int32) (t_result : Int32) (t_texted : Int32) (t_wordSize : Int32) (t_orderMany : Int32) (t_here : Int32) (t_fault : Int32) (t_faultAt : Int32) (t_commandMany : Int32) (t_writtenSize : Int32) (res : Int32 × (Nat → Int32) × Int32 × Int32) (hF : f_X9_undo t_allF t_changes = some res) : aKi l yX9_undo (aW yX9_undo cX9_undo 1 ((some .int))) ({ frames := 1, cells := 0, slots := 0, locals := 23 } : Room) D J (aTy kc ki kb kl kd) [.ref t] (wX9 kc ki t t_all t_reasons t_text t_word t_order t_rows t_written t_allF t_reasonsF t_textF t_wordF t_orderF t_rowsF t_writtenF t_thrown t_changes t_isSaved t_result t_texted t_wordSize t_orderMany t_here t_fault t_faultAt t_commandMany t_writtenSize) (fun r => r.1) (fun r => wX9 kc ki t t_all t_reasons t_text t_word t_order t_rows t_written r.2.1 t_reasonsF t_textF t_wordF t_orderF t_rowsF t_writtenF r.2.2.1 r.2.2.2 t_isSaved t_result t_texted t_wordSize t_orderMany t_here t_fault t_faultAt t_commandMany t_writtenSize) res := by
  refine aKi_of (own := RX9) (by decide) rfl (Nat.le_of_ble_eq_true rfl) rfl ?_
  intro p e s m args below meth c C hr
  have hJ13 : ∀ (q_t_allF : Nat → Int32) (q_t_thrown : Int32) (q_t_changes : Int32) (y1 : Int32), f_X9_undo_J13 q_t_allF q_t_changes y1 = some res → aT p l e ({ frames := 1, cells := 0, slots := 0, locals := 23 } : Room) s m args below meth c (MQ below (aQi D (wX9 kc ki t t_all t_reasons t_text t_word t_order t_rows t_written t_allF t_reasonsF t_textF t_wordF t_orderF t_rowsF t_writtenF t_thrown t_changes t_isSaved t_result t_texted t_wordSize t_orderMany t_here t_fault t_faultAt t_commandMany t_writtenSize) s.heap.size (fun r => r.1) (fun r => wX9 kc ki t t_all t_reasons t_text t_word t_order t_rows t_written r.2.1 t_reasonsF t_textF t_wordF t_orderF t_rowsF t_writtenF r.2.2.1 r.2.2.2 t_isSaved t_result t_texted t_wordSize t_orderMany t_here t_fault t_faultAt t_commandMany t_writtenSize) res) args s 0 0 (va_A (wX9 kc ki t t_all t_reasons t_text t_word t_order t_rows t_written t_allF t_reasonsF t_textF t_wordF t_orderF t_rowsF t_writtenF t_thrown t_changes t_isSaved t_result t_texted t_wordSize t_orderMany t_here t_fault t_faultAt t_commandMany t_writtenSize) s.heap.size)) D (va_A (wX9 kc ki t t_all t_reasons t_text t_word t_order t_rows t_written t_allF t_reasonsF t_textF t_wordF t_orderF t_rowsF t_writtenF t_thrown t_changes t_isSaved t_result t_texted t_wordSize t_orderMany t_here t_fault t_faultAt t_commandMany t_writtenSize) s.heap.size) 1 0 0 13 [(0, .ref t)] [.int y1, .ref t] (wX9 kc ki t t_all t_reasons t_text t_word t_order t_rows t_written q_t_allF t_reasonsF t_textF t_wordF t_orderF t_rowsF t_writtenF q_t_thrown q_t_changes t_isSaved t_result t_texted t_wordSize t_orderMany t_here t_fault t_faultAt t_commandMany t_writtenSize) := by
    intro q_t_allF q_t_thrown q_t_changes y1 hF
    unfold f_X9_undo_J13 at hF
    refine a_put C 0 0 iwX9 tyX9_ok nmX9 rfl rfl (by decide) kf_X9_36 rfl rfl rfl (Nat.le_of_ble_eq_true rfl) dX9_undo_13 ?_
    refine a_ws C (ws' := wX9 kc ki t t_all t_reasons t_text t_word t_order t_rows t_written q_t_allF t_reasonsF t_textF t_wordF t_orderF t_rowsF t_writtenF y1 q_t_changes t_isSaved t_result t_texted t_wordSize t_orderMany t_here t_fault t_faultAt t_commandMany t_writtenSize) rfl ?_
    refine a_aload_n C 0 dX9_undo_16 rfl rfl ?_
    refine a_get C 0 0 iwX9 rfl rfl (by decide) kf_X9_36 rfl dX9_undo_17 ?_
    refine a_if_eq C (tgt := 25) dX9_undo_20 (by decide) hF (fun c20_2 hF => ?_) (fun c20_2 hF => ?_)
    · refine a_aload_n C 0 dX9_undo_25 rfl rfl ?_
      refine a_aload_n C 0 dX9_undo_26 rfl rfl ?_
      refine a_get C 0 2 iwX9 rfl rfl (by decide) kf_X9_43 rfl dX9_undo_27 ?_
      refine a_iconst C (v := 0) dX9_undo_30 (by decide) ?_
      refine a_callVv C 2 [0, 1, 2, 3, 4, 5, 6, 7] 0 cs_X9_39 hd_X9_copies ⟨rfl, rfl⟩ ⟨Nat.le_of_ble_eq_true rfl, Nat.le_of_ble_eq_true rfl⟩ (fun r h => c_X9_copies l D J kc ki kb kl kd t t_all t_reasons t_text t_word t_order t_rows t_written q_t_allF t_reasonsF t_textF t_wordF t_orderF t_rowsF t_writtenF y1 q_t_changes t_isSaved t_result t_texted t_wordSize t_orderMany t_here t_fault t_faultAt t_commandMany t_writtenSize q_t_changes 0 r h) rfl rfl rfl (fun _ => rfl) rfl rfl rfl (Nat.le_of_ble_eq_true rfl) dX9_undo_31 ⟨Nat.zero_le _, Nat.zero_le _⟩ hF (fun r31_3 er31_3 hF => ?_)
      refine a_ws C (ws' := wX9 kc ki t t_all t_reasons t_text t_word t_order t_rows t_written r31_3 t_reasonsF t_textF t_wordF t_orderF t_rowsF t_writtenF y1 q_t_changes t_isSaved t_result t_texted t_wordSize t_orderMany t_here t_fault t_faultAt t_commandMany t_writtenSize) rfl ?_
      refine a_aload_n C 0 dX9_undo_34 rfl rfl ?_
      refine a_dup C dX9_undo_35 rfl ?_
      refine a_get C 0 2 iwX9 rfl rfl (by decide) kf_X9_43 rfl dX9_undo_36 ?_
      refine a_iconst C (v := 1) dX9_undo_39 (by decide) ?_
      refine a_isub C dX9_undo_40 ?_
      refine a_put C 0 2 iwX9 tyX9_ok nmX9 rfl rfl (by decide) kf_X9_43 rfl rfl rfl (Nat.le_of_ble_eq_true rfl) dX9_undo_41 ?_
      refine a_ws C (ws' := wX9 kc ki t t_all t_reasons t_text t_word t_order t_rows t_written r31_3 t_reasonsF t_textF t_wordF t_orderF t_rowsF t_writtenF y1 (q_t_changes - 1) t_isSaved t_result t_texted t_wordSize t_orderMany t_here t_fault t_faultAt t_commandMany t_writtenSize) rfl ?_
      refine a_aload_n C 0 dX9_undo_44 rfl rfl ?_
      refine a_get C 0 2 iwX9 rfl rfl (by decide) kf_X9_43 rfl dX9_undo_45 ?_
      exact a_iret C hr rfl dX9_undo_48 hF rfl rfl
    refine a_iconst C (v := 0) dX9_undo_23 (by decide) ?_
    exact a_iret C hr rfl dX9_undo_24 hF rfl rfl
  unfold f_X9_undo at hF
  refine a_aload_n C 0 dX9_undo_0 rfl rfl ?_
  refine a_aload_n C 0 dX9_undo_1 rfl rfl ?_
  refine a_get C 0 2 iwX9 rfl rfl (by decide) kf_X9_43 rfl dX9_undo_2 ?_
  refine a_if_ne C (tgt := 12) dX9_undo_5 (by decide) hF (fun c5_1 hF => ?_) (fun c5_1 hF => ?_)
  · refine a_iconst C (v := 0) dX9_undo_12 (by decide) ?_
    exact hJ13 t_allF t_thrown t_changes 0 hF
  refine a_iconst C (v := 1) dX9_undo_8 (by decide) ?_
  refine a_goto C (tgt := 13) dX9_undo_9 (by decide) ?_
  exact hJ13 t_allF t_thrown t_changes 1 hF
def f_X9_save (t_allF : Nat → Int32) : Option (Int32 × (Nat → Int32) × Int32 × Int32) := (f_X9_copies t_allF 0 9).bind fun r14_1 => (f_X9_many r14_1).bind fun r18_2 => some (r18_2, r14_1, 0, 1)
theorem hd_X9_save : yX9_save.cls = RX9 ∧ yX9_save.cls ≠ "java/lang/invoke/MethodHandle" ∧ yX9_save.cls ≠ "java/lang/invoke/VarHandle" ∧ (parseMethodDescriptor yX9_save.desc).map (fun d => d.parameters.length) = some 0 := by decide +kernel
set_option maxRecDepth 100000 in
set_option maxHeartbeats 4000000 in
theorem c_X9_save (l : Launch) (D : va_G) (J : (Nat → Nat) × (Nat → Nat)) (kc ki kb kl kd : ClassId) (t : Nat) (t_all : Nat) (t_reasons : Nat) (t_text : Nat) (t_word : Nat) (t_order : Nat) (t_rows : Nat) (t_written : Nat) (t_allF : Nat → Int32) (t_reasonsF : Nat → Int32) (t_textF : Nat → Int32) (t_wordF : Nat → Int32) (t_orderF : Nat → Int32) (t_rowsF : Nat → Int32) (t_writtenF : Nat → Int32) (t_thrown : Int32) (t_changes : Int32) (t_isSaved : Int32) (t_result : Int32) (t_texted : Int32) (t_wordSize : Int32) (t_orderMany : Int32) (t_here : Int32) (t_fault : Int32) (t_faultAt : Int32) (t_commandMany : Int32) (t_writtenSize : Int32) (res : Int32 × (Nat → Int32) × Int32 × Int32) (hF : f_X9_save t_allF = some res) : aKi l yX9_save (aW yX9_save cX9_save 1 ((some .int))) ({ frames := 1, cells := 0, slots := 0, locals := 23 } : Room) D J (aTy kc ki kb kl kd) [.ref t] (wX9 kc ki t t_all t_reasons t_text t_word t_order t_rows t_written t_allF t_reasonsF t_textF t_wordF t_orderF t_rowsF t_writtenF t_thrown t_changes t_isSaved t_result t_texted t_wordSize t_orderMany t_here t_fault t_faultAt t_commandMany t_writtenSize) (fun r => r.1) (fun r => wX9 kc ki t t_all t_reasons t_text t_word t_order t_rows t_written r.2.1 t_reasonsF t_textF t_wordF t_orderF t_rowsF t_writtenF r.2.2.1 t_changes r.2.2.2 t_result t_texted t_wordSize t_orderMany t_here t_fault t_faultAt t_commandMany t_writtenSize) res := by
  refine aKi_of (own := RX9) (by decide) rfl (Nat.le_of_ble_eq_true rfl) rfl ?_
  intro p e s m args below meth c C hr
  unfold f_X9_save at hF
  refine a_aload_n C 0 dX9_save_0 rfl rfl ?_
  refine a_iconst C (v := 0) dX9_save_1 (by decide) ?_
  refine a_put C 0 0 iwX9 tyX9_ok nmX9 rfl rfl (by decide) kf_X9_36 rfl rfl rfl (Nat.le_of_ble_eq_true rfl) dX9_save_2 ?_
  refine a_ws C (ws' := wX9 kc ki t t_all t_reasons t_text t_word t_order t_rows t_written t_allF t_reasonsF t_textF t_wordF t_orderF t_rowsF t_writtenF 0 t_changes t_isSaved t_result t_texted t_wordSize t_orderMany t_here t_fault t_faultAt t_commandMany t_writtenSize) rfl ?_
  refine a_aload_n C 0 dX9_save_5 rfl rfl ?_
  refine a_iconst C (v := 1) dX9_save_6 (by decide) ?_
  refine a_put C 0 3 iwX9 tyX9_ok nmX9 rfl rfl (by decide) kf_X9_238 rfl rfl rfl (Nat.le_of_ble_eq_true rfl) dX9_save_7 ?_
  refine a_ws C (ws' := wX9 kc ki t t_all t_reasons t_text t_word t_order t_rows t_written t_allF t_reasonsF t_textF t_wordF t_orderF t_rowsF t_writtenF 0 t_changes 1 t_result t_texted t_wordSize t_orderMany t_here t_fault t_faultAt t_commandMany t_writtenSize) rfl ?_
  refine a_aload_n C 0 dX9_save_10 rfl rfl ?_
  refine a_iconst C (v := 0) dX9_save_11 (by decide) ?_
  refine a_bipush C (v := 9) dX9_save_12 (by decide) ?_
  refine a_callVv C 2 [0, 1, 2, 3, 4, 5, 6, 7] 0 cs_X9_39 hd_X9_copies ⟨rfl, rfl⟩ ⟨Nat.le_of_ble_eq_true rfl, Nat.le_of_ble_eq_true rfl⟩ (fun r h => c_X9_copies l D J kc ki kb kl kd t t_all t_reasons t_text t_word t_order t_rows t_written t_allF t_reasonsF t_textF t_wordF t_orderF t_rowsF t_writtenF 0 t_changes 1 t_result t_texted t_wordSize t_orderMany t_here t_fault t_faultAt t_commandMany t_writtenSize 0 9 r h) rfl rfl rfl (fun _ => rfl) rfl rfl rfl (Nat.le_of_ble_eq_true rfl) dX9_save_14 ⟨Nat.zero_le _, Nat.zero_le _⟩ hF (fun r14_1 er14_1 hF => ?_)
  refine a_ws C (ws' := wX9 kc ki t t_all t_reasons t_text t_word t_order t_rows t_written r14_1 t_reasonsF t_textF t_wordF t_orderF t_rowsF t_writtenF 0 t_changes 1 t_result t_texted t_wordSize t_orderMany t_here t_fault t_faultAt t_commandMany t_writtenSize) rfl ?_
  refine a_aload_n C 0 dX9_save_17 rfl rfl ?_
  refine a_callVir C 0 [0, 1, 2, 3, 4, 5, 6, 7] 0 cs_X9_53 hd_X9_many ⟨rfl, rfl⟩ ⟨Nat.le_of_ble_eq_true rfl, Nat.le_of_ble_eq_true rfl⟩ (fun r h => c_X9_many l D J kc ki kb kl kd t t_all t_reasons t_text t_word t_order t_rows t_written r14_1 t_reasonsF t_textF t_wordF t_orderF t_rowsF t_writtenF 0 t_changes 1 t_result t_texted t_wordSize t_orderMany t_here t_fault t_faultAt t_commandMany t_writtenSize r h) rfl rfl rfl rfl rfl rfl (Nat.le_of_ble_eq_true rfl) dX9_save_18 ⟨Nat.zero_le _, Nat.zero_le _⟩ hF (fun r18_2 er18_2 hF => ?_)
  exact a_iret C hr rfl dX9_save_21 hF rfl rfl
def f_X9_restore_J13 (q_t_allF : Nat → Int32) (q_t_changes : Int32) (y1 : Int32) : Option (Int32 × (Nat → Int32) × Int32 × Int32) := if y1 = 0 then ((f_X9_copies q_t_allF 9 0).bind fun r29_3 => (f_X9_many r29_3).bind fun r38_4 => some (r38_4, r29_3, y1, 0)) else (some (0, q_t_allF, y1, q_t_changes))
def f_X9_restore (t_allF : Nat → Int32) (t_changes : Int32) (t_isSaved : Int32) : Option (Int32 × (Nat → Int32) × Int32 × Int32) := if t_isSaved = 0 then (f_X9_restore_J13 t_allF t_changes 1) else (f_X9_restore_J13 t_allF t_changes 0)
theorem hd_X9_restore : yX9_restore.cls = RX9 ∧ yX9_restore.cls ≠ "java/lang/invoke/MethodHandle" ∧ yX9_restore.cls ≠ "java/lang/invoke/VarHandle" ∧ (parseMethodDescriptor yX9_restore.desc).map (fun d => d.parameters.length) = some 0 := by decide +kernel
set_option maxRecDepth 100000 in
set_option maxHeartbeats 4000000 in
theorem c_X9_restore (l : Launch) (D : va_G) (J : (Nat → Nat) × (Nat → Nat)) (kc ki kb kl kd : ClassId) (t : Nat) (t_all : Nat) (t_reasons : Nat) (t_text : Nat) (t_word : Nat) (t_order : Nat) (t_rows : Nat) (t_written : Nat) (t_allF : Nat → Int32) (t_reasonsF : Nat → Int32) (t_textF : Nat → Int32) (t_wordF : Nat → Int32) (t_orderF : Nat → Int32) (t_rowsF : Nat → Int32) (t_writtenF : Nat → Int32) (t_thrown : Int32) (t_changes : Int32) (t_isSaved : Int32) (t_result : Int32) (t_texted : Int32) (t_wordSize : Int32) (t_orderMany : Int32) (t_here : Int32) (t_fault : Int32) (t_faultAt : Int32) (t_commandMany : Int32) (t_writtenSize : Int32) (res : Int32 × (Nat → Int32) × Int32 × Int32) (hF : f_X9_restore t_allF t_changes t_isSaved = some res) : aKi l yX9_restore (aW yX9_restore cX9_restore 1 ((some .int))) ({ frames := 1, cells := 0, slots := 0, locals := 23 } : Room) D J (aTy kc ki kb kl kd) [.ref t] (wX9 kc ki t t_all t_reasons t_text t_word t_order t_rows t_written t_allF t_reasonsF t_textF t_wordF t_orderF t_rowsF t_writtenF t_thrown t_changes t_isSaved t_result t_texted t_wordSize t_orderMany t_here t_fault t_faultAt t_commandMany t_writtenSize) (fun r => r.1) (fun r => wX9 kc ki t t_all t_reasons t_text t_word t_order t_rows t_written r.2.1 t_reasonsF t_textF t_wordF t_orderF t_rowsF t_writtenF r.2.2.1 r.2.2.2 t_isSaved t_result t_texted t_wordSize t_orderMany t_here t_fault t_faultAt t_commandMany t_writtenSize) res := by
  refine aKi_of (own := RX9) (by decide) rfl (Nat.le_of_ble_eq_true rfl) rfl ?_
  intro p e s m args below meth c C hr
  have hJ13 : ∀ (q_t_allF : Nat → Int32) (q_t_thrown : Int32) (q_t_changes : Int32) (y1 : Int32), f_X9_restore_J13 q_t_allF q_t_changes y1 = some res → aT p l e ({ frames := 1, cells := 0, slots := 0, locals := 23 } : Room) s m args below meth c (MQ below (aQi D (wX9 kc ki t t_all t_reasons t_text t_word t_order t_rows t_written t_allF t_reasonsF t_textF t_wordF t_orderF t_rowsF t_writtenF t_thrown t_changes t_isSaved t_result t_texted t_wordSize t_orderMany t_here t_fault t_faultAt t_commandMany t_writtenSize) s.heap.size (fun r => r.1) (fun r => wX9 kc ki t t_all t_reasons t_text t_word t_order t_rows t_written r.2.1 t_reasonsF t_textF t_wordF t_orderF t_rowsF t_writtenF r.2.2.1 r.2.2.2 t_isSaved t_result t_texted t_wordSize t_orderMany t_here t_fault t_faultAt t_commandMany t_writtenSize) res) args s 0 0 (va_A (wX9 kc ki t t_all t_reasons t_text t_word t_order t_rows t_written t_allF t_reasonsF t_textF t_wordF t_orderF t_rowsF t_writtenF t_thrown t_changes t_isSaved t_result t_texted t_wordSize t_orderMany t_here t_fault t_faultAt t_commandMany t_writtenSize) s.heap.size)) D (va_A (wX9 kc ki t t_all t_reasons t_text t_word t_order t_rows t_written t_allF t_reasonsF t_textF t_wordF t_orderF t_rowsF t_writtenF t_thrown t_changes t_isSaved t_result t_texted t_wordSize t_orderMany t_here t_fault t_faultAt t_commandMany t_writtenSize) s.heap.size) 1 0 0 13 [(0, .ref t)] [.int y1, .ref t] (wX9 kc ki t t_all t_reasons t_text t_word t_order t_rows t_written q_t_allF t_reasonsF t_textF t_wordF t_orderF t_rowsF t_writtenF q_t_thrown q_t_changes t_isSaved t_result t_texted t_wordSize t_orderMany t_here t_fault t_faultAt t_commandMany t_writtenSize) := by
    intro q_t_allF q_t_thrown q_t_changes y1 hF
    unfold f_X9_restore_J13 at hF
    refine a_put C 0 0 iwX9 tyX9_ok nmX9 rfl rfl (by decide) kf_X9_36 rfl rfl rfl (Nat.le_of_ble_eq_true rfl) dX9_restore_13 ?_
    refine a_ws C (ws' := wX9 kc ki t t_all t_reasons t_text t_word t_order t_rows t_written q_t_allF t_reasonsF t_textF t_wordF t_orderF t_rowsF t_writtenF y1 q_t_changes t_isSaved t_result t_texted t_wordSize t_orderMany t_here t_fault t_faultAt t_commandMany t_writtenSize) rfl ?_
    refine a_aload_n C 0 dX9_restore_16 rfl rfl ?_
    refine a_get C 0 0 iwX9 rfl rfl (by decide) kf_X9_36 rfl dX9_restore_17 ?_
    refine a_if_eq C (tgt := 25) dX9_restore_20 (by decide) hF (fun c20_2 hF => ?_) (fun c20_2 hF => ?_)
    · refine a_aload_n C 0 dX9_restore_25 rfl rfl ?_
      refine a_bipush C (v := 9) dX9_restore_26 (by decide) ?_
      refine a_iconst C (v := 0) dX9_restore_28 (by decide) ?_
      refine a_callVv C 2 [0, 1, 2, 3, 4, 5, 6, 7] 0 cs_X9_39 hd_X9_copies ⟨rfl, rfl⟩ ⟨Nat.le_of_ble_eq_true rfl, Nat.le_of_ble_eq_true rfl⟩ (fun r h => c_X9_copies l D J kc ki kb kl kd t t_all t_reasons t_text t_word t_order t_rows t_written q_t_allF t_reasonsF t_textF t_wordF t_orderF t_rowsF t_writtenF y1 q_t_changes t_isSaved t_result t_texted t_wordSize t_orderMany t_here t_fault t_faultAt t_commandMany t_writtenSize 9 0 r h) rfl rfl rfl (fun _ => rfl) rfl rfl rfl (Nat.le_of_ble_eq_true rfl) dX9_restore_29 ⟨Nat.zero_le _, Nat.zero_le _⟩ hF (fun r29_3 er29_3 hF => ?_)
      refine a_ws C (ws' := wX9 kc ki t t_all t_reasons t_text t_word t_order t_rows t_written r29_3 t_reasonsF t_textF t_wordF t_orderF t_rowsF t_writtenF y1 q_t_changes t_isSaved t_result t_texted t_wordSize t_orderMany t_here t_fault t_faultAt t_commandMany t_writtenSize) rfl ?_
      refine a_aload_n C 0 dX9_restore_32 rfl rfl ?_
      refine a_iconst C (v := 0) dX9_restore_33 (by decide) ?_
      refine a_put C 0 2 iwX9 tyX9_ok nmX9 rfl rfl (by decide) kf_X9_43 rfl rfl rfl (Nat.le_of_ble_eq_true rfl) dX9_restore_34 ?_
      refine a_ws C (ws' := wX9 kc ki t t_all t_reasons t_text t_word t_order t_rows t_written r29_3 t_reasonsF t_textF t_wordF t_orderF t_rowsF t_writtenF y1 0 t_isSaved t_result t_texted t_wordSize t_orderMany t_here t_fault t_faultAt t_commandMany t_writtenSize) rfl ?_
      refine a_aload_n C 0 dX9_restore_37 rfl rfl ?_
      refine a_callVir C 0 [0, 1, 2, 3, 4, 5, 6, 7] 0 cs_X9_53 hd_X9_many ⟨rfl, rfl⟩ ⟨Nat.le_of_ble_eq_true rfl, Nat.le_of_ble_eq_true rfl⟩ (fun r h => c_X9_many l D J kc ki kb kl kd t t_all t_reasons t_text t_word t_order t_rows t_written r29_3 t_reasonsF t_textF t_wordF t_orderF t_rowsF t_writtenF y1 0 t_isSaved t_result t_texted t_wordSize t_orderMany t_here t_fault t_faultAt t_commandMany t_writtenSize r h) rfl rfl rfl rfl rfl rfl (Nat.le_of_ble_eq_true rfl) dX9_restore_38 ⟨Nat.zero_le _, Nat.zero_le _⟩ hF (fun r38_4 er38_4 hF => ?_)
      exact a_iret C hr rfl dX9_restore_41 hF rfl rfl
    refine a_iconst C (v := 0) dX9_restore_23 (by decide) ?_
    exact a_iret C hr rfl dX9_restore_24 hF rfl rfl
  unfold f_X9_restore at hF
  refine a_aload_n C 0 dX9_restore_0 rfl rfl ?_
  refine a_aload_n C 0 dX9_restore_1 rfl rfl ?_
  refine a_get C 0 3 iwX9 rfl rfl (by decide) kf_X9_238 rfl dX9_restore_2 ?_
  refine a_if_eq C (tgt := 12) dX9_restore_5 (by decide) hF (fun c5_1 hF => ?_) (fun c5_1 hF => ?_)
  · refine a_iconst C (v := 1) dX9_restore_12 (by decide) ?_
    exact hJ13 t_allF t_thrown t_changes 1 hF
  refine a_iconst C (v := 0) dX9_restore_8 (by decide) ?_
  refine a_goto C (tgt := 13) dX9_restore_9 (by decide) ?_
  exact hJ13 t_allF t_thrown t_changes 0 hF
