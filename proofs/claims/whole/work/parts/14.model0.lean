def f_X9_thrown (t_thrown : Int32) : Option Int32 := some t_thrown
theorem hd_X9_thrown : yX9_thrown.cls = RX9 ∧ yX9_thrown.cls ≠ "java/lang/invoke/MethodHandle" ∧ yX9_thrown.cls ≠ "java/lang/invoke/VarHandle" ∧ (parseMethodDescriptor yX9_thrown.desc).map (fun d => d.parameters.length) = some 0 := by decide +kernel
set_option maxRecDepth 100000 in
set_option maxHeartbeats 4000000 in
theorem c_X9_thrown (l : Launch) (D : va_G) (J : (Nat → Nat) × (Nat → Nat)) (kc ki kb kl kd : ClassId) (t : Nat) (t_all : Nat) (t_reasons : Nat) (t_text : Nat) (t_word : Nat) (t_order : Nat) (t_rows : Nat) (t_written : Nat) (t_allF : Nat → Int32) (t_reasonsF : Nat → Int32) (t_textF : Nat → Int32) (t_wordF : Nat → Int32) (t_orderF : Nat → Int32) (t_rowsF : Nat → Int32) (t_writtenF : Nat → Int32) (t_thrown : Int32) (t_changes : Int32) (t_isSaved : Int32) (t_result : Int32) (t_texted : Int32) (t_wordSize : Int32) (t_orderMany : Int32) (t_here : Int32) (t_fault : Int32) (t_faultAt : Int32) (t_commandMany : Int32) (t_writtenSize : Int32) (res : Int32) (hF : f_X9_thrown t_thrown = some res) : aKi l yX9_thrown (aW yX9_thrown cX9_thrown 1 ((some .int))) ({ frames := 0, cells := 0, slots := 0, locals := 0 } : Room) D J (aTy kc ki kb kl kd) [.ref t] (wX9 kc ki t t_all t_reasons t_text t_word t_order t_rows t_written t_allF t_reasonsF t_textF t_wordF t_orderF t_rowsF t_writtenF t_thrown t_changes t_isSaved t_result t_texted t_wordSize t_orderMany t_here t_fault t_faultAt t_commandMany t_writtenSize) (fun r => r) (fun _ => wX9 kc ki t t_all t_reasons t_text t_word t_order t_rows t_written t_allF t_reasonsF t_textF t_wordF t_orderF t_rowsF t_writtenF t_thrown t_changes t_isSaved t_result t_texted t_wordSize t_orderMany t_here t_fault t_faultAt t_commandMany t_writtenSize) res := by
  refine aKi_of (own := RX9) (by decide) rfl (Nat.le_of_ble_eq_true rfl) rfl ?_
  intro p e s m args below meth c C hr
  unfold f_X9_thrown at hF
  refine a_aload_n C 0 dX9_thrown_0 rfl rfl ?_
  refine a_get C 0 0 iwX9 rfl rfl (by decide) kf_X9_36 rfl dX9_thrown_1 ?_
  exact a_iret C hr rfl dX9_thrown_4 hF rfl rfl
def f_X9_in (p0 : Int32) (p1 : Int32) (p2 : Int32) : Option Int32 := if p0 < p1 then (some 0) else (if p2 < p0 then (some 0) else (some 1))
theorem hd_X9_in : yX9_in.cls ≠ "java/lang/invoke/MethodHandle" ∧ yX9_in.cls ≠ "java/lang/invoke/VarHandle" ∧ (parseMethodDescriptor yX9_in.desc).map (fun d => d.parameters.length) = some 3 := by decide +kernel
set_option maxRecDepth 100000 in
set_option maxHeartbeats 4000000 in
theorem c_X9_in (l : Launch) (D : va_G) (J : (Nat → Nat) × (Nat → Nat)) (kc ki kb kl kd : ClassId) (p0 p1 p2 : Int32) (res : Int32) (hF : f_X9_in p0 p1 p2 = some res) : aKi l yX9_in (aW yX9_in cX9_in 3 ((some .boolean))) ({ frames := 0, cells := 0, slots := 0, locals := 0 } : Room) D J (aTy kc ki kb kl kd) [.int p0, .int p1, .int p2] ([]) (fun r => r) (fun _ => []) res := by
  refine aKi_of (own := RX9) (by decide) rfl (Nat.le_of_ble_eq_true rfl) rfl ?_
  intro p e s m args below meth c C hr
  unfold f_X9_in at hF
  refine a_iload_n C 0 dX9_in_0 rfl rfl ?_
  refine a_iload_n C 1 dX9_in_1 rfl rfl ?_
  refine a_ic_lt C (tgt := 14) dX9_in_2 (by decide) hF (fun c2_1 hF => ?_) (fun c2_1 hF => ?_)
  · refine a_iconst C (v := 0) dX9_in_14 (by decide) ?_
    exact a_iret C hr rfl dX9_in_15 hF rfl rfl
  refine a_iload_n C 0 dX9_in_5 rfl rfl ?_
  refine a_iload_n C 2 dX9_in_6 rfl rfl ?_
  refine a_ic_gt C (tgt := 14) dX9_in_7 (by decide) hF (fun c7_2 hF => ?_) (fun c7_2 hF => ?_)
  · refine a_iconst C (v := 0) dX9_in_14 (by decide) ?_
    exact a_iret C hr rfl dX9_in_15 hF rfl rfl
  refine a_iconst C (v := 1) dX9_in_10 (by decide) ?_
  refine a_goto C (tgt := 15) dX9_in_11 (by decide) ?_
  exact a_iret C hr rfl dX9_in_15 hF rfl rfl
def f_X9_copies_L2 (p1 : Int32) (p2 : Int32) : Nat → Int32 → (Nat → Int32) → (Int32 → (Nat → Int32) → Option ((Nat → Int32))) → Option ((Nat → Int32))
  | 0, _, _, _ => none
  | fuel + 1, x3, q_t_allF, k => if 89 ≤ x3 then (k x3 q_t_allF) else ((ldi q_t_allF 979 ((89 * p1) + x3)).bind fun v28_2 => (sti q_t_allF 979 ((89 * p2) + x3) v28_2).bind fun g29_3 => f_X9_copies_L2 p1 p2 fuel (x3 + 1) g29_3 k)
def f_X9_copies (t_allF : Nat → Int32) (p1 : Int32) (p2 : Int32) : Option ((Nat → Int32)) := f_X9_copies_L2 p1 p2 1000 0 t_allF (fun x3_2_4 q_t_allF_2_5 => some q_t_allF_2_5)
theorem hd_X9_copies : yX9_copies.cls = RX9 ∧ yX9_copies.cls ≠ "java/lang/invoke/MethodHandle" ∧ yX9_copies.cls ≠ "java/lang/invoke/VarHandle" ∧ (parseMethodDescriptor yX9_copies.desc).map (fun d => d.parameters.length) = some 2 := by decide +kernel
set_option maxRecDepth 100000 in
set_option maxHeartbeats 4000000 in
theorem c_X9_copies (l : Launch) (D : va_G) (J : (Nat → Nat) × (Nat → Nat)) (kc ki kb kl kd : ClassId) (t : Nat) (t_all : Nat) (t_reasons : Nat) (t_text : Nat) (t_word : Nat) (t_order : Nat) (t_rows : Nat) (t_written : Nat) (t_allF : Nat → Int32) (t_reasonsF : Nat → Int32) (t_textF : Nat → Int32) (t_wordF : Nat → Int32) (t_orderF : Nat → Int32) (t_rowsF : Nat → Int32) (t_writtenF : Nat → Int32) (t_thrown : Int32) (t_changes : Int32) (t_isSaved : Int32) (t_result : Int32) (t_texted : Int32) (t_wordSize : Int32) (t_orderMany : Int32) (t_here : Int32) (t_fault : Int32) (t_faultAt : Int32) (t_commandMany : Int32) (t_writtenSize : Int32) (p1 p2 : Int32) (res : (Nat → Int32)) (hF : f_X9_copies t_allF p1 p2 = some res) : aKv l yX9_copies (aW yX9_copies cX9_copies 4 none) ({ frames := 0, cells := 0, slots := 0, locals := 0 } : Room) D J (aTy kc ki kb kl kd) [.ref t, .int p1, .int p2] (wX9 kc ki t t_all t_reasons t_text t_word t_order t_rows t_written t_allF t_reasonsF t_textF t_wordF t_orderF t_rowsF t_writtenF t_thrown t_changes t_isSaved t_result t_texted t_wordSize t_orderMany t_here t_fault t_faultAt t_commandMany t_writtenSize) (fun r => wX9 kc ki t t_all t_reasons t_text t_word t_order t_rows t_written r t_reasonsF t_textF t_wordF t_orderF t_rowsF t_writtenF t_thrown t_changes t_isSaved t_result t_texted t_wordSize t_orderMany t_here t_fault t_faultAt t_commandMany t_writtenSize) res := by
  refine aKv_of (own := RX9) (by decide) rfl (Nat.le_of_ble_eq_true rfl) rfl ?_
  intro p e s m args below meth c C hr
  have hI2 : ∀ (fuel : Nat) (x3 : Int32) (q_t_allF : Nat → Int32) (k : Int32 → (Nat → Int32) → Option ((Nat → Int32))), f_X9_copies_L2 p1 p2 fuel x3 q_t_allF k = some res → (∀ (x3 : Int32) (q_t_allF : Nat → Int32), k x3 q_t_allF = some res → aT p l e ({ frames := 0, cells := 0, slots := 0, locals := 0 } : Room) s m args below meth c (MQ below (aQv D (wX9 kc ki t t_all t_reasons t_text t_word t_order t_rows t_written t_allF t_reasonsF t_textF t_wordF t_orderF t_rowsF t_writtenF t_thrown t_changes t_isSaved t_result t_texted t_wordSize t_orderMany t_here t_fault t_faultAt t_commandMany t_writtenSize) s.heap.size (fun r => wX9 kc ki t t_all t_reasons t_text t_word t_order t_rows t_written r t_reasonsF t_textF t_wordF t_orderF t_rowsF t_writtenF t_thrown t_changes t_isSaved t_result t_texted t_wordSize t_orderMany t_here t_fault t_faultAt t_commandMany t_writtenSize) res) args s 0 0 (va_A (wX9 kc ki t t_all t_reasons t_text t_word t_order t_rows t_written t_allF t_reasonsF t_textF t_wordF t_orderF t_rowsF t_writtenF t_thrown t_changes t_isSaved t_result t_texted t_wordSize t_orderMany t_here t_fault t_faultAt t_commandMany t_writtenSize) s.heap.size)) D (va_A (wX9 kc ki t t_all t_reasons t_text t_word t_order t_rows t_written t_allF t_reasonsF t_textF t_wordF t_orderF t_rowsF t_writtenF t_thrown t_changes t_isSaved t_result t_texted t_wordSize t_orderMany t_here t_fault t_faultAt t_commandMany t_writtenSize) s.heap.size) 4 0 0 36 [] [] (wX9 kc ki t t_all t_reasons t_text t_word t_order t_rows t_written q_t_allF t_reasonsF t_textF t_wordF t_orderF t_rowsF t_writtenF t_thrown t_changes t_isSaved t_result t_texted t_wordSize t_orderMany t_here t_fault t_faultAt t_commandMany t_writtenSize)) → aT p l e ({ frames := 0, cells := 0, slots := 0, locals := 0 } : Room) s m args below meth c (MQ below (aQv D (wX9 kc ki t t_all t_reasons t_text t_word t_order t_rows t_written t_allF t_reasonsF t_textF t_wordF t_orderF t_rowsF t_writtenF t_thrown t_changes t_isSaved t_result t_texted t_wordSize t_orderMany t_here t_fault t_faultAt t_commandMany t_writtenSize) s.heap.size (fun r => wX9 kc ki t t_all t_reasons t_text t_word t_order t_rows t_written r t_reasonsF t_textF t_wordF t_orderF t_rowsF t_writtenF t_thrown t_changes t_isSaved t_result t_texted t_wordSize t_orderMany t_here t_fault t_faultAt t_commandMany t_writtenSize) res) args s 0 0 (va_A (wX9 kc ki t t_all t_reasons t_text t_word t_order t_rows t_written t_allF t_reasonsF t_textF t_wordF t_orderF t_rowsF t_writtenF t_thrown t_changes t_isSaved t_result t_texted t_wordSize t_orderMany t_here t_fault t_faultAt t_commandMany t_writtenSize) s.heap.size)) D (va_A (wX9 kc ki t t_all t_reasons t_text t_word t_order t_rows t_written t_allF t_reasonsF t_textF t_wordF t_orderF t_rowsF t_writtenF t_thrown t_changes t_isSaved t_result t_texted t_wordSize t_orderMany t_here t_fault t_faultAt t_commandMany t_writtenSize) s.heap.size) 4 0 0 2 [(0, .ref t), (1, .int p1), (2, .int p2), (3, .int x3)] [] (wX9 kc ki t t_all t_reasons t_text t_word t_order t_rows t_written q_t_allF t_reasonsF t_textF t_wordF t_orderF t_rowsF t_writtenF t_thrown t_changes t_isSaved t_result t_texted t_wordSize t_orderMany t_here t_fault t_faultAt t_commandMany t_writtenSize) := by
    intro fuel
    induction fuel with
    | zero => intro x3 q_t_allF k hF hX; exact nomatch hF
    | succ fuel ih =>
      intro x3 q_t_allF k hF hX
      rw [f_X9_copies_L2] at hF
      refine a_iload_n C 3 dX9_copies_2 rfl rfl ?_
      refine a_bipush C (v := 89) dX9_copies_3 (by decide) ?_
      refine a_ic_ge C (tgt := 36) dX9_copies_5 (by decide) hF (fun c5_1 hF => ?_) (fun c5_1 hF => ?_)
      · refine a_sub C [] [] rfl ?_
        exact hX x3 q_t_allF hF
      refine a_aload_n C 0 dX9_copies_8 rfl rfl ?_
      refine a_get C 0 1 iwX9 rfl rfl (by decide) kf_X9_9 rfl dX9_copies_9 ?_
      refine a_bipush C (v := 89) dX9_copies_12 (by decide) ?_
      refine a_iload_n C 2 dX9_copies_14 rfl rfl ?_
      refine a_imul C dX9_copies_15 ?_
      refine a_iload_n C 3 dX9_copies_16 rfl rfl ?_
      refine a_iadd C dX9_copies_17 ?_
      refine a_aload_n C 0 dX9_copies_18 rfl rfl ?_
      refine a_get C 0 1 iwX9 rfl rfl (by decide) kf_X9_9 rfl dX9_copies_19 ?_
      refine a_bipush C (v := 89) dX9_copies_22 (by decide) ?_
      refine a_iload_n C 1 dX9_copies_24 rfl rfl ?_
      refine a_imul C dX9_copies_25 ?_
      refine a_iload_n C 3 dX9_copies_26 rfl rfl ?_
      refine a_iadd C dX9_copies_27 ?_
      refine a_iald C 1 1 rfl rfl dX9_copies_28 hF (fun v28_2 ev28_2 hF => ?_)
      refine a_iast C 1 1 rfl rfl dX9_copies_29 hF (fun g29_3 eg29_3 hF => ?_)
      refine a_ws C (ws' := wX9 kc ki t t_all t_reasons t_text t_word t_order t_rows t_written g29_3 t_reasonsF t_textF t_wordF t_orderF t_rowsF t_writtenF t_thrown t_changes t_isSaved t_result t_texted t_wordSize t_orderMany t_here t_fault t_faultAt t_commandMany t_writtenSize) rfl ?_
      refine a_iinc C 3 [(3, .int (x3 + 1)), (0, .ref t), (1, .int p1), (2, .int p2)] dX9_copies_30 rfl rfl (by decide) rfl ?_
      refine a_goto C (tgt := 2) dX9_copies_33 (by decide) ?_
      refine a_sub C [1, 2, 3, 0] [(0, .ref t), (1, .int p1), (2, .int p2), (3, .int (x3 + 1))] rfl ?_
      exact ih (x3 + 1) g29_3 k hF hX
  unfold f_X9_copies at hF
  refine a_iconst C (v := 0) dX9_copies_0 (by decide) ?_
  refine a_istore_n C [(3, .int 0), (0, .ref t), (1, .int p1), (2, .int p2)] dX9_copies_1 rfl (by decide) rfl ?_
  refine a_sub C [1, 2, 3, 0] [(0, .ref t), (1, .int p1), (2, .int p2), (3, .int 0)] rfl ?_
  refine hI2 1000 0 t_allF _ hF (fun x3_2_4 q_t_allF_2_5 hF => ?_)
  exact a_vret C hr dX9_copies_36 hF rfl
theorem cs_X9_39 : GoodIn WW (wsV RX9 39 RX9 yX9_copies (aW yX9_copies cX9_copies 4 none)) := gdV kl_X9_39 ki_X9_copies kv_X9_copies kn_X9 kc_X9_copies
def f_X9_begins (t_allF : Nat → Int32) : Option ((Nat → Int32)) := (f_X9_copies t_allF 0 10).bind fun r4_1 => some r4_1
theorem hd_X9_begins : yX9_begins.cls = RX9 ∧ yX9_begins.cls ≠ "java/lang/invoke/MethodHandle" ∧ yX9_begins.cls ≠ "java/lang/invoke/VarHandle" ∧ (parseMethodDescriptor yX9_begins.desc).map (fun d => d.parameters.length) = some 0 := by decide +kernel
set_option maxRecDepth 100000 in
set_option maxHeartbeats 4000000 in
theorem c_X9_begins (l : Launch) (D : va_G) (J : (Nat → Nat) × (Nat → Nat)) (kc ki kb kl kd : ClassId) (t : Nat) (t_all : Nat) (t_reasons : Nat) (t_text : Nat) (t_word : Nat) (t_order : Nat) (t_rows : Nat) (t_written : Nat) (t_allF : Nat → Int32) (t_reasonsF : Nat → Int32) (t_textF : Nat → Int32) (t_wordF : Nat → Int32) (t_orderF : Nat → Int32) (t_rowsF : Nat → Int32) (t_writtenF : Nat → Int32) (t_thrown : Int32) (t_changes : Int32) (t_isSaved : Int32) (t_result : Int32) (t_texted : Int32) (t_wordSize : Int32) (t_orderMany : Int32) (t_here : Int32) (t_fault : Int32) (t_faultAt : Int32) (t_commandMany : Int32) (t_writtenSize : Int32) (res : (Nat → Int32)) (hF : f_X9_begins t_allF = some res) : aKv l yX9_begins (aW yX9_begins cX9_begins 1 none) ({ frames := 1, cells := 0, slots := 0, locals := 23 } : Room) D J (aTy kc ki kb kl kd) [.ref t] (wX9 kc ki t t_all t_reasons t_text t_word t_order t_rows t_written t_allF t_reasonsF t_textF t_wordF t_orderF t_rowsF t_writtenF t_thrown t_changes t_isSaved t_result t_texted t_wordSize t_orderMany t_here t_fault t_faultAt t_commandMany t_writtenSize) (fun r => wX9 kc ki t t_all t_reasons t_text t_word t_order t_rows t_written r t_reasonsF t_textF t_wordF t_orderF t_rowsF t_writtenF t_thrown t_changes t_isSaved t_result t_texted t_wordSize t_orderMany t_here t_fault t_faultAt t_commandMany t_writtenSize) res := by
  refine aKv_of (own := RX9) (by decide) rfl (Nat.le_of_ble_eq_true rfl) rfl ?_
  intro p e s m args below meth c C hr
  unfold f_X9_begins at hF
  refine a_aload_n C 0 dX9_begins_0 rfl rfl ?_
  refine a_iconst C (v := 0) dX9_begins_1 (by decide) ?_
  refine a_bipush C (v := 10) dX9_begins_2 (by decide) ?_
  refine a_callVv C 2 [0, 1, 2, 3, 4, 5, 6, 7] 0 cs_X9_39 hd_X9_copies ⟨rfl, rfl⟩ ⟨Nat.le_of_ble_eq_true rfl, Nat.le_of_ble_eq_true rfl⟩ (fun r h => c_X9_copies l D J kc ki kb kl kd t t_all t_reasons t_text t_word t_order t_rows t_written t_allF t_reasonsF t_textF t_wordF t_orderF t_rowsF t_writtenF t_thrown t_changes t_isSaved t_result t_texted t_wordSize t_orderMany t_here t_fault t_faultAt t_commandMany t_writtenSize 0 10 r h) rfl rfl rfl (fun _ => rfl) rfl rfl rfl (Nat.le_of_ble_eq_true rfl) dX9_begins_4 ⟨Nat.zero_le _, Nat.zero_le _⟩ hF (fun r4_1 er4_1 hF => ?_)
  refine a_ws C (ws' := wX9 kc ki t t_all t_reasons t_text t_word t_order t_rows t_written r4_1 t_reasonsF t_textF t_wordF t_orderF t_rowsF t_writtenF t_thrown t_changes t_isSaved t_result t_texted t_wordSize t_orderMany t_here t_fault t_faultAt t_commandMany t_writtenSize) rfl ?_
  exact a_vret C hr dX9_begins_7 hF rfl
def f_X9_ends_J67 (q_t_allF : Nat → Int32) (q_t_thrown : Int32) (q_t_changes : Int32) (t_result : Int32) : Option (Int32 × (Nat → Int32) × Int32 × Int32) := (f_X9_copies q_t_allF 10 (q_t_changes + 1)).bind fun r84_4 => some (t_result, r84_4, q_t_thrown, q_t_changes + 1)
def f_X9_ends_L37 : Nat → Int32 → (Nat → Int32) → (Int32 → (Nat → Int32) → Option (Int32 × (Nat → Int32) × Int32 × Int32)) → Option (Int32 × (Nat → Int32) × Int32 × Int32)
  | 0, _, _, _ => none
  | fuel + 1, x3, q_t_allF, k => if 8 ≤ x3 then (k x3 q_t_allF) else ((f_X9_copies q_t_allF (x3 + 1) x3).bind fun r48_6 => f_X9_ends_L37 fuel (x3 + 1) r48_6 k)
def f_X9_ends_J10 (q_t_allF : Nat → Int32) (q_t_changes : Int32) (y1 : Int32) (p1 : Int32) (t_result : Int32) : Option (Int32 × (Nat → Int32) × Int32 × Int32) := if ¬ p1 = 0 then (if ¬ q_t_changes = 8 then (f_X9_ends_J67 q_t_allF y1 q_t_changes t_result) else (f_X9_ends_L37 1000 1 q_t_allF (fun x3_37_7 q_t_allF_37_8 => f_X9_ends_J67 q_t_allF_37_8 y1 (q_t_changes - 1) t_result))) else ((f_X9_copies q_t_allF 10 0).bind fun r21_9 => some (0, r21_9, y1, q_t_changes))
def f_X9_ends (t_allF : Nat → Int32) (t_changes : Int32) (t_result : Int32) (p1 : Int32) (p2 : Int32) : Option (Int32 × (Nat → Int32) × Int32 × Int32) := if p1 = 0 then (f_X9_ends_J10 t_allF t_changes p2 p1 t_result) else (f_X9_ends_J10 t_allF t_changes 0 p1 t_result)
theorem hd_X9_ends : yX9_ends.cls = RX9 ∧ yX9_ends.cls ≠ "java/lang/invoke/MethodHandle" ∧ yX9_ends.cls ≠ "java/lang/invoke/VarHandle" ∧ (parseMethodDescriptor yX9_ends.desc).map (fun d => d.parameters.length) = some 2 := by decide +kernel
set_option maxRecDepth 100000 in
set_option maxHeartbeats 4000000 in
theorem c_X9_ends (l : Launch) (D : va_G) (J : (Nat → Nat) × (Nat → Nat)) (kc ki kb kl kd : ClassId) (t : Nat) (t_all : Nat) (t_reasons : Nat) (t_text : Nat) (t_word : Nat) (t_order : Nat) (t_rows : Nat) (t_written : Nat) (t_allF : Nat → Int32) (t_reasonsF : Nat → Int32) (t_textF : Nat → Int32) (t_wordF : Nat → Int32) (t_orderF : Nat → Int32) (t_rowsF : Nat → Int32) (t_writtenF : Nat → Int32) (t_thrown : Int32) (t_changes : Int32) (t_isSaved : Int32) (t_result : Int32) (t_texted : Int32) (t_wordSize : Int32) (t_orderMany : Int32) (t_here : Int32) (t_fault : Int32) (t_faultAt : Int32) (t_commandMany : Int32) (t_writtenSize : Int32) (p1 p2 : Int32) (res : Int32 × (Nat → Int32) × Int32 × Int32) (hF : f_X9_ends t_allF t_changes t_result p1 p2 = some res) : aKi l yX9_ends (aW yX9_ends cX9_ends 4 ((some .int))) ({ frames := 1, cells := 0, slots := 0, locals := 23 } : Room) D J (aTy kc ki kb kl kd) [.ref t, .int p1, .int p2] (wX9 kc ki t t_all t_reasons t_text t_word t_order t_rows t_written t_allF t_reasonsF t_textF t_wordF t_orderF t_rowsF t_writtenF t_thrown t_changes t_isSaved t_result t_texted t_wordSize t_orderMany t_here t_fault t_faultAt t_commandMany t_writtenSize) (fun r => r.1) (fun r => wX9 kc ki t t_all t_reasons t_text t_word t_order t_rows t_written r.2.1 t_reasonsF t_textF t_wordF t_orderF t_rowsF t_writtenF r.2.2.1 r.2.2.2 t_isSaved t_result t_texted t_wordSize t_orderMany t_here t_fault t_faultAt t_commandMany t_writtenSize) res := by
  refine aKi_of (own := RX9) (by decide) rfl (Nat.le_of_ble_eq_true rfl) rfl ?_
  intro p e s m args below meth c C hr
  have hJ67 : ∀ (q_t_allF : Nat → Int32) (q_t_thrown : Int32) (q_t_changes : Int32), f_X9_ends_J67 q_t_allF q_t_thrown q_t_changes t_result = some res → aT p l e ({ frames := 1, cells := 0, slots := 0, locals := 23 } : Room) s m args below meth c (MQ below (aQi D (wX9 kc ki t t_all t_reasons t_text t_word t_order t_rows t_written t_allF t_reasonsF t_textF t_wordF t_orderF t_rowsF t_writtenF t_thrown t_changes t_isSaved t_result t_texted t_wordSize t_orderMany t_here t_fault t_faultAt t_commandMany t_writtenSize) s.heap.size (fun r => r.1) (fun r => wX9 kc ki t t_all t_reasons t_text t_word t_order t_rows t_written r.2.1 t_reasonsF t_textF t_wordF t_orderF t_rowsF t_writtenF r.2.2.1 r.2.2.2 t_isSaved t_result t_texted t_wordSize t_orderMany t_here t_fault t_faultAt t_commandMany t_writtenSize) res) args s 0 0 (va_A (wX9 kc ki t t_all t_reasons t_text t_word t_order t_rows t_written t_allF t_reasonsF t_textF t_wordF t_orderF t_rowsF t_writtenF t_thrown t_changes t_isSaved t_result t_texted t_wordSize t_orderMany t_here t_fault t_faultAt t_commandMany t_writtenSize) s.heap.size)) D (va_A (wX9 kc ki t t_all t_reasons t_text t_word t_order t_rows t_written t_allF t_reasonsF t_textF t_wordF t_orderF t_rowsF t_writtenF t_thrown t_changes t_isSaved t_result t_texted t_wordSize t_orderMany t_here t_fault t_faultAt t_commandMany t_writtenSize) s.heap.size) 4 0 0 67 [(0, .ref t)] [] (wX9 kc ki t t_all t_reasons t_text t_word t_order t_rows t_written q_t_allF t_reasonsF t_textF t_wordF t_orderF t_rowsF t_writtenF q_t_thrown q_t_changes t_isSaved t_result t_texted t_wordSize t_orderMany t_here t_fault t_faultAt t_commandMany t_writtenSize) := by
    intro q_t_allF q_t_thrown q_t_changes hF
    unfold f_X9_ends_J67 at hF
    refine a_aload_n C 0 dX9_ends_67 rfl rfl ?_
    refine a_dup C dX9_ends_68 rfl ?_
    refine a_get C 0 2 iwX9 rfl rfl (by decide) kf_X9_43 rfl dX9_ends_69 ?_
    refine a_iconst C (v := 1) dX9_ends_72 (by decide) ?_
    refine a_iadd C dX9_ends_73 ?_
    refine a_put C 0 2 iwX9 tyX9_ok nmX9 rfl rfl (by decide) kf_X9_43 rfl rfl rfl (Nat.le_of_ble_eq_true rfl) dX9_ends_74 ?_
    refine a_ws C (ws' := wX9 kc ki t t_all t_reasons t_text t_word t_order t_rows t_written q_t_allF t_reasonsF t_textF t_wordF t_orderF t_rowsF t_writtenF q_t_thrown (q_t_changes + 1) t_isSaved t_result t_texted t_wordSize t_orderMany t_here t_fault t_faultAt t_commandMany t_writtenSize) rfl ?_
    refine a_aload_n C 0 dX9_ends_77 rfl rfl ?_
    refine a_bipush C (v := 10) dX9_ends_78 (by decide) ?_
    refine a_aload_n C 0 dX9_ends_80 rfl rfl ?_
    refine a_get C 0 2 iwX9 rfl rfl (by decide) kf_X9_43 rfl dX9_ends_81 ?_
    refine a_callVv C 2 [0, 1, 2, 3, 4, 5, 6, 7] 0 cs_X9_39 hd_X9_copies ⟨rfl, rfl⟩ ⟨Nat.le_of_ble_eq_true rfl, Nat.le_of_ble_eq_true rfl⟩ (fun r h => c_X9_copies l D J kc ki kb kl kd t t_all t_reasons t_text t_word t_order t_rows t_written q_t_allF t_reasonsF t_textF t_wordF t_orderF t_rowsF t_writtenF q_t_thrown (q_t_changes + 1) t_isSaved t_result t_texted t_wordSize t_orderMany t_here t_fault t_faultAt t_commandMany t_writtenSize 10 (q_t_changes + 1) r h) rfl rfl rfl (fun _ => rfl) rfl rfl rfl (Nat.le_of_ble_eq_true rfl) dX9_ends_84 ⟨Nat.zero_le _, Nat.zero_le _⟩ hF (fun r84_4 er84_4 hF => ?_)
    refine a_ws C (ws' := wX9 kc ki t t_all t_reasons t_text t_word t_order t_rows t_written r84_4 t_reasonsF t_textF t_wordF t_orderF t_rowsF t_writtenF q_t_thrown (q_t_changes + 1) t_isSaved t_result t_texted t_wordSize t_orderMany t_here t_fault t_faultAt t_commandMany t_writtenSize) rfl ?_
    refine a_aload_n C 0 dX9_ends_87 rfl rfl ?_
    refine a_get C 0 4 iwX9 rfl rfl (by decide) kf_X9_46 rfl dX9_ends_88 ?_
    exact a_iret C hr rfl dX9_ends_91 hF rfl rfl
  have hI37 : ∀ (q_t_thrown : Int32) (q_t_changes : Int32) (fuel : Nat) (x3 : Int32) (q_t_allF : Nat → Int32) (k : Int32 → (Nat → Int32) → Option (Int32 × (Nat → Int32) × Int32 × Int32)), f_X9_ends_L37 fuel x3 q_t_allF k = some res → (∀ (x3 : Int32) (q_t_allF : Nat → Int32), k x3 q_t_allF = some res → aT p l e ({ frames := 1, cells := 0, slots := 0, locals := 23 } : Room) s m args below meth c (MQ below (aQi D (wX9 kc ki t t_all t_reasons t_text t_word t_order t_rows t_written t_allF t_reasonsF t_textF t_wordF t_orderF t_rowsF t_writtenF t_thrown t_changes t_isSaved t_result t_texted t_wordSize t_orderMany t_here t_fault t_faultAt t_commandMany t_writtenSize) s.heap.size (fun r => r.1) (fun r => wX9 kc ki t t_all t_reasons t_text t_word t_order t_rows t_written r.2.1 t_reasonsF t_textF t_wordF t_orderF t_rowsF t_writtenF r.2.2.1 r.2.2.2 t_isSaved t_result t_texted t_wordSize t_orderMany t_here t_fault t_faultAt t_commandMany t_writtenSize) res) args s 0 0 (va_A (wX9 kc ki t t_all t_reasons t_text t_word t_order t_rows t_written t_allF t_reasonsF t_textF t_wordF t_orderF t_rowsF t_writtenF t_thrown t_changes t_isSaved t_result t_texted t_wordSize t_orderMany t_here t_fault t_faultAt t_commandMany t_writtenSize) s.heap.size)) D (va_A (wX9 kc ki t t_all t_reasons t_text t_word t_order t_rows t_written t_allF t_reasonsF t_textF t_wordF t_orderF t_rowsF t_writtenF t_thrown t_changes t_isSaved t_result t_texted t_wordSize t_orderMany t_here t_fault t_faultAt t_commandMany t_writtenSize) s.heap.size) 4 0 0 57 [(0, .ref t)] [] (wX9 kc ki t t_all t_reasons t_text t_word t_order t_rows t_written q_t_allF t_reasonsF t_textF t_wordF t_orderF t_rowsF t_writtenF q_t_thrown q_t_changes t_isSaved t_result t_texted t_wordSize t_orderMany t_here t_fault t_faultAt t_commandMany t_writtenSize)) → aT p l e ({ frames := 1, cells := 0, slots := 0, locals := 23 } : Room) s m args below meth c (MQ below (aQi D (wX9 kc ki t t_all t_reasons t_text t_word t_order t_rows t_written t_allF t_reasonsF t_textF t_wordF t_orderF t_rowsF t_writtenF t_thrown t_changes t_isSaved t_result t_texted t_wordSize t_orderMany t_here t_fault t_faultAt t_commandMany t_writtenSize) s.heap.size (fun r => r.1) (fun r => wX9 kc ki t t_all t_reasons t_text t_word t_order t_rows t_written r.2.1 t_reasonsF t_textF t_wordF t_orderF t_rowsF t_writtenF r.2.2.1 r.2.2.2 t_isSaved t_result t_texted t_wordSize t_orderMany t_here t_fault t_faultAt t_commandMany t_writtenSize) res) args s 0 0 (va_A (wX9 kc ki t t_all t_reasons t_text t_word t_order t_rows t_written t_allF t_reasonsF t_textF t_wordF t_orderF t_rowsF t_writtenF t_thrown t_changes t_isSaved t_result t_texted t_wordSize t_orderMany t_here t_fault t_faultAt t_commandMany t_writtenSize) s.heap.size)) D (va_A (wX9 kc ki t t_all t_reasons t_text t_word t_order t_rows t_written t_allF t_reasonsF t_textF t_wordF t_orderF t_rowsF t_writtenF t_thrown t_changes t_isSaved t_result t_texted t_wordSize t_orderMany t_here t_fault t_faultAt t_commandMany t_writtenSize) s.heap.size) 4 0 0 37 [(0, .ref t), (3, .int x3)] [] (wX9 kc ki t t_all t_reasons t_text t_word t_order t_rows t_written q_t_allF t_reasonsF t_textF t_wordF t_orderF t_rowsF t_writtenF q_t_thrown q_t_changes t_isSaved t_result t_texted t_wordSize t_orderMany t_here t_fault t_faultAt t_commandMany t_writtenSize) := by
    intro q_t_thrown q_t_changes fuel
    induction fuel with
    | zero => intro x3 q_t_allF k hF hX; exact nomatch hF
    | succ fuel ih =>
      intro x3 q_t_allF k hF hX
      rw [f_X9_ends_L37] at hF
      refine a_iload_n C 1 dX9_ends_37 rfl rfl ?_
      refine a_bipush C (v := 8) dX9_ends_38 (by decide) ?_
      refine a_ic_ge C (tgt := 57) dX9_ends_40 (by decide) hF (fun c40_5 hF => ?_) (fun c40_5 hF => ?_)
      · refine a_sub C [0] [(0, .ref t)] rfl ?_
        exact hX x3 q_t_allF hF
      refine a_aload_n C 0 dX9_ends_43 rfl rfl ?_
      refine a_iload_n C 1 dX9_ends_44 rfl rfl ?_
      refine a_iconst C (v := 1) dX9_ends_45 (by decide) ?_
      refine a_iadd C dX9_ends_46 ?_
      refine a_iload_n C 1 dX9_ends_47 rfl rfl ?_
      refine a_callVv C 2 [0, 1, 2, 3, 4, 5, 6, 7] 0 cs_X9_39 hd_X9_copies ⟨rfl, rfl⟩ ⟨Nat.le_of_ble_eq_true rfl, Nat.le_of_ble_eq_true rfl⟩ (fun r h => c_X9_copies l D J kc ki kb kl kd t t_all t_reasons t_text t_word t_order t_rows t_written q_t_allF t_reasonsF t_textF t_wordF t_orderF t_rowsF t_writtenF q_t_thrown q_t_changes t_isSaved t_result t_texted t_wordSize t_orderMany t_here t_fault t_faultAt t_commandMany t_writtenSize (x3 + 1) x3 r h) rfl rfl rfl (fun _ => rfl) rfl rfl rfl (Nat.le_of_ble_eq_true rfl) dX9_ends_48 ⟨Nat.zero_le _, Nat.zero_le _⟩ hF (fun r48_6 er48_6 hF => ?_)
      refine a_ws C (ws' := wX9 kc ki t t_all t_reasons t_text t_word t_order t_rows t_written r48_6 t_reasonsF t_textF t_wordF t_orderF t_rowsF t_writtenF q_t_thrown q_t_changes t_isSaved t_result t_texted t_wordSize t_orderMany t_here t_fault t_faultAt t_commandMany t_writtenSize) rfl ?_
      refine a_iinc C 1 [(3, .int (x3 + 1)), (0, .ref t)] dX9_ends_51 rfl rfl (by decide) rfl ?_
      refine a_goto C (tgt := 37) dX9_ends_54 (by decide) ?_
      refine a_sub C [1, 0] [(0, .ref t), (3, .int (x3 + 1))] rfl ?_
      exact ih (x3 + 1) r48_6 k hF hX
  have hJ10 : ∀ (q_t_allF : Nat → Int32) (q_t_thrown : Int32) (q_t_changes : Int32) (y1 : Int32), f_X9_ends_J10 q_t_allF q_t_changes y1 p1 t_result = some res → aT p l e ({ frames := 1, cells := 0, slots := 0, locals := 23 } : Room) s m args below meth c (MQ below (aQi D (wX9 kc ki t t_all t_reasons t_text t_word t_order t_rows t_written t_allF t_reasonsF t_textF t_wordF t_orderF t_rowsF t_writtenF t_thrown t_changes t_isSaved t_result t_texted t_wordSize t_orderMany t_here t_fault t_faultAt t_commandMany t_writtenSize) s.heap.size (fun r => r.1) (fun r => wX9 kc ki t t_all t_reasons t_text t_word t_order t_rows t_written r.2.1 t_reasonsF t_textF t_wordF t_orderF t_rowsF t_writtenF r.2.2.1 r.2.2.2 t_isSaved t_result t_texted t_wordSize t_orderMany t_here t_fault t_faultAt t_commandMany t_writtenSize) res) args s 0 0 (va_A (wX9 kc ki t t_all t_reasons t_text t_word t_order t_rows t_written t_allF t_reasonsF t_textF t_wordF t_orderF t_rowsF t_writtenF t_thrown t_changes t_isSaved t_result t_texted t_wordSize t_orderMany t_here t_fault t_faultAt t_commandMany t_writtenSize) s.heap.size)) D (va_A (wX9 kc ki t t_all t_reasons t_text t_word t_order t_rows t_written t_allF t_reasonsF t_textF t_wordF t_orderF t_rowsF t_writtenF t_thrown t_changes t_isSaved t_result t_texted t_wordSize t_orderMany t_here t_fault t_faultAt t_commandMany t_writtenSize) s.heap.size) 4 0 0 10 [(0, .ref t), (1, .int p1)] [.int y1, .ref t] (wX9 kc ki t t_all t_reasons t_text t_word t_order t_rows t_written q_t_allF t_reasonsF t_textF t_wordF t_orderF t_rowsF t_writtenF q_t_thrown q_t_changes t_isSaved t_result t_texted t_wordSize t_orderMany t_here t_fault t_faultAt t_commandMany t_writtenSize) := by
    intro q_t_allF q_t_thrown q_t_changes y1 hF
    unfold f_X9_ends_J10 at hF
    refine a_put C 0 0 iwX9 tyX9_ok nmX9 rfl rfl (by decide) kf_X9_36 rfl rfl rfl (Nat.le_of_ble_eq_true rfl) dX9_ends_10 ?_
    refine a_ws C (ws' := wX9 kc ki t t_all t_reasons t_text t_word t_order t_rows t_written q_t_allF t_reasonsF t_textF t_wordF t_orderF t_rowsF t_writtenF y1 q_t_changes t_isSaved t_result t_texted t_wordSize t_orderMany t_here t_fault t_faultAt t_commandMany t_writtenSize) rfl ?_
    refine a_iload_n C 1 dX9_ends_13 rfl rfl ?_
    refine a_if_ne C (tgt := 26) dX9_ends_14 (by decide) hF (fun c14_2 hF => ?_) (fun c14_2 hF => ?_)
    · refine a_aload_n C 0 dX9_ends_26 rfl rfl ?_
      refine a_get C 0 2 iwX9 rfl rfl (by decide) kf_X9_43 rfl dX9_ends_27 ?_
      refine a_bipush C (v := 8) dX9_ends_30 (by decide) ?_
      refine a_ic_ne C (tgt := 67) dX9_ends_32 (by decide) hF (fun c32_3 hF => ?_) (fun c32_3 hF => ?_)
      · refine a_sub C [0] [(0, .ref t)] rfl ?_
        exact hJ67 q_t_allF y1 q_t_changes hF
      refine a_iconst C (v := 1) dX9_ends_35 (by decide) ?_
      refine a_istore_n C [(3, .int 1), (0, .ref t), (1, .int p1)] dX9_ends_36 rfl (by decide) rfl ?_
      refine a_sub C [1, 0] [(0, .ref t), (3, .int 1)] rfl ?_
      refine hI37 y1 q_t_changes 1000 1 q_t_allF _ hF (fun x3_37_7 q_t_allF_37_8 hF => ?_)
      refine a_aload_n C 0 dX9_ends_57 rfl rfl ?_
      refine a_dup C dX9_ends_58 rfl ?_
      refine a_get C 0 2 iwX9 rfl rfl (by decide) kf_X9_43 rfl dX9_ends_59 ?_
      refine a_iconst C (v := 1) dX9_ends_62 (by decide) ?_
      refine a_isub C dX9_ends_63 ?_
      refine a_put C 0 2 iwX9 tyX9_ok nmX9 rfl rfl (by decide) kf_X9_43 rfl rfl rfl (Nat.le_of_ble_eq_true rfl) dX9_ends_64 ?_
      refine a_ws C (ws' := wX9 kc ki t t_all t_reasons t_text t_word t_order t_rows t_written q_t_allF_37_8 t_reasonsF t_textF t_wordF t_orderF t_rowsF t_writtenF y1 (q_t_changes - 1) t_isSaved t_result t_texted t_wordSize t_orderMany t_here t_fault t_faultAt t_commandMany t_writtenSize) rfl ?_
      exact hJ67 q_t_allF_37_8 y1 (q_t_changes - 1) hF
    refine a_aload_n C 0 dX9_ends_17 rfl rfl ?_
    refine a_bipush C (v := 10) dX9_ends_18 (by decide) ?_
    refine a_iconst C (v := 0) dX9_ends_20 (by decide) ?_
    refine a_callVv C 2 [0, 1, 2, 3, 4, 5, 6, 7] 0 cs_X9_39 hd_X9_copies ⟨rfl, rfl⟩ ⟨Nat.le_of_ble_eq_true rfl, Nat.le_of_ble_eq_true rfl⟩ (fun r h => c_X9_copies l D J kc ki kb kl kd t t_all t_reasons t_text t_word t_order t_rows t_written q_t_allF t_reasonsF t_textF t_wordF t_orderF t_rowsF t_writtenF y1 q_t_changes t_isSaved t_result t_texted t_wordSize t_orderMany t_here t_fault t_faultAt t_commandMany t_writtenSize 10 0 r h) rfl rfl rfl (fun _ => rfl) rfl rfl rfl (Nat.le_of_ble_eq_true rfl) dX9_ends_21 ⟨Nat.zero_le _, Nat.zero_le _⟩ hF (fun r21_9 er21_9 hF => ?_)
    refine a_ws C (ws' := wX9 kc ki t t_all t_reasons t_text t_word t_order t_rows t_written r21_9 t_reasonsF t_textF t_wordF t_orderF t_rowsF t_writtenF y1 q_t_changes t_isSaved t_result t_texted t_wordSize t_orderMany t_here t_fault t_faultAt t_commandMany t_writtenSize) rfl ?_
    refine a_iconst C (v := 0) dX9_ends_24 (by decide) ?_
    exact a_iret C hr rfl dX9_ends_25 hF rfl rfl
  unfold f_X9_ends at hF
  refine a_aload_n C 0 dX9_ends_0 rfl rfl ?_
  refine a_iload_n C 1 dX9_ends_1 rfl rfl ?_
  refine a_if_eq C (tgt := 9) dX9_ends_2 (by decide) hF (fun c2_1 hF => ?_) (fun c2_1 hF => ?_)
  · refine a_iload_n C 2 dX9_ends_9 rfl rfl ?_
    refine a_sub C [0, 1] [(0, .ref t), (1, .int p1)] rfl ?_
    exact hJ10 t_allF t_thrown t_changes p2 hF
  refine a_iconst C (v := 0) dX9_ends_5 (by decide) ?_
  refine a_goto C (tgt := 10) dX9_ends_6 (by decide) ?_
  refine a_sub C [0, 1] [(0, .ref t), (1, .int p1)] rfl ?_
  exact hJ10 t_allF t_thrown t_changes 0 hF
def f_X9_refuses (t_reasonsF : Nat → Int32) (p1 : Int32) (p2 : Int32) (p3 : Int32) : Option (Int32 × (Nat → Int32)) := if p1 = 0 then ((rz p1).bind fun _ => some (p1, t_reasonsF)) else ((sti t_reasonsF 6 0 p2).bind fun g10_3 => (sti g10_3 6 1 p3).bind fun g17_4 => (sti g17_4 6 2 0).bind fun g24_5 => (sti g24_5 6 4 0).bind fun g31_6 => (rz p1).bind fun _ => some (p1, g31_6))
theorem hd_X9_refuses : yX9_refuses.cls = RX9 ∧ yX9_refuses.cls ≠ "java/lang/invoke/MethodHandle" ∧ yX9_refuses.cls ≠ "java/lang/invoke/VarHandle" ∧ (parseMethodDescriptor yX9_refuses.desc).map (fun d => d.parameters.length) = some 3 := by decide +kernel
set_option maxRecDepth 100000 in
set_option maxHeartbeats 4000000 in
theorem c_X9_refuses (l : Launch) (D : va_G) (J : (Nat → Nat) × (Nat → Nat)) (kc ki kb kl kd : ClassId) (t : Nat) (t_all : Nat) (t_reasons : Nat) (t_text : Nat) (t_word : Nat) (t_order : Nat) (t_rows : Nat) (t_written : Nat) (t_allF : Nat → Int32) (t_reasonsF : Nat → Int32) (t_textF : Nat → Int32) (t_wordF : Nat → Int32) (t_orderF : Nat → Int32) (t_rowsF : Nat → Int32) (t_writtenF : Nat → Int32) (t_thrown : Int32) (t_changes : Int32) (t_isSaved : Int32) (t_result : Int32) (t_texted : Int32) (t_wordSize : Int32) (t_orderMany : Int32) (t_here : Int32) (t_fault : Int32) (t_faultAt : Int32) (t_commandMany : Int32) (t_writtenSize : Int32) (p1 p2 p3 : Int32) (res : Int32 × (Nat → Int32)) (hF : f_X9_refuses t_reasonsF p1 p2 p3 = some res) : aKi l yX9_refuses (aW yX9_refuses cX9_refuses 4 ((some .boolean))) ({ frames := 0, cells := 0, slots := 0, locals := 0 } : Room) D J (aTy kc ki kb kl kd) [.ref t, .int p1, .int p2, .int p3] (wX9 kc ki t t_all t_reasons t_text t_word t_order t_rows t_written t_allF t_reasonsF t_textF t_wordF t_orderF t_rowsF t_writtenF t_thrown t_changes t_isSaved t_result t_texted t_wordSize t_orderMany t_here t_fault t_faultAt t_commandMany t_writtenSize) (fun r => r.1) (fun r => wX9 kc ki t t_all t_reasons t_text t_word t_order t_rows t_written t_allF r.2 t_textF t_wordF t_orderF t_rowsF t_writtenF t_thrown t_changes t_isSaved t_result t_texted t_wordSize t_orderMany t_here t_fault t_faultAt t_commandMany t_writtenSize) res := by
  refine aKi_of (own := RX9) (by decide) rfl (Nat.le_of_ble_eq_true rfl) rfl ?_
  intro p e s m args below meth c C hr
  unfold f_X9_refuses at hF
  refine a_iload_n C 1 dX9_refuses_0 rfl rfl ?_
  refine a_if_eq C (tgt := 32) dX9_refuses_1 (by decide) hF (fun c1_1 hF => ?_) (fun c1_1 hF => ?_)
  · refine a_iload_n C 1 dX9_refuses_32 rfl rfl ?_
    refine a_rz hF (fun n33_2 hF => ?_)
    exact a_iret C hr n33_2 dX9_refuses_33 hF rfl rfl
  refine a_aload_n C 0 dX9_refuses_4 rfl rfl ?_
  refine a_get C 0 5 iwX9 rfl rfl (by decide) kf_X9_13 rfl dX9_refuses_5 ?_
  refine a_iconst C (v := 0) dX9_refuses_8 (by decide) ?_
  refine a_iload_n C 2 dX9_refuses_9 rfl rfl ?_
  refine a_iast C 2 1 rfl rfl dX9_refuses_10 hF (fun g10_3 eg10_3 hF => ?_)
  refine a_ws C (ws' := wX9 kc ki t t_all t_reasons t_text t_word t_order t_rows t_written t_allF g10_3 t_textF t_wordF t_orderF t_rowsF t_writtenF t_thrown t_changes t_isSaved t_result t_texted t_wordSize t_orderMany t_here t_fault t_faultAt t_commandMany t_writtenSize) rfl ?_
  refine a_aload_n C 0 dX9_refuses_11 rfl rfl ?_
  refine a_get C 0 5 iwX9 rfl rfl (by decide) kf_X9_13 rfl dX9_refuses_12 ?_
  refine a_iconst C (v := 1) dX9_refuses_15 (by decide) ?_
  refine a_iload_n C 3 dX9_refuses_16 rfl rfl ?_
  refine a_iast C 2 1 rfl rfl dX9_refuses_17 hF (fun g17_4 eg17_4 hF => ?_)
  refine a_ws C (ws' := wX9 kc ki t t_all t_reasons t_text t_word t_order t_rows t_written t_allF g17_4 t_textF t_wordF t_orderF t_rowsF t_writtenF t_thrown t_changes t_isSaved t_result t_texted t_wordSize t_orderMany t_here t_fault t_faultAt t_commandMany t_writtenSize) rfl ?_
  refine a_aload_n C 0 dX9_refuses_18 rfl rfl ?_
  refine a_get C 0 5 iwX9 rfl rfl (by decide) kf_X9_13 rfl dX9_refuses_19 ?_
  refine a_iconst C (v := 2) dX9_refuses_22 (by decide) ?_
  refine a_iconst C (v := 0) dX9_refuses_23 (by decide) ?_
  refine a_iast C 2 1 rfl rfl dX9_refuses_24 hF (fun g24_5 eg24_5 hF => ?_)
  refine a_ws C (ws' := wX9 kc ki t t_all t_reasons t_text t_word t_order t_rows t_written t_allF g24_5 t_textF t_wordF t_orderF t_rowsF t_writtenF t_thrown t_changes t_isSaved t_result t_texted t_wordSize t_orderMany t_here t_fault t_faultAt t_commandMany t_writtenSize) rfl ?_
  refine a_aload_n C 0 dX9_refuses_25 rfl rfl ?_
  refine a_get C 0 5 iwX9 rfl rfl (by decide) kf_X9_13 rfl dX9_refuses_26 ?_
  refine a_iconst C (v := 4) dX9_refuses_29 (by decide) ?_
  refine a_iconst C (v := 0) dX9_refuses_30 (by decide) ?_
  refine a_iast C 2 1 rfl rfl dX9_refuses_31 hF (fun g31_6 eg31_6 hF => ?_)
  refine a_ws C (ws' := wX9 kc ki t t_all t_reasons t_text t_word t_order t_rows t_written t_allF g31_6 t_textF t_wordF t_orderF t_rowsF t_writtenF t_thrown t_changes t_isSaved t_result t_texted t_wordSize t_orderMany t_here t_fault t_faultAt t_commandMany t_writtenSize) rfl ?_
  refine a_iload_n C 1 dX9_refuses_32 rfl rfl ?_
  refine a_rz hF (fun n33_7 hF => ?_)
  exact a_iret C hr n33_7 dX9_refuses_33 hF rfl rfl
theorem cs_X9_49 : GoodIn WW (va_wsS RX9 49 yX9_in (aW yX9_in cX9_in 3 ((some .boolean)))) := gdS kl_X9_49 ks_X9_in kn_X9 kc_X9_in
def f_X9_reason_J30 (y1 : Int32) (p1 : Int32) (p2 : Int32) (t_reasonsF : Nat → Int32) : Option (Int32 × Int32) := if ¬ y1 = 0 then (some (0, y1)) else (if p2 = 0 then ((ldi t_reasonsF 6 ((2 * p1) + 0)).bind fun v57_7 => some (v57_7, y1)) else ((ldi t_reasonsF 6 ((2 * p1) + 1)).bind fun v57_8 => some (v57_8, y1)))
def f_X9_reason (t_reasonsF : Nat → Int32) (p1 : Int32) (p2 : Int32) : Option (Int32 × Int32) := (f_X9_in p1 0 2).bind fun r4_1 => if ¬ r4_1 = 0 then ((ldi t_reasonsF 6 (2 * p1)).bind fun v21_3 => if ¬ v21_3 = 0 then (f_X9_reason_J30 0 p1 p2 t_reasonsF) else (f_X9_reason_J30 2 p1 p2 t_reasonsF)) else (f_X9_reason_J30 1 p1 p2 t_reasonsF)
theorem hd_X9_reason : yX9_reason.cls = RX9 ∧ yX9_reason.cls ≠ "java/lang/invoke/MethodHandle" ∧ yX9_reason.cls ≠ "java/lang/invoke/VarHandle" ∧ (parseMethodDescriptor yX9_reason.desc).map (fun d => d.parameters.length) = some 2 := by decide +kernel
set_option maxRecDepth 100000 in
set_option maxHeartbeats 4000000 in
theorem c_X9_reason (l : Launch) (D : va_G) (J : (Nat → Nat) × (Nat → Nat)) (kc ki kb kl kd : ClassId) (t : Nat) (t_all : Nat) (t_reasons : Nat) (t_text : Nat) (t_word : Nat) (t_order : Nat) (t_rows : Nat) (t_written : Nat) (t_allF : Nat → Int32) (t_reasonsF : Nat → Int32) (t_textF : Nat → Int32) (t_wordF : Nat → Int32) (t_orderF : Nat → Int32) (t_rowsF : Nat → Int32) (t_writtenF : Nat → Int32) (t_thrown : Int32) (t_changes : Int32) (t_isSaved : Int32) (t_result : Int32) (t_texted : Int32) (t_wordSize : Int32) (t_orderMany : Int32) (t_here : Int32) (t_fault : Int32) (t_faultAt : Int32) (t_commandMany : Int32) (t_writtenSize : Int32) (p1 p2 : Int32) (res : Int32 × Int32) (hF : f_X9_reason t_reasonsF p1 p2 = some res) : aKi l yX9_reason (aW yX9_reason cX9_reason 3 ((some .int))) ({ frames := 1, cells := 0, slots := 0, locals := 22 } : Room) D J (aTy kc ki kb kl kd) [.ref t, .int p1, .int p2] (wX9 kc ki t t_all t_reasons t_text t_word t_order t_rows t_written t_allF t_reasonsF t_textF t_wordF t_orderF t_rowsF t_writtenF t_thrown t_changes t_isSaved t_result t_texted t_wordSize t_orderMany t_here t_fault t_faultAt t_commandMany t_writtenSize) (fun r => r.1) (fun r => wX9 kc ki t t_all t_reasons t_text t_word t_order t_rows t_written t_allF t_reasonsF t_textF t_wordF t_orderF t_rowsF t_writtenF r.2 t_changes t_isSaved t_result t_texted t_wordSize t_orderMany t_here t_fault t_faultAt t_commandMany t_writtenSize) res := by
  refine aKi_of (own := RX9) (by decide) rfl (Nat.le_of_ble_eq_true rfl) rfl ?_
  intro p e s m args below meth c C hr
  have hJ30 : ∀ (q_t_thrown : Int32) (y1 : Int32), f_X9_reason_J30 y1 p1 p2 t_reasonsF = some res → aT p l e ({ frames := 1, cells := 0, slots := 0, locals := 22 } : Room) s m args below meth c (MQ below (aQi D (wX9 kc ki t t_all t_reasons t_text t_word t_order t_rows t_written t_allF t_reasonsF t_textF t_wordF t_orderF t_rowsF t_writtenF t_thrown t_changes t_isSaved t_result t_texted t_wordSize t_orderMany t_here t_fault t_faultAt t_commandMany t_writtenSize) s.heap.size (fun r => r.1) (fun r => wX9 kc ki t t_all t_reasons t_text t_word t_order t_rows t_written t_allF t_reasonsF t_textF t_wordF t_orderF t_rowsF t_writtenF r.2 t_changes t_isSaved t_result t_texted t_wordSize t_orderMany t_here t_fault t_faultAt t_commandMany t_writtenSize) res) args s 0 0 (va_A (wX9 kc ki t t_all t_reasons t_text t_word t_order t_rows t_written t_allF t_reasonsF t_textF t_wordF t_orderF t_rowsF t_writtenF t_thrown t_changes t_isSaved t_result t_texted t_wordSize t_orderMany t_here t_fault t_faultAt t_commandMany t_writtenSize) s.heap.size)) D (va_A (wX9 kc ki t t_all t_reasons t_text t_word t_order t_rows t_written t_allF t_reasonsF t_textF t_wordF t_orderF t_rowsF t_writtenF t_thrown t_changes t_isSaved t_result t_texted t_wordSize t_orderMany t_here t_fault t_faultAt t_commandMany t_writtenSize) s.heap.size) 3 0 0 30 [(0, .ref t), (1, .int p1), (2, .int p2)] [.int y1, .ref t] (wX9 kc ki t t_all t_reasons t_text t_word t_order t_rows t_written t_allF t_reasonsF t_textF t_wordF t_orderF t_rowsF t_writtenF q_t_thrown t_changes t_isSaved t_result t_texted t_wordSize t_orderMany t_here t_fault t_faultAt t_commandMany t_writtenSize) := by
    intro q_t_thrown y1 hF
    unfold f_X9_reason_J30 at hF
    refine a_put C 0 0 iwX9 tyX9_ok nmX9 rfl rfl (by decide) kf_X9_36 rfl rfl rfl (Nat.le_of_ble_eq_true rfl) dX9_reason_30 ?_
    refine a_ws C (ws' := wX9 kc ki t t_all t_reasons t_text t_word t_order t_rows t_written t_allF t_reasonsF t_textF t_wordF t_orderF t_rowsF t_writtenF y1 t_changes t_isSaved t_result t_texted t_wordSize t_orderMany t_here t_fault t_faultAt t_commandMany t_writtenSize) rfl ?_
    refine a_aload_n C 0 dX9_reason_33 rfl rfl ?_
    refine a_get C 0 0 iwX9 rfl rfl (by decide) kf_X9_36 rfl dX9_reason_34 ?_
    refine a_if_ne C (tgt := 61) dX9_reason_37 (by decide) hF (fun c37_5 hF => ?_) (fun c37_5 hF => ?_)
    · refine a_iconst C (v := 0) dX9_reason_61 (by decide) ?_
      exact a_iret C hr rfl dX9_reason_62 hF rfl rfl
    refine a_aload_n C 0 dX9_reason_40 rfl rfl ?_
    refine a_get C 0 5 iwX9 rfl rfl (by decide) kf_X9_13 rfl dX9_reason_41 ?_
    refine a_iconst C (v := 2) dX9_reason_44 (by decide) ?_
    refine a_iload_n C 1 dX9_reason_45 rfl rfl ?_
    refine a_imul C dX9_reason_46 ?_
    refine a_iload_n C 2 dX9_reason_47 rfl rfl ?_
    refine a_if_eq C (tgt := 55) dX9_reason_48 (by decide) hF (fun c48_6 hF => ?_) (fun c48_6 hF => ?_)
    · refine a_iconst C (v := 0) dX9_reason_55 (by decide) ?_
      refine a_iadd C dX9_reason_56 ?_
      refine a_iald C 2 1 rfl rfl dX9_reason_57 hF (fun v57_7 ev57_7 hF => ?_)
      refine a_goto C (tgt := 62) dX9_reason_58 (by decide) ?_
      exact a_iret C hr rfl dX9_reason_62 hF rfl rfl
    refine a_iconst C (v := 1) dX9_reason_51 (by decide) ?_
    refine a_goto C (tgt := 56) dX9_reason_52 (by decide) ?_
    refine a_iadd C dX9_reason_56 ?_
    refine a_iald C 2 1 rfl rfl dX9_reason_57 hF (fun v57_8 ev57_8 hF => ?_)
    refine a_goto C (tgt := 62) dX9_reason_58 (by decide) ?_
    exact a_iret C hr rfl dX9_reason_62 hF rfl rfl
  unfold f_X9_reason at hF
  refine a_aload_n C 0 dX9_reason_0 rfl rfl ?_
  refine a_iload_n C 1 dX9_reason_1 rfl rfl ?_
  refine a_iconst C (v := 0) dX9_reason_2 (by decide) ?_
  refine a_iconst C (v := 2) dX9_reason_3 (by decide) ?_
  refine a_callSir C 3 [] cs_X9_49 hd_X9_in ⟨rfl, rfl⟩ ⟨Nat.le_of_ble_eq_true rfl, Nat.le_of_ble_eq_true rfl⟩ (fun r h => c_X9_in l D J kc ki kb kl kd p1 0 2 r h) rfl rfl rfl rfl (Nat.le_of_ble_eq_true rfl) dX9_reason_4 ⟨Nat.zero_le _, Nat.zero_le _⟩ hF (fun r4_1 er4_1 hF => ?_)
  refine a_if_ne C (tgt := 14) dX9_reason_7 (by decide) hF (fun c7_2 hF => ?_) (fun c7_2 hF => ?_)
  · refine a_aload_n C 0 dX9_reason_14 rfl rfl ?_
    refine a_get C 0 5 iwX9 rfl rfl (by decide) kf_X9_13 rfl dX9_reason_15 ?_
    refine a_iconst C (v := 2) dX9_reason_18 (by decide) ?_
    refine a_iload_n C 1 dX9_reason_19 rfl rfl ?_
    refine a_imul C dX9_reason_20 ?_
    refine a_iald C 2 1 rfl rfl dX9_reason_21 hF (fun v21_3 ev21_3 hF => ?_)
    refine a_if_ne C (tgt := 29) dX9_reason_22 (by decide) hF (fun c22_4 hF => ?_) (fun c22_4 hF => ?_)
    · refine a_iconst C (v := 0) dX9_reason_29 (by decide) ?_
      exact hJ30 t_thrown 0 hF
    refine a_iconst C (v := 2) dX9_reason_25 (by decide) ?_
    refine a_goto C (tgt := 30) dX9_reason_26 (by decide) ?_
    exact hJ30 t_thrown 2 hF
  refine a_iconst C (v := 1) dX9_reason_10 (by decide) ?_
  refine a_goto C (tgt := 30) dX9_reason_11 (by decide) ?_
  exact hJ30 t_thrown 1 hF
def f_X9_many (t_allF : Nat → Int32) : Option Int32 := (ldi t_allF 979 0).bind fun v5_1 => some v5_1
theorem hd_X9_many : yX9_many.cls = RX9 ∧ yX9_many.cls ≠ "java/lang/invoke/MethodHandle" ∧ yX9_many.cls ≠ "java/lang/invoke/VarHandle" ∧ (parseMethodDescriptor yX9_many.desc).map (fun d => d.parameters.length) = some 0 := by decide +kernel
set_option maxRecDepth 100000 in
set_option maxHeartbeats 4000000 in
theorem c_X9_many (l : Launch) (D : va_G) (J : (Nat → Nat) × (Nat → Nat)) (kc ki kb kl kd : ClassId) (t : Nat) (t_all : Nat) (t_reasons : Nat) (t_text : Nat) (t_word : Nat) (t_order : Nat) (t_rows : Nat) (t_written : Nat) (t_allF : Nat → Int32) (t_reasonsF : Nat → Int32) (t_textF : Nat → Int32) (t_wordF : Nat → Int32) (t_orderF : Nat → Int32) (t_rowsF : Nat → Int32) (t_writtenF : Nat → Int32) (t_thrown : Int32) (t_changes : Int32) (t_isSaved : Int32) (t_result : Int32) (t_texted : Int32) (t_wordSize : Int32) (t_orderMany : Int32) (t_here : Int32) (t_fault : Int32) (t_faultAt : Int32) (t_commandMany : Int32) (t_writtenSize : Int32) (res : Int32) (hF : f_X9_many t_allF = some res) : aKi l yX9_many (aW yX9_many cX9_many 1 ((some .int))) ({ frames := 0, cells := 0, slots := 0, locals := 0 } : Room) D J (aTy kc ki kb kl kd) [.ref t] (wX9 kc ki t t_all t_reasons t_text t_word t_order t_rows t_written t_allF t_reasonsF t_textF t_wordF t_orderF t_rowsF t_writtenF t_thrown t_changes t_isSaved t_result t_texted t_wordSize t_orderMany t_here t_fault t_faultAt t_commandMany t_writtenSize) (fun r => r) (fun _ => wX9 kc ki t t_all t_reasons t_text t_word t_order t_rows t_written t_allF t_reasonsF t_textF t_wordF t_orderF t_rowsF t_writtenF t_thrown t_changes t_isSaved t_result t_texted t_wordSize t_orderMany t_here t_fault t_faultAt t_commandMany t_writtenSize) res := by
  refine aKi_of (own := RX9) (by decide) rfl (Nat.le_of_ble_eq_true rfl) rfl ?_
  intro p e s m args below meth c C hr
  unfold f_X9_many at hF
  refine a_aload_n C 0 dX9_many_0 rfl rfl ?_
  refine a_get C 0 1 iwX9 rfl rfl (by decide) kf_X9_9 rfl dX9_many_1 ?_
  refine a_iconst C (v := 0) dX9_many_4 (by decide) ?_
  refine a_iald C 1 1 rfl rfl dX9_many_5 hF (fun v5_1 ev5_1 hF => ?_)
  exact a_iret C hr rfl dX9_many_6 hF rfl rfl
def f_X9_size (t_allF : Nat → Int32) (p1 : Int32) : Option Int32 := (ldi t_allF 979 ((1 + (11 * p1)) + 10)).bind fun v13_1 => some v13_1
theorem hd_X9_size : yX9_size.cls = RX9 ∧ yX9_size.cls ≠ "java/lang/invoke/MethodHandle" ∧ yX9_size.cls ≠ "java/lang/invoke/VarHandle" ∧ (parseMethodDescriptor yX9_size.desc).map (fun d => d.parameters.length) = some 1 := by decide +kernel
set_option maxRecDepth 100000 in
set_option maxHeartbeats 4000000 in
theorem c_X9_size (l : Launch) (D : va_G) (J : (Nat → Nat) × (Nat → Nat)) (kc ki kb kl kd : ClassId) (t : Nat) (t_all : Nat) (t_reasons : Nat) (t_text : Nat) (t_word : Nat) (t_order : Nat) (t_rows : Nat) (t_written : Nat) (t_allF : Nat → Int32) (t_reasonsF : Nat → Int32) (t_textF : Nat → Int32) (t_wordF : Nat → Int32) (t_orderF : Nat → Int32) (t_rowsF : Nat → Int32) (t_writtenF : Nat → Int32) (t_thrown : Int32) (t_changes : Int32) (t_isSaved : Int32) (t_result : Int32) (t_texted : Int32) (t_wordSize : Int32) (t_orderMany : Int32) (t_here : Int32) (t_fault : Int32) (t_faultAt : Int32) (t_commandMany : Int32) (t_writtenSize : Int32) (p1 : Int32) (res : Int32) (hF : f_X9_size t_allF p1 = some res) : aKi l yX9_size (aW yX9_size cX9_size 2 ((some .int))) ({ frames := 0, cells := 0, slots := 0, locals := 0 } : Room) D J (aTy kc ki kb kl kd) [.ref t, .int p1] (wX9 kc ki t t_all t_reasons t_text t_word t_order t_rows t_written t_allF t_reasonsF t_textF t_wordF t_orderF t_rowsF t_writtenF t_thrown t_changes t_isSaved t_result t_texted t_wordSize t_orderMany t_here t_fault t_faultAt t_commandMany t_writtenSize) (fun r => r) (fun _ => wX9 kc ki t t_all t_reasons t_text t_word t_order t_rows t_written t_allF t_reasonsF t_textF t_wordF t_orderF t_rowsF t_writtenF t_thrown t_changes t_isSaved t_result t_texted t_wordSize t_orderMany t_here t_fault t_faultAt t_commandMany t_writtenSize) res := by
  refine aKi_of (own := RX9) (by decide) rfl (Nat.le_of_ble_eq_true rfl) rfl ?_
  intro p e s m args below meth c C hr
  unfold f_X9_size at hF
  refine a_aload_n C 0 dX9_size_0 rfl rfl ?_
  refine a_get C 0 1 iwX9 rfl rfl (by decide) kf_X9_9 rfl dX9_size_1 ?_
  refine a_iconst C (v := 1) dX9_size_4 (by decide) ?_
  refine a_bipush C (v := 11) dX9_size_5 (by decide) ?_
  refine a_iload_n C 1 dX9_size_7 rfl rfl ?_
  refine a_imul C dX9_size_8 ?_
  refine a_iadd C dX9_size_9 ?_
  refine a_bipush C (v := 10) dX9_size_10 (by decide) ?_
  refine a_iadd C dX9_size_12 ?_
  refine a_iald C 1 1 rfl rfl dX9_size_13 hF (fun v13_1 ev13_1 hF => ?_)
  exact a_iret C hr rfl dX9_size_14 hF rfl rfl
def f_X9_at (t_allF : Nat → Int32) (p1 : Int32) (p2 : Int32) : Option Int32 := (ldi t_allF 979 ((1 + (11 * p1)) + p2)).bind fun v12_1 => some v12_1
theorem hd_X9_at : yX9_at.cls = RX9 ∧ yX9_at.cls ≠ "java/lang/invoke/MethodHandle" ∧ yX9_at.cls ≠ "java/lang/invoke/VarHandle" ∧ (parseMethodDescriptor yX9_at.desc).map (fun d => d.parameters.length) = some 2 := by decide +kernel
set_option maxRecDepth 100000 in
set_option maxHeartbeats 4000000 in
theorem c_X9_at (l : Launch) (D : va_G) (J : (Nat → Nat) × (Nat → Nat)) (kc ki kb kl kd : ClassId) (t : Nat) (t_all : Nat) (t_reasons : Nat) (t_text : Nat) (t_word : Nat) (t_order : Nat) (t_rows : Nat) (t_written : Nat) (t_allF : Nat → Int32) (t_reasonsF : Nat → Int32) (t_textF : Nat → Int32) (t_wordF : Nat → Int32) (t_orderF : Nat → Int32) (t_rowsF : Nat → Int32) (t_writtenF : Nat → Int32) (t_thrown : Int32) (t_changes : Int32) (t_isSaved : Int32) (t_result : Int32) (t_texted : Int32) (t_wordSize : Int32) (t_orderMany : Int32) (t_here : Int32) (t_fault : Int32) (t_faultAt : Int32) (t_commandMany : Int32) (t_writtenSize : Int32) (p1 p2 : Int32) (res : Int32) (hF : f_X9_at t_allF p1 p2 = some res) : aKi l yX9_at (aW yX9_at cX9_at 3 ((some .int))) ({ frames := 0, cells := 0, slots := 0, locals := 0 } : Room) D J (aTy kc ki kb kl kd) [.ref t, .int p1, .int p2] (wX9 kc ki t t_all t_reasons t_text t_word t_order t_rows t_written t_allF t_reasonsF t_textF t_wordF t_orderF t_rowsF t_writtenF t_thrown t_changes t_isSaved t_result t_texted t_wordSize t_orderMany t_here t_fault t_faultAt t_commandMany t_writtenSize) (fun r => r) (fun _ => wX9 kc ki t t_all t_reasons t_text t_word t_order t_rows t_written t_allF t_reasonsF t_textF t_wordF t_orderF t_rowsF t_writtenF t_thrown t_changes t_isSaved t_result t_texted t_wordSize t_orderMany t_here t_fault t_faultAt t_commandMany t_writtenSize) res := by
  refine aKi_of (own := RX9) (by decide) rfl (Nat.le_of_ble_eq_true rfl) rfl ?_
  intro p e s m args below meth c C hr
  unfold f_X9_at at hF
  refine a_aload_n C 0 dX9_at_0 rfl rfl ?_
  refine a_get C 0 1 iwX9 rfl rfl (by decide) kf_X9_9 rfl dX9_at_1 ?_
  refine a_iconst C (v := 1) dX9_at_4 (by decide) ?_
  refine a_bipush C (v := 11) dX9_at_5 (by decide) ?_
  refine a_iload_n C 1 dX9_at_7 rfl rfl ?_
  refine a_imul C dX9_at_8 ?_
  refine a_iadd C dX9_at_9 ?_
  refine a_iload_n C 2 dX9_at_10 rfl rfl ?_
  refine a_iadd C dX9_at_11 ?_
  refine a_iald C 1 1 rfl rfl dX9_at_12 hF (fun v12_1 ev12_1 hF => ?_)
  exact a_iret C hr rfl dX9_at_13 hF rfl rfl
def f_X9_set (t_allF : Nat → Int32) (p1 : Int32) (p2 : Int32) (p3 : Int32) : Option ((Nat → Int32)) := (sti t_allF 979 ((1 + (11 * p1)) + p2) p3).bind fun g13_1 => some g13_1
theorem hd_X9_set : yX9_set.cls = RX9 ∧ yX9_set.cls ≠ "java/lang/invoke/MethodHandle" ∧ yX9_set.cls ≠ "java/lang/invoke/VarHandle" ∧ (parseMethodDescriptor yX9_set.desc).map (fun d => d.parameters.length) = some 3 := by decide +kernel
set_option maxRecDepth 100000 in
set_option maxHeartbeats 4000000 in
theorem c_X9_set (l : Launch) (D : va_G) (J : (Nat → Nat) × (Nat → Nat)) (kc ki kb kl kd : ClassId) (t : Nat) (t_all : Nat) (t_reasons : Nat) (t_text : Nat) (t_word : Nat) (t_order : Nat) (t_rows : Nat) (t_written : Nat) (t_allF : Nat → Int32) (t_reasonsF : Nat → Int32) (t_textF : Nat → Int32) (t_wordF : Nat → Int32) (t_orderF : Nat → Int32) (t_rowsF : Nat → Int32) (t_writtenF : Nat → Int32) (t_thrown : Int32) (t_changes : Int32) (t_isSaved : Int32) (t_result : Int32) (t_texted : Int32) (t_wordSize : Int32) (t_orderMany : Int32) (t_here : Int32) (t_fault : Int32) (t_faultAt : Int32) (t_commandMany : Int32) (t_writtenSize : Int32) (p1 p2 p3 : Int32) (res : (Nat → Int32)) (hF : f_X9_set t_allF p1 p2 p3 = some res) : aKv l yX9_set (aW yX9_set cX9_set 4 none) ({ frames := 0, cells := 0, slots := 0, locals := 0 } : Room) D J (aTy kc ki kb kl kd) [.ref t, .int p1, .int p2, .int p3] (wX9 kc ki t t_all t_reasons t_text t_word t_order t_rows t_written t_allF t_reasonsF t_textF t_wordF t_orderF t_rowsF t_writtenF t_thrown t_changes t_isSaved t_result t_texted t_wordSize t_orderMany t_here t_fault t_faultAt t_commandMany t_writtenSize) (fun r => wX9 kc ki t t_all t_reasons t_text t_word t_order t_rows t_written r t_reasonsF t_textF t_wordF t_orderF t_rowsF t_writtenF t_thrown t_changes t_isSaved t_result t_texted t_wordSize t_orderMany t_here t_fault t_faultAt t_commandMany t_writtenSize) res := by
  refine aKv_of (own := RX9) (by decide) rfl (Nat.le_of_ble_eq_true rfl) rfl ?_
  intro p e s m args below meth c C hr
  unfold f_X9_set at hF
  refine a_aload_n C 0 dX9_set_0 rfl rfl ?_
  refine a_get C 0 1 iwX9 rfl rfl (by decide) kf_X9_9 rfl dX9_set_1 ?_
  refine a_iconst C (v := 1) dX9_set_4 (by decide) ?_
  refine a_bipush C (v := 11) dX9_set_5 (by decide) ?_
  refine a_iload_n C 1 dX9_set_7 rfl rfl ?_
  refine a_imul C dX9_set_8 ?_
  refine a_iadd C dX9_set_9 ?_
  refine a_iload_n C 2 dX9_set_10 rfl rfl ?_
  refine a_iadd C dX9_set_11 ?_
  refine a_iload_n C 3 dX9_set_12 rfl rfl ?_
  refine a_iast C 1 1 rfl rfl dX9_set_13 hF (fun g13_1 eg13_1 hF => ?_)
  refine a_ws C (ws' := wX9 kc ki t t_all t_reasons t_text t_word t_order t_rows t_written g13_1 t_reasonsF t_textF t_wordF t_orderF t_rowsF t_writtenF t_thrown t_changes t_isSaved t_result t_texted t_wordSize t_orderMany t_here t_fault t_faultAt t_commandMany t_writtenSize) rfl ?_
  exact a_vret C hr dX9_set_14 hF rfl
theorem cs_X9_53 : GoodIn WW (wsV RX9 53 RX9 yX9_many (aW yX9_many cX9_many 1 ((some .int)))) := gdV kl_X9_53 ki_X9_many kv_X9_many kn_X9 kc_X9_many
def f_X9_isLineNumber (t_allF : Nat → Int32) (p1 : Int32) : Option Int32 := (f_X9_many t_allF).bind fun r3_1 => (f_X9_in p1 0 (r3_1 - 1)).bind fun r8_2 => (rz r8_2).bind fun _ => some r8_2
theorem hd_X9_isLineNumber : yX9_isLineNumber.cls = RX9 ∧ yX9_isLineNumber.cls ≠ "java/lang/invoke/MethodHandle" ∧ yX9_isLineNumber.cls ≠ "java/lang/invoke/VarHandle" ∧ (parseMethodDescriptor yX9_isLineNumber.desc).map (fun d => d.parameters.length) = some 1 := by decide +kernel
set_option maxRecDepth 100000 in
set_option maxHeartbeats 4000000 in
theorem c_X9_isLineNumber (l : Launch) (D : va_G) (J : (Nat → Nat) × (Nat → Nat)) (kc ki kb kl kd : ClassId) (t : Nat) (t_all : Nat) (t_reasons : Nat) (t_text : Nat) (t_word : Nat) (t_order : Nat) (t_rows : Nat) (t_written : Nat) (t_allF : Nat → Int32) (t_reasonsF : Nat → Int32) (t_textF : Nat → Int32) (t_wordF : Nat → Int32) (t_orderF : Nat → Int32) (t_rowsF : Nat → Int32) (t_writtenF : Nat → Int32) (t_thrown : Int32) (t_changes : Int32) (t_isSaved : Int32) (t_result : Int32) (t_texted : Int32) (t_wordSize : Int32) (t_orderMany : Int32) (t_here : Int32) (t_fault : Int32) (t_faultAt : Int32) (t_commandMany : Int32) (t_writtenSize : Int32) (p1 : Int32) (res : Int32) (hF : f_X9_isLineNumber t_allF p1 = some res) : aKi l yX9_isLineNumber (aW yX9_isLineNumber cX9_isLineNumber 2 ((some .boolean))) ({ frames := 1, cells := 0, slots := 0, locals := 22 } : Room) D J (aTy kc ki kb kl kd) [.ref t, .int p1] (wX9 kc ki t t_all t_reasons t_text t_word t_order t_rows t_written t_allF t_reasonsF t_textF t_wordF t_orderF t_rowsF t_writtenF t_thrown t_changes t_isSaved t_result t_texted t_wordSize t_orderMany t_here t_fault t_faultAt t_commandMany t_writtenSize) (fun r => r) (fun _ => wX9 kc ki t t_all t_reasons t_text t_word t_order t_rows t_written t_allF t_reasonsF t_textF t_wordF t_orderF t_rowsF t_writtenF t_thrown t_changes t_isSaved t_result t_texted t_wordSize t_orderMany t_here t_fault t_faultAt t_commandMany t_writtenSize) res := by
  refine aKi_of (own := RX9) (by decide) rfl (Nat.le_of_ble_eq_true rfl) rfl ?_
  intro p e s m args below meth c C hr
  unfold f_X9_isLineNumber at hF
  refine a_iload_n C 1 dX9_isLineNumber_0 rfl rfl ?_
  refine a_iconst C (v := 0) dX9_isLineNumber_1 (by decide) ?_
  refine a_aload_n C 0 dX9_isLineNumber_2 rfl rfl ?_
  refine a_callVir C 0 [0, 1, 2, 3, 4, 5, 6, 7] 0 cs_X9_53 hd_X9_many ⟨rfl, rfl⟩ ⟨Nat.le_of_ble_eq_true rfl, Nat.le_of_ble_eq_true rfl⟩ (fun r h => c_X9_many l D J kc ki kb kl kd t t_all t_reasons t_text t_word t_order t_rows t_written t_allF t_reasonsF t_textF t_wordF t_orderF t_rowsF t_writtenF t_thrown t_changes t_isSaved t_result t_texted t_wordSize t_orderMany t_here t_fault t_faultAt t_commandMany t_writtenSize r h) rfl rfl rfl rfl rfl rfl (Nat.le_of_ble_eq_true rfl) dX9_isLineNumber_3 ⟨Nat.zero_le _, Nat.zero_le _⟩ hF (fun r3_1 er3_1 hF => ?_)
  refine a_iconst C (v := 1) dX9_isLineNumber_6 (by decide) ?_
  refine a_isub C dX9_isLineNumber_7 ?_
  refine a_callSir C 3 [] cs_X9_49 hd_X9_in ⟨rfl, rfl⟩ ⟨Nat.le_of_ble_eq_true rfl, Nat.le_of_ble_eq_true rfl⟩ (fun r h => c_X9_in l D J kc ki kb kl kd p1 0 (r3_1 - 1) r h) rfl rfl rfl rfl (Nat.le_of_ble_eq_true rfl) dX9_isLineNumber_8 ⟨Nat.zero_le _, Nat.zero_le _⟩ hF (fun r8_2 er8_2 hF => ?_)
  refine a_rz hF (fun n11_3 hF => ?_)
  exact a_iret C hr n11_3 dX9_isLineNumber_11 hF rfl rfl
theorem cs_X9_57 : GoodIn WW (wsV RX9 57 RX9 yX9_isLineNumber (aW yX9_isLineNumber cX9_isLineNumber 2 ((some .boolean)))) := gdV kl_X9_57 ki_X9_isLineNumber kv_X9_isLineNumber kn_X9 kc_X9_isLineNumber
theorem cs_X9_61 : GoodIn WW (wsV RX9 61 RX9 yX9_size (aW yX9_size cX9_size 2 ((some .int)))) := gdV kl_X9_61 ki_X9_size kv_X9_size kn_X9 kc_X9_size
def f_X9_isPlace (t_allF : Nat → Int32) (p1 : Int32) (p2 : Int32) : Option Int32 := (f_X9_isLineNumber t_allF p1).bind fun r2_1 => if r2_1 = 0 then (some 0) else ((f_X9_size t_allF p1).bind fun r12_3 => (f_X9_in p2 0 (r12_3 - 1)).bind fun r17_4 => if r17_4 = 0 then (some 0) else (some 1))
theorem hd_X9_isPlace : yX9_isPlace.cls = RX9 ∧ yX9_isPlace.cls ≠ "java/lang/invoke/MethodHandle" ∧ yX9_isPlace.cls ≠ "java/lang/invoke/VarHandle" ∧ (parseMethodDescriptor yX9_isPlace.desc).map (fun d => d.parameters.length) = some 2 := by decide +kernel
set_option maxRecDepth 100000 in
set_option maxHeartbeats 4000000 in
theorem c_X9_isPlace (l : Launch) (D : va_G) (J : (Nat → Nat) × (Nat → Nat)) (kc ki kb kl kd : ClassId) (t : Nat) (t_all : Nat) (t_reasons : Nat) (t_text : Nat) (t_word : Nat) (t_order : Nat) (t_rows : Nat) (t_written : Nat) (t_allF : Nat → Int32) (t_reasonsF : Nat → Int32) (t_textF : Nat → Int32) (t_wordF : Nat → Int32) (t_orderF : Nat → Int32) (t_rowsF : Nat → Int32) (t_writtenF : Nat → Int32) (t_thrown : Int32) (t_changes : Int32) (t_isSaved : Int32) (t_result : Int32) (t_texted : Int32) (t_wordSize : Int32) (t_orderMany : Int32) (t_here : Int32) (t_fault : Int32) (t_faultAt : Int32) (t_commandMany : Int32) (t_writtenSize : Int32) (p1 p2 : Int32) (res : Int32) (hF : f_X9_isPlace t_allF p1 p2 = some res) : aKi l yX9_isPlace (aW yX9_isPlace cX9_isPlace 3 ((some .boolean))) ({ frames := 2, cells := 0, slots := 0, locals := 43 } : Room) D J (aTy kc ki kb kl kd) [.ref t, .int p1, .int p2] (wX9 kc ki t t_all t_reasons t_text t_word t_order t_rows t_written t_allF t_reasonsF t_textF t_wordF t_orderF t_rowsF t_writtenF t_thrown t_changes t_isSaved t_result t_texted t_wordSize t_orderMany t_here t_fault t_faultAt t_commandMany t_writtenSize) (fun r => r) (fun _ => wX9 kc ki t t_all t_reasons t_text t_word t_order t_rows t_written t_allF t_reasonsF t_textF t_wordF t_orderF t_rowsF t_writtenF t_thrown t_changes t_isSaved t_result t_texted t_wordSize t_orderMany t_here t_fault t_faultAt t_commandMany t_writtenSize) res := by
  refine aKi_of (own := RX9) (by decide) rfl (Nat.le_of_ble_eq_true rfl) rfl ?_
  intro p e s m args below meth c C hr
  unfold f_X9_isPlace at hF
  refine a_aload_n C 0 dX9_isPlace_0 rfl rfl ?_
  refine a_iload_n C 1 dX9_isPlace_1 rfl rfl ?_
  refine a_callVir C 1 [0, 1, 2, 3, 4, 5, 6, 7] 0 cs_X9_57 hd_X9_isLineNumber ⟨rfl, rfl⟩ ⟨Nat.le_of_ble_eq_true rfl, Nat.le_of_ble_eq_true rfl⟩ (fun r h => c_X9_isLineNumber l D J kc ki kb kl kd t t_all t_reasons t_text t_word t_order t_rows t_written t_allF t_reasonsF t_textF t_wordF t_orderF t_rowsF t_writtenF t_thrown t_changes t_isSaved t_result t_texted t_wordSize t_orderMany t_here t_fault t_faultAt t_commandMany t_writtenSize p1 r h) rfl rfl rfl rfl rfl rfl (Nat.le_of_ble_eq_true rfl) dX9_isPlace_2 ⟨Nat.zero_le _, Nat.zero_le _⟩ hF (fun r2_1 er2_1 hF => ?_)
  refine a_if_eq C (tgt := 27) dX9_isPlace_5 (by decide) hF (fun c5_2 hF => ?_) (fun c5_2 hF => ?_)
  · refine a_iconst C (v := 0) dX9_isPlace_27 (by decide) ?_
    exact a_iret C hr rfl dX9_isPlace_28 hF rfl rfl
  refine a_iload_n C 2 dX9_isPlace_8 rfl rfl ?_
  refine a_iconst C (v := 0) dX9_isPlace_9 (by decide) ?_
  refine a_aload_n C 0 dX9_isPlace_10 rfl rfl ?_
  refine a_iload_n C 1 dX9_isPlace_11 rfl rfl ?_
  refine a_callVir C 1 [0, 1, 2, 3, 4, 5, 6, 7] 0 cs_X9_61 hd_X9_size ⟨rfl, rfl⟩ ⟨Nat.le_of_ble_eq_true rfl, Nat.le_of_ble_eq_true rfl⟩ (fun r h => c_X9_size l D J kc ki kb kl kd t t_all t_reasons t_text t_word t_order t_rows t_written t_allF t_reasonsF t_textF t_wordF t_orderF t_rowsF t_writtenF t_thrown t_changes t_isSaved t_result t_texted t_wordSize t_orderMany t_here t_fault t_faultAt t_commandMany t_writtenSize p1 r h) rfl rfl rfl rfl rfl rfl (Nat.le_of_ble_eq_true rfl) dX9_isPlace_12 ⟨Nat.zero_le _, Nat.zero_le _⟩ hF (fun r12_3 er12_3 hF => ?_)
  refine a_iconst C (v := 1) dX9_isPlace_15 (by decide) ?_
  refine a_isub C dX9_isPlace_16 ?_
  refine a_callSir C 3 [] cs_X9_49 hd_X9_in ⟨rfl, rfl⟩ ⟨Nat.le_of_ble_eq_true rfl, Nat.le_of_ble_eq_true rfl⟩ (fun r h => c_X9_in l D J kc ki kb kl kd p2 0 (r12_3 - 1) r h) rfl rfl rfl rfl (Nat.le_of_ble_eq_true rfl) dX9_isPlace_17 ⟨Nat.zero_le _, Nat.zero_le _⟩ hF (fun r17_4 er17_4 hF => ?_)
  refine a_if_eq C (tgt := 27) dX9_isPlace_20 (by decide) hF (fun c20_5 hF => ?_) (fun c20_5 hF => ?_)
  · refine a_iconst C (v := 0) dX9_isPlace_27 (by decide) ?_
    exact a_iret C hr rfl dX9_isPlace_28 hF rfl rfl
  refine a_iconst C (v := 1) dX9_isPlace_23 (by decide) ?_
  refine a_goto C (tgt := 28) dX9_isPlace_24 (by decide) ?_
  exact a_iret C hr rfl dX9_isPlace_28 hF rfl rfl
theorem cs_X9_65 : GoodIn WW (wsV RX9 65 RX9 yX9_refuses (aW yX9_refuses cX9_refuses 4 ((some .boolean)))) := gdV kl_X9_65 ki_X9_refuses kv_X9_refuses kn_X9 kc_X9_refuses
def f_X9_isNoLine (t_allF : Nat → Int32) (t_reasonsF : Nat → Int32) (p1 : Int32) : Option (Int32 × (Nat → Int32)) := (f_X9_isLineNumber t_allF p1).bind fun r3_1 => if ¬ r3_1 = 0 then ((f_X9_refuses t_reasonsF 0 2 p1).bind fun r16_3 => (rz r16_3.1).bind fun _ => some (r16_3.1, r16_3.2)) else ((f_X9_refuses t_reasonsF 1 2 p1).bind fun r16_5 => (rz r16_5.1).bind fun _ => some (r16_5.1, r16_5.2))
theorem hd_X9_isNoLine : yX9_isNoLine.cls = RX9 ∧ yX9_isNoLine.cls ≠ "java/lang/invoke/MethodHandle" ∧ yX9_isNoLine.cls ≠ "java/lang/invoke/VarHandle" ∧ (parseMethodDescriptor yX9_isNoLine.desc).map (fun d => d.parameters.length) = some 1 := by decide +kernel
set_option maxRecDepth 100000 in
set_option maxHeartbeats 4000000 in
theorem c_X9_isNoLine (l : Launch) (D : va_G) (J : (Nat → Nat) × (Nat → Nat)) (kc ki kb kl kd : ClassId) (t : Nat) (t_all : Nat) (t_reasons : Nat) (t_text : Nat) (t_word : Nat) (t_order : Nat) (t_rows : Nat) (t_written : Nat) (t_allF : Nat → Int32) (t_reasonsF : Nat → Int32) (t_textF : Nat → Int32) (t_wordF : Nat → Int32) (t_orderF : Nat → Int32) (t_rowsF : Nat → Int32) (t_writtenF : Nat → Int32) (t_thrown : Int32) (t_changes : Int32) (t_isSaved : Int32) (t_result : Int32) (t_texted : Int32) (t_wordSize : Int32) (t_orderMany : Int32) (t_here : Int32) (t_fault : Int32) (t_faultAt : Int32) (t_commandMany : Int32) (t_writtenSize : Int32) (p1 : Int32) (res : Int32 × (Nat → Int32)) (hF : f_X9_isNoLine t_allF t_reasonsF p1 = some res) : aKi l yX9_isNoLine (aW yX9_isNoLine cX9_isNoLine 2 ((some .boolean))) ({ frames := 2, cells := 0, slots := 0, locals := 43 } : Room) D J (aTy kc ki kb kl kd) [.ref t, .int p1] (wX9 kc ki t t_all t_reasons t_text t_word t_order t_rows t_written t_allF t_reasonsF t_textF t_wordF t_orderF t_rowsF t_writtenF t_thrown t_changes t_isSaved t_result t_texted t_wordSize t_orderMany t_here t_fault t_faultAt t_commandMany t_writtenSize) (fun r => r.1) (fun r => wX9 kc ki t t_all t_reasons t_text t_word t_order t_rows t_written t_allF r.2 t_textF t_wordF t_orderF t_rowsF t_writtenF t_thrown t_changes t_isSaved t_result t_texted t_wordSize t_orderMany t_here t_fault t_faultAt t_commandMany t_writtenSize) res := by
  refine aKi_of (own := RX9) (by decide) rfl (Nat.le_of_ble_eq_true rfl) rfl ?_
  intro p e s m args below meth c C hr
  unfold f_X9_isNoLine at hF
  refine a_aload_n C 0 dX9_isNoLine_0 rfl rfl ?_
  refine a_aload_n C 0 dX9_isNoLine_1 rfl rfl ?_
  refine a_iload_n C 1 dX9_isNoLine_2 rfl rfl ?_
  refine a_callVir C 1 [0, 1, 2, 3, 4, 5, 6, 7] 0 cs_X9_57 hd_X9_isLineNumber ⟨rfl, rfl⟩ ⟨Nat.le_of_ble_eq_true rfl, Nat.le_of_ble_eq_true rfl⟩ (fun r h => c_X9_isLineNumber l D J kc ki kb kl kd t t_all t_reasons t_text t_word t_order t_rows t_written t_allF t_reasonsF t_textF t_wordF t_orderF t_rowsF t_writtenF t_thrown t_changes t_isSaved t_result t_texted t_wordSize t_orderMany t_here t_fault t_faultAt t_commandMany t_writtenSize p1 r h) rfl rfl rfl rfl rfl rfl (Nat.le_of_ble_eq_true rfl) dX9_isNoLine_3 ⟨Nat.zero_le _, Nat.zero_le _⟩ hF (fun r3_1 er3_1 hF => ?_)
  refine a_if_ne C (tgt := 13) dX9_isNoLine_6 (by decide) hF (fun c6_2 hF => ?_) (fun c6_2 hF => ?_)
  · refine a_iconst C (v := 0) dX9_isNoLine_13 (by decide) ?_
    refine a_iconst C (v := 2) dX9_isNoLine_14 (by decide) ?_
    refine a_iload_n C 1 dX9_isNoLine_15 rfl rfl ?_
    refine a_callVi C 3 [0, 1, 2, 3, 4, 5, 6, 7] 0 cs_X9_65 hd_X9_refuses ⟨rfl, rfl⟩ ⟨Nat.le_of_ble_eq_true rfl, Nat.le_of_ble_eq_true rfl⟩ (fun r h => c_X9_refuses l D J kc ki kb kl kd t t_all t_reasons t_text t_word t_order t_rows t_written t_allF t_reasonsF t_textF t_wordF t_orderF t_rowsF t_writtenF t_thrown t_changes t_isSaved t_result t_texted t_wordSize t_orderMany t_here t_fault t_faultAt t_commandMany t_writtenSize 0 2 p1 r h) rfl rfl rfl (fun _ => rfl) rfl rfl rfl (Nat.le_of_ble_eq_true rfl) dX9_isNoLine_16 ⟨Nat.zero_le _, Nat.zero_le _⟩ hF (fun r16_3 er16_3 hF => ?_)
    refine a_ws C (ws' := wX9 kc ki t t_all t_reasons t_text t_word t_order t_rows t_written t_allF r16_3.2 t_textF t_wordF t_orderF t_rowsF t_writtenF t_thrown t_changes t_isSaved t_result t_texted t_wordSize t_orderMany t_here t_fault t_faultAt t_commandMany t_writtenSize) rfl ?_
    refine a_rz hF (fun n19_4 hF => ?_)
    exact a_iret C hr n19_4 dX9_isNoLine_19 hF rfl rfl
  refine a_iconst C (v := 1) dX9_isNoLine_9 (by decide) ?_
  refine a_goto C (tgt := 14) dX9_isNoLine_10 (by decide) ?_
  refine a_iconst C (v := 2) dX9_isNoLine_14 (by decide) ?_
  refine a_iload_n C 1 dX9_isNoLine_15 rfl rfl ?_
  refine a_callVi C 3 [0, 1, 2, 3, 4, 5, 6, 7] 0 cs_X9_65 hd_X9_refuses ⟨rfl, rfl⟩ ⟨Nat.le_of_ble_eq_true rfl, Nat.le_of_ble_eq_true rfl⟩ (fun r h => c_X9_refuses l D J kc ki kb kl kd t t_all t_reasons t_text t_word t_order t_rows t_written t_allF t_reasonsF t_textF t_wordF t_orderF t_rowsF t_writtenF t_thrown t_changes t_isSaved t_result t_texted t_wordSize t_orderMany t_here t_fault t_faultAt t_commandMany t_writtenSize 1 2 p1 r h) rfl rfl rfl (fun _ => rfl) rfl rfl rfl (Nat.le_of_ble_eq_true rfl) dX9_isNoLine_16 ⟨Nat.zero_le _, Nat.zero_le _⟩ hF (fun r16_5 er16_5 hF => ?_)
  refine a_ws C (ws' := wX9 kc ki t t_all t_reasons t_text t_word t_order t_rows t_written t_allF r16_5.2 t_textF t_wordF t_orderF t_rowsF t_writtenF t_thrown t_changes t_isSaved t_result t_texted t_wordSize t_orderMany t_here t_fault t_faultAt t_commandMany t_writtenSize) rfl ?_
  refine a_rz hF (fun n19_6 hF => ?_)
  exact a_iret C hr n19_6 dX9_isNoLine_19 hF rfl rfl
def f_X9_append_J15 (q_t_textF : Nat → Int32) (q_t_texted : Int32) (y1 : Int32) (p1 : Int32) : Option (Int32 × (Nat → Int32) × Int32 × Int32) := if y1 = 0 then ((stc q_t_textF 60 q_t_texted p1).bind fun g36_3 => some (q_t_texted + 1, g36_3, y1, q_t_texted + 1)) else (some (0, q_t_textF, y1, q_t_texted))
def f_X9_append (t_textF : Nat → Int32) (t_texted : Int32) (p1 : Int32) : Option (Int32 × (Nat → Int32) × Int32 × Int32) := if ¬ t_texted = 60 then (f_X9_append_J15 t_textF t_texted 0 p1) else (f_X9_append_J15 t_textF t_texted 1 p1)
theorem hd_X9_append : yX9_append.cls = RX9 ∧ yX9_append.cls ≠ "java/lang/invoke/MethodHandle" ∧ yX9_append.cls ≠ "java/lang/invoke/VarHandle" ∧ (parseMethodDescriptor yX9_append.desc).map (fun d => d.parameters.length) = some 1 := by decide +kernel
set_option maxRecDepth 100000 in
set_option maxHeartbeats 4000000 in
theorem c_X9_append (l : Launch) (D : va_G) (J : (Nat → Nat) × (Nat → Nat)) (kc ki kb kl kd : ClassId) (t : Nat) (t_all : Nat) (t_reasons : Nat) (t_text : Nat) (t_word : Nat) (t_order : Nat) (t_rows : Nat) (t_written : Nat) (t_allF : Nat → Int32) (t_reasonsF : Nat → Int32) (t_textF : Nat → Int32) (t_wordF : Nat → Int32) (t_orderF : Nat → Int32) (t_rowsF : Nat → Int32) (t_writtenF : Nat → Int32) (t_thrown : Int32) (t_changes : Int32) (t_isSaved : Int32) (t_result : Int32) (t_texted : Int32) (t_wordSize : Int32) (t_orderMany : Int32) (t_here : Int32) (t_fault : Int32) (t_faultAt : Int32) (t_commandMany : Int32) (t_writtenSize : Int32) (p1 : Int32) (res : Int32 × (Nat → Int32) × Int32 × Int32) (hF : f_X9_append t_textF t_texted p1 = some res) : aKi l yX9_append (aW yX9_append cX9_append 2 ((some .int))) ({ frames := 0, cells := 0, slots := 0, locals := 0 } : Room) D J (aTy kc ki kb kl kd) [.ref t, .int p1] (wX9 kc ki t t_all t_reasons t_text t_word t_order t_rows t_written t_allF t_reasonsF t_textF t_wordF t_orderF t_rowsF t_writtenF t_thrown t_changes t_isSaved t_result t_texted t_wordSize t_orderMany t_here t_fault t_faultAt t_commandMany t_writtenSize) (fun r => r.1) (fun r => wX9 kc ki t t_all t_reasons t_text t_word t_order t_rows t_written t_allF t_reasonsF r.2.1 t_wordF t_orderF t_rowsF t_writtenF r.2.2.1 t_changes t_isSaved t_result r.2.2.2 t_wordSize t_orderMany t_here t_fault t_faultAt t_commandMany t_writtenSize) res := by
  refine aKi_of (own := RX9) (by decide) rfl (Nat.le_of_ble_eq_true rfl) rfl ?_
  intro p e s m args below meth c C hr
  have hJ15 : ∀ (q_t_textF : Nat → Int32) (q_t_thrown : Int32) (q_t_texted : Int32) (y1 : Int32), f_X9_append_J15 q_t_textF q_t_texted y1 p1 = some res → aT p l e ({ frames := 0, cells := 0, slots := 0, locals := 0 } : Room) s m args below meth c (MQ below (aQi D (wX9 kc ki t t_all t_reasons t_text t_word t_order t_rows t_written t_allF t_reasonsF t_textF t_wordF t_orderF t_rowsF t_writtenF t_thrown t_changes t_isSaved t_result t_texted t_wordSize t_orderMany t_here t_fault t_faultAt t_commandMany t_writtenSize) s.heap.size (fun r => r.1) (fun r => wX9 kc ki t t_all t_reasons t_text t_word t_order t_rows t_written t_allF t_reasonsF r.2.1 t_wordF t_orderF t_rowsF t_writtenF r.2.2.1 t_changes t_isSaved t_result r.2.2.2 t_wordSize t_orderMany t_here t_fault t_faultAt t_commandMany t_writtenSize) res) args s 0 0 (va_A (wX9 kc ki t t_all t_reasons t_text t_word t_order t_rows t_written t_allF t_reasonsF t_textF t_wordF t_orderF t_rowsF t_writtenF t_thrown t_changes t_isSaved t_result t_texted t_wordSize t_orderMany t_here t_fault t_faultAt t_commandMany t_writtenSize) s.heap.size)) D (va_A (wX9 kc ki t t_all t_reasons t_text t_word t_order t_rows t_written t_allF t_reasonsF t_textF t_wordF t_orderF t_rowsF t_writtenF t_thrown t_changes t_isSaved t_result t_texted t_wordSize t_orderMany t_here t_fault t_faultAt t_commandMany t_writtenSize) s.heap.size) 2 0 0 15 [(0, .ref t), (1, .int p1)] [.int y1, .ref t] (wX9 kc ki t t_all t_reasons t_text t_word t_order t_rows t_written t_allF t_reasonsF q_t_textF t_wordF t_orderF t_rowsF t_writtenF q_t_thrown t_changes t_isSaved t_result q_t_texted t_wordSize t_orderMany t_here t_fault t_faultAt t_commandMany t_writtenSize) := by
    intro q_t_textF q_t_thrown q_t_texted y1 hF
    unfold f_X9_append_J15 at hF
    refine a_put C 0 0 iwX9 tyX9_ok nmX9 rfl rfl (by decide) kf_X9_36 rfl rfl rfl (Nat.le_of_ble_eq_true rfl) dX9_append_15 ?_
    refine a_ws C (ws' := wX9 kc ki t t_all t_reasons t_text t_word t_order t_rows t_written t_allF t_reasonsF q_t_textF t_wordF t_orderF t_rowsF t_writtenF y1 t_changes t_isSaved t_result q_t_texted t_wordSize t_orderMany t_here t_fault t_faultAt t_commandMany t_writtenSize) rfl ?_
    refine a_aload_n C 0 dX9_append_18 rfl rfl ?_
    refine a_get C 0 0 iwX9 rfl rfl (by decide) kf_X9_36 rfl dX9_append_19 ?_
    refine a_if_eq C (tgt := 27) dX9_append_22 (by decide) hF (fun c22_2 hF => ?_) (fun c22_2 hF => ?_)
    · refine a_aload_n C 0 dX9_append_27 rfl rfl ?_
      refine a_get C 0 6 iwX9 rfl rfl (by decide) kf_X9_16 rfl dX9_append_28 ?_
      refine a_aload_n C 0 dX9_append_31 rfl rfl ?_
      refine a_get C 0 7 iwX9 rfl rfl (by decide) kf_X9_69 rfl dX9_append_32 ?_
      refine a_iload_n C 1 dX9_append_35 rfl rfl ?_
      refine a_cast C 3 0 rfl rfl dX9_append_36 hF (fun g36_3 eg36_3 hF => ?_)
      refine a_ws C (ws' := wX9 kc ki t t_all t_reasons t_text t_word t_order t_rows t_written t_allF t_reasonsF g36_3 t_wordF t_orderF t_rowsF t_writtenF y1 t_changes t_isSaved t_result q_t_texted t_wordSize t_orderMany t_here t_fault t_faultAt t_commandMany t_writtenSize) rfl ?_
      refine a_aload_n C 0 dX9_append_37 rfl rfl ?_
      refine a_dup C dX9_append_38 rfl ?_
      refine a_get C 0 7 iwX9 rfl rfl (by decide) kf_X9_69 rfl dX9_append_39 ?_
      refine a_iconst C (v := 1) dX9_append_42 (by decide) ?_
      refine a_iadd C dX9_append_43 ?_
      refine a_put C 0 7 iwX9 tyX9_ok nmX9 rfl rfl (by decide) kf_X9_69 rfl rfl rfl (Nat.le_of_ble_eq_true rfl) dX9_append_44 ?_
      refine a_ws C (ws' := wX9 kc ki t t_all t_reasons t_text t_word t_order t_rows t_written t_allF t_reasonsF g36_3 t_wordF t_orderF t_rowsF t_writtenF y1 t_changes t_isSaved t_result (q_t_texted + 1) t_wordSize t_orderMany t_here t_fault t_faultAt t_commandMany t_writtenSize) rfl ?_
      refine a_aload_n C 0 dX9_append_47 rfl rfl ?_
      refine a_get C 0 7 iwX9 rfl rfl (by decide) kf_X9_69 rfl dX9_append_48 ?_
      exact a_iret C hr rfl dX9_append_51 hF rfl rfl
    refine a_iconst C (v := 0) dX9_append_25 (by decide) ?_
    exact a_iret C hr rfl dX9_append_26 hF rfl rfl
  unfold f_X9_append at hF
  refine a_aload_n C 0 dX9_append_0 rfl rfl ?_
  refine a_aload_n C 0 dX9_append_1 rfl rfl ?_
  refine a_get C 0 7 iwX9 rfl rfl (by decide) kf_X9_69 rfl dX9_append_2 ?_
  refine a_bipush C (v := 60) dX9_append_5 (by decide) ?_
  refine a_ic_ne C (tgt := 14) dX9_append_7 (by decide) hF (fun c7_1 hF => ?_) (fun c7_1 hF => ?_)
  · refine a_iconst C (v := 0) dX9_append_14 (by decide) ?_
    exact hJ15 t_textF t_thrown t_texted 0 hF
  refine a_iconst C (v := 1) dX9_append_10 (by decide) ?_
  refine a_goto C (tgt := 15) dX9_append_11 (by decide) ?_
  exact hJ15 t_textF t_thrown t_texted 1 hF
def f_X9_holdsWord_L22 (q_t_wordSize : Int32) (t_textF : Nat → Int32) (t_texted : Int32) : Nat → Int32 → (Nat → Int32) → (Int32 → (Nat → Int32) → Option (Int32 × (Nat → Int32) × Int32)) → Option (Int32 × (Nat → Int32) × Int32)
  | 0, _, _, _ => none
  | fuel + 1, x1, q_t_wordF, k => if t_texted ≤ x1 then (k x1 q_t_wordF) else ((ldc t_textF 60 x1).bind fun v35_4 => (f_X9_in v35_4 97 122).bind fun r40_5 => if ¬ r40_5 = 0 then ((ldc t_textF 60 x1).bind fun v58_7 => (sti q_t_wordF 10 x1 v58_7).bind fun g59_8 => f_X9_holdsWord_L22 q_t_wordSize t_textF t_texted fuel (x1 + 1) g59_8 k) else (some (0, q_t_wordF, q_t_wordSize)))
def f_X9_holdsWord (t_textF : Nat → Int32) (t_wordF : Nat → Int32) (t_texted : Int32) : Option (Int32 × (Nat → Int32) × Int32) := (f_X9_in t_texted 1 10).bind fun r12_1 => if ¬ r12_1 = 0 then (f_X9_holdsWord_L22 0 t_textF t_texted 1000 0 t_wordF (fun x1_22_9 q_t_wordF_22_10 => some (1, q_t_wordF_22_10, t_texted))) else (some (0, t_wordF, 0))
theorem hd_X9_holdsWord : yX9_holdsWord.cls = RX9 ∧ yX9_holdsWord.cls ≠ "java/lang/invoke/MethodHandle" ∧ yX9_holdsWord.cls ≠ "java/lang/invoke/VarHandle" ∧ (parseMethodDescriptor yX9_holdsWord.desc).map (fun d => d.parameters.length) = some 0 := by decide +kernel
set_option maxRecDepth 100000 in
set_option maxHeartbeats 4000000 in
theorem c_X9_holdsWord (l : Launch) (D : va_G) (J : (Nat → Nat) × (Nat → Nat)) (kc ki kb kl kd : ClassId) (t : Nat) (t_all : Nat) (t_reasons : Nat) (t_text : Nat) (t_word : Nat) (t_order : Nat) (t_rows : Nat) (t_written : Nat) (t_allF : Nat → Int32) (t_reasonsF : Nat → Int32) (t_textF : Nat → Int32) (t_wordF : Nat → Int32) (t_orderF : Nat → Int32) (t_rowsF : Nat → Int32) (t_writtenF : Nat → Int32) (t_thrown : Int32) (t_changes : Int32) (t_isSaved : Int32) (t_result : Int32) (t_texted : Int32) (t_wordSize : Int32) (t_orderMany : Int32) (t_here : Int32) (t_fault : Int32) (t_faultAt : Int32) (t_commandMany : Int32) (t_writtenSize : Int32) (res : Int32 × (Nat → Int32) × Int32) (hF : f_X9_holdsWord t_textF t_wordF t_texted = some res) : aKi l yX9_holdsWord (aW yX9_holdsWord cX9_holdsWord 2 ((some .boolean))) ({ frames := 1, cells := 0, slots := 0, locals := 22 } : Room) D J (aTy kc ki kb kl kd) [.ref t] (wX9 kc ki t t_all t_reasons t_text t_word t_order t_rows t_written t_allF t_reasonsF t_textF t_wordF t_orderF t_rowsF t_writtenF t_thrown t_changes t_isSaved t_result t_texted t_wordSize t_orderMany t_here t_fault t_faultAt t_commandMany t_writtenSize) (fun r => r.1) (fun r => wX9 kc ki t t_all t_reasons t_text t_word t_order t_rows t_written t_allF t_reasonsF t_textF r.2.1 t_orderF t_rowsF t_writtenF t_thrown t_changes t_isSaved t_result t_texted r.2.2 t_orderMany t_here t_fault t_faultAt t_commandMany t_writtenSize) res := by
  refine aKi_of (own := RX9) (by decide) rfl (Nat.le_of_ble_eq_true rfl) rfl ?_
  intro p e s m args below meth c C hr
  have hI22 : ∀ (q_t_wordSize : Int32) (fuel : Nat) (x1 : Int32) (q_t_wordF : Nat → Int32) (k : Int32 → (Nat → Int32) → Option (Int32 × (Nat → Int32) × Int32)), f_X9_holdsWord_L22 q_t_wordSize t_textF t_texted fuel x1 q_t_wordF k = some res → (∀ (x1 : Int32) (q_t_wordF : Nat → Int32), k x1 q_t_wordF = some res → aT p l e ({ frames := 1, cells := 0, slots := 0, locals := 22 } : Room) s m args below meth c (MQ below (aQi D (wX9 kc ki t t_all t_reasons t_text t_word t_order t_rows t_written t_allF t_reasonsF t_textF t_wordF t_orderF t_rowsF t_writtenF t_thrown t_changes t_isSaved t_result t_texted t_wordSize t_orderMany t_here t_fault t_faultAt t_commandMany t_writtenSize) s.heap.size (fun r => r.1) (fun r => wX9 kc ki t t_all t_reasons t_text t_word t_order t_rows t_written t_allF t_reasonsF t_textF r.2.1 t_orderF t_rowsF t_writtenF t_thrown t_changes t_isSaved t_result t_texted r.2.2 t_orderMany t_here t_fault t_faultAt t_commandMany t_writtenSize) res) args s 0 0 (va_A (wX9 kc ki t t_all t_reasons t_text t_word t_order t_rows t_written t_allF t_reasonsF t_textF t_wordF t_orderF t_rowsF t_writtenF t_thrown t_changes t_isSaved t_result t_texted t_wordSize t_orderMany t_here t_fault t_faultAt t_commandMany t_writtenSize) s.heap.size)) D (va_A (wX9 kc ki t t_all t_reasons t_text t_word t_order t_rows t_written t_allF t_reasonsF t_textF t_wordF t_orderF t_rowsF t_writtenF t_thrown t_changes t_isSaved t_result t_texted t_wordSize t_orderMany t_here t_fault t_faultAt t_commandMany t_writtenSize) s.heap.size) 2 0 0 66 [(0, .ref t)] [] (wX9 kc ki t t_all t_reasons t_text t_word t_order t_rows t_written t_allF t_reasonsF t_textF q_t_wordF t_orderF t_rowsF t_writtenF t_thrown t_changes t_isSaved t_result t_texted q_t_wordSize t_orderMany t_here t_fault t_faultAt t_commandMany t_writtenSize)) → aT p l e ({ frames := 1, cells := 0, slots := 0, locals := 22 } : Room) s m args below meth c (MQ below (aQi D (wX9 kc ki t t_all t_reasons t_text t_word t_order t_rows t_written t_allF t_reasonsF t_textF t_wordF t_orderF t_rowsF t_writtenF t_thrown t_changes t_isSaved t_result t_texted t_wordSize t_orderMany t_here t_fault t_faultAt t_commandMany t_writtenSize) s.heap.size (fun r => r.1) (fun r => wX9 kc ki t t_all t_reasons t_text t_word t_order t_rows t_written t_allF t_reasonsF t_textF r.2.1 t_orderF t_rowsF t_writtenF t_thrown t_changes t_isSaved t_result t_texted r.2.2 t_orderMany t_here t_fault t_faultAt t_commandMany t_writtenSize) res) args s 0 0 (va_A (wX9 kc ki t t_all t_reasons t_text t_word t_order t_rows t_written t_allF t_reasonsF t_textF t_wordF t_orderF t_rowsF t_writtenF t_thrown t_changes t_isSaved t_result t_texted t_wordSize t_orderMany t_here t_fault t_faultAt t_commandMany t_writtenSize) s.heap.size)) D (va_A (wX9 kc ki t t_all t_reasons t_text t_word t_order t_rows t_written t_allF t_reasonsF t_textF t_wordF t_orderF t_rowsF t_writtenF t_thrown t_changes t_isSaved t_result t_texted t_wordSize t_orderMany t_here t_fault t_faultAt t_commandMany t_writtenSize) s.heap.size) 2 0 0 22 [(0, .ref t), (1, .int x1)] [] (wX9 kc ki t t_all t_reasons t_text t_word t_order t_rows t_written t_allF t_reasonsF t_textF q_t_wordF t_orderF t_rowsF t_writtenF t_thrown t_changes t_isSaved t_result t_texted q_t_wordSize t_orderMany t_here t_fault t_faultAt t_commandMany t_writtenSize) := by
    intro q_t_wordSize fuel
    induction fuel with
    | zero => intro x1 q_t_wordF k hF hX; exact nomatch hF
    | succ fuel ih =>
      intro x1 q_t_wordF k hF hX
      rw [f_X9_holdsWord_L22] at hF
      refine a_iload_n C 1 dX9_holdsWord_22 rfl rfl ?_
      refine a_aload_n C 0 dX9_holdsWord_23 rfl rfl ?_
      refine a_get C 0 7 iwX9 rfl rfl (by decide) kf_X9_69 rfl dX9_holdsWord_24 ?_
      refine a_ic_ge C (tgt := 66) dX9_holdsWord_27 (by decide) hF (fun c27_3 hF => ?_) (fun c27_3 hF => ?_)
      · refine a_sub C [0] [(0, .ref t)] rfl ?_
        exact hX x1 q_t_wordF hF
      refine a_aload_n C 0 dX9_holdsWord_30 rfl rfl ?_
      refine a_get C 0 6 iwX9 rfl rfl (by decide) kf_X9_16 rfl dX9_holdsWord_31 ?_
      refine a_iload_n C 1 dX9_holdsWord_34 rfl rfl ?_
      refine a_cald C 3 0 rfl rfl dX9_holdsWord_35 hF (fun v35_4 ev35_4 hF => ?_)
      refine a_bipush C (v := 97) dX9_holdsWord_36 (by decide) ?_
      refine a_bipush C (v := 122) dX9_holdsWord_38 (by decide) ?_
      refine a_callSir C 3 [] cs_X9_49 hd_X9_in ⟨rfl, rfl⟩ ⟨Nat.le_of_ble_eq_true rfl, Nat.le_of_ble_eq_true rfl⟩ (fun r h => c_X9_in l D J kc ki kb kl kd v35_4 97 122 r h) rfl rfl rfl rfl (Nat.le_of_ble_eq_true rfl) dX9_holdsWord_40 ⟨Nat.zero_le _, Nat.zero_le _⟩ hF (fun r40_5 er40_5 hF => ?_)
      refine a_if_ne C (tgt := 48) dX9_holdsWord_43 (by decide) hF (fun c43_6 hF => ?_) (fun c43_6 hF => ?_)
      · refine a_aload_n C 0 dX9_holdsWord_48 rfl rfl ?_
        refine a_get C 0 8 iwX9 rfl rfl (by decide) kf_X9_20 rfl dX9_holdsWord_49 ?_
        refine a_iload_n C 1 dX9_holdsWord_52 rfl rfl ?_
        refine a_aload_n C 0 dX9_holdsWord_53 rfl rfl ?_
        refine a_get C 0 6 iwX9 rfl rfl (by decide) kf_X9_16 rfl dX9_holdsWord_54 ?_
        refine a_iload_n C 1 dX9_holdsWord_57 rfl rfl ?_
        refine a_cald C 3 0 rfl rfl dX9_holdsWord_58 hF (fun v58_7 ev58_7 hF => ?_)
        refine a_iast C 4 1 rfl rfl dX9_holdsWord_59 hF (fun g59_8 eg59_8 hF => ?_)
        refine a_ws C (ws' := wX9 kc ki t t_all t_reasons t_text t_word t_order t_rows t_written t_allF t_reasonsF t_textF g59_8 t_orderF t_rowsF t_writtenF t_thrown t_changes t_isSaved t_result t_texted q_t_wordSize t_orderMany t_here t_fault t_faultAt t_commandMany t_writtenSize) rfl ?_
        refine a_iinc C 1 [(1, .int (x1 + 1)), (0, .ref t)] dX9_holdsWord_60 rfl rfl (by decide) rfl ?_
        refine a_goto C (tgt := 22) dX9_holdsWord_63 (by decide) ?_
        refine a_sub C [1, 0] [(0, .ref t), (1, .int (x1 + 1))] rfl ?_
        exact ih (x1 + 1) g59_8 k hF hX
      refine a_iconst C (v := 0) dX9_holdsWord_46 (by decide) ?_
      exact a_iret C hr rfl dX9_holdsWord_47 hF rfl rfl
  unfold f_X9_holdsWord at hF
  refine a_aload_n C 0 dX9_holdsWord_0 rfl rfl ?_
  refine a_iconst C (v := 0) dX9_holdsWord_1 (by decide) ?_
  refine a_put C 0 9 iwX9 tyX9_ok nmX9 rfl rfl (by decide) kf_X9_72 rfl rfl rfl (Nat.le_of_ble_eq_true rfl) dX9_holdsWord_2 ?_
  refine a_ws C (ws' := wX9 kc ki t t_all t_reasons t_text t_word t_order t_rows t_written t_allF t_reasonsF t_textF t_wordF t_orderF t_rowsF t_writtenF t_thrown t_changes t_isSaved t_result t_texted 0 t_orderMany t_here t_fault t_faultAt t_commandMany t_writtenSize) rfl ?_
  refine a_aload_n C 0 dX9_holdsWord_5 rfl rfl ?_
  refine a_get C 0 7 iwX9 rfl rfl (by decide) kf_X9_69 rfl dX9_holdsWord_6 ?_
  refine a_iconst C (v := 1) dX9_holdsWord_9 (by decide) ?_
  refine a_bipush C (v := 10) dX9_holdsWord_10 (by decide) ?_
  refine a_callSir C 3 [] cs_X9_49 hd_X9_in ⟨rfl, rfl⟩ ⟨Nat.le_of_ble_eq_true rfl, Nat.le_of_ble_eq_true rfl⟩ (fun r h => c_X9_in l D J kc ki kb kl kd t_texted 1 10 r h) rfl rfl rfl rfl (Nat.le_of_ble_eq_true rfl) dX9_holdsWord_12 ⟨Nat.zero_le _, Nat.zero_le _⟩ hF (fun r12_1 er12_1 hF => ?_)
  refine a_if_ne C (tgt := 20) dX9_holdsWord_15 (by decide) hF (fun c15_2 hF => ?_) (fun c15_2 hF => ?_)
  · refine a_iconst C (v := 0) dX9_holdsWord_20 (by decide) ?_
    refine a_istore_n C [(1, .int 0), (0, .ref t)] dX9_holdsWord_21 rfl (by decide) rfl ?_
    refine a_sub C [1, 0] [(0, .ref t), (1, .int 0)] rfl ?_
    refine hI22 0 1000 0 t_wordF _ hF (fun x1_22_9 q_t_wordF_22_10 hF => ?_)
    refine a_aload_n C 0 dX9_holdsWord_66 rfl rfl ?_
    refine a_aload_n C 0 dX9_holdsWord_67 rfl rfl ?_
    refine a_get C 0 7 iwX9 rfl rfl (by decide) kf_X9_69 rfl dX9_holdsWord_68 ?_
    refine a_put C 0 9 iwX9 tyX9_ok nmX9 rfl rfl (by decide) kf_X9_72 rfl rfl rfl (Nat.le_of_ble_eq_true rfl) dX9_holdsWord_71 ?_
    refine a_ws C (ws' := wX9 kc ki t t_all t_reasons t_text t_word t_order t_rows t_written t_allF t_reasonsF t_textF q_t_wordF_22_10 t_orderF t_rowsF t_writtenF t_thrown t_changes t_isSaved t_result t_texted t_texted t_orderMany t_here t_fault t_faultAt t_commandMany t_writtenSize) rfl ?_
    refine a_iconst C (v := 1) dX9_holdsWord_74 (by decide) ?_
    exact a_iret C hr rfl dX9_holdsWord_75 hF rfl rfl
  refine a_iconst C (v := 0) dX9_holdsWord_18 (by decide) ?_
  exact a_iret C hr rfl dX9_holdsWord_19 hF rfl rfl
theorem cs_X9_75 : GoodIn WW (wsV RX9 75 RX9 yX9_set (aW yX9_set cX9_set 4 none)) := gdV kl_X9_75 ki_X9_set kv_X9_set kn_X9 kc_X9_set
def f_X9_adds_L30 (x1 : Int32) (t_wordF : Nat → Int32) (t_wordSize : Int32) : Nat → Int32 → (Nat → Int32) → (Int32 → (Nat → Int32) → Option (Int32 × (Nat → Int32) × (Nat → Int32) × Int32)) → Option (Int32 × (Nat → Int32) × (Nat → Int32) × Int32)
  | 0, _, _, _ => none
  | fuel + 1, x2, q_t_allF, k => if t_wordSize ≤ x2 then (k x2 q_t_allF) else ((ldi t_wordF 10 x2).bind fun v46_6 => (f_X9_set q_t_allF x1 x2 v46_6).bind fun r47_7 => f_X9_adds_L30 x1 t_wordF t_wordSize fuel (x2 + 1) r47_7 k)
def f_X9_adds_J17 (x1 : Int32) (q_t_allF : Nat → Int32) (q_t_reasonsF : Nat → Int32) (q_t_result : Int32) (y1 : Int32) (t_wordF : Nat → Int32) (t_wordSize : Int32) : Option (Int32 × (Nat → Int32) × (Nat → Int32) × Int32) := (f_X9_refuses q_t_reasonsF y1 1 8).bind fun r20_3 => if r20_3.1 = 0 then (f_X9_adds_L30 x1 t_wordF t_wordSize 1000 0 q_t_allF (fun x2_30_8 q_t_allF_30_9 => (f_X9_set q_t_allF_30_9 x1 10 t_wordSize).bind fun r64_10 => (ldi r64_10 979 0).bind fun v73_11 => (sti r64_10 979 0 (v73_11 + 1)).bind fun g76_12 => some (1, g76_12, r20_3.2, x1))) else (some (0, q_t_allF, r20_3.2, q_t_result))
def f_X9_adds (t_allF : Nat → Int32) (t_reasonsF : Nat → Int32) (t_wordF : Nat → Int32) (t_result : Int32) (t_wordSize : Int32) : Option (Int32 × (Nat → Int32) × (Nat → Int32) × Int32) := (f_X9_many t_allF).bind fun r1_1 => if ¬ r1_1 = 8 then (f_X9_adds_J17 r1_1 t_allF t_reasonsF t_result 0 t_wordF t_wordSize) else (f_X9_adds_J17 r1_1 t_allF t_reasonsF t_result 1 t_wordF t_wordSize)
theorem hd_X9_adds : yX9_adds.cls = RX9 ∧ yX9_adds.cls ≠ "java/lang/invoke/MethodHandle" ∧ yX9_adds.cls ≠ "java/lang/invoke/VarHandle" ∧ (parseMethodDescriptor yX9_adds.desc).map (fun d => d.parameters.length) = some 0 := by decide +kernel
set_option maxRecDepth 100000 in
set_option maxHeartbeats 4000000 in
theorem c_X9_adds (l : Launch) (D : va_G) (J : (Nat → Nat) × (Nat → Nat)) (kc ki kb kl kd : ClassId) (t : Nat) (t_all : Nat) (t_reasons : Nat) (t_text : Nat) (t_word : Nat) (t_order : Nat) (t_rows : Nat) (t_written : Nat) (t_allF : Nat → Int32) (t_reasonsF : Nat → Int32) (t_textF : Nat → Int32) (t_wordF : Nat → Int32) (t_orderF : Nat → Int32) (t_rowsF : Nat → Int32) (t_writtenF : Nat → Int32) (t_thrown : Int32) (t_changes : Int32) (t_isSaved : Int32) (t_result : Int32) (t_texted : Int32) (t_wordSize : Int32) (t_orderMany : Int32) (t_here : Int32) (t_fault : Int32) (t_faultAt : Int32) (t_commandMany : Int32) (t_writtenSize : Int32) (res : Int32 × (Nat → Int32) × (Nat → Int32) × Int32) (hF : f_X9_adds t_allF t_reasonsF t_wordF t_result t_wordSize = some res) : aKi l yX9_adds (aW yX9_adds cX9_adds 3 ((some .boolean))) ({ frames := 1, cells := 0, slots := 0, locals := 23 } : Room) D J (aTy kc ki kb kl kd) [.ref t] (wX9 kc ki t t_all t_reasons t_text t_word t_order t_rows t_written t_allF t_reasonsF t_textF t_wordF t_orderF t_rowsF t_writtenF t_thrown t_changes t_isSaved t_result t_texted t_wordSize t_orderMany t_here t_fault t_faultAt t_commandMany t_writtenSize) (fun r => r.1) (fun r => wX9 kc ki t t_all t_reasons t_text t_word t_order t_rows t_written r.2.1 r.2.2.1 t_textF t_wordF t_orderF t_rowsF t_writtenF t_thrown t_changes t_isSaved r.2.2.2 t_texted t_wordSize t_orderMany t_here t_fault t_faultAt t_commandMany t_writtenSize) res := by
  refine aKi_of (own := RX9) (by decide) rfl (Nat.le_of_ble_eq_true rfl) rfl ?_
  intro p e s m args below meth c C hr
  have hI30 : ∀ (x1 : Int32) (q_t_reasonsF : Nat → Int32) (q_t_result : Int32) (fuel : Nat) (x2 : Int32) (q_t_allF : Nat → Int32) (k : Int32 → (Nat → Int32) → Option (Int32 × (Nat → Int32) × (Nat → Int32) × Int32)), f_X9_adds_L30 x1 t_wordF t_wordSize fuel x2 q_t_allF k = some res → (∀ (x2 : Int32) (q_t_allF : Nat → Int32), k x2 q_t_allF = some res → aT p l e ({ frames := 1, cells := 0, slots := 0, locals := 23 } : Room) s m args below meth c (MQ below (aQi D (wX9 kc ki t t_all t_reasons t_text t_word t_order t_rows t_written t_allF t_reasonsF t_textF t_wordF t_orderF t_rowsF t_writtenF t_thrown t_changes t_isSaved t_result t_texted t_wordSize t_orderMany t_here t_fault t_faultAt t_commandMany t_writtenSize) s.heap.size (fun r => r.1) (fun r => wX9 kc ki t t_all t_reasons t_text t_word t_order t_rows t_written r.2.1 r.2.2.1 t_textF t_wordF t_orderF t_rowsF t_writtenF t_thrown t_changes t_isSaved r.2.2.2 t_texted t_wordSize t_orderMany t_here t_fault t_faultAt t_commandMany t_writtenSize) res) args s 0 0 (va_A (wX9 kc ki t t_all t_reasons t_text t_word t_order t_rows t_written t_allF t_reasonsF t_textF t_wordF t_orderF t_rowsF t_writtenF t_thrown t_changes t_isSaved t_result t_texted t_wordSize t_orderMany t_here t_fault t_faultAt t_commandMany t_writtenSize) s.heap.size)) D (va_A (wX9 kc ki t t_all t_reasons t_text t_word t_order t_rows t_written t_allF t_reasonsF t_textF t_wordF t_orderF t_rowsF t_writtenF t_thrown t_changes t_isSaved t_result t_texted t_wordSize t_orderMany t_here t_fault t_faultAt t_commandMany t_writtenSize) s.heap.size) 3 0 0 56 [(0, .ref t), (1, .int x1)] [] (wX9 kc ki t t_all t_reasons t_text t_word t_order t_rows t_written q_t_allF q_t_reasonsF t_textF t_wordF t_orderF t_rowsF t_writtenF t_thrown t_changes t_isSaved q_t_result t_texted t_wordSize t_orderMany t_here t_fault t_faultAt t_commandMany t_writtenSize)) → aT p l e ({ frames := 1, cells := 0, slots := 0, locals := 23 } : Room) s m args below meth c (MQ below (aQi D (wX9 kc ki t t_all t_reasons t_text t_word t_order t_rows t_written t_allF t_reasonsF t_textF t_wordF t_orderF t_rowsF t_writtenF t_thrown t_changes t_isSaved t_result t_texted t_wordSize t_orderMany t_here t_fault t_faultAt t_commandMany t_writtenSize) s.heap.size (fun r => r.1) (fun r => wX9 kc ki t t_all t_reasons t_text t_word t_order t_rows t_written r.2.1 r.2.2.1 t_textF t_wordF t_orderF t_rowsF t_writtenF t_thrown t_changes t_isSaved r.2.2.2 t_texted t_wordSize t_orderMany t_here t_fault t_faultAt t_commandMany t_writtenSize) res) args s 0 0 (va_A (wX9 kc ki t t_all t_reasons t_text t_word t_order t_rows t_written t_allF t_reasonsF t_textF t_wordF t_orderF t_rowsF t_writtenF t_thrown t_changes t_isSaved t_result t_texted t_wordSize t_orderMany t_here t_fault t_faultAt t_commandMany t_writtenSize) s.heap.size)) D (va_A (wX9 kc ki t t_all t_reasons t_text t_word t_order t_rows t_written t_allF t_reasonsF t_textF t_wordF t_orderF t_rowsF t_writtenF t_thrown t_changes t_isSaved t_result t_texted t_wordSize t_orderMany t_here t_fault t_faultAt t_commandMany t_writtenSize) s.heap.size) 3 0 0 30 [(0, .ref t), (1, .int x1), (2, .int x2)] [] (wX9 kc ki t t_all t_reasons t_text t_word t_order t_rows t_written q_t_allF q_t_reasonsF t_textF t_wordF t_orderF t_rowsF t_writtenF t_thrown t_changes t_isSaved q_t_result t_texted t_wordSize t_orderMany t_here t_fault t_faultAt t_commandMany t_writtenSize) := by
    intro x1 q_t_reasonsF q_t_result fuel
    induction fuel with
    | zero => intro x2 q_t_allF k hF hX; exact nomatch hF
    | succ fuel ih =>
      intro x2 q_t_allF k hF hX
      rw [f_X9_adds_L30] at hF
      refine a_iload_n C 2 dX9_adds_30 rfl rfl ?_
      refine a_aload_n C 0 dX9_adds_31 rfl rfl ?_
      refine a_get C 0 9 iwX9 rfl rfl (by decide) kf_X9_72 rfl dX9_adds_32 ?_
      refine a_ic_ge C (tgt := 56) dX9_adds_35 (by decide) hF (fun c35_5 hF => ?_) (fun c35_5 hF => ?_)
      · refine a_sub C [0, 1] [(0, .ref t), (1, .int x1)] rfl ?_
        exact hX x2 q_t_allF hF
      refine a_aload_n C 0 dX9_adds_38 rfl rfl ?_
      refine a_iload_n C 1 dX9_adds_39 rfl rfl ?_
      refine a_iload_n C 2 dX9_adds_40 rfl rfl ?_
      refine a_aload_n C 0 dX9_adds_41 rfl rfl ?_
      refine a_get C 0 8 iwX9 rfl rfl (by decide) kf_X9_20 rfl dX9_adds_42 ?_
      refine a_iload_n C 2 dX9_adds_45 rfl rfl ?_
      refine a_iald C 4 1 rfl rfl dX9_adds_46 hF (fun v46_6 ev46_6 hF => ?_)
      refine a_callVv C 3 [0, 1, 2, 3, 4, 5, 6, 7] 0 cs_X9_75 hd_X9_set ⟨rfl, rfl⟩ ⟨Nat.le_of_ble_eq_true rfl, Nat.le_of_ble_eq_true rfl⟩ (fun r h => c_X9_set l D J kc ki kb kl kd t t_all t_reasons t_text t_word t_order t_rows t_written q_t_allF q_t_reasonsF t_textF t_wordF t_orderF t_rowsF t_writtenF t_thrown t_changes t_isSaved q_t_result t_texted t_wordSize t_orderMany t_here t_fault t_faultAt t_commandMany t_writtenSize x1 x2 v46_6 r h) rfl rfl rfl (fun _ => rfl) rfl rfl rfl (Nat.le_of_ble_eq_true rfl) dX9_adds_47 ⟨Nat.zero_le _, Nat.zero_le _⟩ hF (fun r47_7 er47_7 hF => ?_)
      refine a_ws C (ws' := wX9 kc ki t t_all t_reasons t_text t_word t_order t_rows t_written r47_7 q_t_reasonsF t_textF t_wordF t_orderF t_rowsF t_writtenF t_thrown t_changes t_isSaved q_t_result t_texted t_wordSize t_orderMany t_here t_fault t_faultAt t_commandMany t_writtenSize) rfl ?_
      refine a_iinc C 2 [(2, .int (x2 + 1)), (0, .ref t), (1, .int x1)] dX9_adds_50 rfl rfl (by decide) rfl ?_
      refine a_goto C (tgt := 30) dX9_adds_53 (by decide) ?_
      refine a_sub C [1, 2, 0] [(0, .ref t), (1, .int x1), (2, .int (x2 + 1))] rfl ?_
      exact ih (x2 + 1) r47_7 k hF hX
  have hJ17 : ∀ (x1 : Int32) (q_t_allF : Nat → Int32) (q_t_reasonsF : Nat → Int32) (q_t_result : Int32) (y1 : Int32), f_X9_adds_J17 x1 q_t_allF q_t_reasonsF q_t_result y1 t_wordF t_wordSize = some res → aT p l e ({ frames := 1, cells := 0, slots := 0, locals := 23 } : Room) s m args below meth c (MQ below (aQi D (wX9 kc ki t t_all t_reasons t_text t_word t_order t_rows t_written t_allF t_reasonsF t_textF t_wordF t_orderF t_rowsF t_writtenF t_thrown t_changes t_isSaved t_result t_texted t_wordSize t_orderMany t_here t_fault t_faultAt t_commandMany t_writtenSize) s.heap.size (fun r => r.1) (fun r => wX9 kc ki t t_all t_reasons t_text t_word t_order t_rows t_written r.2.1 r.2.2.1 t_textF t_wordF t_orderF t_rowsF t_writtenF t_thrown t_changes t_isSaved r.2.2.2 t_texted t_wordSize t_orderMany t_here t_fault t_faultAt t_commandMany t_writtenSize) res) args s 0 0 (va_A (wX9 kc ki t t_all t_reasons t_text t_word t_order t_rows t_written t_allF t_reasonsF t_textF t_wordF t_orderF t_rowsF t_writtenF t_thrown t_changes t_isSaved t_result t_texted t_wordSize t_orderMany t_here t_fault t_faultAt t_commandMany t_writtenSize) s.heap.size)) D (va_A (wX9 kc ki t t_all t_reasons t_text t_word t_order t_rows t_written t_allF t_reasonsF t_textF t_wordF t_orderF t_rowsF t_writtenF t_thrown t_changes t_isSaved t_result t_texted t_wordSize t_orderMany t_here t_fault t_faultAt t_commandMany t_writtenSize) s.heap.size) 3 0 0 17 [(0, .ref t), (1, .int x1)] [.int y1, .ref t] (wX9 kc ki t t_all t_reasons t_text t_word t_order t_rows t_written q_t_allF q_t_reasonsF t_textF t_wordF t_orderF t_rowsF t_writtenF t_thrown t_changes t_isSaved q_t_result t_texted t_wordSize t_orderMany t_here t_fault t_faultAt t_commandMany t_writtenSize) := by
    intro x1 q_t_allF q_t_reasonsF q_t_result y1 hF
    unfold f_X9_adds_J17 at hF
    refine a_iconst C (v := 1) dX9_adds_17 (by decide) ?_
    refine a_bipush C (v := 8) dX9_adds_18 (by decide) ?_
    refine a_callVi C 3 [0, 1, 2, 3, 4, 5, 6, 7] 0 cs_X9_65 hd_X9_refuses ⟨rfl, rfl⟩ ⟨Nat.le_of_ble_eq_true rfl, Nat.le_of_ble_eq_true rfl⟩ (fun r h => c_X9_refuses l D J kc ki kb kl kd t t_all t_reasons t_text t_word t_order t_rows t_written q_t_allF q_t_reasonsF t_textF t_wordF t_orderF t_rowsF t_writtenF t_thrown t_changes t_isSaved q_t_result t_texted t_wordSize t_orderMany t_here t_fault t_faultAt t_commandMany t_writtenSize y1 1 8 r h) rfl rfl rfl (fun _ => rfl) rfl rfl rfl (Nat.le_of_ble_eq_true rfl) dX9_adds_20 ⟨Nat.zero_le _, Nat.zero_le _⟩ hF (fun r20_3 er20_3 hF => ?_)
    refine a_ws C (ws' := wX9 kc ki t t_all t_reasons t_text t_word t_order t_rows t_written q_t_allF r20_3.2 t_textF t_wordF t_orderF t_rowsF t_writtenF t_thrown t_changes t_isSaved q_t_result t_texted t_wordSize t_orderMany t_here t_fault t_faultAt t_commandMany t_writtenSize) rfl ?_
    refine a_if_eq C (tgt := 28) dX9_adds_23 (by decide) hF (fun c23_4 hF => ?_) (fun c23_4 hF => ?_)
    · refine a_iconst C (v := 0) dX9_adds_28 (by decide) ?_
      refine a_istore_n C [(2, .int 0), (0, .ref t), (1, .int x1)] dX9_adds_29 rfl (by decide) rfl ?_
      refine a_sub C [1, 2, 0] [(0, .ref t), (1, .int x1), (2, .int 0)] rfl ?_
      refine hI30 x1 r20_3.2 q_t_result 1000 0 q_t_allF _ hF (fun x2_30_8 q_t_allF_30_9 hF => ?_)
      refine a_aload_n C 0 dX9_adds_56 rfl rfl ?_
      refine a_iload_n C 1 dX9_adds_57 rfl rfl ?_
      refine a_bipush C (v := 10) dX9_adds_58 (by decide) ?_
      refine a_aload_n C 0 dX9_adds_60 rfl rfl ?_
      refine a_get C 0 9 iwX9 rfl rfl (by decide) kf_X9_72 rfl dX9_adds_61 ?_
      refine a_callVv C 3 [0, 1, 2, 3, 4, 5, 6, 7] 0 cs_X9_75 hd_X9_set ⟨rfl, rfl⟩ ⟨Nat.le_of_ble_eq_true rfl, Nat.le_of_ble_eq_true rfl⟩ (fun r h => c_X9_set l D J kc ki kb kl kd t t_all t_reasons t_text t_word t_order t_rows t_written q_t_allF_30_9 r20_3.2 t_textF t_wordF t_orderF t_rowsF t_writtenF t_thrown t_changes t_isSaved q_t_result t_texted t_wordSize t_orderMany t_here t_fault t_faultAt t_commandMany t_writtenSize x1 10 t_wordSize r h) rfl rfl rfl (fun _ => rfl) rfl rfl rfl (Nat.le_of_ble_eq_true rfl) dX9_adds_64 ⟨Nat.zero_le _, Nat.zero_le _⟩ hF (fun r64_10 er64_10 hF => ?_)
      refine a_ws C (ws' := wX9 kc ki t t_all t_reasons t_text t_word t_order t_rows t_written r64_10 r20_3.2 t_textF t_wordF t_orderF t_rowsF t_writtenF t_thrown t_changes t_isSaved q_t_result t_texted t_wordSize t_orderMany t_here t_fault t_faultAt t_commandMany t_writtenSize) rfl ?_
      refine a_aload_n C 0 dX9_adds_67 rfl rfl ?_
      refine a_get C 0 1 iwX9 rfl rfl (by decide) kf_X9_9 rfl dX9_adds_68 ?_
      refine a_iconst C (v := 0) dX9_adds_71 (by decide) ?_
      refine a_dup2 C dX9_adds_72 rfl rfl ?_
      refine a_iald C 1 1 rfl rfl dX9_adds_73 hF (fun v73_11 ev73_11 hF => ?_)
      refine a_iconst C (v := 1) dX9_adds_74 (by decide) ?_
      refine a_iadd C dX9_adds_75 ?_
      refine a_iast C 1 1 rfl rfl dX9_adds_76 hF (fun g76_12 eg76_12 hF => ?_)
      refine a_ws C (ws' := wX9 kc ki t t_all t_reasons t_text t_word t_order t_rows t_written g76_12 r20_3.2 t_textF t_wordF t_orderF t_rowsF t_writtenF t_thrown t_changes t_isSaved q_t_result t_texted t_wordSize t_orderMany t_here t_fault t_faultAt t_commandMany t_writtenSize) rfl ?_
      refine a_aload_n C 0 dX9_adds_77 rfl rfl ?_
      refine a_iload_n C 1 dX9_adds_78 rfl rfl ?_
      refine a_put C 0 4 iwX9 tyX9_ok nmX9 rfl rfl (by decide) kf_X9_46 rfl rfl rfl (Nat.le_of_ble_eq_true rfl) dX9_adds_79 ?_
      refine a_ws C (ws' := wX9 kc ki t t_all t_reasons t_text t_word t_order t_rows t_written g76_12 r20_3.2 t_textF t_wordF t_orderF t_rowsF t_writtenF t_thrown t_changes t_isSaved x1 t_texted t_wordSize t_orderMany t_here t_fault t_faultAt t_commandMany t_writtenSize) rfl ?_
      refine a_iconst C (v := 1) dX9_adds_82 (by decide) ?_
      exact a_iret C hr rfl dX9_adds_83 hF rfl rfl
    refine a_iconst C (v := 0) dX9_adds_26 (by decide) ?_
    exact a_iret C hr rfl dX9_adds_27 hF rfl rfl
  unfold f_X9_adds at hF
  refine a_aload_n C 0 dX9_adds_0 rfl rfl ?_
  refine a_callVir C 0 [0, 1, 2, 3, 4, 5, 6, 7] 0 cs_X9_53 hd_X9_many ⟨rfl, rfl⟩ ⟨Nat.le_of_ble_eq_true rfl, Nat.le_of_ble_eq_true rfl⟩ (fun r h => c_X9_many l D J kc ki kb kl kd t t_all t_reasons t_text t_word t_order t_rows t_written t_allF t_reasonsF t_textF t_wordF t_orderF t_rowsF t_writtenF t_thrown t_changes t_isSaved t_result t_texted t_wordSize t_orderMany t_here t_fault t_faultAt t_commandMany t_writtenSize r h) rfl rfl rfl rfl rfl rfl (Nat.le_of_ble_eq_true rfl) dX9_adds_1 ⟨Nat.zero_le _, Nat.zero_le _⟩ hF (fun r1_1 er1_1 hF => ?_)
  refine a_istore_n C [(1, .int r1_1), (0, .ref t)] dX9_adds_4 rfl (by decide) rfl ?_
  refine a_aload_n C 1 dX9_adds_5 rfl rfl ?_
  refine a_iload_n C 0 dX9_adds_6 rfl rfl ?_
  refine a_bipush C (v := 8) dX9_adds_7 (by decide) ?_
  refine a_ic_ne C (tgt := 16) dX9_adds_9 (by decide) hF (fun c9_2 hF => ?_) (fun c9_2 hF => ?_)
  · refine a_iconst C (v := 0) dX9_adds_16 (by decide) ?_
    refine a_sub C [1, 0] [(0, .ref t), (1, .int r1_1)] rfl ?_
    exact hJ17 r1_1 t_allF t_reasonsF t_result 0 hF
  refine a_iconst C (v := 1) dX9_adds_12 (by decide) ?_
  refine a_goto C (tgt := 17) dX9_adds_13 (by decide) ?_
  refine a_sub C [1, 0] [(0, .ref t), (1, .int r1_1)] rfl ?_
  exact hJ17 r1_1 t_allF t_reasonsF t_result 1 hF
theorem cs_X9_79 : GoodIn WW (wsV RX9 79 RX9 yX9_holdsWord (aW yX9_holdsWord cX9_holdsWord 2 ((some .boolean)))) := gdV kl_X9_79 ki_X9_holdsWord kv_X9_holdsWord kn_X9 kc_X9_holdsWord
theorem cs_X9_83 : GoodIn WW (wsV RX9 83 RX9 yX9_begins (aW yX9_begins cX9_begins 1 none)) := gdV kl_X9_83 ki_X9_begins kv_X9_begins kn_X9 kc_X9_begins
theorem cs_X9_89 : GoodIn WW (wsV RX9 89 RX9 yX9_ends (aW yX9_ends cX9_ends 4 ((some .int)))) := gdV kl_X9_89 ki_X9_ends kv_X9_ends kn_X9 kc_X9_ends
theorem cs_X9_86 : GoodIn WW (wsV RX9 86 RX9 yX9_adds (aW yX9_adds cX9_adds 3 ((some .boolean)))) := gdV kl_X9_86 ki_X9_adds kv_X9_adds kn_X9 kc_X9_adds
def f_X9_add_J30 (x2 : Int32) (q_t_allF : Nat → Int32) (q_t_reasonsF : Nat → Int32) (q_t_wordF : Nat → Int32) (q_t_changes : Int32) (q_t_result : Int32) (q_t_texted : Int32) (q_t_wordSize : Int32) (y2 : Int32) : Option (Int32 × (Nat → Int32) × (Nat → Int32) × (Nat → Int32) × Int32 × Int32 × Int32 × Int32 × Int32) := (f_X9_refuses q_t_reasonsF y2 9 x2).bind fun r33_4 => if ¬ r33_4.1 = 0 then ((f_X9_ends q_t_allF q_t_changes q_t_result 0 1).bind fun r52_6 => some (r52_6.1, r52_6.2.1, r33_4.2, q_t_wordF, r52_6.2.2.1, r52_6.2.2.2, q_t_result, q_t_texted, q_t_wordSize)) else ((f_X9_adds q_t_allF r33_4.2 q_t_wordF q_t_result q_t_wordSize).bind fun r40_7 => if r40_7.1 = 0 then ((f_X9_ends r40_7.2.1 q_t_changes r40_7.2.2.2 0 1).bind fun r52_9 => some (r52_9.1, r52_9.2.1, r40_7.2.2.1, q_t_wordF, r52_9.2.2.1, r52_9.2.2.2, r40_7.2.2.2, q_t_texted, q_t_wordSize)) else ((f_X9_ends r40_7.2.1 q_t_changes r40_7.2.2.2 1 1).bind fun r52_10 => some (r52_10.1, r52_10.2.1, r40_7.2.2.1, q_t_wordF, r52_10.2.2.1, r52_10.2.2.2, r40_7.2.2.2, q_t_texted, q_t_wordSize)))
def f_X9_add (t_allF : Nat → Int32) (t_reasonsF : Nat → Int32) (t_textF : Nat → Int32) (t_wordF : Nat → Int32) (t_changes : Int32) (t_result : Int32) (t_texted : Int32) : Option (Int32 × (Nat → Int32) × (Nat → Int32) × (Nat → Int32) × Int32 × Int32 × Int32 × Int32 × Int32) := (f_X9_holdsWord t_textF t_wordF t_texted).bind fun r1_1 => (f_X9_begins t_allF).bind fun r16_2 => if ¬ r1_1.1 = 0 then (f_X9_add_J30 t_texted r16_2 t_reasonsF r1_1.2.1 t_changes t_result 0 r1_1.2.2 0) else (f_X9_add_J30 t_texted r16_2 t_reasonsF r1_1.2.1 t_changes t_result 0 r1_1.2.2 1)
theorem hd_X9_add : yX9_add.cls = RX9 ∧ yX9_add.cls ≠ "java/lang/invoke/MethodHandle" ∧ yX9_add.cls ≠ "java/lang/invoke/VarHandle" ∧ (parseMethodDescriptor yX9_add.desc).map (fun d => d.parameters.length) = some 0 := by decide +kernel
set_option maxRecDepth 100000 in
set_option maxHeartbeats 4000000 in
theorem c_X9_add (l : Launch) (D : va_G) (J : (Nat → Nat) × (Nat → Nat)) (kc ki kb kl kd : ClassId) (t : Nat) (t_all : Nat) (t_reasons : Nat) (t_text : Nat) (t_word : Nat) (t_order : Nat) (t_rows : Nat) (t_written : Nat) (t_allF : Nat → Int32) (t_reasonsF : Nat → Int32) (t_textF : Nat → Int32) (t_wordF : Nat → Int32) (t_orderF : Nat → Int32) (t_rowsF : Nat → Int32) (t_writtenF : Nat → Int32) (t_thrown : Int32) (t_changes : Int32) (t_isSaved : Int32) (t_result : Int32) (t_texted : Int32) (t_wordSize : Int32) (t_orderMany : Int32) (t_here : Int32) (t_fault : Int32) (t_faultAt : Int32) (t_commandMany : Int32) (t_writtenSize : Int32) (res : Int32 × (Nat → Int32) × (Nat → Int32) × (Nat → Int32) × Int32 × Int32 × Int32 × Int32 × Int32) (hF : f_X9_add t_allF t_reasonsF t_textF t_wordF t_changes t_result t_texted = some res) : aKi l yX9_add (aW yX9_add cX9_add 3 ((some .int))) ({ frames := 2, cells := 0, slots := 0, locals := 46 } : Room) D J (aTy kc ki kb kl kd) [.ref t] (wX9 kc ki t t_all t_reasons t_text t_word t_order t_rows t_written t_allF t_reasonsF t_textF t_wordF t_orderF t_rowsF t_writtenF t_thrown t_changes t_isSaved t_result t_texted t_wordSize t_orderMany t_here t_fault t_faultAt t_commandMany t_writtenSize) (fun r => r.1) (fun r => wX9 kc ki t t_all t_reasons t_text t_word t_order t_rows t_written r.2.1 r.2.2.1 t_textF r.2.2.2.1 t_orderF t_rowsF t_writtenF r.2.2.2.2.1 r.2.2.2.2.2.1 t_isSaved r.2.2.2.2.2.2.1 r.2.2.2.2.2.2.2.1 r.2.2.2.2.2.2.2.2 t_orderMany t_here t_fault t_faultAt t_commandMany t_writtenSize) res := by
  refine aKi_of (own := RX9) (by decide) rfl (Nat.le_of_ble_eq_true rfl) rfl ?_
  intro p e s m args below meth c C hr
  have hJ30 : ∀ (x2 : Int32) (q_t_allF : Nat → Int32) (q_t_reasonsF : Nat → Int32) (q_t_wordF : Nat → Int32) (q_t_thrown : Int32) (q_t_changes : Int32) (q_t_result : Int32) (q_t_texted : Int32) (q_t_wordSize : Int32) (y2 : Int32), f_X9_add_J30 x2 q_t_allF q_t_reasonsF q_t_wordF q_t_changes q_t_result q_t_texted q_t_wordSize y2 = some res → aT p l e ({ frames := 2, cells := 0, slots := 0, locals := 46 } : Room) s m args below meth c (MQ below (aQi D (wX9 kc ki t t_all t_reasons t_text t_word t_order t_rows t_written t_allF t_reasonsF t_textF t_wordF t_orderF t_rowsF t_writtenF t_thrown t_changes t_isSaved t_result t_texted t_wordSize t_orderMany t_here t_fault t_faultAt t_commandMany t_writtenSize) s.heap.size (fun r => r.1) (fun r => wX9 kc ki t t_all t_reasons t_text t_word t_order t_rows t_written r.2.1 r.2.2.1 t_textF r.2.2.2.1 t_orderF t_rowsF t_writtenF r.2.2.2.2.1 r.2.2.2.2.2.1 t_isSaved r.2.2.2.2.2.2.1 r.2.2.2.2.2.2.2.1 r.2.2.2.2.2.2.2.2 t_orderMany t_here t_fault t_faultAt t_commandMany t_writtenSize) res) args s 0 0 (va_A (wX9 kc ki t t_all t_reasons t_text t_word t_order t_rows t_written t_allF t_reasonsF t_textF t_wordF t_orderF t_rowsF t_writtenF t_thrown t_changes t_isSaved t_result t_texted t_wordSize t_orderMany t_here t_fault t_faultAt t_commandMany t_writtenSize) s.heap.size)) D (va_A (wX9 kc ki t t_all t_reasons t_text t_word t_order t_rows t_written t_allF t_reasonsF t_textF t_wordF t_orderF t_rowsF t_writtenF t_thrown t_changes t_isSaved t_result t_texted t_wordSize t_orderMany t_here t_fault t_faultAt t_commandMany t_writtenSize) s.heap.size) 3 0 0 30 [(0, .ref t), (2, .int x2)] [.int y2, .ref t, .ref t] (wX9 kc ki t t_all t_reasons t_text t_word t_order t_rows t_written q_t_allF q_t_reasonsF t_textF q_t_wordF t_orderF t_rowsF t_writtenF q_t_thrown q_t_changes t_isSaved q_t_result q_t_texted q_t_wordSize t_orderMany t_here t_fault t_faultAt t_commandMany t_writtenSize) := by
    intro x2 q_t_allF q_t_reasonsF q_t_wordF q_t_thrown q_t_changes q_t_result q_t_texted q_t_wordSize y2 hF
    unfold f_X9_add_J30 at hF
    refine a_bipush C (v := 9) dX9_add_30 (by decide) ?_
    refine a_iload_n C 1 dX9_add_32 rfl rfl ?_
    refine a_callVi C 3 [0, 1, 2, 3, 4, 5, 6, 7] 0 cs_X9_65 hd_X9_refuses ⟨rfl, rfl⟩ ⟨Nat.le_of_ble_eq_true rfl, Nat.le_of_ble_eq_true rfl⟩ (fun r h => c_X9_refuses l D J kc ki kb kl kd t t_all t_reasons t_text t_word t_order t_rows t_written q_t_allF q_t_reasonsF t_textF q_t_wordF t_orderF t_rowsF t_writtenF q_t_thrown q_t_changes t_isSaved q_t_result q_t_texted q_t_wordSize t_orderMany t_here t_fault t_faultAt t_commandMany t_writtenSize y2 9 x2 r h) rfl rfl rfl (fun _ => rfl) rfl rfl rfl (Nat.le_of_ble_eq_true rfl) dX9_add_33 ⟨Nat.zero_le _, Nat.zero_le _⟩ hF (fun r33_4 er33_4 hF => ?_)
    refine a_ws C (ws' := wX9 kc ki t t_all t_reasons t_text t_word t_order t_rows t_written q_t_allF r33_4.2 t_textF q_t_wordF t_orderF t_rowsF t_writtenF q_t_thrown q_t_changes t_isSaved q_t_result q_t_texted q_t_wordSize t_orderMany t_here t_fault t_faultAt t_commandMany t_writtenSize) rfl ?_
    refine a_if_ne C (tgt := 50) dX9_add_36 (by decide) hF (fun c36_5 hF => ?_) (fun c36_5 hF => ?_)
    · refine a_iconst C (v := 0) dX9_add_50 (by decide) ?_
      refine a_iconst C (v := 1) dX9_add_51 (by decide) ?_
      refine a_callVi C 2 [0, 1, 2, 3, 4, 5, 6, 7] 0 cs_X9_89 hd_X9_ends ⟨rfl, rfl⟩ ⟨Nat.le_of_ble_eq_true rfl, Nat.le_of_ble_eq_true rfl⟩ (fun r h => c_X9_ends l D J kc ki kb kl kd t t_all t_reasons t_text t_word t_order t_rows t_written q_t_allF r33_4.2 t_textF q_t_wordF t_orderF t_rowsF t_writtenF q_t_thrown q_t_changes t_isSaved q_t_result q_t_texted q_t_wordSize t_orderMany t_here t_fault t_faultAt t_commandMany t_writtenSize 0 1 r h) rfl rfl rfl (fun _ => rfl) rfl rfl rfl (Nat.le_of_ble_eq_true rfl) dX9_add_52 ⟨Nat.zero_le _, Nat.zero_le _⟩ hF (fun r52_6 er52_6 hF => ?_)
      refine a_ws C (ws' := wX9 kc ki t t_all t_reasons t_text t_word t_order t_rows t_written r52_6.2.1 r33_4.2 t_textF q_t_wordF t_orderF t_rowsF t_writtenF r52_6.2.2.1 r52_6.2.2.2 t_isSaved q_t_result q_t_texted q_t_wordSize t_orderMany t_here t_fault t_faultAt t_commandMany t_writtenSize) rfl ?_
      exact a_iret C hr rfl dX9_add_55 hF rfl rfl
    refine a_aload_n C 0 dX9_add_39 rfl rfl ?_
    refine a_callVi C 0 [0, 1, 2, 3, 4, 5, 6, 7] 0 cs_X9_86 hd_X9_adds ⟨rfl, rfl⟩ ⟨Nat.le_of_ble_eq_true rfl, Nat.le_of_ble_eq_true rfl⟩ (fun r h => c_X9_adds l D J kc ki kb kl kd t t_all t_reasons t_text t_word t_order t_rows t_written q_t_allF r33_4.2 t_textF q_t_wordF t_orderF t_rowsF t_writtenF q_t_thrown q_t_changes t_isSaved q_t_result q_t_texted q_t_wordSize t_orderMany t_here t_fault t_faultAt t_commandMany t_writtenSize r h) rfl rfl rfl (fun _ => rfl) rfl rfl rfl (Nat.le_of_ble_eq_true rfl) dX9_add_40 ⟨Nat.zero_le _, Nat.zero_le _⟩ hF (fun r40_7 er40_7 hF => ?_)
    refine a_ws C (ws' := wX9 kc ki t t_all t_reasons t_text t_word t_order t_rows t_written r40_7.2.1 r40_7.2.2.1 t_textF q_t_wordF t_orderF t_rowsF t_writtenF q_t_thrown q_t_changes t_isSaved r40_7.2.2.2 q_t_texted q_t_wordSize t_orderMany t_here t_fault t_faultAt t_commandMany t_writtenSize) rfl ?_
    refine a_if_eq C (tgt := 50) dX9_add_43 (by decide) hF (fun c43_8 hF => ?_) (fun c43_8 hF => ?_)
    · refine a_iconst C (v := 0) dX9_add_50 (by decide) ?_
      refine a_iconst C (v := 1) dX9_add_51 (by decide) ?_
      refine a_callVi C 2 [0, 1, 2, 3, 4, 5, 6, 7] 0 cs_X9_89 hd_X9_ends ⟨rfl, rfl⟩ ⟨Nat.le_of_ble_eq_true rfl, Nat.le_of_ble_eq_true rfl⟩ (fun r h => c_X9_ends l D J kc ki kb kl kd t t_all t_reasons t_text t_word t_order t_rows t_written r40_7.2.1 r40_7.2.2.1 t_textF q_t_wordF t_orderF t_rowsF t_writtenF q_t_thrown q_t_changes t_isSaved r40_7.2.2.2 q_t_texted q_t_wordSize t_orderMany t_here t_fault t_faultAt t_commandMany t_writtenSize 0 1 r h) rfl rfl rfl (fun _ => rfl) rfl rfl rfl (Nat.le_of_ble_eq_true rfl) dX9_add_52 ⟨Nat.zero_le _, Nat.zero_le _⟩ hF (fun r52_9 er52_9 hF => ?_)
      refine a_ws C (ws' := wX9 kc ki t t_all t_reasons t_text t_word t_order t_rows t_written r52_9.2.1 r40_7.2.2.1 t_textF q_t_wordF t_orderF t_rowsF t_writtenF r52_9.2.2.1 r52_9.2.2.2 t_isSaved r40_7.2.2.2 q_t_texted q_t_wordSize t_orderMany t_here t_fault t_faultAt t_commandMany t_writtenSize) rfl ?_
      exact a_iret C hr rfl dX9_add_55 hF rfl rfl
    refine a_iconst C (v := 1) dX9_add_46 (by decide) ?_
    refine a_goto C (tgt := 51) dX9_add_47 (by decide) ?_
    refine a_iconst C (v := 1) dX9_add_51 (by decide) ?_
    refine a_callVi C 2 [0, 1, 2, 3, 4, 5, 6, 7] 0 cs_X9_89 hd_X9_ends ⟨rfl, rfl⟩ ⟨Nat.le_of_ble_eq_true rfl, Nat.le_of_ble_eq_true rfl⟩ (fun r h => c_X9_ends l D J kc ki kb kl kd t t_all t_reasons t_text t_word t_order t_rows t_written r40_7.2.1 r40_7.2.2.1 t_textF q_t_wordF t_orderF t_rowsF t_writtenF q_t_thrown q_t_changes t_isSaved r40_7.2.2.2 q_t_texted q_t_wordSize t_orderMany t_here t_fault t_faultAt t_commandMany t_writtenSize 1 1 r h) rfl rfl rfl (fun _ => rfl) rfl rfl rfl (Nat.le_of_ble_eq_true rfl) dX9_add_52 ⟨Nat.zero_le _, Nat.zero_le _⟩ hF (fun r52_10 er52_10 hF => ?_)
    refine a_ws C (ws' := wX9 kc ki t t_all t_reasons t_text t_word t_order t_rows t_written r52_10.2.1 r40_7.2.2.1 t_textF q_t_wordF t_orderF t_rowsF t_writtenF r52_10.2.2.1 r52_10.2.2.2 t_isSaved r40_7.2.2.2 q_t_texted q_t_wordSize t_orderMany t_here t_fault t_faultAt t_commandMany t_writtenSize) rfl ?_
    exact a_iret C hr rfl dX9_add_55 hF rfl rfl
  unfold f_X9_add at hF
  refine a_aload_n C 0 dX9_add_0 rfl rfl ?_
  refine a_callVi C 0 [0, 1, 2, 3, 4, 5, 6, 7] 0 cs_X9_79 hd_X9_holdsWord ⟨rfl, rfl⟩ ⟨Nat.le_of_ble_eq_true rfl, Nat.le_of_ble_eq_true rfl⟩ (fun r h => c_X9_holdsWord l D J kc ki kb kl kd t t_all t_reasons t_text t_word t_order t_rows t_written t_allF t_reasonsF t_textF t_wordF t_orderF t_rowsF t_writtenF t_thrown t_changes t_isSaved t_result t_texted t_wordSize t_orderMany t_here t_fault t_faultAt t_commandMany t_writtenSize r h) rfl rfl rfl (fun _ => rfl) rfl rfl rfl (Nat.le_of_ble_eq_true rfl) dX9_add_1 ⟨Nat.zero_le _, Nat.zero_le _⟩ hF (fun r1_1 er1_1 hF => ?_)
  refine a_ws C (ws' := wX9 kc ki t t_all t_reasons t_text t_word t_order t_rows t_written t_allF t_reasonsF t_textF r1_1.2.1 t_orderF t_rowsF t_writtenF t_thrown t_changes t_isSaved t_result t_texted r1_1.2.2 t_orderMany t_here t_fault t_faultAt t_commandMany t_writtenSize) rfl ?_
  refine a_istore_n C [(1, .int r1_1.1), (0, .ref t)] dX9_add_4 rfl (by decide) rfl ?_
  refine a_aload_n C 1 dX9_add_5 rfl rfl ?_
  refine a_get C 0 7 iwX9 rfl rfl (by decide) kf_X9_69 rfl dX9_add_6 ?_
  refine a_istore_n C [(2, .int t_texted), (1, .int r1_1.1), (0, .ref t)] dX9_add_9 rfl (by decide) rfl ?_
  refine a_aload_n C 2 dX9_add_10 rfl rfl ?_
  refine a_iconst C (v := 0) dX9_add_11 (by decide) ?_
  refine a_put C 0 7 iwX9 tyX9_ok nmX9 rfl rfl (by decide) kf_X9_69 rfl rfl rfl (Nat.le_of_ble_eq_true rfl) dX9_add_12 ?_
  refine a_ws C (ws' := wX9 kc ki t t_all t_reasons t_text t_word t_order t_rows t_written t_allF t_reasonsF t_textF r1_1.2.1 t_orderF t_rowsF t_writtenF t_thrown t_changes t_isSaved t_result 0 r1_1.2.2 t_orderMany t_here t_fault t_faultAt t_commandMany t_writtenSize) rfl ?_
  refine a_aload_n C 2 dX9_add_15 rfl rfl ?_
  refine a_callVv C 0 [0, 1, 2, 3, 4, 5, 6, 7] 0 cs_X9_83 hd_X9_begins ⟨rfl, rfl⟩ ⟨Nat.le_of_ble_eq_true rfl, Nat.le_of_ble_eq_true rfl⟩ (fun r h => c_X9_begins l D J kc ki kb kl kd t t_all t_reasons t_text t_word t_order t_rows t_written t_allF t_reasonsF t_textF r1_1.2.1 t_orderF t_rowsF t_writtenF t_thrown t_changes t_isSaved t_result 0 r1_1.2.2 t_orderMany t_here t_fault t_faultAt t_commandMany t_writtenSize r h) rfl rfl rfl (fun _ => rfl) rfl rfl rfl (Nat.le_of_ble_eq_true rfl) dX9_add_16 ⟨Nat.zero_le _, Nat.zero_le _⟩ hF (fun r16_2 er16_2 hF => ?_)
  refine a_ws C (ws' := wX9 kc ki t t_all t_reasons t_text t_word t_order t_rows t_written r16_2 t_reasonsF t_textF r1_1.2.1 t_orderF t_rowsF t_writtenF t_thrown t_changes t_isSaved t_result 0 r1_1.2.2 t_orderMany t_here t_fault t_faultAt t_commandMany t_writtenSize) rfl ?_
  refine a_aload_n C 2 dX9_add_19 rfl rfl ?_
  refine a_aload_n C 2 dX9_add_20 rfl rfl ?_
  refine a_iload_n C 1 dX9_add_21 rfl rfl ?_
  refine a_if_ne C (tgt := 29) dX9_add_22 (by decide) hF (fun c22_3 hF => ?_) (fun c22_3 hF => ?_)
  · refine a_iconst C (v := 0) dX9_add_29 (by decide) ?_
    refine a_sub C [2, 0] [(0, .ref t), (2, .int t_texted)] rfl ?_
    exact hJ30 t_texted r16_2 t_reasonsF r1_1.2.1 t_thrown t_changes t_result 0 r1_1.2.2 0 hF
  refine a_iconst C (v := 1) dX9_add_25 (by decide) ?_
  refine a_goto C (tgt := 30) dX9_add_26 (by decide) ?_
  refine a_sub C [2, 0] [(0, .ref t), (2, .int t_texted)] rfl ?_
  exact hJ30 t_texted r16_2 t_reasonsF r1_1.2.1 t_thrown t_changes t_result 0 r1_1.2.2 1 hF
def f_X9_goes_L5 : Nat → Int32 → (Nat → Int32) → (Int32 → (Nat → Int32) → Option ((Nat → Int32))) → Option ((Nat → Int32))
  | 0, _, _, _ => none
  | fuel + 1, x2, q_t_allF, k => (f_X9_many q_t_allF).bind fun r9_1 => if (11 * (r9_1 - 1)) ≤ x2 then (k x2 q_t_allF) else ((ldi q_t_allF 979 ((1 + x2) + 11)).bind fun v35_3 => (sti q_t_allF 979 (1 + x2) v35_3).bind fun g36_4 => f_X9_goes_L5 fuel (x2 + 1) g36_4 k)
def f_X9_goes (t_allF : Nat → Int32) (p1 : Int32) : Option ((Nat → Int32)) := f_X9_goes_L5 1000 (11 * p1) t_allF (fun x2_5_5 q_t_allF_5_6 => (ldi q_t_allF_5_6 979 0).bind fun v49_7 => (sti q_t_allF_5_6 979 0 (v49_7 - 1)).bind fun g52_8 => some g52_8)
theorem hd_X9_goes : yX9_goes.cls = RX9 ∧ yX9_goes.cls ≠ "java/lang/invoke/MethodHandle" ∧ yX9_goes.cls ≠ "java/lang/invoke/VarHandle" ∧ (parseMethodDescriptor yX9_goes.desc).map (fun d => d.parameters.length) = some 1 := by decide +kernel
set_option maxRecDepth 100000 in
set_option maxHeartbeats 4000000 in
theorem c_X9_goes (l : Launch) (D : va_G) (J : (Nat → Nat) × (Nat → Nat)) (kc ki kb kl kd : ClassId) (t : Nat) (t_all : Nat) (t_reasons : Nat) (t_text : Nat) (t_word : Nat) (t_order : Nat) (t_rows : Nat) (t_written : Nat) (t_allF : Nat → Int32) (t_reasonsF : Nat → Int32) (t_textF : Nat → Int32) (t_wordF : Nat → Int32) (t_orderF : Nat → Int32) (t_rowsF : Nat → Int32) (t_writtenF : Nat → Int32) (t_thrown : Int32) (t_changes : Int32) (t_isSaved : Int32) (t_result : Int32) (t_texted : Int32) (t_wordSize : Int32) (t_orderMany : Int32) (t_here : Int32) (t_fault : Int32) (t_faultAt : Int32) (t_commandMany : Int32) (t_writtenSize : Int32) (p1 : Int32) (res : (Nat → Int32)) (hF : f_X9_goes t_allF p1 = some res) : aKv l yX9_goes (aW yX9_goes cX9_goes 3 none) ({ frames := 1, cells := 0, slots := 0, locals := 20 } : Room) D J (aTy kc ki kb kl kd) [.ref t, .int p1] (wX9 kc ki t t_all t_reasons t_text t_word t_order t_rows t_written t_allF t_reasonsF t_textF t_wordF t_orderF t_rowsF t_writtenF t_thrown t_changes t_isSaved t_result t_texted t_wordSize t_orderMany t_here t_fault t_faultAt t_commandMany t_writtenSize) (fun r => wX9 kc ki t t_all t_reasons t_text t_word t_order t_rows t_written r t_reasonsF t_textF t_wordF t_orderF t_rowsF t_writtenF t_thrown t_changes t_isSaved t_result t_texted t_wordSize t_orderMany t_here t_fault t_faultAt t_commandMany t_writtenSize) res := by
  refine aKv_of (own := RX9) (by decide) rfl (Nat.le_of_ble_eq_true rfl) rfl ?_
  intro p e s m args below meth c C hr
  have hI5 : ∀ (fuel : Nat) (x2 : Int32) (q_t_allF : Nat → Int32) (k : Int32 → (Nat → Int32) → Option ((Nat → Int32))), f_X9_goes_L5 fuel x2 q_t_allF k = some res → (∀ (x2 : Int32) (q_t_allF : Nat → Int32), k x2 q_t_allF = some res → aT p l e ({ frames := 1, cells := 0, slots := 0, locals := 20 } : Room) s m args below meth c (MQ below (aQv D (wX9 kc ki t t_all t_reasons t_text t_word t_order t_rows t_written t_allF t_reasonsF t_textF t_wordF t_orderF t_rowsF t_writtenF t_thrown t_changes t_isSaved t_result t_texted t_wordSize t_orderMany t_here t_fault t_faultAt t_commandMany t_writtenSize) s.heap.size (fun r => wX9 kc ki t t_all t_reasons t_text t_word t_order t_rows t_written r t_reasonsF t_textF t_wordF t_orderF t_rowsF t_writtenF t_thrown t_changes t_isSaved t_result t_texted t_wordSize t_orderMany t_here t_fault t_faultAt t_commandMany t_writtenSize) res) args s 0 0 (va_A (wX9 kc ki t t_all t_reasons t_text t_word t_order t_rows t_written t_allF t_reasonsF t_textF t_wordF t_orderF t_rowsF t_writtenF t_thrown t_changes t_isSaved t_result t_texted t_wordSize t_orderMany t_here t_fault t_faultAt t_commandMany t_writtenSize) s.heap.size)) D (va_A (wX9 kc ki t t_all t_reasons t_text t_word t_order t_rows t_written t_allF t_reasonsF t_textF t_wordF t_orderF t_rowsF t_writtenF t_thrown t_changes t_isSaved t_result t_texted t_wordSize t_orderMany t_here t_fault t_faultAt t_commandMany t_writtenSize) s.heap.size) 3 0 0 43 [(0, .ref t)] [] (wX9 kc ki t t_all t_reasons t_text t_word t_order t_rows t_written q_t_allF t_reasonsF t_textF t_wordF t_orderF t_rowsF t_writtenF t_thrown t_changes t_isSaved t_result t_texted t_wordSize t_orderMany t_here t_fault t_faultAt t_commandMany t_writtenSize)) → aT p l e ({ frames := 1, cells := 0, slots := 0, locals := 20 } : Room) s m args below meth c (MQ below (aQv D (wX9 kc ki t t_all t_reasons t_text t_word t_order t_rows t_written t_allF t_reasonsF t_textF t_wordF t_orderF t_rowsF t_writtenF t_thrown t_changes t_isSaved t_result t_texted t_wordSize t_orderMany t_here t_fault t_faultAt t_commandMany t_writtenSize) s.heap.size (fun r => wX9 kc ki t t_all t_reasons t_text t_word t_order t_rows t_written r t_reasonsF t_textF t_wordF t_orderF t_rowsF t_writtenF t_thrown t_changes t_isSaved t_result t_texted t_wordSize t_orderMany t_here t_fault t_faultAt t_commandMany t_writtenSize) res) args s 0 0 (va_A (wX9 kc ki t t_all t_reasons t_text t_word t_order t_rows t_written t_allF t_reasonsF t_textF t_wordF t_orderF t_rowsF t_writtenF t_thrown t_changes t_isSaved t_result t_texted t_wordSize t_orderMany t_here t_fault t_faultAt t_commandMany t_writtenSize) s.heap.size)) D (va_A (wX9 kc ki t t_all t_reasons t_text t_word t_order t_rows t_written t_allF t_reasonsF t_textF t_wordF t_orderF t_rowsF t_writtenF t_thrown t_changes t_isSaved t_result t_texted t_wordSize t_orderMany t_here t_fault t_faultAt t_commandMany t_writtenSize) s.heap.size) 3 0 0 5 [(0, .ref t), (2, .int x2)] [] (wX9 kc ki t t_all t_reasons t_text t_word t_order t_rows t_written q_t_allF t_reasonsF t_textF t_wordF t_orderF t_rowsF t_writtenF t_thrown t_changes t_isSaved t_result t_texted t_wordSize t_orderMany t_here t_fault t_faultAt t_commandMany t_writtenSize) := by
    intro fuel
    induction fuel with
    | zero => intro x2 q_t_allF k hF hX; exact nomatch hF
    | succ fuel ih =>
      intro x2 q_t_allF k hF hX
      rw [f_X9_goes_L5] at hF
      refine a_iload_n C 1 dX9_goes_5 rfl rfl ?_
      refine a_bipush C (v := 11) dX9_goes_6 (by decide) ?_
      refine a_aload_n C 0 dX9_goes_8 rfl rfl ?_
      refine a_callVir C 0 [0, 1, 2, 3, 4, 5, 6, 7] 0 cs_X9_53 hd_X9_many ⟨rfl, rfl⟩ ⟨Nat.le_of_ble_eq_true rfl, Nat.le_of_ble_eq_true rfl⟩ (fun r h => c_X9_many l D J kc ki kb kl kd t t_all t_reasons t_text t_word t_order t_rows t_written q_t_allF t_reasonsF t_textF t_wordF t_orderF t_rowsF t_writtenF t_thrown t_changes t_isSaved t_result t_texted t_wordSize t_orderMany t_here t_fault t_faultAt t_commandMany t_writtenSize r h) rfl rfl rfl rfl rfl rfl (Nat.le_of_ble_eq_true rfl) dX9_goes_9 ⟨Nat.zero_le _, Nat.zero_le _⟩ hF (fun r9_1 er9_1 hF => ?_)
      refine a_iconst C (v := 1) dX9_goes_12 (by decide) ?_
      refine a_isub C dX9_goes_13 ?_
      refine a_imul C dX9_goes_14 ?_
      refine a_ic_ge C (tgt := 43) dX9_goes_15 (by decide) hF (fun c15_2 hF => ?_) (fun c15_2 hF => ?_)
      · refine a_sub C [0] [(0, .ref t)] rfl ?_
        exact hX x2 q_t_allF hF
      refine a_aload_n C 0 dX9_goes_18 rfl rfl ?_
      refine a_get C 0 1 iwX9 rfl rfl (by decide) kf_X9_9 rfl dX9_goes_19 ?_
      refine a_iconst C (v := 1) dX9_goes_22 (by decide) ?_
      refine a_iload_n C 1 dX9_goes_23 rfl rfl ?_
      refine a_iadd C dX9_goes_24 ?_
      refine a_aload_n C 0 dX9_goes_25 rfl rfl ?_
      refine a_get C 0 1 iwX9 rfl rfl (by decide) kf_X9_9 rfl dX9_goes_26 ?_
      refine a_iconst C (v := 1) dX9_goes_29 (by decide) ?_
      refine a_iload_n C 1 dX9_goes_30 rfl rfl ?_
      refine a_iadd C dX9_goes_31 ?_
      refine a_bipush C (v := 11) dX9_goes_32 (by decide) ?_
      refine a_iadd C dX9_goes_34 ?_
      refine a_iald C 1 1 rfl rfl dX9_goes_35 hF (fun v35_3 ev35_3 hF => ?_)
      refine a_iast C 1 1 rfl rfl dX9_goes_36 hF (fun g36_4 eg36_4 hF => ?_)
      refine a_ws C (ws' := wX9 kc ki t t_all t_reasons t_text t_word t_order t_rows t_written g36_4 t_reasonsF t_textF t_wordF t_orderF t_rowsF t_writtenF t_thrown t_changes t_isSaved t_result t_texted t_wordSize t_orderMany t_here t_fault t_faultAt t_commandMany t_writtenSize) rfl ?_
      refine a_iinc C 1 [(2, .int (x2 + 1)), (0, .ref t)] dX9_goes_37 rfl rfl (by decide) rfl ?_
      refine a_goto C (tgt := 5) dX9_goes_40 (by decide) ?_
      refine a_sub C [1, 0] [(0, .ref t), (2, .int (x2 + 1))] rfl ?_
      exact ih (x2 + 1) g36_4 k hF hX
  unfold f_X9_goes at hF
  refine a_bipush C (v := 11) dX9_goes_0 (by decide) ?_
  refine a_iload_n C 1 dX9_goes_2 rfl rfl ?_
  refine a_imul C dX9_goes_3 ?_
  refine a_istore_n C [(2, .int (11 * p1)), (0, .ref t), (1, .int p1)] dX9_goes_4 rfl (by decide) rfl ?_
  refine a_sub C [1, 0] [(0, .ref t), (2, .int (11 * p1))] rfl ?_
  refine hI5 1000 (11 * p1) t_allF _ hF (fun x2_5_5 q_t_allF_5_6 hF => ?_)
  refine a_aload_n C 0 dX9_goes_43 rfl rfl ?_
  refine a_get C 0 1 iwX9 rfl rfl (by decide) kf_X9_9 rfl dX9_goes_44 ?_
  refine a_iconst C (v := 0) dX9_goes_47 (by decide) ?_
  refine a_dup2 C dX9_goes_48 rfl rfl ?_
  refine a_iald C 1 1 rfl rfl dX9_goes_49 hF (fun v49_7 ev49_7 hF => ?_)
  refine a_iconst C (v := 1) dX9_goes_50 (by decide) ?_
  refine a_isub C dX9_goes_51 ?_
  refine a_iast C 1 1 rfl rfl dX9_goes_52 hF (fun g52_8 eg52_8 hF => ?_)
  refine a_ws C (ws' := wX9 kc ki t t_all t_reasons t_text t_word t_order t_rows t_written g52_8 t_reasonsF t_textF t_wordF t_orderF t_rowsF t_writtenF t_thrown t_changes t_isSaved t_result t_texted t_wordSize t_orderMany t_here t_fault t_faultAt t_commandMany t_writtenSize) rfl ?_
  exact a_vret C hr dX9_goes_53 hF rfl
theorem cs_X9_93 : GoodIn WW (wsV RX9 93 RX9 yX9_isNoLine (aW yX9_isNoLine cX9_isNoLine 2 ((some .boolean)))) := gdV kl_X9_93 ki_X9_isNoLine kv_X9_isNoLine kn_X9 kc_X9_isNoLine
theorem cs_X9_96 : GoodIn WW (wsV RX9 96 RX9 yX9_goes (aW yX9_goes cX9_goes 3 none)) := gdV kl_X9_96 ki_X9_goes kv_X9_goes kn_X9 kc_X9_goes
def f_X9_cuts (t_allF : Nat → Int32) (t_reasonsF : Nat → Int32) (t_result : Int32) (p1 : Int32) : Option (Int32 × (Nat → Int32) × (Nat → Int32) × Int32) := (f_X9_isNoLine t_allF t_reasonsF p1).bind fun r2_1 => if r2_1.1 = 0 then ((f_X9_goes t_allF p1).bind fun r12_3 => (f_X9_many r12_3).bind fun r17_4 => some (1, r12_3, r2_1.2, r17_4)) else (some (0, t_allF, r2_1.2, t_result))
theorem hd_X9_cuts : yX9_cuts.cls = RX9 ∧ yX9_cuts.cls ≠ "java/lang/invoke/MethodHandle" ∧ yX9_cuts.cls ≠ "java/lang/invoke/VarHandle" ∧ (parseMethodDescriptor yX9_cuts.desc).map (fun d => d.parameters.length) = some 1 := by decide +kernel
set_option maxRecDepth 100000 in
set_option maxHeartbeats 4000000 in
theorem c_X9_cuts (l : Launch) (D : va_G) (J : (Nat → Nat) × (Nat → Nat)) (kc ki kb kl kd : ClassId) (t : Nat) (t_all : Nat) (t_reasons : Nat) (t_text : Nat) (t_word : Nat) (t_order : Nat) (t_rows : Nat) (t_written : Nat) (t_allF : Nat → Int32) (t_reasonsF : Nat → Int32) (t_textF : Nat → Int32) (t_wordF : Nat → Int32) (t_orderF : Nat → Int32) (t_rowsF : Nat → Int32) (t_writtenF : Nat → Int32) (t_thrown : Int32) (t_changes : Int32) (t_isSaved : Int32) (t_result : Int32) (t_texted : Int32) (t_wordSize : Int32) (t_orderMany : Int32) (t_here : Int32) (t_fault : Int32) (t_faultAt : Int32) (t_commandMany : Int32) (t_writtenSize : Int32) (p1 : Int32) (res : Int32 × (Nat → Int32) × (Nat → Int32) × Int32) (hF : f_X9_cuts t_allF t_reasonsF t_result p1 = some res) : aKi l yX9_cuts (aW yX9_cuts cX9_cuts 2 ((some .boolean))) ({ frames := 3, cells := 0, slots := 0, locals := 64 } : Room) D J (aTy kc ki kb kl kd) [.ref t, .int p1] (wX9 kc ki t t_all t_reasons t_text t_word t_order t_rows t_written t_allF t_reasonsF t_textF t_wordF t_orderF t_rowsF t_writtenF t_thrown t_changes t_isSaved t_result t_texted t_wordSize t_orderMany t_here t_fault t_faultAt t_commandMany t_writtenSize) (fun r => r.1) (fun r => wX9 kc ki t t_all t_reasons t_text t_word t_order t_rows t_written r.2.1 r.2.2.1 t_textF t_wordF t_orderF t_rowsF t_writtenF t_thrown t_changes t_isSaved r.2.2.2 t_texted t_wordSize t_orderMany t_here t_fault t_faultAt t_commandMany t_writtenSize) res := by
  refine aKi_of (own := RX9) (by decide) rfl (Nat.le_of_ble_eq_true rfl) rfl ?_
  intro p e s m args below meth c C hr
  unfold f_X9_cuts at hF
  refine a_aload_n C 0 dX9_cuts_0 rfl rfl ?_
  refine a_iload_n C 1 dX9_cuts_1 rfl rfl ?_
  refine a_callVi C 1 [0, 1, 2, 3, 4, 5, 6, 7] 0 cs_X9_93 hd_X9_isNoLine ⟨rfl, rfl⟩ ⟨Nat.le_of_ble_eq_true rfl, Nat.le_of_ble_eq_true rfl⟩ (fun r h => c_X9_isNoLine l D J kc ki kb kl kd t t_all t_reasons t_text t_word t_order t_rows t_written t_allF t_reasonsF t_textF t_wordF t_orderF t_rowsF t_writtenF t_thrown t_changes t_isSaved t_result t_texted t_wordSize t_orderMany t_here t_fault t_faultAt t_commandMany t_writtenSize p1 r h) rfl rfl rfl (fun _ => rfl) rfl rfl rfl (Nat.le_of_ble_eq_true rfl) dX9_cuts_2 ⟨Nat.zero_le _, Nat.zero_le _⟩ hF (fun r2_1 er2_1 hF => ?_)
  refine a_ws C (ws' := wX9 kc ki t t_all t_reasons t_text t_word t_order t_rows t_written t_allF r2_1.2 t_textF t_wordF t_orderF t_rowsF t_writtenF t_thrown t_changes t_isSaved t_result t_texted t_wordSize t_orderMany t_here t_fault t_faultAt t_commandMany t_writtenSize) rfl ?_
  refine a_if_eq C (tgt := 10) dX9_cuts_5 (by decide) hF (fun c5_2 hF => ?_) (fun c5_2 hF => ?_)
  · refine a_aload_n C 0 dX9_cuts_10 rfl rfl ?_
    refine a_iload_n C 1 dX9_cuts_11 rfl rfl ?_
    refine a_callVv C 1 [0, 1, 2, 3, 4, 5, 6, 7] 0 cs_X9_96 hd_X9_goes ⟨rfl, rfl⟩ ⟨Nat.le_of_ble_eq_true rfl, Nat.le_of_ble_eq_true rfl⟩ (fun r h => c_X9_goes l D J kc ki kb kl kd t t_all t_reasons t_text t_word t_order t_rows t_written t_allF r2_1.2 t_textF t_wordF t_orderF t_rowsF t_writtenF t_thrown t_changes t_isSaved t_result t_texted t_wordSize t_orderMany t_here t_fault t_faultAt t_commandMany t_writtenSize p1 r h) rfl rfl rfl (fun _ => rfl) rfl rfl rfl (Nat.le_of_ble_eq_true rfl) dX9_cuts_12 ⟨Nat.zero_le _, Nat.zero_le _⟩ hF (fun r12_3 er12_3 hF => ?_)
    refine a_ws C (ws' := wX9 kc ki t t_all t_reasons t_text t_word t_order t_rows t_written r12_3 r2_1.2 t_textF t_wordF t_orderF t_rowsF t_writtenF t_thrown t_changes t_isSaved t_result t_texted t_wordSize t_orderMany t_here t_fault t_faultAt t_commandMany t_writtenSize) rfl ?_
    refine a_aload_n C 0 dX9_cuts_15 rfl rfl ?_
    refine a_aload_n C 0 dX9_cuts_16 rfl rfl ?_
    refine a_callVir C 0 [0, 1, 2, 3, 4, 5, 6, 7] 0 cs_X9_53 hd_X9_many ⟨rfl, rfl⟩ ⟨Nat.le_of_ble_eq_true rfl, Nat.le_of_ble_eq_true rfl⟩ (fun r h => c_X9_many l D J kc ki kb kl kd t t_all t_reasons t_text t_word t_order t_rows t_written r12_3 r2_1.2 t_textF t_wordF t_orderF t_rowsF t_writtenF t_thrown t_changes t_isSaved t_result t_texted t_wordSize t_orderMany t_here t_fault t_faultAt t_commandMany t_writtenSize r h) rfl rfl rfl rfl rfl rfl (Nat.le_of_ble_eq_true rfl) dX9_cuts_17 ⟨Nat.zero_le _, Nat.zero_le _⟩ hF (fun r17_4 er17_4 hF => ?_)
    refine a_put C 0 4 iwX9 tyX9_ok nmX9 rfl rfl (by decide) kf_X9_46 rfl rfl rfl (Nat.le_of_ble_eq_true rfl) dX9_cuts_20 ?_
    refine a_ws C (ws' := wX9 kc ki t t_all t_reasons t_text t_word t_order t_rows t_written r12_3 r2_1.2 t_textF t_wordF t_orderF t_rowsF t_writtenF t_thrown t_changes t_isSaved r17_4 t_texted t_wordSize t_orderMany t_here t_fault t_faultAt t_commandMany t_writtenSize) rfl ?_
    refine a_iconst C (v := 1) dX9_cuts_23 (by decide) ?_
    exact a_iret C hr rfl dX9_cuts_24 hF rfl rfl
  refine a_iconst C (v := 0) dX9_cuts_8 (by decide) ?_
  exact a_iret C hr rfl dX9_cuts_9 hF rfl rfl
theorem cs_X9_100 : GoodIn WW (wsV RX9 100 RX9 yX9_cuts (aW yX9_cuts cX9_cuts 2 ((some .boolean)))) := gdV kl_X9_100 ki_X9_cuts kv_X9_cuts kn_X9 kc_X9_cuts
def f_X9_cut (t_allF : Nat → Int32) (t_reasonsF : Nat → Int32) (t_changes : Int32) (t_result : Int32) (p1 : Int32) : Option (Int32 × (Nat → Int32) × (Nat → Int32) × Int32 × Int32 × Int32) := (f_X9_begins t_allF).bind fun r1_1 => (f_X9_cuts r1_1 t_reasonsF t_result p1).bind fun r7_2 => (f_X9_ends r7_2.2.1 t_changes r7_2.2.2.2 r7_2.1 1).bind fun r11_3 => some (r11_3.1, r11_3.2.1, r7_2.2.2.1, r11_3.2.2.1, r11_3.2.2.2, r7_2.2.2.2)
theorem hd_X9_cut : yX9_cut.cls = RX9 ∧ yX9_cut.cls ≠ "java/lang/invoke/MethodHandle" ∧ yX9_cut.cls ≠ "java/lang/invoke/VarHandle" ∧ (parseMethodDescriptor yX9_cut.desc).map (fun d => d.parameters.length) = some 1 := by decide +kernel
set_option maxRecDepth 100000 in
set_option maxHeartbeats 4000000 in
theorem c_X9_cut (l : Launch) (D : va_G) (J : (Nat → Nat) × (Nat → Nat)) (kc ki kb kl kd : ClassId) (t : Nat) (t_all : Nat) (t_reasons : Nat) (t_text : Nat) (t_word : Nat) (t_order : Nat) (t_rows : Nat) (t_written : Nat) (t_allF : Nat → Int32) (t_reasonsF : Nat → Int32) (t_textF : Nat → Int32) (t_wordF : Nat → Int32) (t_orderF : Nat → Int32) (t_rowsF : Nat → Int32) (t_writtenF : Nat → Int32) (t_thrown : Int32) (t_changes : Int32) (t_isSaved : Int32) (t_result : Int32) (t_texted : Int32) (t_wordSize : Int32) (t_orderMany : Int32) (t_here : Int32) (t_fault : Int32) (t_faultAt : Int32) (t_commandMany : Int32) (t_writtenSize : Int32) (p1 : Int32) (res : Int32 × (Nat → Int32) × (Nat → Int32) × Int32 × Int32 × Int32) (hF : f_X9_cut t_allF t_reasonsF t_changes t_result p1 = some res) : aKi l yX9_cut (aW yX9_cut cX9_cut 2 ((some .int))) ({ frames := 4, cells := 0, slots := 0, locals := 85 } : Room) D J (aTy kc ki kb kl kd) [.ref t, .int p1] (wX9 kc ki t t_all t_reasons t_text t_word t_order t_rows t_written t_allF t_reasonsF t_textF t_wordF t_orderF t_rowsF t_writtenF t_thrown t_changes t_isSaved t_result t_texted t_wordSize t_orderMany t_here t_fault t_faultAt t_commandMany t_writtenSize) (fun r => r.1) (fun r => wX9 kc ki t t_all t_reasons t_text t_word t_order t_rows t_written r.2.1 r.2.2.1 t_textF t_wordF t_orderF t_rowsF t_writtenF r.2.2.2.1 r.2.2.2.2.1 t_isSaved r.2.2.2.2.2 t_texted t_wordSize t_orderMany t_here t_fault t_faultAt t_commandMany t_writtenSize) res := by
  refine aKi_of (own := RX9) (by decide) rfl (Nat.le_of_ble_eq_true rfl) rfl ?_
  intro p e s m args below meth c C hr
  unfold f_X9_cut at hF
  refine a_aload_n C 0 dX9_cut_0 rfl rfl ?_
  refine a_callVv C 0 [0, 1, 2, 3, 4, 5, 6, 7] 0 cs_X9_83 hd_X9_begins ⟨rfl, rfl⟩ ⟨Nat.le_of_ble_eq_true rfl, Nat.le_of_ble_eq_true rfl⟩ (fun r h => c_X9_begins l D J kc ki kb kl kd t t_all t_reasons t_text t_word t_order t_rows t_written t_allF t_reasonsF t_textF t_wordF t_orderF t_rowsF t_writtenF t_thrown t_changes t_isSaved t_result t_texted t_wordSize t_orderMany t_here t_fault t_faultAt t_commandMany t_writtenSize r h) rfl rfl rfl (fun _ => rfl) rfl rfl rfl (Nat.le_of_ble_eq_true rfl) dX9_cut_1 ⟨Nat.zero_le _, Nat.zero_le _⟩ hF (fun r1_1 er1_1 hF => ?_)
  refine a_ws C (ws' := wX9 kc ki t t_all t_reasons t_text t_word t_order t_rows t_written r1_1 t_reasonsF t_textF t_wordF t_orderF t_rowsF t_writtenF t_thrown t_changes t_isSaved t_result t_texted t_wordSize t_orderMany t_here t_fault t_faultAt t_commandMany t_writtenSize) rfl ?_
  refine a_aload_n C 0 dX9_cut_4 rfl rfl ?_
  refine a_aload_n C 0 dX9_cut_5 rfl rfl ?_
  refine a_iload_n C 1 dX9_cut_6 rfl rfl ?_
  refine a_callVi C 1 [0, 1, 2, 3, 4, 5, 6, 7] 0 cs_X9_100 hd_X9_cuts ⟨rfl, rfl⟩ ⟨Nat.le_of_ble_eq_true rfl, Nat.le_of_ble_eq_true rfl⟩ (fun r h => c_X9_cuts l D J kc ki kb kl kd t t_all t_reasons t_text t_word t_order t_rows t_written r1_1 t_reasonsF t_textF t_wordF t_orderF t_rowsF t_writtenF t_thrown t_changes t_isSaved t_result t_texted t_wordSize t_orderMany t_here t_fault t_faultAt t_commandMany t_writtenSize p1 r h) rfl rfl rfl (fun _ => rfl) rfl rfl rfl (Nat.le_of_ble_eq_true rfl) dX9_cut_7 ⟨Nat.zero_le _, Nat.zero_le _⟩ hF (fun r7_2 er7_2 hF => ?_)
  refine a_ws C (ws' := wX9 kc ki t t_all t_reasons t_text t_word t_order t_rows t_written r7_2.2.1 r7_2.2.2.1 t_textF t_wordF t_orderF t_rowsF t_writtenF t_thrown t_changes t_isSaved r7_2.2.2.2 t_texted t_wordSize t_orderMany t_here t_fault t_faultAt t_commandMany t_writtenSize) rfl ?_
  refine a_iconst C (v := 1) dX9_cut_10 (by decide) ?_
  refine a_callVi C 2 [0, 1, 2, 3, 4, 5, 6, 7] 0 cs_X9_89 hd_X9_ends ⟨rfl, rfl⟩ ⟨Nat.le_of_ble_eq_true rfl, Nat.le_of_ble_eq_true rfl⟩ (fun r h => c_X9_ends l D J kc ki kb kl kd t t_all t_reasons t_text t_word t_order t_rows t_written r7_2.2.1 r7_2.2.2.1 t_textF t_wordF t_orderF t_rowsF t_writtenF t_thrown t_changes t_isSaved r7_2.2.2.2 t_texted t_wordSize t_orderMany t_here t_fault t_faultAt t_commandMany t_writtenSize r7_2.1 1 r h) rfl rfl rfl (fun _ => rfl) rfl rfl rfl (Nat.le_of_ble_eq_true rfl) dX9_cut_11 ⟨Nat.zero_le _, Nat.zero_le _⟩ hF (fun r11_3 er11_3 hF => ?_)
  refine a_ws C (ws' := wX9 kc ki t t_all t_reasons t_text t_word t_order t_rows t_written r11_3.2.1 r7_2.2.2.1 t_textF t_wordF t_orderF t_rowsF t_writtenF r11_3.2.2.1 r11_3.2.2.2 t_isSaved r7_2.2.2.2 t_texted t_wordSize t_orderMany t_here t_fault t_faultAt t_commandMany t_writtenSize) rfl ?_
  exact a_iret C hr rfl dX9_cut_14 hF rfl rfl
def f_X9_left (t_allF : Nat → Int32) (p1 : Int32) : Option Int32 := (f_X9_size t_allF (p1 / 10)).bind fun r5_1 => some (r5_1 - (p1 - p1 / 10 * 10))
theorem hd_X9_left : yX9_left.cls = RX9 ∧ yX9_left.cls ≠ "java/lang/invoke/MethodHandle" ∧ yX9_left.cls ≠ "java/lang/invoke/VarHandle" ∧ (parseMethodDescriptor yX9_left.desc).map (fun d => d.parameters.length) = some 1 := by decide +kernel
set_option maxRecDepth 100000 in
set_option maxHeartbeats 4000000 in
theorem c_X9_left (l : Launch) (D : va_G) (J : (Nat → Nat) × (Nat → Nat)) (kc ki kb kl kd : ClassId) (t : Nat) (t_all : Nat) (t_reasons : Nat) (t_text : Nat) (t_word : Nat) (t_order : Nat) (t_rows : Nat) (t_written : Nat) (t_allF : Nat → Int32) (t_reasonsF : Nat → Int32) (t_textF : Nat → Int32) (t_wordF : Nat → Int32) (t_orderF : Nat → Int32) (t_rowsF : Nat → Int32) (t_writtenF : Nat → Int32) (t_thrown : Int32) (t_changes : Int32) (t_isSaved : Int32) (t_result : Int32) (t_texted : Int32) (t_wordSize : Int32) (t_orderMany : Int32) (t_here : Int32) (t_fault : Int32) (t_faultAt : Int32) (t_commandMany : Int32) (t_writtenSize : Int32) (p1 : Int32) (res : Int32) (hF : f_X9_left t_allF p1 = some res) : aKi l yX9_left (aW yX9_left cX9_left 2 ((some .int))) ({ frames := 1, cells := 0, slots := 0, locals := 21 } : Room) D J (aTy kc ki kb kl kd) [.ref t, .int p1] (wX9 kc ki t t_all t_reasons t_text t_word t_order t_rows t_written t_allF t_reasonsF t_textF t_wordF t_orderF t_rowsF t_writtenF t_thrown t_changes t_isSaved t_result t_texted t_wordSize t_orderMany t_here t_fault t_faultAt t_commandMany t_writtenSize) (fun r => r) (fun _ => wX9 kc ki t t_all t_reasons t_text t_word t_order t_rows t_written t_allF t_reasonsF t_textF t_wordF t_orderF t_rowsF t_writtenF t_thrown t_changes t_isSaved t_result t_texted t_wordSize t_orderMany t_here t_fault t_faultAt t_commandMany t_writtenSize) res := by
  refine aKi_of (own := RX9) (by decide) rfl (Nat.le_of_ble_eq_true rfl) rfl ?_
  intro p e s m args below meth c C hr
  unfold f_X9_left at hF
  refine a_aload_n C 0 dX9_left_0 rfl rfl ?_
  refine a_iload_n C 1 dX9_left_1 rfl rfl ?_
  refine a_bipush C (v := 10) dX9_left_2 (by decide) ?_
  refine a_idiv C dX9_left_4 (by decide) ?_
  refine a_callVir C 1 [0, 1, 2, 3, 4, 5, 6, 7] 0 cs_X9_61 hd_X9_size ⟨rfl, rfl⟩ ⟨Nat.le_of_ble_eq_true rfl, Nat.le_of_ble_eq_true rfl⟩ (fun r h => c_X9_size l D J kc ki kb kl kd t t_all t_reasons t_text t_word t_order t_rows t_written t_allF t_reasonsF t_textF t_wordF t_orderF t_rowsF t_writtenF t_thrown t_changes t_isSaved t_result t_texted t_wordSize t_orderMany t_here t_fault t_faultAt t_commandMany t_writtenSize (p1 / 10) r h) rfl rfl rfl rfl rfl rfl (Nat.le_of_ble_eq_true rfl) dX9_left_5 ⟨Nat.zero_le _, Nat.zero_le _⟩ hF (fun r5_1 er5_1 hF => ?_)
  refine a_iload_n C 1 dX9_left_8 rfl rfl ?_
  refine a_bipush C (v := 10) dX9_left_9 (by decide) ?_
  refine a_irem C dX9_left_11 (by decide) ?_
  refine a_isub C dX9_left_12 ?_
  exact a_iret C hr rfl dX9_left_13 hF rfl rfl
