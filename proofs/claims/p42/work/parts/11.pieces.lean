theorem cs_X5_41 : GoodIn WW (wsV RX5 41 RX0 yX0_sameLetters (aW yX0_sameLetters cX0_sameLetters 7 ((some .int)))) := gdV kl_X5_41 ki_X0_sameLetters kv_X0_sameLetters kn_X0 kc_X0_sameLetters
def f_X5_mostInLine_L6 (p1 : Int32) (p2 : Int32) (p3 : Int32) (p4 : Int32) (o0_lettersF : Nat → Int32) (o0_sizesF : Nat → Int32) (o0_lines : Int32) : Nat → Int32 → Int32 → (Int32 → Int32 → Option Int32) → Option Int32
  | 0, _, _, _ => none
  | fuel + 1, x5, x6, k => if p4 ≤ x6 then (k x5 x6) else ((f_X0_sameLetters o0_lettersF o0_sizesF o0_lines p1 p2 p3 x6).bind fun r21_2 => f_X5_mostInLine_L6 p1 p2 p3 p4 o0_lettersF o0_sizesF o0_lines fuel (if x5 < r21_2 then r21_2 else x5) (x6 + 1) k)
def f_X5_mostInLine (o0_lettersF : Nat → Int32) (o0_sizesF : Nat → Int32) (o0_lines : Int32) (p1 : Int32) (p2 : Int32) (p3 : Int32) (p4 : Int32) : Option Int32 := f_X5_mostInLine_L6 p1 p2 p3 p4 o0_lettersF o0_sizesF o0_lines 1000 0 0 (fun x5_6_3 x6_6_4 => some x5_6_3)
theorem hd_X5_mostInLine : yX5_mostInLine.cls ≠ "java/lang/invoke/MethodHandle" ∧ yX5_mostInLine.cls ≠ "java/lang/invoke/VarHandle" ∧ (parseMethodDescriptor yX5_mostInLine.desc).map (fun d => d.parameters.length) = some 5 := by decide +kernel
set_option maxRecDepth 100000 in
set_option maxHeartbeats 4000000 in
theorem c_X5_mostInLine (l : Launch) (D : va_G) (J : JT) (kc ki kb kl kd : ClassId) (o0 : Nat) (o0_letters : Nat) (o0_sizes : Nat) (o0_lettersF : Nat → Int32) (o0_sizesF : Nat → Int32) (o0_lines : Int32) (p1 p2 p3 p4 : Int32) (res : Int32) (hF : f_X5_mostInLine o0_lettersF o0_sizesF o0_lines p1 p2 p3 p4 = some res) : aKi l yX5_mostInLine (aW yX5_mostInLine cX5_mostInLine 7 ((some .int))) ({ frames := 3, cells := 0, slots := 0, locals := 70 } : Room) D J (aTy kc ki kb kl kd) [.ref o0, .int p1, .int p2, .int p3, .int p4] (wX0 kc ki o0 o0_letters o0_sizes o0_lettersF o0_sizesF o0_lines) (fun r => r) (fun _ => wX0 kc ki o0 o0_letters o0_sizes o0_lettersF o0_sizesF o0_lines) res := by
  refine aKi_of (own := RX5) (by decide) rfl (Nat.le_of_ble_eq_true rfl) rfl ?_
  intro p e s m args below meth c C hr
  have hI6 : ∀ (fuel : Nat) (x5 : Int32) (x6 : Int32) (k : Int32 → Int32 → Option Int32), f_X5_mostInLine_L6 p1 p2 p3 p4 o0_lettersF o0_sizesF o0_lines fuel x5 x6 k = some res → (∀ (x5 : Int32) (x6 : Int32), k x5 x6 = some res → aT p l e ({ frames := 3, cells := 0, slots := 0, locals := 70 } : Room) s m args below meth c (MQ below (aQi D (wX0 kc ki o0 o0_letters o0_sizes o0_lettersF o0_sizesF o0_lines) s.heap.size (fun r => r) (fun _ => wX0 kc ki o0 o0_letters o0_sizes o0_lettersF o0_sizesF o0_lines) res) args s 0 0 (va_A (wX0 kc ki o0 o0_letters o0_sizes o0_lettersF o0_sizesF o0_lines) s.heap.size)) D (va_A (wX0 kc ki o0 o0_letters o0_sizes o0_lettersF o0_sizesF o0_lines) s.heap.size) 7 0 0 35 [(5, .int x5)] [] (wX0 kc ki o0 o0_letters o0_sizes o0_lettersF o0_sizesF o0_lines)) → aT p l e ({ frames := 3, cells := 0, slots := 0, locals := 70 } : Room) s m args below meth c (MQ below (aQi D (wX0 kc ki o0 o0_letters o0_sizes o0_lettersF o0_sizesF o0_lines) s.heap.size (fun r => r) (fun _ => wX0 kc ki o0 o0_letters o0_sizes o0_lettersF o0_sizesF o0_lines) res) args s 0 0 (va_A (wX0 kc ki o0 o0_letters o0_sizes o0_lettersF o0_sizesF o0_lines) s.heap.size)) D (va_A (wX0 kc ki o0 o0_letters o0_sizes o0_lettersF o0_sizesF o0_lines) s.heap.size) 7 0 0 6 [(0, .ref o0), (1, .int p1), (2, .int p2), (3, .int p3), (4, .int p4), (5, .int x5), (6, .int x6)] [] (wX0 kc ki o0 o0_letters o0_sizes o0_lettersF o0_sizesF o0_lines) := by
    intro fuel
    induction fuel with
    | zero => intro x5 x6 k hF hX; exact nomatch hF
    | succ fuel ih =>
      intro x5 x6 k hF hX
      rw [f_X5_mostInLine_L6] at hF
      refine a_iload C 6 dX5_mostInLine_6 rfl ?_
      refine a_iload C 4 dX5_mostInLine_8 rfl ?_
      refine a_ic_ge C (tgt := 35) dX5_mostInLine_10 (by decide) hF (fun c10_1 hF => ?_) (fun c10_1 hF => ?_)
      · refine a_sub C [5] [(5, .int x5)] rfl ?_
        exact hX x5 x6 hF
      refine a_iload C 5 dX5_mostInLine_13 rfl ?_
      refine a_aload_n C 0 dX5_mostInLine_15 rfl rfl ?_
      refine a_iload_n C 1 dX5_mostInLine_16 rfl rfl ?_
      refine a_iload_n C 2 dX5_mostInLine_17 rfl rfl ?_
      refine a_iload_n C 3 dX5_mostInLine_18 rfl rfl ?_
      refine a_iload C 6 dX5_mostInLine_19 rfl ?_
      refine a_callVir C 4 [0, 1, 2] 0 cs_X5_41 hd_X0_sameLetters ⟨rfl, rfl⟩ ⟨Nat.le_of_ble_eq_true rfl, Nat.le_of_ble_eq_true rfl⟩ (fun r h => c_X0_sameLetters l D J kc ki kb kl kd o0 o0_letters o0_sizes o0_lettersF o0_sizesF o0_lines p1 p2 p3 x6 r h) rfl rfl rfl rfl rfl rfl (Nat.le_of_ble_eq_true rfl) dX5_mostInLine_21 ⟨Nat.zero_le _, Nat.zero_le _⟩ hF (fun r21_2 er21_2 hF => ?_)
      refine a_mmax C kl_X5_21 ks_J9_max_7cf53 kn_J9 kc_J9_max_7cf53 ⟨Nat.le_of_ble_eq_true rfl, Nat.le_of_ble_eq_true rfl⟩ ⟨Nat.zero_le _, Nat.zero_le _⟩ dX5_mostInLine_24 ?_
      refine a_istore C [(5, .int (if x5 < r21_2 then r21_2 else x5)), (0, .ref o0), (1, .int p1), (2, .int p2), (3, .int p3), (4, .int p4), (6, .int x6)] dX5_mostInLine_27 (by decide) rfl ?_
      refine a_iinc C 6 [(6, .int (x6 + 1)), (5, .int (if x5 < r21_2 then r21_2 else x5)), (0, .ref o0), (1, .int p1), (2, .int p2), (3, .int p3), (4, .int p4)] dX5_mostInLine_29 rfl rfl (by decide) rfl ?_
      refine a_goto C (tgt := 6) dX5_mostInLine_32 (by decide) ?_
      refine a_sub C [2, 3, 4, 5, 6, 1, 0] [(0, .ref o0), (1, .int p1), (2, .int p2), (3, .int p3), (4, .int p4), (5, .int (if x5 < r21_2 then r21_2 else x5)), (6, .int (x6 + 1))] rfl ?_
      exact ih (if x5 < r21_2 then r21_2 else x5) (x6 + 1) k hF hX
  unfold f_X5_mostInLine at hF
  refine a_iconst C (v := 0) dX5_mostInLine_0 (by decide) ?_
  refine a_istore C [(5, .int 0), (0, .ref o0), (1, .int p1), (2, .int p2), (3, .int p3), (4, .int p4)] dX5_mostInLine_1 (by decide) rfl ?_
  refine a_iconst C (v := 0) dX5_mostInLine_3 (by decide) ?_
  refine a_istore C [(6, .int 0), (5, .int 0), (0, .ref o0), (1, .int p1), (2, .int p2), (3, .int p3), (4, .int p4)] dX5_mostInLine_4 (by decide) rfl ?_
  refine a_sub C [2, 3, 4, 5, 6, 1, 0] [(0, .ref o0), (1, .int p1), (2, .int p2), (3, .int p3), (4, .int p4), (5, .int 0), (6, .int 0)] rfl ?_
  refine hI6 1000 0 0 _ hF (fun x5_6_3 x6_6_4 hF => ?_)
  refine a_iload C 0 dX5_mostInLine_35 rfl ?_
  exact a_iret C hr rfl dX5_mostInLine_37 hF rfl rfl
theorem cs_X5_9 : GoodIn WW (wsV RX5 9 RX0 yX0_size (aW yX0_size cX0_size 2 ((some .int)))) := gdV kl_X5_9 ki_X0_size kv_X0_size kn_X0 kc_X0_size
theorem cs_X5_15 : GoodIn WW (va_wsS RX5 15 yX5_mostInLine (aW yX5_mostInLine cX5_mostInLine 7 ((some .int)))) := gdS kl_X5_15 ks_X5_mostInLine kn_X5 kc_X5_mostInLine
def f_X5_longestRepeat_L4 (p1 : Int32) (o0_lettersF : Nat → Int32) (o0_sizesF : Nat → Int32) (o0_lines : Int32) : Nat → Int32 → Int32 → (Int32 → Int32 → Option Int32) → Option Int32
  | 0, _, _, _ => none
  | fuel + 1, x2, x3, k => (f_X0_size o0_sizesF o0_lines p1).bind fun r7_1 => if r7_1 ≤ x3 then (k x2 x3) else ((f_X5_mostInLine o0_lettersF o0_sizesF o0_lines p1 x3 p1 x3).bind fun r19_3 => f_X5_longestRepeat_L4 p1 o0_lettersF o0_sizesF o0_lines fuel (if x2 < r19_3 then r19_3 else x2) (x3 + 1) k)
def f_X5_longestRepeat (o0_lettersF : Nat → Int32) (o0_sizesF : Nat → Int32) (o0_lines : Int32) (p1 : Int32) : Option Int32 := f_X5_longestRepeat_L4 p1 o0_lettersF o0_sizesF o0_lines 1000 0 0 (fun x2_4_4 x3_4_5 => some x2_4_4)
theorem hd_X5_longestRepeat : yX5_longestRepeat.cls ≠ "java/lang/invoke/MethodHandle" ∧ yX5_longestRepeat.cls ≠ "java/lang/invoke/VarHandle" ∧ (parseMethodDescriptor yX5_longestRepeat.desc).map (fun d => d.parameters.length) = some 2 := by decide +kernel
set_option maxRecDepth 100000 in
set_option maxHeartbeats 4000000 in
theorem c_X5_longestRepeat (l : Launch) (D : va_G) (J : JT) (kc ki kb kl kd : ClassId) (o0 : Nat) (o0_letters : Nat) (o0_sizes : Nat) (o0_lettersF : Nat → Int32) (o0_sizesF : Nat → Int32) (o0_lines : Int32) (p1 : Int32) (res : Int32) (hF : f_X5_longestRepeat o0_lettersF o0_sizesF o0_lines p1 = some res) : aKi l yX5_longestRepeat (aW yX5_longestRepeat cX5_longestRepeat 4 ((some .int))) ({ frames := 4, cells := 0, slots := 0, locals := 96 } : Room) D J (aTy kc ki kb kl kd) [.ref o0, .int p1] (wX0 kc ki o0 o0_letters o0_sizes o0_lettersF o0_sizesF o0_lines) (fun r => r) (fun _ => wX0 kc ki o0 o0_letters o0_sizes o0_lettersF o0_sizesF o0_lines) res := by
  refine aKi_of (own := RX5) (by decide) rfl (Nat.le_of_ble_eq_true rfl) rfl ?_
  intro p e s m args below meth c C hr
  have hI4 : ∀ (fuel : Nat) (x2 : Int32) (x3 : Int32) (k : Int32 → Int32 → Option Int32), f_X5_longestRepeat_L4 p1 o0_lettersF o0_sizesF o0_lines fuel x2 x3 k = some res → (∀ (x2 : Int32) (x3 : Int32), k x2 x3 = some res → aT p l e ({ frames := 4, cells := 0, slots := 0, locals := 96 } : Room) s m args below meth c (MQ below (aQi D (wX0 kc ki o0 o0_letters o0_sizes o0_lettersF o0_sizesF o0_lines) s.heap.size (fun r => r) (fun _ => wX0 kc ki o0 o0_letters o0_sizes o0_lettersF o0_sizesF o0_lines) res) args s 0 0 (va_A (wX0 kc ki o0 o0_letters o0_sizes o0_lettersF o0_sizesF o0_lines) s.heap.size)) D (va_A (wX0 kc ki o0 o0_letters o0_sizes o0_lettersF o0_sizesF o0_lines) s.heap.size) 4 0 0 32 [(2, .int x2)] [] (wX0 kc ki o0 o0_letters o0_sizes o0_lettersF o0_sizesF o0_lines)) → aT p l e ({ frames := 4, cells := 0, slots := 0, locals := 96 } : Room) s m args below meth c (MQ below (aQi D (wX0 kc ki o0 o0_letters o0_sizes o0_lettersF o0_sizesF o0_lines) s.heap.size (fun r => r) (fun _ => wX0 kc ki o0 o0_letters o0_sizes o0_lettersF o0_sizesF o0_lines) res) args s 0 0 (va_A (wX0 kc ki o0 o0_letters o0_sizes o0_lettersF o0_sizesF o0_lines) s.heap.size)) D (va_A (wX0 kc ki o0 o0_letters o0_sizes o0_lettersF o0_sizesF o0_lines) s.heap.size) 4 0 0 4 [(0, .ref o0), (1, .int p1), (2, .int x2), (3, .int x3)] [] (wX0 kc ki o0 o0_letters o0_sizes o0_lettersF o0_sizesF o0_lines) := by
    intro fuel
    induction fuel with
    | zero => intro x2 x3 k hF hX; exact nomatch hF
    | succ fuel ih =>
      intro x2 x3 k hF hX
      rw [f_X5_longestRepeat_L4] at hF
      refine a_iload_n C 3 dX5_longestRepeat_4 rfl rfl ?_
      refine a_aload_n C 0 dX5_longestRepeat_5 rfl rfl ?_
      refine a_iload_n C 1 dX5_longestRepeat_6 rfl rfl ?_
      refine a_callVir C 1 [0, 1, 2] 0 cs_X5_9 hd_X0_size ⟨rfl, rfl⟩ ⟨Nat.le_of_ble_eq_true rfl, Nat.le_of_ble_eq_true rfl⟩ (fun r h => c_X0_size l D J kc ki kb kl kd o0 o0_letters o0_sizes o0_lettersF o0_sizesF o0_lines p1 r h) rfl rfl rfl rfl rfl rfl (Nat.le_of_ble_eq_true rfl) dX5_longestRepeat_7 ⟨Nat.zero_le _, Nat.zero_le _⟩ hF (fun r7_1 er7_1 hF => ?_)
      refine a_ic_ge C (tgt := 32) dX5_longestRepeat_10 (by decide) hF (fun c10_2 hF => ?_) (fun c10_2 hF => ?_)
      · refine a_sub C [2] [(2, .int x2)] rfl ?_
        exact hX x2 x3 hF
      refine a_iload_n C 2 dX5_longestRepeat_13 rfl rfl ?_
      refine a_aload_n C 0 dX5_longestRepeat_14 rfl rfl ?_
      refine a_iload_n C 1 dX5_longestRepeat_15 rfl rfl ?_
      refine a_iload_n C 3 dX5_longestRepeat_16 rfl rfl ?_
      refine a_iload_n C 1 dX5_longestRepeat_17 rfl rfl ?_
      refine a_iload_n C 3 dX5_longestRepeat_18 rfl rfl ?_
      refine a_callSir C 5 [0, 1, 2] cs_X5_15 hd_X5_mostInLine ⟨rfl, rfl⟩ ⟨Nat.le_of_ble_eq_true rfl, Nat.le_of_ble_eq_true rfl⟩ (fun r h => c_X5_mostInLine l D J kc ki kb kl kd o0 o0_letters o0_sizes o0_lettersF o0_sizesF o0_lines p1 x3 p1 x3 r h) rfl rfl rfl rfl (Nat.le_of_ble_eq_true rfl) dX5_longestRepeat_19 ⟨Nat.zero_le _, Nat.zero_le _⟩ hF (fun r19_3 er19_3 hF => ?_)
      refine a_mmax C kl_X5_21 ks_J9_max_7cf53 kn_J9 kc_J9_max_7cf53 ⟨Nat.le_of_ble_eq_true rfl, Nat.le_of_ble_eq_true rfl⟩ ⟨Nat.zero_le _, Nat.zero_le _⟩ dX5_longestRepeat_22 ?_
      refine a_istore_n C [(2, .int (if x2 < r19_3 then r19_3 else x2)), (0, .ref o0), (1, .int p1), (3, .int x3)] dX5_longestRepeat_25 rfl (by decide) rfl ?_
      refine a_iinc C 3 [(3, .int (x3 + 1)), (2, .int (if x2 < r19_3 then r19_3 else x2)), (0, .ref o0), (1, .int p1)] dX5_longestRepeat_26 rfl rfl (by decide) rfl ?_
      refine a_goto C (tgt := 4) dX5_longestRepeat_29 (by decide) ?_
      refine a_sub C [2, 3, 1, 0] [(0, .ref o0), (1, .int p1), (2, .int (if x2 < r19_3 then r19_3 else x2)), (3, .int (x3 + 1))] rfl ?_
      exact ih (if x2 < r19_3 then r19_3 else x2) (x3 + 1) k hF hX
  unfold f_X5_longestRepeat at hF
  refine a_iconst C (v := 0) dX5_longestRepeat_0 (by decide) ?_
  refine a_istore_n C [(2, .int 0), (0, .ref o0), (1, .int p1)] dX5_longestRepeat_1 rfl (by decide) rfl ?_
  refine a_iconst C (v := 0) dX5_longestRepeat_2 (by decide) ?_
  refine a_istore_n C [(3, .int 0), (2, .int 0), (0, .ref o0), (1, .int p1)] dX5_longestRepeat_3 rfl (by decide) rfl ?_
  refine a_sub C [2, 3, 1, 0] [(0, .ref o0), (1, .int p1), (2, .int 0), (3, .int 0)] rfl ?_
  refine hI4 1000 0 0 _ hF (fun x2_4_4 x3_4_5 hF => ?_)
  refine a_iload_n C 0 dX5_longestRepeat_32 rfl rfl ?_
  exact a_iret C hr rfl dX5_longestRepeat_33 hF rfl rfl
def f_X5_longestShared_L5 (p1 : Int32) (p2 : Int32) (o0_lettersF : Nat → Int32) (o0_sizesF : Nat → Int32) (o0_lines : Int32) : Nat → Int32 → Int32 → (Int32 → Int32 → Option Int32) → Option Int32
  | 0, _, _, _ => none
  | fuel + 1, x3, x4, k => (f_X0_size o0_sizesF o0_lines p1).bind fun r9_1 => if r9_1 ≤ x4 then (k x3 x4) else ((f_X0_size o0_sizesF o0_lines p2).bind fun r23_3 => (f_X5_mostInLine o0_lettersF o0_sizesF o0_lines p1 x4 p2 r23_3).bind fun r26_4 => f_X5_longestShared_L5 p1 p2 o0_lettersF o0_sizesF o0_lines fuel (if x3 < r26_4 then r26_4 else x3) (x4 + 1) k)
def f_X5_longestShared (o0_lettersF : Nat → Int32) (o0_sizesF : Nat → Int32) (o0_lines : Int32) (p1 : Int32) (p2 : Int32) : Option Int32 := f_X5_longestShared_L5 p1 p2 o0_lettersF o0_sizesF o0_lines 1000 0 0 (fun x3_5_5 x4_5_6 => some x3_5_5)
theorem hd_X5_longestShared : yX5_longestShared.cls ≠ "java/lang/invoke/MethodHandle" ∧ yX5_longestShared.cls ≠ "java/lang/invoke/VarHandle" ∧ (parseMethodDescriptor yX5_longestShared.desc).map (fun d => d.parameters.length) = some 3 := by decide +kernel
set_option maxRecDepth 100000 in
set_option maxHeartbeats 4000000 in
theorem c_X5_longestShared (l : Launch) (D : va_G) (J : JT) (kc ki kb kl kd : ClassId) (o0 : Nat) (o0_letters : Nat) (o0_sizes : Nat) (o0_lettersF : Nat → Int32) (o0_sizesF : Nat → Int32) (o0_lines : Int32) (p1 p2 : Int32) (res : Int32) (hF : f_X5_longestShared o0_lettersF o0_sizesF o0_lines p1 p2 = some res) : aKi l yX5_longestShared (aW yX5_longestShared cX5_longestShared 5 ((some .int))) ({ frames := 4, cells := 0, slots := 0, locals := 96 } : Room) D J (aTy kc ki kb kl kd) [.ref o0, .int p1, .int p2] (wX0 kc ki o0 o0_letters o0_sizes o0_lettersF o0_sizesF o0_lines) (fun r => r) (fun _ => wX0 kc ki o0 o0_letters o0_sizes o0_lettersF o0_sizesF o0_lines) res := by
  refine aKi_of (own := RX5) (by decide) rfl (Nat.le_of_ble_eq_true rfl) rfl ?_
  intro p e s m args below meth c C hr
  have hI5 : ∀ (fuel : Nat) (x3 : Int32) (x4 : Int32) (k : Int32 → Int32 → Option Int32), f_X5_longestShared_L5 p1 p2 o0_lettersF o0_sizesF o0_lines fuel x3 x4 k = some res → (∀ (x3 : Int32) (x4 : Int32), k x3 x4 = some res → aT p l e ({ frames := 4, cells := 0, slots := 0, locals := 96 } : Room) s m args below meth c (MQ below (aQi D (wX0 kc ki o0 o0_letters o0_sizes o0_lettersF o0_sizesF o0_lines) s.heap.size (fun r => r) (fun _ => wX0 kc ki o0 o0_letters o0_sizes o0_lettersF o0_sizesF o0_lines) res) args s 0 0 (va_A (wX0 kc ki o0 o0_letters o0_sizes o0_lettersF o0_sizesF o0_lines) s.heap.size)) D (va_A (wX0 kc ki o0 o0_letters o0_sizes o0_lettersF o0_sizesF o0_lines) s.heap.size) 5 0 0 39 [(3, .int x3)] [] (wX0 kc ki o0 o0_letters o0_sizes o0_lettersF o0_sizesF o0_lines)) → aT p l e ({ frames := 4, cells := 0, slots := 0, locals := 96 } : Room) s m args below meth c (MQ below (aQi D (wX0 kc ki o0 o0_letters o0_sizes o0_lettersF o0_sizesF o0_lines) s.heap.size (fun r => r) (fun _ => wX0 kc ki o0 o0_letters o0_sizes o0_lettersF o0_sizesF o0_lines) res) args s 0 0 (va_A (wX0 kc ki o0 o0_letters o0_sizes o0_lettersF o0_sizesF o0_lines) s.heap.size)) D (va_A (wX0 kc ki o0 o0_letters o0_sizes o0_lettersF o0_sizesF o0_lines) s.heap.size) 5 0 0 5 [(0, .ref o0), (1, .int p1), (2, .int p2), (3, .int x3), (4, .int x4)] [] (wX0 kc ki o0 o0_letters o0_sizes o0_lettersF o0_sizesF o0_lines) := by
    intro fuel
    induction fuel with
    | zero => intro x3 x4 k hF hX; exact nomatch hF
    | succ fuel ih =>
      intro x3 x4 k hF hX
      rw [f_X5_longestShared_L5] at hF
      refine a_iload C 4 dX5_longestShared_5 rfl ?_
      refine a_aload_n C 0 dX5_longestShared_7 rfl rfl ?_
      refine a_iload_n C 1 dX5_longestShared_8 rfl rfl ?_
      refine a_callVir C 1 [0, 1, 2] 0 cs_X5_9 hd_X0_size ⟨rfl, rfl⟩ ⟨Nat.le_of_ble_eq_true rfl, Nat.le_of_ble_eq_true rfl⟩ (fun r h => c_X0_size l D J kc ki kb kl kd o0 o0_letters o0_sizes o0_lettersF o0_sizesF o0_lines p1 r h) rfl rfl rfl rfl rfl rfl (Nat.le_of_ble_eq_true rfl) dX5_longestShared_9 ⟨Nat.zero_le _, Nat.zero_le _⟩ hF (fun r9_1 er9_1 hF => ?_)
      refine a_ic_ge C (tgt := 39) dX5_longestShared_12 (by decide) hF (fun c12_2 hF => ?_) (fun c12_2 hF => ?_)
      · refine a_sub C [3] [(3, .int x3)] rfl ?_
        exact hX x3 x4 hF
      refine a_iload_n C 3 dX5_longestShared_15 rfl rfl ?_
      refine a_aload_n C 0 dX5_longestShared_16 rfl rfl ?_
      refine a_iload_n C 1 dX5_longestShared_17 rfl rfl ?_
      refine a_iload C 4 dX5_longestShared_18 rfl ?_
      refine a_iload_n C 2 dX5_longestShared_20 rfl rfl ?_
      refine a_aload_n C 0 dX5_longestShared_21 rfl rfl ?_
      refine a_iload_n C 2 dX5_longestShared_22 rfl rfl ?_
      refine a_callVir C 1 [0, 1, 2] 0 cs_X5_9 hd_X0_size ⟨rfl, rfl⟩ ⟨Nat.le_of_ble_eq_true rfl, Nat.le_of_ble_eq_true rfl⟩ (fun r h => c_X0_size l D J kc ki kb kl kd o0 o0_letters o0_sizes o0_lettersF o0_sizesF o0_lines p2 r h) rfl rfl rfl rfl rfl rfl (Nat.le_of_ble_eq_true rfl) dX5_longestShared_23 ⟨Nat.zero_le _, Nat.zero_le _⟩ hF (fun r23_3 er23_3 hF => ?_)
      refine a_callSir C 5 [0, 1, 2] cs_X5_15 hd_X5_mostInLine ⟨rfl, rfl⟩ ⟨Nat.le_of_ble_eq_true rfl, Nat.le_of_ble_eq_true rfl⟩ (fun r h => c_X5_mostInLine l D J kc ki kb kl kd o0 o0_letters o0_sizes o0_lettersF o0_sizesF o0_lines p1 x4 p2 r23_3 r h) rfl rfl rfl rfl (Nat.le_of_ble_eq_true rfl) dX5_longestShared_26 ⟨Nat.zero_le _, Nat.zero_le _⟩ hF (fun r26_4 er26_4 hF => ?_)
      refine a_mmax C kl_X5_21 ks_J9_max_7cf53 kn_J9 kc_J9_max_7cf53 ⟨Nat.le_of_ble_eq_true rfl, Nat.le_of_ble_eq_true rfl⟩ ⟨Nat.zero_le _, Nat.zero_le _⟩ dX5_longestShared_29 ?_
      refine a_istore_n C [(3, .int (if x3 < r26_4 then r26_4 else x3)), (0, .ref o0), (1, .int p1), (2, .int p2), (4, .int x4)] dX5_longestShared_32 rfl (by decide) rfl ?_
      refine a_iinc C 4 [(4, .int (x4 + 1)), (3, .int (if x3 < r26_4 then r26_4 else x3)), (0, .ref o0), (1, .int p1), (2, .int p2)] dX5_longestShared_33 rfl rfl (by decide) rfl ?_
      refine a_goto C (tgt := 5) dX5_longestShared_36 (by decide) ?_
      refine a_sub C [2, 3, 4, 1, 0] [(0, .ref o0), (1, .int p1), (2, .int p2), (3, .int (if x3 < r26_4 then r26_4 else x3)), (4, .int (x4 + 1))] rfl ?_
      exact ih (if x3 < r26_4 then r26_4 else x3) (x4 + 1) k hF hX
  unfold f_X5_longestShared at hF
  refine a_iconst C (v := 0) dX5_longestShared_0 (by decide) ?_
  refine a_istore_n C [(3, .int 0), (0, .ref o0), (1, .int p1), (2, .int p2)] dX5_longestShared_1 rfl (by decide) rfl ?_
  refine a_iconst C (v := 0) dX5_longestShared_2 (by decide) ?_
  refine a_istore C [(4, .int 0), (3, .int 0), (0, .ref o0), (1, .int p1), (2, .int p2)] dX5_longestShared_3 (by decide) rfl ?_
  refine a_sub C [2, 3, 4, 1, 0] [(0, .ref o0), (1, .int p1), (2, .int p2), (3, .int 0), (4, .int 0)] rfl ?_
  refine hI5 1000 0 0 _ hF (fun x3_5_5 x4_5_6 hF => ?_)
  refine a_iload_n C 0 dX5_longestShared_39 rfl rfl ?_
  exact a_iret C hr rfl dX5_longestShared_40 hF rfl rfl
theorem cs_X5_34 : GoodIn WW (wsV RX5 34 RX0 yX0_lines (aW yX0_lines cX0_lines 1 ((some .int)))) := gdV kl_X5_34 ki_X0_lines kv_X0_lines kn_X0 kc_X0_lines
def f_X5_shortestAloneAt_L5 (p1 : Int32) (p2 : Int32) (o0_lettersF : Nat → Int32) (o0_sizesF : Nat → Int32) (o0_lines : Int32) : Nat → Int32 → Int32 → (Int32 → Int32 → Option Int32) → Option Int32
  | 0, _, _, _ => none
  | fuel + 1, x3, x4, k => (f_X0_lines o0_lines).bind fun r8_1 => if r8_1 ≤ x4 then (k x3 x4) else (if x4 = p1 then (f_X5_shortestAloneAt_L5 p1 p2 o0_lettersF o0_sizesF o0_lines fuel x3 (x4 + 1) k) else ((f_X0_size o0_sizesF o0_lines x4).bind fun r29_4 => (f_X5_mostInLine o0_lettersF o0_sizesF o0_lines p1 p2 x4 r29_4).bind fun r32_5 => f_X5_shortestAloneAt_L5 p1 p2 o0_lettersF o0_sizesF o0_lines fuel (if x3 < r32_5 then r32_5 else x3) (x4 + 1) k))
def f_X5_shortestAloneAt (o0_lettersF : Nat → Int32) (o0_sizesF : Nat → Int32) (o0_lines : Int32) (p1 : Int32) (p2 : Int32) : Option Int32 := f_X5_shortestAloneAt_L5 p1 p2 o0_lettersF o0_sizesF o0_lines 1000 0 0 (fun x3_5_6 x4_5_7 => (f_X0_size o0_sizesF o0_lines p1).bind fun r48_8 => if (r48_8 - p2) ≤ x3_5_6 then (some 11) else (some (x3_5_6 + 1)))
theorem hd_X5_shortestAloneAt : yX5_shortestAloneAt.cls ≠ "java/lang/invoke/MethodHandle" ∧ yX5_shortestAloneAt.cls ≠ "java/lang/invoke/VarHandle" ∧ (parseMethodDescriptor yX5_shortestAloneAt.desc).map (fun d => d.parameters.length) = some 3 := by decide +kernel
set_option maxRecDepth 100000 in
set_option maxHeartbeats 4000000 in
theorem c_X5_shortestAloneAt (l : Launch) (D : va_G) (J : JT) (kc ki kb kl kd : ClassId) (o0 : Nat) (o0_letters : Nat) (o0_sizes : Nat) (o0_lettersF : Nat → Int32) (o0_sizesF : Nat → Int32) (o0_lines : Int32) (p1 p2 : Int32) (res : Int32) (hF : f_X5_shortestAloneAt o0_lettersF o0_sizesF o0_lines p1 p2 = some res) : aKi l yX5_shortestAloneAt (aW yX5_shortestAloneAt cX5_shortestAloneAt 5 ((some .int))) ({ frames := 4, cells := 0, slots := 0, locals := 96 } : Room) D J (aTy kc ki kb kl kd) [.ref o0, .int p1, .int p2] (wX0 kc ki o0 o0_letters o0_sizes o0_lettersF o0_sizesF o0_lines) (fun r => r) (fun _ => wX0 kc ki o0 o0_letters o0_sizes o0_lettersF o0_sizesF o0_lines) res := by
  refine aKi_of (own := RX5) (by decide) rfl (Nat.le_of_ble_eq_true rfl) rfl ?_
  intro p e s m args below meth c C hr
  have hI5 : ∀ (fuel : Nat) (x3 : Int32) (x4 : Int32) (k : Int32 → Int32 → Option Int32), f_X5_shortestAloneAt_L5 p1 p2 o0_lettersF o0_sizesF o0_lines fuel x3 x4 k = some res → (∀ (x3 : Int32) (x4 : Int32), k x3 x4 = some res → aT p l e ({ frames := 4, cells := 0, slots := 0, locals := 96 } : Room) s m args below meth c (MQ below (aQi D (wX0 kc ki o0 o0_letters o0_sizes o0_lettersF o0_sizesF o0_lines) s.heap.size (fun r => r) (fun _ => wX0 kc ki o0 o0_letters o0_sizes o0_lettersF o0_sizesF o0_lines) res) args s 0 0 (va_A (wX0 kc ki o0 o0_letters o0_sizes o0_lettersF o0_sizesF o0_lines) s.heap.size)) D (va_A (wX0 kc ki o0 o0_letters o0_sizes o0_lettersF o0_sizesF o0_lines) s.heap.size) 5 0 0 45 [(0, .ref o0), (1, .int p1), (2, .int p2), (3, .int x3)] [] (wX0 kc ki o0 o0_letters o0_sizes o0_lettersF o0_sizesF o0_lines)) → aT p l e ({ frames := 4, cells := 0, slots := 0, locals := 96 } : Room) s m args below meth c (MQ below (aQi D (wX0 kc ki o0 o0_letters o0_sizes o0_lettersF o0_sizesF o0_lines) s.heap.size (fun r => r) (fun _ => wX0 kc ki o0 o0_letters o0_sizes o0_lettersF o0_sizesF o0_lines) res) args s 0 0 (va_A (wX0 kc ki o0 o0_letters o0_sizes o0_lettersF o0_sizesF o0_lines) s.heap.size)) D (va_A (wX0 kc ki o0 o0_letters o0_sizes o0_lettersF o0_sizesF o0_lines) s.heap.size) 5 0 0 5 [(0, .ref o0), (1, .int p1), (2, .int p2), (3, .int x3), (4, .int x4)] [] (wX0 kc ki o0 o0_letters o0_sizes o0_lettersF o0_sizesF o0_lines) := by
    intro fuel
    induction fuel with
    | zero => intro x3 x4 k hF hX; exact nomatch hF
    | succ fuel ih =>
      intro x3 x4 k hF hX
      rw [f_X5_shortestAloneAt_L5] at hF
      refine a_iload C 4 dX5_shortestAloneAt_5 rfl ?_
      refine a_aload_n C 0 dX5_shortestAloneAt_7 rfl rfl ?_
      refine a_callVir C 0 [0, 1, 2] 0 cs_X5_34 hd_X0_lines ⟨rfl, rfl⟩ ⟨Nat.le_of_ble_eq_true rfl, Nat.le_of_ble_eq_true rfl⟩ (fun r h => c_X0_lines l D J kc ki kb kl kd o0 o0_letters o0_sizes o0_lettersF o0_sizesF o0_lines r h) rfl rfl rfl rfl rfl rfl (Nat.le_of_ble_eq_true rfl) dX5_shortestAloneAt_8 ⟨Nat.zero_le _, Nat.zero_le _⟩ hF (fun r8_1 er8_1 hF => ?_)
      refine a_ic_ge C (tgt := 45) dX5_shortestAloneAt_11 (by decide) hF (fun c11_2 hF => ?_) (fun c11_2 hF => ?_)
      · refine a_sub C [0, 1, 2, 3] [(0, .ref o0), (1, .int p1), (2, .int p2), (3, .int x3)] rfl ?_
        exact hX x3 x4 hF
      refine a_iload C 4 dX5_shortestAloneAt_14 rfl ?_
      refine a_iload_n C 1 dX5_shortestAloneAt_16 rfl rfl ?_
      refine a_ic_eq C (tgt := 39) dX5_shortestAloneAt_17 (by decide) hF (fun c17_3 hF => ?_) (fun c17_3 hF => ?_)
      · refine a_iinc C 4 [(4, .int (x4 + 1)), (0, .ref o0), (1, .int p1), (2, .int p2), (3, .int x3)] dX5_shortestAloneAt_39 rfl rfl (by decide) rfl ?_
        refine a_goto C (tgt := 5) dX5_shortestAloneAt_42 (by decide) ?_
        refine a_sub C [1, 2, 3, 4, 0] [(0, .ref o0), (1, .int p1), (2, .int p2), (3, .int x3), (4, .int (x4 + 1))] rfl ?_
        exact ih x3 (x4 + 1) k hF hX
      refine a_iload_n C 3 dX5_shortestAloneAt_20 rfl rfl ?_
      refine a_aload_n C 0 dX5_shortestAloneAt_21 rfl rfl ?_
      refine a_iload_n C 1 dX5_shortestAloneAt_22 rfl rfl ?_
      refine a_iload_n C 2 dX5_shortestAloneAt_23 rfl rfl ?_
      refine a_iload C 4 dX5_shortestAloneAt_24 rfl ?_
      refine a_aload_n C 0 dX5_shortestAloneAt_26 rfl rfl ?_
      refine a_iload C 4 dX5_shortestAloneAt_27 rfl ?_
      refine a_callVir C 1 [0, 1, 2] 0 cs_X5_9 hd_X0_size ⟨rfl, rfl⟩ ⟨Nat.le_of_ble_eq_true rfl, Nat.le_of_ble_eq_true rfl⟩ (fun r h => c_X0_size l D J kc ki kb kl kd o0 o0_letters o0_sizes o0_lettersF o0_sizesF o0_lines x4 r h) rfl rfl rfl rfl rfl rfl (Nat.le_of_ble_eq_true rfl) dX5_shortestAloneAt_29 ⟨Nat.zero_le _, Nat.zero_le _⟩ hF (fun r29_4 er29_4 hF => ?_)
      refine a_callSir C 5 [0, 1, 2] cs_X5_15 hd_X5_mostInLine ⟨rfl, rfl⟩ ⟨Nat.le_of_ble_eq_true rfl, Nat.le_of_ble_eq_true rfl⟩ (fun r h => c_X5_mostInLine l D J kc ki kb kl kd o0 o0_letters o0_sizes o0_lettersF o0_sizesF o0_lines p1 p2 x4 r29_4 r h) rfl rfl rfl rfl (Nat.le_of_ble_eq_true rfl) dX5_shortestAloneAt_32 ⟨Nat.zero_le _, Nat.zero_le _⟩ hF (fun r32_5 er32_5 hF => ?_)
      refine a_mmax C kl_X5_21 ks_J9_max_7cf53 kn_J9 kc_J9_max_7cf53 ⟨Nat.le_of_ble_eq_true rfl, Nat.le_of_ble_eq_true rfl⟩ ⟨Nat.zero_le _, Nat.zero_le _⟩ dX5_shortestAloneAt_35 ?_
      refine a_istore_n C [(3, .int (if x3 < r32_5 then r32_5 else x3)), (0, .ref o0), (1, .int p1), (2, .int p2), (4, .int x4)] dX5_shortestAloneAt_38 rfl (by decide) rfl ?_
      refine a_iinc C 4 [(4, .int (x4 + 1)), (3, .int (if x3 < r32_5 then r32_5 else x3)), (0, .ref o0), (1, .int p1), (2, .int p2)] dX5_shortestAloneAt_39 rfl rfl (by decide) rfl ?_
      refine a_goto C (tgt := 5) dX5_shortestAloneAt_42 (by decide) ?_
      refine a_sub C [2, 3, 4, 1, 0] [(0, .ref o0), (1, .int p1), (2, .int p2), (3, .int (if x3 < r32_5 then r32_5 else x3)), (4, .int (x4 + 1))] rfl ?_
      exact ih (if x3 < r32_5 then r32_5 else x3) (x4 + 1) k hF hX
  unfold f_X5_shortestAloneAt at hF
  refine a_iconst C (v := 0) dX5_shortestAloneAt_0 (by decide) ?_
  refine a_istore_n C [(3, .int 0), (0, .ref o0), (1, .int p1), (2, .int p2)] dX5_shortestAloneAt_1 rfl (by decide) rfl ?_
  refine a_iconst C (v := 0) dX5_shortestAloneAt_2 (by decide) ?_
  refine a_istore C [(4, .int 0), (3, .int 0), (0, .ref o0), (1, .int p1), (2, .int p2)] dX5_shortestAloneAt_3 (by decide) rfl ?_
  refine a_sub C [2, 3, 4, 1, 0] [(0, .ref o0), (1, .int p1), (2, .int p2), (3, .int 0), (4, .int 0)] rfl ?_
  refine hI5 1000 0 0 _ hF (fun x3_5_6 x4_5_7 hF => ?_)
  refine a_iload_n C 3 dX5_shortestAloneAt_45 rfl rfl ?_
  refine a_aload_n C 0 dX5_shortestAloneAt_46 rfl rfl ?_
  refine a_iload_n C 1 dX5_shortestAloneAt_47 rfl rfl ?_
  refine a_callVir C 1 [0, 1, 2] 0 cs_X5_9 hd_X0_size ⟨rfl, rfl⟩ ⟨Nat.le_of_ble_eq_true rfl, Nat.le_of_ble_eq_true rfl⟩ (fun r h => c_X0_size l D J kc ki kb kl kd o0 o0_letters o0_sizes o0_lettersF o0_sizesF o0_lines p1 r h) rfl rfl rfl rfl rfl rfl (Nat.le_of_ble_eq_true rfl) dX5_shortestAloneAt_48 ⟨Nat.zero_le _, Nat.zero_le _⟩ hF (fun r48_8 er48_8 hF => ?_)
  refine a_iload_n C 2 dX5_shortestAloneAt_51 rfl rfl ?_
  refine a_isub C dX5_shortestAloneAt_52 ?_
  refine a_ic_ge C (tgt := 62) dX5_shortestAloneAt_53 (by decide) hF (fun c53_9 hF => ?_) (fun c53_9 hF => ?_)
  · refine a_bipush C (v := 11) dX5_shortestAloneAt_62 (by decide) ?_
    exact a_iret C hr rfl dX5_shortestAloneAt_64 hF rfl rfl
  refine a_iload_n C 3 dX5_shortestAloneAt_56 rfl rfl ?_
  refine a_iconst C (v := 1) dX5_shortestAloneAt_57 (by decide) ?_
  refine a_iadd C dX5_shortestAloneAt_58 ?_
  refine a_goto C (tgt := 64) dX5_shortestAloneAt_59 (by decide) ?_
  exact a_iret C hr rfl dX5_shortestAloneAt_64 hF rfl rfl
theorem cs_X5_27 : GoodIn WW (va_wsS RX5 27 yX5_shortestAloneAt (aW yX5_shortestAloneAt cX5_shortestAloneAt 5 ((some .int)))) := gdS kl_X5_27 ks_X5_shortestAloneAt kn_X5 kc_X5_shortestAloneAt
def f_X5_shortestAlone_L5 (p1 : Int32) (o0_lettersF : Nat → Int32) (o0_sizesF : Nat → Int32) (o0_lines : Int32) : Nat → Int32 → Int32 → (Int32 → Int32 → Option Int32) → Option Int32
  | 0, _, _, _ => none
  | fuel + 1, x2, x3, k => (f_X0_size o0_sizesF o0_lines p1).bind fun r8_1 => if r8_1 ≤ x3 then (k x2 x3) else ((f_X5_shortestAloneAt o0_lettersF o0_sizesF o0_lines p1 x3).bind fun r18_3 => f_X5_shortestAlone_L5 p1 o0_lettersF o0_sizesF o0_lines fuel (if r18_3 < x2 then r18_3 else x2) (x3 + 1) k)
def f_X5_shortestAlone (o0_lettersF : Nat → Int32) (o0_sizesF : Nat → Int32) (o0_lines : Int32) (p1 : Int32) : Option Int32 := f_X5_shortestAlone_L5 p1 o0_lettersF o0_sizesF o0_lines 1000 11 0 (fun x2_5_4 x3_5_5 => some x2_5_4)
theorem hd_X5_shortestAlone : yX5_shortestAlone.cls ≠ "java/lang/invoke/MethodHandle" ∧ yX5_shortestAlone.cls ≠ "java/lang/invoke/VarHandle" ∧ (parseMethodDescriptor yX5_shortestAlone.desc).map (fun d => d.parameters.length) = some 2 := by decide +kernel
set_option maxRecDepth 100000 in
set_option maxHeartbeats 4000000 in
theorem c_X5_shortestAlone (l : Launch) (D : va_G) (J : JT) (kc ki kb kl kd : ClassId) (o0 : Nat) (o0_letters : Nat) (o0_sizes : Nat) (o0_lettersF : Nat → Int32) (o0_sizesF : Nat → Int32) (o0_lines : Int32) (p1 : Int32) (res : Int32) (hF : f_X5_shortestAlone o0_lettersF o0_sizesF o0_lines p1 = some res) : aKi l yX5_shortestAlone (aW yX5_shortestAlone cX5_shortestAlone 4 ((some .int))) ({ frames := 5, cells := 0, slots := 0, locals := 120 } : Room) D J (aTy kc ki kb kl kd) [.ref o0, .int p1] (wX0 kc ki o0 o0_letters o0_sizes o0_lettersF o0_sizesF o0_lines) (fun r => r) (fun _ => wX0 kc ki o0 o0_letters o0_sizes o0_lettersF o0_sizesF o0_lines) res := by
  refine aKi_of (own := RX5) (by decide) rfl (Nat.le_of_ble_eq_true rfl) rfl ?_
  intro p e s m args below meth c C hr
  have hI5 : ∀ (fuel : Nat) (x2 : Int32) (x3 : Int32) (k : Int32 → Int32 → Option Int32), f_X5_shortestAlone_L5 p1 o0_lettersF o0_sizesF o0_lines fuel x2 x3 k = some res → (∀ (x2 : Int32) (x3 : Int32), k x2 x3 = some res → aT p l e ({ frames := 5, cells := 0, slots := 0, locals := 120 } : Room) s m args below meth c (MQ below (aQi D (wX0 kc ki o0 o0_letters o0_sizes o0_lettersF o0_sizesF o0_lines) s.heap.size (fun r => r) (fun _ => wX0 kc ki o0 o0_letters o0_sizes o0_lettersF o0_sizesF o0_lines) res) args s 0 0 (va_A (wX0 kc ki o0 o0_letters o0_sizes o0_lettersF o0_sizesF o0_lines) s.heap.size)) D (va_A (wX0 kc ki o0 o0_letters o0_sizes o0_lettersF o0_sizesF o0_lines) s.heap.size) 4 0 0 31 [(2, .int x2)] [] (wX0 kc ki o0 o0_letters o0_sizes o0_lettersF o0_sizesF o0_lines)) → aT p l e ({ frames := 5, cells := 0, slots := 0, locals := 120 } : Room) s m args below meth c (MQ below (aQi D (wX0 kc ki o0 o0_letters o0_sizes o0_lettersF o0_sizesF o0_lines) s.heap.size (fun r => r) (fun _ => wX0 kc ki o0 o0_letters o0_sizes o0_lettersF o0_sizesF o0_lines) res) args s 0 0 (va_A (wX0 kc ki o0 o0_letters o0_sizes o0_lettersF o0_sizesF o0_lines) s.heap.size)) D (va_A (wX0 kc ki o0 o0_letters o0_sizes o0_lettersF o0_sizesF o0_lines) s.heap.size) 4 0 0 5 [(0, .ref o0), (1, .int p1), (2, .int x2), (3, .int x3)] [] (wX0 kc ki o0 o0_letters o0_sizes o0_lettersF o0_sizesF o0_lines) := by
    intro fuel
    induction fuel with
    | zero => intro x2 x3 k hF hX; exact nomatch hF
    | succ fuel ih =>
      intro x2 x3 k hF hX
      rw [f_X5_shortestAlone_L5] at hF
      refine a_iload_n C 3 dX5_shortestAlone_5 rfl rfl ?_
      refine a_aload_n C 0 dX5_shortestAlone_6 rfl rfl ?_
      refine a_iload_n C 1 dX5_shortestAlone_7 rfl rfl ?_
      refine a_callVir C 1 [0, 1, 2] 0 cs_X5_9 hd_X0_size ⟨rfl, rfl⟩ ⟨Nat.le_of_ble_eq_true rfl, Nat.le_of_ble_eq_true rfl⟩ (fun r h => c_X0_size l D J kc ki kb kl kd o0 o0_letters o0_sizes o0_lettersF o0_sizesF o0_lines p1 r h) rfl rfl rfl rfl rfl rfl (Nat.le_of_ble_eq_true rfl) dX5_shortestAlone_8 ⟨Nat.zero_le _, Nat.zero_le _⟩ hF (fun r8_1 er8_1 hF => ?_)
      refine a_ic_ge C (tgt := 31) dX5_shortestAlone_11 (by decide) hF (fun c11_2 hF => ?_) (fun c11_2 hF => ?_)
      · refine a_sub C [2] [(2, .int x2)] rfl ?_
        exact hX x2 x3 hF
      refine a_iload_n C 2 dX5_shortestAlone_14 rfl rfl ?_
      refine a_aload_n C 0 dX5_shortestAlone_15 rfl rfl ?_
      refine a_iload_n C 1 dX5_shortestAlone_16 rfl rfl ?_
      refine a_iload_n C 3 dX5_shortestAlone_17 rfl rfl ?_
      refine a_callSir C 3 [0, 1, 2] cs_X5_27 hd_X5_shortestAloneAt ⟨rfl, rfl⟩ ⟨Nat.le_of_ble_eq_true rfl, Nat.le_of_ble_eq_true rfl⟩ (fun r h => c_X5_shortestAloneAt l D J kc ki kb kl kd o0 o0_letters o0_sizes o0_lettersF o0_sizesF o0_lines p1 x3 r h) rfl rfl rfl rfl (Nat.le_of_ble_eq_true rfl) dX5_shortestAlone_18 ⟨Nat.zero_le _, Nat.zero_le _⟩ hF (fun r18_3 er18_3 hF => ?_)
      refine a_mmin C kl_X5_31 ks_J9_min_7cf53 kn_J9 kc_J9_min_7cf53 ⟨Nat.le_of_ble_eq_true rfl, Nat.le_of_ble_eq_true rfl⟩ ⟨Nat.zero_le _, Nat.zero_le _⟩ dX5_shortestAlone_21 ?_
      refine a_istore_n C [(2, .int (if r18_3 < x2 then r18_3 else x2)), (0, .ref o0), (1, .int p1), (3, .int x3)] dX5_shortestAlone_24 rfl (by decide) rfl ?_
      refine a_iinc C 3 [(3, .int (x3 + 1)), (2, .int (if r18_3 < x2 then r18_3 else x2)), (0, .ref o0), (1, .int p1)] dX5_shortestAlone_25 rfl rfl (by decide) rfl ?_
      refine a_goto C (tgt := 5) dX5_shortestAlone_28 (by decide) ?_
      refine a_sub C [2, 3, 1, 0] [(0, .ref o0), (1, .int p1), (2, .int (if r18_3 < x2 then r18_3 else x2)), (3, .int (x3 + 1))] rfl ?_
      exact ih (if r18_3 < x2 then r18_3 else x2) (x3 + 1) k hF hX
  unfold f_X5_shortestAlone at hF
  refine a_bipush C (v := 11) dX5_shortestAlone_0 (by decide) ?_
  refine a_istore_n C [(2, .int 11), (0, .ref o0), (1, .int p1)] dX5_shortestAlone_2 rfl (by decide) rfl ?_
  refine a_iconst C (v := 0) dX5_shortestAlone_3 (by decide) ?_
  refine a_istore_n C [(3, .int 0), (2, .int 11), (0, .ref o0), (1, .int p1)] dX5_shortestAlone_4 rfl (by decide) rfl ?_
  refine a_sub C [2, 3, 1, 0] [(0, .ref o0), (1, .int p1), (2, .int 11), (3, .int 0)] rfl ?_
  refine hI5 1000 11 0 _ hF (fun x2_5_4 x3_5_5 hF => ?_)
  refine a_iload_n C 0 dX5_shortestAlone_31 rfl rfl ?_
  exact a_iret C hr rfl dX5_shortestAlone_32 hF rfl rfl
def f_X5_firstAlonePlace_L2 (p1 : Int32) (p2 : Int32) (o0_lettersF : Nat → Int32) (o0_sizesF : Nat → Int32) (o0_lines : Int32) : Nat → Int32 → (Int32 → Option Int32) → Option Int32
  | 0, _, _ => none
  | fuel + 1, x3, k => (f_X0_size o0_sizesF o0_lines p1).bind fun r5_1 => if r5_1 ≤ x3 then (k x3) else ((f_X5_shortestAloneAt o0_lettersF o0_sizesF o0_lines p1 x3).bind fun r14_3 => if r14_3 = p2 then (k x3) else (f_X5_firstAlonePlace_L2 p1 p2 o0_lettersF o0_sizesF o0_lines fuel (x3 + 1) k))
def f_X5_firstAlonePlace (o0_lettersF : Nat → Int32) (o0_sizesF : Nat → Int32) (o0_lines : Int32) (p1 : Int32) (p2 : Int32) : Option Int32 := f_X5_firstAlonePlace_L2 p1 p2 o0_lettersF o0_sizesF o0_lines 1000 0 (fun x3_2_5 => some x3_2_5)
theorem hd_X5_firstAlonePlace : yX5_firstAlonePlace.cls ≠ "java/lang/invoke/MethodHandle" ∧ yX5_firstAlonePlace.cls ≠ "java/lang/invoke/VarHandle" ∧ (parseMethodDescriptor yX5_firstAlonePlace.desc).map (fun d => d.parameters.length) = some 3 := by decide +kernel
set_option maxRecDepth 100000 in
set_option maxHeartbeats 4000000 in
theorem c_X5_firstAlonePlace (l : Launch) (D : va_G) (J : JT) (kc ki kb kl kd : ClassId) (o0 : Nat) (o0_letters : Nat) (o0_sizes : Nat) (o0_lettersF : Nat → Int32) (o0_sizesF : Nat → Int32) (o0_lines : Int32) (p1 p2 : Int32) (res : Int32) (hF : f_X5_firstAlonePlace o0_lettersF o0_sizesF o0_lines p1 p2 = some res) : aKi l yX5_firstAlonePlace (aW yX5_firstAlonePlace cX5_firstAlonePlace 4 ((some .int))) ({ frames := 5, cells := 0, slots := 0, locals := 120 } : Room) D J (aTy kc ki kb kl kd) [.ref o0, .int p1, .int p2] (wX0 kc ki o0 o0_letters o0_sizes o0_lettersF o0_sizesF o0_lines) (fun r => r) (fun _ => wX0 kc ki o0 o0_letters o0_sizes o0_lettersF o0_sizesF o0_lines) res := by
  refine aKi_of (own := RX5) (by decide) rfl (Nat.le_of_ble_eq_true rfl) rfl ?_
  intro p e s m args below meth c C hr
  have hI2 : ∀ (fuel : Nat) (x3 : Int32) (k : Int32 → Option Int32), f_X5_firstAlonePlace_L2 p1 p2 o0_lettersF o0_sizesF o0_lines fuel x3 k = some res → (∀ (x3 : Int32), k x3 = some res → aT p l e ({ frames := 5, cells := 0, slots := 0, locals := 120 } : Room) s m args below meth c (MQ below (aQi D (wX0 kc ki o0 o0_letters o0_sizes o0_lettersF o0_sizesF o0_lines) s.heap.size (fun r => r) (fun _ => wX0 kc ki o0 o0_letters o0_sizes o0_lettersF o0_sizesF o0_lines) res) args s 0 0 (va_A (wX0 kc ki o0 o0_letters o0_sizes o0_lettersF o0_sizesF o0_lines) s.heap.size)) D (va_A (wX0 kc ki o0 o0_letters o0_sizes o0_lettersF o0_sizesF o0_lines) s.heap.size) 4 0 0 27 [(3, .int x3)] [] (wX0 kc ki o0 o0_letters o0_sizes o0_lettersF o0_sizesF o0_lines)) → aT p l e ({ frames := 5, cells := 0, slots := 0, locals := 120 } : Room) s m args below meth c (MQ below (aQi D (wX0 kc ki o0 o0_letters o0_sizes o0_lettersF o0_sizesF o0_lines) s.heap.size (fun r => r) (fun _ => wX0 kc ki o0 o0_letters o0_sizes o0_lettersF o0_sizesF o0_lines) res) args s 0 0 (va_A (wX0 kc ki o0 o0_letters o0_sizes o0_lettersF o0_sizesF o0_lines) s.heap.size)) D (va_A (wX0 kc ki o0 o0_letters o0_sizes o0_lettersF o0_sizesF o0_lines) s.heap.size) 4 0 0 2 [(0, .ref o0), (1, .int p1), (2, .int p2), (3, .int x3)] [] (wX0 kc ki o0 o0_letters o0_sizes o0_lettersF o0_sizesF o0_lines) := by
    intro fuel
    induction fuel with
    | zero => intro x3 k hF hX; exact nomatch hF
    | succ fuel ih =>
      intro x3 k hF hX
      rw [f_X5_firstAlonePlace_L2] at hF
      refine a_iload_n C 3 dX5_firstAlonePlace_2 rfl rfl ?_
      refine a_aload_n C 0 dX5_firstAlonePlace_3 rfl rfl ?_
      refine a_iload_n C 1 dX5_firstAlonePlace_4 rfl rfl ?_
      refine a_callVir C 1 [0, 1, 2] 0 cs_X5_9 hd_X0_size ⟨rfl, rfl⟩ ⟨Nat.le_of_ble_eq_true rfl, Nat.le_of_ble_eq_true rfl⟩ (fun r h => c_X0_size l D J kc ki kb kl kd o0 o0_letters o0_sizes o0_lettersF o0_sizesF o0_lines p1 r h) rfl rfl rfl rfl rfl rfl (Nat.le_of_ble_eq_true rfl) dX5_firstAlonePlace_5 ⟨Nat.zero_le _, Nat.zero_le _⟩ hF (fun r5_1 er5_1 hF => ?_)
      refine a_ic_ge C (tgt := 27) dX5_firstAlonePlace_8 (by decide) hF (fun c8_2 hF => ?_) (fun c8_2 hF => ?_)
      · refine a_sub C [3] [(3, .int x3)] rfl ?_
        exact hX x3 hF
      refine a_aload_n C 0 dX5_firstAlonePlace_11 rfl rfl ?_
      refine a_iload_n C 1 dX5_firstAlonePlace_12 rfl rfl ?_
      refine a_iload_n C 3 dX5_firstAlonePlace_13 rfl rfl ?_
      refine a_callSir C 3 [0, 1, 2] cs_X5_27 hd_X5_shortestAloneAt ⟨rfl, rfl⟩ ⟨Nat.le_of_ble_eq_true rfl, Nat.le_of_ble_eq_true rfl⟩ (fun r h => c_X5_shortestAloneAt l D J kc ki kb kl kd o0 o0_letters o0_sizes o0_lettersF o0_sizesF o0_lines p1 x3 r h) rfl rfl rfl rfl (Nat.le_of_ble_eq_true rfl) dX5_firstAlonePlace_14 ⟨Nat.zero_le _, Nat.zero_le _⟩ hF (fun r14_3 er14_3 hF => ?_)
      refine a_iload_n C 2 dX5_firstAlonePlace_17 rfl rfl ?_
      refine a_ic_eq C (tgt := 27) dX5_firstAlonePlace_18 (by decide) hF (fun c18_4 hF => ?_) (fun c18_4 hF => ?_)
      · refine a_sub C [3] [(3, .int x3)] rfl ?_
        exact hX x3 hF
      refine a_iinc C 3 [(3, .int (x3 + 1)), (0, .ref o0), (1, .int p1), (2, .int p2)] dX5_firstAlonePlace_21 rfl rfl (by decide) rfl ?_
      refine a_goto C (tgt := 2) dX5_firstAlonePlace_24 (by decide) ?_
      refine a_sub C [1, 2, 3, 0] [(0, .ref o0), (1, .int p1), (2, .int p2), (3, .int (x3 + 1))] rfl ?_
      exact ih (x3 + 1) k hF hX
  unfold f_X5_firstAlonePlace at hF
  refine a_iconst C (v := 0) dX5_firstAlonePlace_0 (by decide) ?_
  refine a_istore_n C [(3, .int 0), (0, .ref o0), (1, .int p1), (2, .int p2)] dX5_firstAlonePlace_1 rfl (by decide) rfl ?_
  refine a_sub C [1, 2, 3, 0] [(0, .ref o0), (1, .int p1), (2, .int p2), (3, .int 0)] rfl ?_
  refine hI2 1000 0 _ hF (fun x3_2_5 hF => ?_)
  refine a_iload_n C 0 dX5_firstAlonePlace_27 rfl rfl ?_
  exact a_iret C hr rfl dX5_firstAlonePlace_28 hF rfl rfl
def f_X5_mostFurtherAhead_L12 (p1 : Int32) (p2 : Int32) (o0_lettersF : Nat → Int32) (o0_sizesF : Nat → Int32) (o0_lines : Int32) : Nat → Int32 → Int32 → (Int32 → Int32 → Option Int32) → Option Int32
  | 0, _, _, _ => none
  | fuel + 1, x3, x4, k => if p1 ≤ x4 then (k x3 x4) else ((f_X0_size o0_sizesF o0_lines x4).bind fun r27_3 => (f_X5_mostInLine o0_lettersF o0_sizesF o0_lines p1 p2 x4 r27_3).bind fun r30_4 => f_X5_mostFurtherAhead_L12 p1 p2 o0_lettersF o0_sizesF o0_lines fuel (if x3 < r30_4 then r30_4 else x3) (x4 + 1) k)
def f_X5_mostFurtherAhead (o0_lettersF : Nat → Int32) (o0_sizesF : Nat → Int32) (o0_lines : Int32) (p1 : Int32) (p2 : Int32) : Option Int32 := (f_X5_mostInLine o0_lettersF o0_sizesF o0_lines p1 p2 p1 p2).bind fun r5_1 => f_X5_mostFurtherAhead_L12 p1 p2 o0_lettersF o0_sizesF o0_lines 1000 r5_1 0 (fun x3_12_5 x4_12_6 => some x3_12_5)
theorem hd_X5_mostFurtherAhead : yX5_mostFurtherAhead.cls ≠ "java/lang/invoke/MethodHandle" ∧ yX5_mostFurtherAhead.cls ≠ "java/lang/invoke/VarHandle" ∧ (parseMethodDescriptor yX5_mostFurtherAhead.desc).map (fun d => d.parameters.length) = some 3 := by decide +kernel
set_option maxRecDepth 100000 in
set_option maxHeartbeats 4000000 in
theorem c_X5_mostFurtherAhead (l : Launch) (D : va_G) (J : JT) (kc ki kb kl kd : ClassId) (o0 : Nat) (o0_letters : Nat) (o0_sizes : Nat) (o0_lettersF : Nat → Int32) (o0_sizesF : Nat → Int32) (o0_lines : Int32) (p1 p2 : Int32) (res : Int32) (hF : f_X5_mostFurtherAhead o0_lettersF o0_sizesF o0_lines p1 p2 = some res) : aKi l yX5_mostFurtherAhead (aW yX5_mostFurtherAhead cX5_mostFurtherAhead 5 ((some .int))) ({ frames := 4, cells := 0, slots := 0, locals := 96 } : Room) D J (aTy kc ki kb kl kd) [.ref o0, .int p1, .int p2] (wX0 kc ki o0 o0_letters o0_sizes o0_lettersF o0_sizesF o0_lines) (fun r => r) (fun _ => wX0 kc ki o0 o0_letters o0_sizes o0_lettersF o0_sizesF o0_lines) res := by
  refine aKi_of (own := RX5) (by decide) rfl (Nat.le_of_ble_eq_true rfl) rfl ?_
  intro p e s m args below meth c C hr
  have hI12 : ∀ (fuel : Nat) (x3 : Int32) (x4 : Int32) (k : Int32 → Int32 → Option Int32), f_X5_mostFurtherAhead_L12 p1 p2 o0_lettersF o0_sizesF o0_lines fuel x3 x4 k = some res → (∀ (x3 : Int32) (x4 : Int32), k x3 x4 = some res → aT p l e ({ frames := 4, cells := 0, slots := 0, locals := 96 } : Room) s m args below meth c (MQ below (aQi D (wX0 kc ki o0 o0_letters o0_sizes o0_lettersF o0_sizesF o0_lines) s.heap.size (fun r => r) (fun _ => wX0 kc ki o0 o0_letters o0_sizes o0_lettersF o0_sizesF o0_lines) res) args s 0 0 (va_A (wX0 kc ki o0 o0_letters o0_sizes o0_lettersF o0_sizesF o0_lines) s.heap.size)) D (va_A (wX0 kc ki o0 o0_letters o0_sizes o0_lettersF o0_sizesF o0_lines) s.heap.size) 5 0 0 43 [(3, .int x3)] [] (wX0 kc ki o0 o0_letters o0_sizes o0_lettersF o0_sizesF o0_lines)) → aT p l e ({ frames := 4, cells := 0, slots := 0, locals := 96 } : Room) s m args below meth c (MQ below (aQi D (wX0 kc ki o0 o0_letters o0_sizes o0_lettersF o0_sizesF o0_lines) s.heap.size (fun r => r) (fun _ => wX0 kc ki o0 o0_letters o0_sizes o0_lettersF o0_sizesF o0_lines) res) args s 0 0 (va_A (wX0 kc ki o0 o0_letters o0_sizes o0_lettersF o0_sizesF o0_lines) s.heap.size)) D (va_A (wX0 kc ki o0 o0_letters o0_sizes o0_lettersF o0_sizesF o0_lines) s.heap.size) 5 0 0 12 [(0, .ref o0), (1, .int p1), (2, .int p2), (3, .int x3), (4, .int x4)] [] (wX0 kc ki o0 o0_letters o0_sizes o0_lettersF o0_sizesF o0_lines) := by
    intro fuel
    induction fuel with
    | zero => intro x3 x4 k hF hX; exact nomatch hF
    | succ fuel ih =>
      intro x3 x4 k hF hX
      rw [f_X5_mostFurtherAhead_L12] at hF
      refine a_iload C 4 dX5_mostFurtherAhead_12 rfl ?_
      refine a_iload_n C 1 dX5_mostFurtherAhead_14 rfl rfl ?_
      refine a_ic_ge C (tgt := 43) dX5_mostFurtherAhead_15 (by decide) hF (fun c15_2 hF => ?_) (fun c15_2 hF => ?_)
      · refine a_sub C [3] [(3, .int x3)] rfl ?_
        exact hX x3 x4 hF
      refine a_iload_n C 3 dX5_mostFurtherAhead_18 rfl rfl ?_
      refine a_aload_n C 0 dX5_mostFurtherAhead_19 rfl rfl ?_
      refine a_iload_n C 1 dX5_mostFurtherAhead_20 rfl rfl ?_
      refine a_iload_n C 2 dX5_mostFurtherAhead_21 rfl rfl ?_
      refine a_iload C 4 dX5_mostFurtherAhead_22 rfl ?_
      refine a_aload_n C 0 dX5_mostFurtherAhead_24 rfl rfl ?_
      refine a_iload C 4 dX5_mostFurtherAhead_25 rfl ?_
      refine a_callVir C 1 [0, 1, 2] 0 cs_X5_9 hd_X0_size ⟨rfl, rfl⟩ ⟨Nat.le_of_ble_eq_true rfl, Nat.le_of_ble_eq_true rfl⟩ (fun r h => c_X0_size l D J kc ki kb kl kd o0 o0_letters o0_sizes o0_lettersF o0_sizesF o0_lines x4 r h) rfl rfl rfl rfl rfl rfl (Nat.le_of_ble_eq_true rfl) dX5_mostFurtherAhead_27 ⟨Nat.zero_le _, Nat.zero_le _⟩ hF (fun r27_3 er27_3 hF => ?_)
      refine a_callSir C 5 [0, 1, 2] cs_X5_15 hd_X5_mostInLine ⟨rfl, rfl⟩ ⟨Nat.le_of_ble_eq_true rfl, Nat.le_of_ble_eq_true rfl⟩ (fun r h => c_X5_mostInLine l D J kc ki kb kl kd o0 o0_letters o0_sizes o0_lettersF o0_sizesF o0_lines p1 p2 x4 r27_3 r h) rfl rfl rfl rfl (Nat.le_of_ble_eq_true rfl) dX5_mostFurtherAhead_30 ⟨Nat.zero_le _, Nat.zero_le _⟩ hF (fun r30_4 er30_4 hF => ?_)
      refine a_mmax C kl_X5_21 ks_J9_max_7cf53 kn_J9 kc_J9_max_7cf53 ⟨Nat.le_of_ble_eq_true rfl, Nat.le_of_ble_eq_true rfl⟩ ⟨Nat.zero_le _, Nat.zero_le _⟩ dX5_mostFurtherAhead_33 ?_
      refine a_istore_n C [(3, .int (if x3 < r30_4 then r30_4 else x3)), (0, .ref o0), (1, .int p1), (2, .int p2), (4, .int x4)] dX5_mostFurtherAhead_36 rfl (by decide) rfl ?_
      refine a_iinc C 4 [(4, .int (x4 + 1)), (3, .int (if x3 < r30_4 then r30_4 else x3)), (0, .ref o0), (1, .int p1), (2, .int p2)] dX5_mostFurtherAhead_37 rfl rfl (by decide) rfl ?_
      refine a_goto C (tgt := 12) dX5_mostFurtherAhead_40 (by decide) ?_
      refine a_sub C [2, 3, 4, 1, 0] [(0, .ref o0), (1, .int p1), (2, .int p2), (3, .int (if x3 < r30_4 then r30_4 else x3)), (4, .int (x4 + 1))] rfl ?_
      exact ih (if x3 < r30_4 then r30_4 else x3) (x4 + 1) k hF hX
  unfold f_X5_mostFurtherAhead at hF
  refine a_aload_n C 0 dX5_mostFurtherAhead_0 rfl rfl ?_
  refine a_iload_n C 1 dX5_mostFurtherAhead_1 rfl rfl ?_
  refine a_iload_n C 2 dX5_mostFurtherAhead_2 rfl rfl ?_
  refine a_iload_n C 1 dX5_mostFurtherAhead_3 rfl rfl ?_
  refine a_iload_n C 2 dX5_mostFurtherAhead_4 rfl rfl ?_
  refine a_callSir C 5 [0, 1, 2] cs_X5_15 hd_X5_mostInLine ⟨rfl, rfl⟩ ⟨Nat.le_of_ble_eq_true rfl, Nat.le_of_ble_eq_true rfl⟩ (fun r h => c_X5_mostInLine l D J kc ki kb kl kd o0 o0_letters o0_sizes o0_lettersF o0_sizesF o0_lines p1 p2 p1 p2 r h) rfl rfl rfl rfl (Nat.le_of_ble_eq_true rfl) dX5_mostFurtherAhead_5 ⟨Nat.zero_le _, Nat.zero_le _⟩ hF (fun r5_1 er5_1 hF => ?_)
  refine a_istore_n C [(3, .int r5_1), (0, .ref o0), (1, .int p1), (2, .int p2)] dX5_mostFurtherAhead_8 rfl (by decide) rfl ?_
  refine a_iconst C (v := 0) dX5_mostFurtherAhead_9 (by decide) ?_
  refine a_istore C [(4, .int 0), (3, .int r5_1), (0, .ref o0), (1, .int p1), (2, .int p2)] dX5_mostFurtherAhead_10 (by decide) rfl ?_
  refine a_sub C [2, 3, 4, 1, 0] [(0, .ref o0), (1, .int p1), (2, .int p2), (3, .int r5_1), (4, .int 0)] rfl ?_
  refine hI12 1000 r5_1 0 _ hF (fun x3_12_5 x4_12_6 hF => ?_)
  refine a_iload_n C 0 dX5_mostFurtherAhead_43 rfl rfl ?_
  exact a_iret C hr rfl dX5_mostFurtherAhead_44 hF rfl rfl
theorem cs_X5_38 : GoodIn WW (va_wsS RX5 38 yX5_mostFurtherAhead (aW yX5_mostFurtherAhead cX5_mostFurtherAhead 5 ((some .int)))) := gdS kl_X5_38 ks_X5_mostFurtherAhead kn_X5 kc_X5_mostFurtherAhead
def f_X5_countNew_L14 (x2 : Int32) (o0_lettersF : Nat → Int32) (o0_sizesF : Nat → Int32) (o0_lines : Int32) : Nat → Int32 → Int32 → (Int32 → Int32 → Option Int32) → Option Int32
  | 0, _, _, _ => none
  | fuel + 1, x1, x3, k => (f_X0_size o0_sizesF o0_lines x2).bind fun r17_3 => if r17_3 ≤ x3 then (k x1 x3) else ((f_X0_size o0_sizesF o0_lines x2).bind fun r26_5 => (f_X5_mostFurtherAhead o0_lettersF o0_sizesF o0_lines x2 x3).bind fun r34_6 => f_X5_countNew_L14 x2 o0_lettersF o0_sizesF o0_lines fuel (x1 + ((r26_5 - x3) - r34_6)) (x3 + 1) k)
def f_X5_countNew_L4 (o0_lettersF : Nat → Int32) (o0_sizesF : Nat → Int32) (o0_lines : Int32) : Nat → Int32 → Int32 → (Int32 → Int32 → Option Int32) → Option Int32
  | 0, _, _, _ => none
  | fuel + 1, x1, x2, k => (f_X0_lines o0_lines).bind fun r6_1 => if r6_1 ≤ x2 then (k x1 x2) else (f_X5_countNew_L14 x2 o0_lettersF o0_sizesF o0_lines 1000 x1 0 (fun x1_14_7 x3_14_8 => f_X5_countNew_L4 o0_lettersF o0_sizesF o0_lines fuel x1_14_7 (x2 + 1) k))
def f_X5_countNew (o0_lettersF : Nat → Int32) (o0_sizesF : Nat → Int32) (o0_lines : Int32) : Option Int32 := f_X5_countNew_L4 o0_lettersF o0_sizesF o0_lines 1000 0 0 (fun x1_4_9 x2_4_10 => some x1_4_9)
theorem hd_X5_countNew : yX5_countNew.cls ≠ "java/lang/invoke/MethodHandle" ∧ yX5_countNew.cls ≠ "java/lang/invoke/VarHandle" ∧ (parseMethodDescriptor yX5_countNew.desc).map (fun d => d.parameters.length) = some 1 := by decide +kernel
set_option maxRecDepth 100000 in
set_option maxHeartbeats 4000000 in
theorem c_X5_countNew (l : Launch) (D : va_G) (J : JT) (kc ki kb kl kd : ClassId) (o0 : Nat) (o0_letters : Nat) (o0_sizes : Nat) (o0_lettersF : Nat → Int32) (o0_sizesF : Nat → Int32) (o0_lines : Int32) (res : Int32) (hF : f_X5_countNew o0_lettersF o0_sizesF o0_lines = some res) : aKi l yX5_countNew (aW yX5_countNew cX5_countNew 4 ((some .int))) ({ frames := 5, cells := 0, slots := 0, locals := 120 } : Room) D J (aTy kc ki kb kl kd) [.ref o0] (wX0 kc ki o0 o0_letters o0_sizes o0_lettersF o0_sizesF o0_lines) (fun r => r) (fun _ => wX0 kc ki o0 o0_letters o0_sizes o0_lettersF o0_sizesF o0_lines) res := by
  refine aKi_of (own := RX5) (by decide) rfl (Nat.le_of_ble_eq_true rfl) rfl ?_
  intro p e s m args below meth c C hr
  have hI14 : ∀ (x2 : Int32) (fuel : Nat) (x1 : Int32) (x3 : Int32) (k : Int32 → Int32 → Option Int32), f_X5_countNew_L14 x2 o0_lettersF o0_sizesF o0_lines fuel x1 x3 k = some res → (∀ (x1 : Int32) (x3 : Int32), k x1 x3 = some res → aT p l e ({ frames := 5, cells := 0, slots := 0, locals := 120 } : Room) s m args below meth c (MQ below (aQi D (wX0 kc ki o0 o0_letters o0_sizes o0_lettersF o0_sizesF o0_lines) s.heap.size (fun r => r) (fun _ => wX0 kc ki o0 o0_letters o0_sizes o0_lettersF o0_sizesF o0_lines) res) args s 0 0 (va_A (wX0 kc ki o0 o0_letters o0_sizes o0_lettersF o0_sizesF o0_lines) s.heap.size)) D (va_A (wX0 kc ki o0 o0_letters o0_sizes o0_lettersF o0_sizesF o0_lines) s.heap.size) 4 0 0 46 [(0, .ref o0), (1, .int x1), (2, .int x2)] [] (wX0 kc ki o0 o0_letters o0_sizes o0_lettersF o0_sizesF o0_lines)) → aT p l e ({ frames := 5, cells := 0, slots := 0, locals := 120 } : Room) s m args below meth c (MQ below (aQi D (wX0 kc ki o0 o0_letters o0_sizes o0_lettersF o0_sizesF o0_lines) s.heap.size (fun r => r) (fun _ => wX0 kc ki o0 o0_letters o0_sizes o0_lettersF o0_sizesF o0_lines) res) args s 0 0 (va_A (wX0 kc ki o0 o0_letters o0_sizes o0_lettersF o0_sizesF o0_lines) s.heap.size)) D (va_A (wX0 kc ki o0 o0_letters o0_sizes o0_lettersF o0_sizesF o0_lines) s.heap.size) 4 0 0 14 [(0, .ref o0), (1, .int x1), (2, .int x2), (3, .int x3)] [] (wX0 kc ki o0 o0_letters o0_sizes o0_lettersF o0_sizesF o0_lines) := by
    intro x2 fuel
    induction fuel with
    | zero => intro x1 x3 k hF hX; exact nomatch hF
    | succ fuel ih =>
      intro x1 x3 k hF hX
      rw [f_X5_countNew_L14] at hF
      refine a_iload_n C 3 dX5_countNew_14 rfl rfl ?_
      refine a_aload_n C 0 dX5_countNew_15 rfl rfl ?_
      refine a_iload_n C 2 dX5_countNew_16 rfl rfl ?_
      refine a_callVir C 1 [0, 1, 2] 0 cs_X5_9 hd_X0_size ⟨rfl, rfl⟩ ⟨Nat.le_of_ble_eq_true rfl, Nat.le_of_ble_eq_true rfl⟩ (fun r h => c_X0_size l D J kc ki kb kl kd o0 o0_letters o0_sizes o0_lettersF o0_sizesF o0_lines x2 r h) rfl rfl rfl rfl rfl rfl (Nat.le_of_ble_eq_true rfl) dX5_countNew_17 ⟨Nat.zero_le _, Nat.zero_le _⟩ hF (fun r17_3 er17_3 hF => ?_)
      refine a_ic_ge C (tgt := 46) dX5_countNew_20 (by decide) hF (fun c20_4 hF => ?_) (fun c20_4 hF => ?_)
      · refine a_sub C [0, 1, 2] [(0, .ref o0), (1, .int x1), (2, .int x2)] rfl ?_
        exact hX x1 x3 hF
      refine a_iload_n C 1 dX5_countNew_23 rfl rfl ?_
      refine a_aload_n C 0 dX5_countNew_24 rfl rfl ?_
      refine a_iload_n C 2 dX5_countNew_25 rfl rfl ?_
      refine a_callVir C 1 [0, 1, 2] 0 cs_X5_9 hd_X0_size ⟨rfl, rfl⟩ ⟨Nat.le_of_ble_eq_true rfl, Nat.le_of_ble_eq_true rfl⟩ (fun r h => c_X0_size l D J kc ki kb kl kd o0 o0_letters o0_sizes o0_lettersF o0_sizesF o0_lines x2 r h) rfl rfl rfl rfl rfl rfl (Nat.le_of_ble_eq_true rfl) dX5_countNew_26 ⟨Nat.zero_le _, Nat.zero_le _⟩ hF (fun r26_5 er26_5 hF => ?_)
      refine a_iload_n C 3 dX5_countNew_29 rfl rfl ?_
      refine a_isub C dX5_countNew_30 ?_
      refine a_aload_n C 0 dX5_countNew_31 rfl rfl ?_
      refine a_iload_n C 2 dX5_countNew_32 rfl rfl ?_
      refine a_iload_n C 3 dX5_countNew_33 rfl rfl ?_
      refine a_callSir C 3 [0, 1, 2] cs_X5_38 hd_X5_mostFurtherAhead ⟨rfl, rfl⟩ ⟨Nat.le_of_ble_eq_true rfl, Nat.le_of_ble_eq_true rfl⟩ (fun r h => c_X5_mostFurtherAhead l D J kc ki kb kl kd o0 o0_letters o0_sizes o0_lettersF o0_sizesF o0_lines x2 x3 r h) rfl rfl rfl rfl (Nat.le_of_ble_eq_true rfl) dX5_countNew_34 ⟨Nat.zero_le _, Nat.zero_le _⟩ hF (fun r34_6 er34_6 hF => ?_)
      refine a_isub C dX5_countNew_37 ?_
      refine a_iadd C dX5_countNew_38 ?_
      refine a_istore_n C [(1, .int (x1 + ((r26_5 - x3) - r34_6))), (0, .ref o0), (2, .int x2), (3, .int x3)] dX5_countNew_39 rfl (by decide) rfl ?_
      refine a_iinc C 3 [(3, .int (x3 + 1)), (1, .int (x1 + ((r26_5 - x3) - r34_6))), (0, .ref o0), (2, .int x2)] dX5_countNew_40 rfl rfl (by decide) rfl ?_
      refine a_goto C (tgt := 14) dX5_countNew_43 (by decide) ?_
      refine a_sub C [2, 1, 3, 0] [(0, .ref o0), (1, .int (x1 + ((r26_5 - x3) - r34_6))), (2, .int x2), (3, .int (x3 + 1))] rfl ?_
      exact ih (x1 + ((r26_5 - x3) - r34_6)) (x3 + 1) k hF hX
  have hI4 : ∀ (fuel : Nat) (x1 : Int32) (x2 : Int32) (k : Int32 → Int32 → Option Int32), f_X5_countNew_L4 o0_lettersF o0_sizesF o0_lines fuel x1 x2 k = some res → (∀ (x1 : Int32) (x2 : Int32), k x1 x2 = some res → aT p l e ({ frames := 5, cells := 0, slots := 0, locals := 120 } : Room) s m args below meth c (MQ below (aQi D (wX0 kc ki o0 o0_letters o0_sizes o0_lettersF o0_sizesF o0_lines) s.heap.size (fun r => r) (fun _ => wX0 kc ki o0 o0_letters o0_sizes o0_lettersF o0_sizesF o0_lines) res) args s 0 0 (va_A (wX0 kc ki o0 o0_letters o0_sizes o0_lettersF o0_sizesF o0_lines) s.heap.size)) D (va_A (wX0 kc ki o0 o0_letters o0_sizes o0_lettersF o0_sizesF o0_lines) s.heap.size) 4 0 0 52 [(1, .int x1)] [] (wX0 kc ki o0 o0_letters o0_sizes o0_lettersF o0_sizesF o0_lines)) → aT p l e ({ frames := 5, cells := 0, slots := 0, locals := 120 } : Room) s m args below meth c (MQ below (aQi D (wX0 kc ki o0 o0_letters o0_sizes o0_lettersF o0_sizesF o0_lines) s.heap.size (fun r => r) (fun _ => wX0 kc ki o0 o0_letters o0_sizes o0_lettersF o0_sizesF o0_lines) res) args s 0 0 (va_A (wX0 kc ki o0 o0_letters o0_sizes o0_lettersF o0_sizesF o0_lines) s.heap.size)) D (va_A (wX0 kc ki o0 o0_letters o0_sizes o0_lettersF o0_sizesF o0_lines) s.heap.size) 4 0 0 4 [(0, .ref o0), (1, .int x1), (2, .int x2)] [] (wX0 kc ki o0 o0_letters o0_sizes o0_lettersF o0_sizesF o0_lines) := by
    intro fuel
    induction fuel with
    | zero => intro x1 x2 k hF hX; exact nomatch hF
    | succ fuel ih =>
      intro x1 x2 k hF hX
      rw [f_X5_countNew_L4] at hF
      refine a_iload_n C 2 dX5_countNew_4 rfl rfl ?_
      refine a_aload_n C 0 dX5_countNew_5 rfl rfl ?_
      refine a_callVir C 0 [0, 1, 2] 0 cs_X5_34 hd_X0_lines ⟨rfl, rfl⟩ ⟨Nat.le_of_ble_eq_true rfl, Nat.le_of_ble_eq_true rfl⟩ (fun r h => c_X0_lines l D J kc ki kb kl kd o0 o0_letters o0_sizes o0_lettersF o0_sizesF o0_lines r h) rfl rfl rfl rfl rfl rfl (Nat.le_of_ble_eq_true rfl) dX5_countNew_6 ⟨Nat.zero_le _, Nat.zero_le _⟩ hF (fun r6_1 er6_1 hF => ?_)
      refine a_ic_ge C (tgt := 52) dX5_countNew_9 (by decide) hF (fun c9_2 hF => ?_) (fun c9_2 hF => ?_)
      · refine a_sub C [1] [(1, .int x1)] rfl ?_
        exact hX x1 x2 hF
      refine a_iconst C (v := 0) dX5_countNew_12 (by decide) ?_
      refine a_istore_n C [(3, .int 0), (0, .ref o0), (1, .int x1), (2, .int x2)] dX5_countNew_13 rfl (by decide) rfl ?_
      refine a_sub C [1, 2, 3, 0] [(0, .ref o0), (1, .int x1), (2, .int x2), (3, .int 0)] rfl ?_
      refine hI14 x2 1000 x1 0 _ hF (fun x1_14_7 x3_14_8 hF => ?_)
      refine a_iinc C 2 [(2, .int (x2 + 1)), (0, .ref o0), (1, .int x1_14_7)] dX5_countNew_46 rfl rfl (by decide) rfl ?_
      refine a_goto C (tgt := 4) dX5_countNew_49 (by decide) ?_
      refine a_sub C [1, 2, 0] [(0, .ref o0), (1, .int x1_14_7), (2, .int (x2 + 1))] rfl ?_
      exact ih x1_14_7 (x2 + 1) k hF hX
  unfold f_X5_countNew at hF
  refine a_iconst C (v := 0) dX5_countNew_0 (by decide) ?_
  refine a_istore_n C [(1, .int 0), (0, .ref o0)] dX5_countNew_1 rfl (by decide) rfl ?_
  refine a_iconst C (v := 0) dX5_countNew_2 (by decide) ?_
  refine a_istore_n C [(2, .int 0), (1, .int 0), (0, .ref o0)] dX5_countNew_3 rfl (by decide) rfl ?_
  refine a_sub C [2, 1, 0] [(0, .ref o0), (1, .int 0), (2, .int 0)] rfl ?_
  refine hI4 1000 0 0 _ hF (fun x1_4_9 x2_4_10 hF => ?_)
  refine a_iload_n C 0 dX5_countNew_52 rfl rfl ?_
  exact a_iret C hr rfl dX5_countNew_53 hF rfl rfl
theorem cs_X5_49 : GoodIn WW (wsV RX5 49 RX7 yX7_length (aW yX7_length cX7_length 1 ((some .int)))) := gdV kl_X5_49 ki_X7_length kv_X7_length kn_X7 kc_X7_length
theorem cs_X5_54 : GoodIn WW (wsV RX5 54 RX0 yX0_letterAt (aW yX0_letterAt cX0_letterAt 3 ((some .char)))) := gdV kl_X5_54 ki_X0_letterAt kv_X0_letterAt kn_X0 kc_X0_letterAt
theorem cs_X5_58 : GoodIn WW (wsV RX5 58 RX7 yX7_characterAt (aW yX7_characterAt cX7_characterAt 2 ((some .char)))) := gdV kl_X5_58 ki_X7_characterAt kv_X7_characterAt kn_X7 kc_X7_characterAt
def f_X5_compareToWord_L3 (p1 : Int32) (p2 : Int32) (o0_lettersF : Nat → Int32) (o0_sizesF : Nat → Int32) (o0_lines : Int32) (o3_charactersF : Nat → Int32) (o3_length : Int32) : Nat → Int32 → (Int32 → Option Int32) → Option Int32
  | 0, _, _ => none
  | fuel + 1, x4, k => (f_X7_length o3_length).bind fun r6_1 => if r6_1 ≤ x4 then (k x4) else ((f_X0_letterAt o0_lettersF o0_sizesF o0_lines p1 (p2 + x4)).bind fun r18_3 => (f_X7_characterAt o3_charactersF o3_length x4).bind fun r28_4 => if r18_3 = r28_4 then (f_X5_compareToWord_L3 p1 p2 o0_lettersF o0_sizesF o0_lines o3_charactersF o3_length fuel (x4 + 1) k) else ((f_X7_characterAt o3_charactersF o3_length x4).bind fun r39_6 => some (r18_3 - r39_6)))
def f_X5_compareToWord (o0_lettersF : Nat → Int32) (o0_sizesF : Nat → Int32) (o0_lines : Int32) (o3_charactersF : Nat → Int32) (o3_length : Int32) (p1 : Int32) (p2 : Int32) : Option Int32 := f_X5_compareToWord_L3 p1 p2 o0_lettersF o0_sizesF o0_lines o3_charactersF o3_length 1000 0 (fun x4_3_7 => some 0)
theorem hd_X5_compareToWord : yX5_compareToWord.cls ≠ "java/lang/invoke/MethodHandle" ∧ yX5_compareToWord.cls ≠ "java/lang/invoke/VarHandle" ∧ (parseMethodDescriptor yX5_compareToWord.desc).map (fun d => d.parameters.length) = some 4 := by decide +kernel
set_option maxRecDepth 100000 in
set_option maxHeartbeats 4000000 in
theorem c_X5_compareToWord (l : Launch) (D : va_G) (J : JT) (kc ki kb kl kd : ClassId) (o0 : Nat) (o0_letters : Nat) (o0_sizes : Nat) (o3 : Nat) (o3_characters : Nat) (o0_lettersF : Nat → Int32) (o0_sizesF : Nat → Int32) (o0_lines : Int32) (o3_charactersF : Nat → Int32) (o3_length : Int32) (p1 p2 : Int32) (res : Int32) (hF : f_X5_compareToWord o0_lettersF o0_sizesF o0_lines o3_charactersF o3_length p1 p2 = some res) : aKi l yX5_compareToWord (aW yX5_compareToWord cX5_compareToWord 6 ((some .int))) ({ frames := 2, cells := 0, slots := 0, locals := 44 } : Room) D J (aTy kc ki kb kl kd) [.ref o0, .int p1, .int p2, .ref o3] (wX0 kc ki o0 o0_letters o0_sizes o0_lettersF o0_sizesF o0_lines ++ wX7 kc o3 o3_characters o3_charactersF o3_length) (fun r => r) (fun _ => wX0 kc ki o0 o0_letters o0_sizes o0_lettersF o0_sizesF o0_lines ++ wX7 kc o3 o3_characters o3_charactersF o3_length) res := by
  refine aKi_of (own := RX5) (by decide) rfl (Nat.le_of_ble_eq_true rfl) rfl ?_
  intro p e s m args below meth c C hr
  have hI3 : ∀ (fuel : Nat) (x4 : Int32) (k : Int32 → Option Int32), f_X5_compareToWord_L3 p1 p2 o0_lettersF o0_sizesF o0_lines o3_charactersF o3_length fuel x4 k = some res → (∀ (x4 : Int32), k x4 = some res → aT p l e ({ frames := 2, cells := 0, slots := 0, locals := 44 } : Room) s m args below meth c (MQ below (aQi D (wX0 kc ki o0 o0_letters o0_sizes o0_lettersF o0_sizesF o0_lines ++ wX7 kc o3 o3_characters o3_charactersF o3_length) s.heap.size (fun r => r) (fun _ => wX0 kc ki o0 o0_letters o0_sizes o0_lettersF o0_sizesF o0_lines ++ wX7 kc o3 o3_characters o3_charactersF o3_length) res) args s 0 0 (va_A (wX0 kc ki o0 o0_letters o0_sizes o0_lettersF o0_sizesF o0_lines ++ wX7 kc o3 o3_characters o3_charactersF o3_length) s.heap.size)) D (va_A (wX0 kc ki o0 o0_letters o0_sizes o0_lettersF o0_sizesF o0_lines ++ wX7 kc o3 o3_characters o3_charactersF o3_length) s.heap.size) 6 0 0 50 [] [] (wX0 kc ki o0 o0_letters o0_sizes o0_lettersF o0_sizesF o0_lines ++ wX7 kc o3 o3_characters o3_charactersF o3_length)) → aT p l e ({ frames := 2, cells := 0, slots := 0, locals := 44 } : Room) s m args below meth c (MQ below (aQi D (wX0 kc ki o0 o0_letters o0_sizes o0_lettersF o0_sizesF o0_lines ++ wX7 kc o3 o3_characters o3_charactersF o3_length) s.heap.size (fun r => r) (fun _ => wX0 kc ki o0 o0_letters o0_sizes o0_lettersF o0_sizesF o0_lines ++ wX7 kc o3 o3_characters o3_charactersF o3_length) res) args s 0 0 (va_A (wX0 kc ki o0 o0_letters o0_sizes o0_lettersF o0_sizesF o0_lines ++ wX7 kc o3 o3_characters o3_charactersF o3_length) s.heap.size)) D (va_A (wX0 kc ki o0 o0_letters o0_sizes o0_lettersF o0_sizesF o0_lines ++ wX7 kc o3 o3_characters o3_charactersF o3_length) s.heap.size) 6 0 0 3 [(0, .ref o0), (1, .int p1), (2, .int p2), (3, .ref o3), (4, .int x4)] [] (wX0 kc ki o0 o0_letters o0_sizes o0_lettersF o0_sizesF o0_lines ++ wX7 kc o3 o3_characters o3_charactersF o3_length) := by
    intro fuel
    induction fuel with
    | zero => intro x4 k hF hX; exact nomatch hF
    | succ fuel ih =>
      intro x4 k hF hX
      rw [f_X5_compareToWord_L3] at hF
      refine a_iload C 4 dX5_compareToWord_3 rfl ?_
      refine a_aload_n C 3 dX5_compareToWord_5 rfl rfl ?_
      refine a_callVir C 0 [3, 4] 3 cs_X5_49 hd_X7_length ⟨rfl, rfl⟩ ⟨Nat.le_of_ble_eq_true rfl, Nat.le_of_ble_eq_true rfl⟩ (fun r h => c_X7_length l D J kc ki kb kl kd o3 o3_characters o3_charactersF o3_length r h) rfl rfl rfl rfl rfl rfl (Nat.le_of_ble_eq_true rfl) dX5_compareToWord_6 ⟨Nat.zero_le _, Nat.zero_le _⟩ hF (fun r6_1 er6_1 hF => ?_)
      refine a_ic_ge C (tgt := 50) dX5_compareToWord_9 (by decide) hF (fun c9_2 hF => ?_) (fun c9_2 hF => ?_)
      · refine a_sub C [] [] rfl ?_
        exact hX x4 hF
      refine a_aload_n C 0 dX5_compareToWord_12 rfl rfl ?_
      refine a_iload_n C 1 dX5_compareToWord_13 rfl rfl ?_
      refine a_iload_n C 2 dX5_compareToWord_14 rfl rfl ?_
      refine a_iload C 4 dX5_compareToWord_15 rfl ?_
      refine a_iadd C dX5_compareToWord_17 ?_
      refine a_callVir C 2 [0, 1, 2] 0 cs_X5_54 hd_X0_letterAt ⟨rfl, rfl⟩ ⟨Nat.le_of_ble_eq_true rfl, Nat.le_of_ble_eq_true rfl⟩ (fun r h => c_X0_letterAt l D J kc ki kb kl kd o0 o0_letters o0_sizes o0_lettersF o0_sizesF o0_lines p1 (p2 + x4) r h) rfl rfl rfl rfl rfl rfl (Nat.le_of_ble_eq_true rfl) dX5_compareToWord_18 ⟨Nat.zero_le _, Nat.zero_le _⟩ hF (fun r18_3 er18_3 hF => ?_)
      refine a_istore C [(5, .int r18_3), (0, .ref o0), (1, .int p1), (2, .int p2), (3, .ref o3), (4, .int x4)] dX5_compareToWord_21 (by decide) rfl ?_
      refine a_iload C 0 dX5_compareToWord_23 rfl ?_
      refine a_aload_n C 4 dX5_compareToWord_25 rfl rfl ?_
      refine a_iload C 5 dX5_compareToWord_26 rfl ?_
      refine a_callVir C 1 [3, 4] 3 cs_X5_58 hd_X7_characterAt ⟨rfl, rfl⟩ ⟨Nat.le_of_ble_eq_true rfl, Nat.le_of_ble_eq_true rfl⟩ (fun r h => c_X7_characterAt l D J kc ki kb kl kd o3 o3_characters o3_charactersF o3_length x4 r h) rfl rfl rfl rfl rfl rfl (Nat.le_of_ble_eq_true rfl) dX5_compareToWord_28 ⟨Nat.zero_le _, Nat.zero_le _⟩ hF (fun r28_4 er28_4 hF => ?_)
      refine a_ic_eq C (tgt := 44) dX5_compareToWord_31 (by decide) hF (fun c31_5 hF => ?_) (fun c31_5 hF => ?_)
      · refine a_iinc C 5 [(4, .int (x4 + 1)), (5, .int r18_3), (0, .ref o0), (1, .int p1), (2, .int p2), (3, .ref o3)] dX5_compareToWord_44 rfl rfl (by decide) rfl ?_
        refine a_goto C (tgt := 3) dX5_compareToWord_47 (by decide) ?_
        refine a_sub C [2, 3, 4, 5, 0] [(0, .ref o0), (1, .int p1), (2, .int p2), (3, .ref o3), (4, .int (x4 + 1))] rfl ?_
        exact ih (x4 + 1) k hF hX
      refine a_iload C 0 dX5_compareToWord_34 rfl ?_
      refine a_aload_n C 4 dX5_compareToWord_36 rfl rfl ?_
      refine a_iload C 5 dX5_compareToWord_37 rfl ?_
      refine a_callVir C 1 [3, 4] 3 cs_X5_58 hd_X7_characterAt ⟨rfl, rfl⟩ ⟨Nat.le_of_ble_eq_true rfl, Nat.le_of_ble_eq_true rfl⟩ (fun r h => c_X7_characterAt l D J kc ki kb kl kd o3 o3_characters o3_charactersF o3_length x4 r h) rfl rfl rfl rfl rfl rfl (Nat.le_of_ble_eq_true rfl) dX5_compareToWord_39 ⟨Nat.zero_le _, Nat.zero_le _⟩ hF (fun r39_6 er39_6 hF => ?_)
      refine a_isub C dX5_compareToWord_42 ?_
      exact a_iret C hr rfl dX5_compareToWord_43 hF rfl rfl
  unfold f_X5_compareToWord at hF
  refine a_iconst C (v := 0) dX5_compareToWord_0 (by decide) ?_
  refine a_istore C [(4, .int 0), (0, .ref o0), (1, .int p1), (2, .int p2), (3, .ref o3)] dX5_compareToWord_1 (by decide) rfl ?_
  refine a_sub C [1, 2, 3, 4, 0] [(0, .ref o0), (1, .int p1), (2, .int p2), (3, .ref o3), (4, .int 0)] rfl ?_
  refine hI3 1000 0 _ hF (fun x4_3_7 hF => ?_)
  refine a_iconst C (v := 0) dX5_compareToWord_50 (by decide) ?_
  exact a_iret C hr rfl dX5_compareToWord_51 hF rfl rfl
theorem cs_X5_45 : GoodIn WW (va_wsS RX5 45 yX5_compareToWord (aW yX5_compareToWord cX5_compareToWord 6 ((some .int)))) := gdS kl_X5_45 ks_X5_compareToWord kn_X5 kc_X5_compareToWord
def f_X5_countWord_L15 (x3 : Int32) (o0_lettersF : Nat → Int32) (o0_sizesF : Nat → Int32) (o0_lines : Int32) (o1_charactersF : Nat → Int32) (o1_length : Int32) : Nat → Int32 → Int32 → (Int32 → Int32 → Option Int32) → Option Int32
  | 0, _, _, _ => none
  | fuel + 1, x2, x4, k => (f_X0_size o0_sizesF o0_lines x3).bind fun r19_3 => if r19_3 ≤ x4 then (k x2 x4) else ((f_X5_compareToWord o0_lettersF o0_sizesF o0_lines o1_charactersF o1_length x3 x4).bind fun r30_5 => if ¬ r30_5 = 0 then (f_X5_countWord_L15 x3 o0_lettersF o0_sizesF o0_lines o1_charactersF o1_length fuel x2 (x4 + 1) k) else (f_X5_countWord_L15 x3 o0_lettersF o0_sizesF o0_lines o1_charactersF o1_length fuel (x2 + 1) (x4 + 1) k))
def f_X5_countWord_L4 (o0_lettersF : Nat → Int32) (o0_sizesF : Nat → Int32) (o0_lines : Int32) (o1_charactersF : Nat → Int32) (o1_length : Int32) : Nat → Int32 → Int32 → (Int32 → Int32 → Option Int32) → Option Int32
  | 0, _, _, _ => none
  | fuel + 1, x2, x3, k => (f_X0_lines o0_lines).bind fun r6_1 => if r6_1 ≤ x3 then (k x2 x3) else (f_X5_countWord_L15 x3 o0_lettersF o0_sizesF o0_lines o1_charactersF o1_length 1000 x2 0 (fun x2_15_7 x4_15_8 => f_X5_countWord_L4 o0_lettersF o0_sizesF o0_lines o1_charactersF o1_length fuel x2_15_7 (x3 + 1) k))
def f_X5_countWord (o0_lettersF : Nat → Int32) (o0_sizesF : Nat → Int32) (o0_lines : Int32) (o1_charactersF : Nat → Int32) (o1_length : Int32) : Option Int32 := f_X5_countWord_L4 o0_lettersF o0_sizesF o0_lines o1_charactersF o1_length 1000 0 0 (fun x2_4_9 x3_4_10 => some x2_4_9)
theorem hd_X5_countWord : yX5_countWord.cls ≠ "java/lang/invoke/MethodHandle" ∧ yX5_countWord.cls ≠ "java/lang/invoke/VarHandle" ∧ (parseMethodDescriptor yX5_countWord.desc).map (fun d => d.parameters.length) = some 2 := by decide +kernel
set_option maxRecDepth 100000 in
set_option maxHeartbeats 4000000 in
theorem c_X5_countWord (l : Launch) (D : va_G) (J : JT) (kc ki kb kl kd : ClassId) (o0 : Nat) (o0_letters : Nat) (o0_sizes : Nat) (o1 : Nat) (o1_characters : Nat) (o0_lettersF : Nat → Int32) (o0_sizesF : Nat → Int32) (o0_lines : Int32) (o1_charactersF : Nat → Int32) (o1_length : Int32) (res : Int32) (hF : f_X5_countWord o0_lettersF o0_sizesF o0_lines o1_charactersF o1_length = some res) : aKi l yX5_countWord (aW yX5_countWord cX5_countWord 5 ((some .int))) ({ frames := 3, cells := 0, slots := 0, locals := 69 } : Room) D J (aTy kc ki kb kl kd) [.ref o0, .ref o1] (wX0 kc ki o0 o0_letters o0_sizes o0_lettersF o0_sizesF o0_lines ++ wX7 kc o1 o1_characters o1_charactersF o1_length) (fun r => r) (fun _ => wX0 kc ki o0 o0_letters o0_sizes o0_lettersF o0_sizesF o0_lines ++ wX7 kc o1 o1_characters o1_charactersF o1_length) res := by
  refine aKi_of (own := RX5) (by decide) rfl (Nat.le_of_ble_eq_true rfl) rfl ?_
  intro p e s m args below meth c C hr
  have hI15 : ∀ (x3 : Int32) (fuel : Nat) (x2 : Int32) (x4 : Int32) (k : Int32 → Int32 → Option Int32), f_X5_countWord_L15 x3 o0_lettersF o0_sizesF o0_lines o1_charactersF o1_length fuel x2 x4 k = some res → (∀ (x2 : Int32) (x4 : Int32), k x2 x4 = some res → aT p l e ({ frames := 3, cells := 0, slots := 0, locals := 69 } : Room) s m args below meth c (MQ below (aQi D (wX0 kc ki o0 o0_letters o0_sizes o0_lettersF o0_sizesF o0_lines ++ wX7 kc o1 o1_characters o1_charactersF o1_length) s.heap.size (fun r => r) (fun _ => wX0 kc ki o0 o0_letters o0_sizes o0_lettersF o0_sizesF o0_lines ++ wX7 kc o1 o1_characters o1_charactersF o1_length) res) args s 0 0 (va_A (wX0 kc ki o0 o0_letters o0_sizes o0_lettersF o0_sizesF o0_lines ++ wX7 kc o1 o1_characters o1_charactersF o1_length) s.heap.size)) D (va_A (wX0 kc ki o0 o0_letters o0_sizes o0_lettersF o0_sizesF o0_lines ++ wX7 kc o1 o1_characters o1_charactersF o1_length) s.heap.size) 5 0 0 45 [(0, .ref o0), (1, .ref o1), (2, .int x2), (3, .int x3)] [] (wX0 kc ki o0 o0_letters o0_sizes o0_lettersF o0_sizesF o0_lines ++ wX7 kc o1 o1_characters o1_charactersF o1_length)) → aT p l e ({ frames := 3, cells := 0, slots := 0, locals := 69 } : Room) s m args below meth c (MQ below (aQi D (wX0 kc ki o0 o0_letters o0_sizes o0_lettersF o0_sizesF o0_lines ++ wX7 kc o1 o1_characters o1_charactersF o1_length) s.heap.size (fun r => r) (fun _ => wX0 kc ki o0 o0_letters o0_sizes o0_lettersF o0_sizesF o0_lines ++ wX7 kc o1 o1_characters o1_charactersF o1_length) res) args s 0 0 (va_A (wX0 kc ki o0 o0_letters o0_sizes o0_lettersF o0_sizesF o0_lines ++ wX7 kc o1 o1_characters o1_charactersF o1_length) s.heap.size)) D (va_A (wX0 kc ki o0 o0_letters o0_sizes o0_lettersF o0_sizesF o0_lines ++ wX7 kc o1 o1_characters o1_charactersF o1_length) s.heap.size) 5 0 0 15 [(0, .ref o0), (1, .ref o1), (2, .int x2), (3, .int x3), (4, .int x4)] [] (wX0 kc ki o0 o0_letters o0_sizes o0_lettersF o0_sizesF o0_lines ++ wX7 kc o1 o1_characters o1_charactersF o1_length) := by
    intro x3 fuel
    induction fuel with
    | zero => intro x2 x4 k hF hX; exact nomatch hF
    | succ fuel ih =>
      intro x2 x4 k hF hX
      rw [f_X5_countWord_L15] at hF
      refine a_iload C 4 dX5_countWord_15 rfl ?_
      refine a_aload_n C 0 dX5_countWord_17 rfl rfl ?_
      refine a_iload_n C 3 dX5_countWord_18 rfl rfl ?_
      refine a_callVir C 1 [0, 1, 2] 0 cs_X5_9 hd_X0_size ⟨rfl, rfl⟩ ⟨Nat.le_of_ble_eq_true rfl, Nat.le_of_ble_eq_true rfl⟩ (fun r h => c_X0_size l D J kc ki kb kl kd o0 o0_letters o0_sizes o0_lettersF o0_sizesF o0_lines x3 r h) rfl rfl rfl rfl rfl rfl (Nat.le_of_ble_eq_true rfl) dX5_countWord_19 ⟨Nat.zero_le _, Nat.zero_le _⟩ hF (fun r19_3 er19_3 hF => ?_)
      refine a_ic_ge C (tgt := 45) dX5_countWord_22 (by decide) hF (fun c22_4 hF => ?_) (fun c22_4 hF => ?_)
      · refine a_sub C [0, 1, 2, 3] [(0, .ref o0), (1, .ref o1), (2, .int x2), (3, .int x3)] rfl ?_
        exact hX x2 x4 hF
      refine a_aload_n C 0 dX5_countWord_25 rfl rfl ?_
      refine a_iload_n C 3 dX5_countWord_26 rfl rfl ?_
      refine a_iload C 4 dX5_countWord_27 rfl ?_
      refine a_aload_n C 1 dX5_countWord_29 rfl rfl ?_
      refine a_callSir C 4 [0, 1, 2, 3, 4] cs_X5_45 hd_X5_compareToWord ⟨rfl, rfl⟩ ⟨Nat.le_of_ble_eq_true rfl, Nat.le_of_ble_eq_true rfl⟩ (fun r h => c_X5_compareToWord l D J kc ki kb kl kd o0 o0_letters o0_sizes o1 o1_characters o0_lettersF o0_sizesF o0_lines o1_charactersF o1_length x3 x4 r h) rfl rfl rfl rfl (Nat.le_of_ble_eq_true rfl) dX5_countWord_30 ⟨Nat.zero_le _, Nat.zero_le _⟩ hF (fun r30_5 er30_5 hF => ?_)
      refine a_if_ne C (tgt := 39) dX5_countWord_33 (by decide) hF (fun c33_6 hF => ?_) (fun c33_6 hF => ?_)
      · refine a_iinc C 4 [(4, .int (x4 + 1)), (0, .ref o0), (1, .ref o1), (2, .int x2), (3, .int x3)] dX5_countWord_39 rfl rfl (by decide) rfl ?_
        refine a_goto C (tgt := 15) dX5_countWord_42 (by decide) ?_
        refine a_sub C [1, 2, 3, 4, 0] [(0, .ref o0), (1, .ref o1), (2, .int x2), (3, .int x3), (4, .int (x4 + 1))] rfl ?_
        exact ih x2 (x4 + 1) k hF hX
      refine a_iinc C 2 [(2, .int (x2 + 1)), (0, .ref o0), (1, .ref o1), (3, .int x3), (4, .int x4)] dX5_countWord_36 rfl rfl (by decide) rfl ?_
      refine a_iinc C 4 [(4, .int (x4 + 1)), (2, .int (x2 + 1)), (0, .ref o0), (1, .ref o1), (3, .int x3)] dX5_countWord_39 rfl rfl (by decide) rfl ?_
      refine a_goto C (tgt := 15) dX5_countWord_42 (by decide) ?_
      refine a_sub C [2, 3, 1, 4, 0] [(0, .ref o0), (1, .ref o1), (2, .int (x2 + 1)), (3, .int x3), (4, .int (x4 + 1))] rfl ?_
      exact ih (x2 + 1) (x4 + 1) k hF hX
  have hI4 : ∀ (fuel : Nat) (x2 : Int32) (x3 : Int32) (k : Int32 → Int32 → Option Int32), f_X5_countWord_L4 o0_lettersF o0_sizesF o0_lines o1_charactersF o1_length fuel x2 x3 k = some res → (∀ (x2 : Int32) (x3 : Int32), k x2 x3 = some res → aT p l e ({ frames := 3, cells := 0, slots := 0, locals := 69 } : Room) s m args below meth c (MQ below (aQi D (wX0 kc ki o0 o0_letters o0_sizes o0_lettersF o0_sizesF o0_lines ++ wX7 kc o1 o1_characters o1_charactersF o1_length) s.heap.size (fun r => r) (fun _ => wX0 kc ki o0 o0_letters o0_sizes o0_lettersF o0_sizesF o0_lines ++ wX7 kc o1 o1_characters o1_charactersF o1_length) res) args s 0 0 (va_A (wX0 kc ki o0 o0_letters o0_sizes o0_lettersF o0_sizesF o0_lines ++ wX7 kc o1 o1_characters o1_charactersF o1_length) s.heap.size)) D (va_A (wX0 kc ki o0 o0_letters o0_sizes o0_lettersF o0_sizesF o0_lines ++ wX7 kc o1 o1_characters o1_charactersF o1_length) s.heap.size) 5 0 0 51 [(2, .int x2)] [] (wX0 kc ki o0 o0_letters o0_sizes o0_lettersF o0_sizesF o0_lines ++ wX7 kc o1 o1_characters o1_charactersF o1_length)) → aT p l e ({ frames := 3, cells := 0, slots := 0, locals := 69 } : Room) s m args below meth c (MQ below (aQi D (wX0 kc ki o0 o0_letters o0_sizes o0_lettersF o0_sizesF o0_lines ++ wX7 kc o1 o1_characters o1_charactersF o1_length) s.heap.size (fun r => r) (fun _ => wX0 kc ki o0 o0_letters o0_sizes o0_lettersF o0_sizesF o0_lines ++ wX7 kc o1 o1_characters o1_charactersF o1_length) res) args s 0 0 (va_A (wX0 kc ki o0 o0_letters o0_sizes o0_lettersF o0_sizesF o0_lines ++ wX7 kc o1 o1_characters o1_charactersF o1_length) s.heap.size)) D (va_A (wX0 kc ki o0 o0_letters o0_sizes o0_lettersF o0_sizesF o0_lines ++ wX7 kc o1 o1_characters o1_charactersF o1_length) s.heap.size) 5 0 0 4 [(0, .ref o0), (1, .ref o1), (2, .int x2), (3, .int x3)] [] (wX0 kc ki o0 o0_letters o0_sizes o0_lettersF o0_sizesF o0_lines ++ wX7 kc o1 o1_characters o1_charactersF o1_length) := by
    intro fuel
    induction fuel with
    | zero => intro x2 x3 k hF hX; exact nomatch hF
    | succ fuel ih =>
      intro x2 x3 k hF hX
      rw [f_X5_countWord_L4] at hF
      refine a_iload_n C 3 dX5_countWord_4 rfl rfl ?_
      refine a_aload_n C 0 dX5_countWord_5 rfl rfl ?_
      refine a_callVir C 0 [0, 1, 2] 0 cs_X5_34 hd_X0_lines ⟨rfl, rfl⟩ ⟨Nat.le_of_ble_eq_true rfl, Nat.le_of_ble_eq_true rfl⟩ (fun r h => c_X0_lines l D J kc ki kb kl kd o0 o0_letters o0_sizes o0_lettersF o0_sizesF o0_lines r h) rfl rfl rfl rfl rfl rfl (Nat.le_of_ble_eq_true rfl) dX5_countWord_6 ⟨Nat.zero_le _, Nat.zero_le _⟩ hF (fun r6_1 er6_1 hF => ?_)
      refine a_ic_ge C (tgt := 51) dX5_countWord_9 (by decide) hF (fun c9_2 hF => ?_) (fun c9_2 hF => ?_)
      · refine a_sub C [2] [(2, .int x2)] rfl ?_
        exact hX x2 x3 hF
      refine a_iconst C (v := 0) dX5_countWord_12 (by decide) ?_
      refine a_istore C [(4, .int 0), (0, .ref o0), (1, .ref o1), (2, .int x2), (3, .int x3)] dX5_countWord_13 (by decide) rfl ?_
      refine a_sub C [1, 2, 3, 4, 0] [(0, .ref o0), (1, .ref o1), (2, .int x2), (3, .int x3), (4, .int 0)] rfl ?_
      refine hI15 x3 1000 x2 0 _ hF (fun x2_15_7 x4_15_8 hF => ?_)
      refine a_iinc C 3 [(3, .int (x3 + 1)), (0, .ref o0), (1, .ref o1), (2, .int x2_15_7)] dX5_countWord_45 rfl rfl (by decide) rfl ?_
      refine a_goto C (tgt := 4) dX5_countWord_48 (by decide) ?_
      refine a_sub C [1, 2, 3, 0] [(0, .ref o0), (1, .ref o1), (2, .int x2_15_7), (3, .int (x3 + 1))] rfl ?_
      exact ih x2_15_7 (x3 + 1) k hF hX
  unfold f_X5_countWord at hF
  refine a_iconst C (v := 0) dX5_countWord_0 (by decide) ?_
  refine a_istore_n C [(2, .int 0), (0, .ref o0), (1, .ref o1)] dX5_countWord_1 rfl (by decide) rfl ?_
  refine a_iconst C (v := 0) dX5_countWord_2 (by decide) ?_
  refine a_istore_n C [(3, .int 0), (2, .int 0), (0, .ref o0), (1, .ref o1)] dX5_countWord_3 rfl (by decide) rfl ?_
  refine a_sub C [2, 3, 1, 0] [(0, .ref o0), (1, .ref o1), (2, .int 0), (3, .int 0)] rfl ?_
  refine hI4 1000 0 0 _ hF (fun x2_4_9 x3_4_10 hF => ?_)
  refine a_iload_n C 0 dX5_countWord_51 rfl rfl ?_
  exact a_iret C hr rfl dX5_countWord_52 hF rfl rfl
def f_X5_isWordALine_L2 (o0_lettersF : Nat → Int32) (o0_sizesF : Nat → Int32) (o0_lines : Int32) (o1_charactersF : Nat → Int32) (o1_length : Int32) : Nat → Int32 → (Int32 → Option Int32) → Option Int32
  | 0, _, _ => none
  | fuel + 1, x2, k => (f_X0_lines o0_lines).bind fun r4_1 => if r4_1 ≤ x2 then (k x2) else ((f_X0_size o0_sizesF o0_lines x2).bind fun r12_3 => (f_X7_length o1_length).bind fun r16_4 => if ¬ r12_3 = r16_4 then (f_X5_isWordALine_L2 o0_lettersF o0_sizesF o0_lines o1_charactersF o1_length fuel (x2 + 1) k) else ((f_X5_compareToWord o0_lettersF o0_sizesF o0_lines o1_charactersF o1_length x2 0).bind fun r26_6 => if ¬ r26_6 = 0 then (f_X5_isWordALine_L2 o0_lettersF o0_sizesF o0_lines o1_charactersF o1_length fuel (x2 + 1) k) else (some 1)))
def f_X5_isWordALine (o0_lettersF : Nat → Int32) (o0_sizesF : Nat → Int32) (o0_lines : Int32) (o1_charactersF : Nat → Int32) (o1_length : Int32) : Option Int32 := f_X5_isWordALine_L2 o0_lettersF o0_sizesF o0_lines o1_charactersF o1_length 1000 0 (fun x2_2_8 => some 0)
theorem hd_X5_isWordALine : yX5_isWordALine.cls ≠ "java/lang/invoke/MethodHandle" ∧ yX5_isWordALine.cls ≠ "java/lang/invoke/VarHandle" ∧ (parseMethodDescriptor yX5_isWordALine.desc).map (fun d => d.parameters.length) = some 2 := by decide +kernel
set_option maxRecDepth 100000 in
set_option maxHeartbeats 4000000 in
theorem c_X5_isWordALine (l : Launch) (D : va_G) (J : JT) (kc ki kb kl kd : ClassId) (o0 : Nat) (o0_letters : Nat) (o0_sizes : Nat) (o1 : Nat) (o1_characters : Nat) (o0_lettersF : Nat → Int32) (o0_sizesF : Nat → Int32) (o0_lines : Int32) (o1_charactersF : Nat → Int32) (o1_length : Int32) (res : Int32) (hF : f_X5_isWordALine o0_lettersF o0_sizesF o0_lines o1_charactersF o1_length = some res) : aKi l yX5_isWordALine (aW yX5_isWordALine cX5_isWordALine 3 ((some .boolean))) ({ frames := 3, cells := 0, slots := 0, locals := 69 } : Room) D J (aTy kc ki kb kl kd) [.ref o0, .ref o1] (wX0 kc ki o0 o0_letters o0_sizes o0_lettersF o0_sizesF o0_lines ++ wX7 kc o1 o1_characters o1_charactersF o1_length) (fun r => r) (fun _ => wX0 kc ki o0 o0_letters o0_sizes o0_lettersF o0_sizesF o0_lines ++ wX7 kc o1 o1_characters o1_charactersF o1_length) res := by
  refine aKi_of (own := RX5) (by decide) rfl (Nat.le_of_ble_eq_true rfl) rfl ?_
  intro p e s m args below meth c C hr
  have hI2 : ∀ (fuel : Nat) (x2 : Int32) (k : Int32 → Option Int32), f_X5_isWordALine_L2 o0_lettersF o0_sizesF o0_lines o1_charactersF o1_length fuel x2 k = some res → (∀ (x2 : Int32), k x2 = some res → aT p l e ({ frames := 3, cells := 0, slots := 0, locals := 69 } : Room) s m args below meth c (MQ below (aQi D (wX0 kc ki o0 o0_letters o0_sizes o0_lettersF o0_sizesF o0_lines ++ wX7 kc o1 o1_characters o1_charactersF o1_length) s.heap.size (fun r => r) (fun _ => wX0 kc ki o0 o0_letters o0_sizes o0_lettersF o0_sizesF o0_lines ++ wX7 kc o1 o1_characters o1_charactersF o1_length) res) args s 0 0 (va_A (wX0 kc ki o0 o0_letters o0_sizes o0_lettersF o0_sizesF o0_lines ++ wX7 kc o1 o1_characters o1_charactersF o1_length) s.heap.size)) D (va_A (wX0 kc ki o0 o0_letters o0_sizes o0_lettersF o0_sizesF o0_lines ++ wX7 kc o1 o1_characters o1_charactersF o1_length) s.heap.size) 3 0 0 40 [] [] (wX0 kc ki o0 o0_letters o0_sizes o0_lettersF o0_sizesF o0_lines ++ wX7 kc o1 o1_characters o1_charactersF o1_length)) → aT p l e ({ frames := 3, cells := 0, slots := 0, locals := 69 } : Room) s m args below meth c (MQ below (aQi D (wX0 kc ki o0 o0_letters o0_sizes o0_lettersF o0_sizesF o0_lines ++ wX7 kc o1 o1_characters o1_charactersF o1_length) s.heap.size (fun r => r) (fun _ => wX0 kc ki o0 o0_letters o0_sizes o0_lettersF o0_sizesF o0_lines ++ wX7 kc o1 o1_characters o1_charactersF o1_length) res) args s 0 0 (va_A (wX0 kc ki o0 o0_letters o0_sizes o0_lettersF o0_sizesF o0_lines ++ wX7 kc o1 o1_characters o1_charactersF o1_length) s.heap.size)) D (va_A (wX0 kc ki o0 o0_letters o0_sizes o0_lettersF o0_sizesF o0_lines ++ wX7 kc o1 o1_characters o1_charactersF o1_length) s.heap.size) 3 0 0 2 [(0, .ref o0), (1, .ref o1), (2, .int x2)] [] (wX0 kc ki o0 o0_letters o0_sizes o0_lettersF o0_sizesF o0_lines ++ wX7 kc o1 o1_characters o1_charactersF o1_length) := by
    intro fuel
    induction fuel with
    | zero => intro x2 k hF hX; exact nomatch hF
    | succ fuel ih =>
      intro x2 k hF hX
      rw [f_X5_isWordALine_L2] at hF
      refine a_iload_n C 2 dX5_isWordALine_2 rfl rfl ?_
      refine a_aload_n C 0 dX5_isWordALine_3 rfl rfl ?_
      refine a_callVir C 0 [0, 1, 2] 0 cs_X5_34 hd_X0_lines ⟨rfl, rfl⟩ ⟨Nat.le_of_ble_eq_true rfl, Nat.le_of_ble_eq_true rfl⟩ (fun r h => c_X0_lines l D J kc ki kb kl kd o0 o0_letters o0_sizes o0_lettersF o0_sizesF o0_lines r h) rfl rfl rfl rfl rfl rfl (Nat.le_of_ble_eq_true rfl) dX5_isWordALine_4 ⟨Nat.zero_le _, Nat.zero_le _⟩ hF (fun r4_1 er4_1 hF => ?_)
      refine a_ic_ge C (tgt := 40) dX5_isWordALine_7 (by decide) hF (fun c7_2 hF => ?_) (fun c7_2 hF => ?_)
      · refine a_sub C [] [] rfl ?_
        exact hX x2 hF
      refine a_aload_n C 0 dX5_isWordALine_10 rfl rfl ?_
      refine a_iload_n C 2 dX5_isWordALine_11 rfl rfl ?_
      refine a_callVir C 1 [0, 1, 2] 0 cs_X5_9 hd_X0_size ⟨rfl, rfl⟩ ⟨Nat.le_of_ble_eq_true rfl, Nat.le_of_ble_eq_true rfl⟩ (fun r h => c_X0_size l D J kc ki kb kl kd o0 o0_letters o0_sizes o0_lettersF o0_sizesF o0_lines x2 r h) rfl rfl rfl rfl rfl rfl (Nat.le_of_ble_eq_true rfl) dX5_isWordALine_12 ⟨Nat.zero_le _, Nat.zero_le _⟩ hF (fun r12_3 er12_3 hF => ?_)
      refine a_aload_n C 1 dX5_isWordALine_15 rfl rfl ?_
      refine a_callVir C 0 [3, 4] 3 cs_X5_49 hd_X7_length ⟨rfl, rfl⟩ ⟨Nat.le_of_ble_eq_true rfl, Nat.le_of_ble_eq_true rfl⟩ (fun r h => c_X7_length l D J kc ki kb kl kd o1 o1_characters o1_charactersF o1_length r h) rfl rfl rfl rfl rfl rfl (Nat.le_of_ble_eq_true rfl) dX5_isWordALine_16 ⟨Nat.zero_le _, Nat.zero_le _⟩ hF (fun r16_4 er16_4 hF => ?_)
      refine a_ic_ne C (tgt := 34) dX5_isWordALine_19 (by decide) hF (fun c19_5 hF => ?_) (fun c19_5 hF => ?_)
      · refine a_iinc C 2 [(2, .int (x2 + 1)), (0, .ref o0), (1, .ref o1)] dX5_isWordALine_34 rfl rfl (by decide) rfl ?_
        refine a_goto C (tgt := 2) dX5_isWordALine_37 (by decide) ?_
        refine a_sub C [1, 2, 0] [(0, .ref o0), (1, .ref o1), (2, .int (x2 + 1))] rfl ?_
        exact ih (x2 + 1) k hF hX
      refine a_aload_n C 0 dX5_isWordALine_22 rfl rfl ?_
      refine a_iload_n C 2 dX5_isWordALine_23 rfl rfl ?_
      refine a_iconst C (v := 0) dX5_isWordALine_24 (by decide) ?_
      refine a_aload_n C 1 dX5_isWordALine_25 rfl rfl ?_
      refine a_callSir C 4 [0, 1, 2, 3, 4] cs_X5_45 hd_X5_compareToWord ⟨rfl, rfl⟩ ⟨Nat.le_of_ble_eq_true rfl, Nat.le_of_ble_eq_true rfl⟩ (fun r h => c_X5_compareToWord l D J kc ki kb kl kd o0 o0_letters o0_sizes o1 o1_characters o0_lettersF o0_sizesF o0_lines o1_charactersF o1_length x2 0 r h) rfl rfl rfl rfl (Nat.le_of_ble_eq_true rfl) dX5_isWordALine_26 ⟨Nat.zero_le _, Nat.zero_le _⟩ hF (fun r26_6 er26_6 hF => ?_)
      refine a_if_ne C (tgt := 34) dX5_isWordALine_29 (by decide) hF (fun c29_7 hF => ?_) (fun c29_7 hF => ?_)
      · refine a_iinc C 2 [(2, .int (x2 + 1)), (0, .ref o0), (1, .ref o1)] dX5_isWordALine_34 rfl rfl (by decide) rfl ?_
        refine a_goto C (tgt := 2) dX5_isWordALine_37 (by decide) ?_
        refine a_sub C [1, 2, 0] [(0, .ref o0), (1, .ref o1), (2, .int (x2 + 1))] rfl ?_
        exact ih (x2 + 1) k hF hX
      refine a_iconst C (v := 1) dX5_isWordALine_32 (by decide) ?_
      exact a_iret C hr rfl dX5_isWordALine_33 hF rfl rfl
  unfold f_X5_isWordALine at hF
  refine a_iconst C (v := 0) dX5_isWordALine_0 (by decide) ?_
  refine a_istore_n C [(2, .int 0), (0, .ref o0), (1, .ref o1)] dX5_isWordALine_1 rfl (by decide) rfl ?_
  refine a_sub C [1, 2, 0] [(0, .ref o0), (1, .ref o1), (2, .int 0)] rfl ?_
  refine hI2 1000 0 _ hF (fun x2_2_8 hF => ?_)
  refine a_iconst C (v := 0) dX5_isWordALine_40 (by decide) ?_
  exact a_iret C hr rfl dX5_isWordALine_41 hF rfl rfl
