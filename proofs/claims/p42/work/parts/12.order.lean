def f_X3_endings (t_endings : Int32) : Option Int32 := some t_endings
theorem hd_X3_endings : yX3_endings.cls = RX3 ∧ yX3_endings.cls ≠ "java/lang/invoke/MethodHandle" ∧ yX3_endings.cls ≠ "java/lang/invoke/VarHandle" ∧ (parseMethodDescriptor yX3_endings.desc).map (fun d => d.parameters.length) = some 0 := by decide +kernel
set_option maxRecDepth 100000 in
set_option maxHeartbeats 4000000 in
theorem c_X3_endings (l : Launch) (D : va_G) (J : JT) (kc ki kb kl kd : ClassId) (t : Nat) (t_lines : Nat) (t_places : Nat) (t_commons : Nat) (t_linesF : Nat → Int32) (t_placesF : Nat → Int32) (t_commonsF : Nat → Int32) (t_endings : Int32) (res : Int32) (hF : f_X3_endings t_endings = some res) : aKi l yX3_endings (aW yX3_endings cX3_endings 1 ((some .int))) ({ frames := 0, cells := 0, slots := 0, locals := 0 } : Room) D J (aTy kc ki kb kl kd) [.ref t] (wX3 ki t t_lines t_places t_commons t_linesF t_placesF t_commonsF t_endings) (fun r => r) (fun _ => wX3 ki t t_lines t_places t_commons t_linesF t_placesF t_commonsF t_endings) res := by
  refine aKi_of (own := RX3) (by decide) rfl (Nat.le_of_ble_eq_true rfl) rfl ?_
  intro p e s m args below meth c C hr
  unfold f_X3_endings at hF
  refine a_aload_n C 0 dX3_endings_0 rfl rfl ?_
  refine a_get C 0 3 iwX3 rfl rfl (by decide) kf_X3_21 rfl dX3_endings_1 ?_
  exact a_iret C hr rfl dX3_endings_4 hF rfl rfl
def f_X3_hasRank (t_endings : Int32) (p1 : Int32) : Option Int32 := if p1 < 0 then (some 0) else (if t_endings ≤ p1 then (some 0) else (some 1))
theorem hd_X3_hasRank : yX3_hasRank.cls = RX3 ∧ yX3_hasRank.cls ≠ "java/lang/invoke/MethodHandle" ∧ yX3_hasRank.cls ≠ "java/lang/invoke/VarHandle" ∧ (parseMethodDescriptor yX3_hasRank.desc).map (fun d => d.parameters.length) = some 1 := by decide +kernel
set_option maxRecDepth 100000 in
set_option maxHeartbeats 4000000 in
theorem c_X3_hasRank (l : Launch) (D : va_G) (J : JT) (kc ki kb kl kd : ClassId) (t : Nat) (t_lines : Nat) (t_places : Nat) (t_commons : Nat) (t_linesF : Nat → Int32) (t_placesF : Nat → Int32) (t_commonsF : Nat → Int32) (t_endings : Int32) (p1 : Int32) (res : Int32) (hF : f_X3_hasRank t_endings p1 = some res) : aKi l yX3_hasRank (aW yX3_hasRank cX3_hasRank 2 ((some .boolean))) ({ frames := 0, cells := 0, slots := 0, locals := 0 } : Room) D J (aTy kc ki kb kl kd) [.ref t, .int p1] (wX3 ki t t_lines t_places t_commons t_linesF t_placesF t_commonsF t_endings) (fun r => r) (fun _ => wX3 ki t t_lines t_places t_commons t_linesF t_placesF t_commonsF t_endings) res := by
  refine aKi_of (own := RX3) (by decide) rfl (Nat.le_of_ble_eq_true rfl) rfl ?_
  intro p e s m args below meth c C hr
  unfold f_X3_hasRank at hF
  refine a_iload_n C 1 dX3_hasRank_0 rfl rfl ?_
  refine a_if_lt C (tgt := 16) dX3_hasRank_1 (by decide) hF (fun c1_1 hF => ?_) (fun c1_1 hF => ?_)
  · refine a_iconst C (v := 0) dX3_hasRank_16 (by decide) ?_
    exact a_iret C hr rfl dX3_hasRank_17 hF rfl rfl
  refine a_iload_n C 1 dX3_hasRank_4 rfl rfl ?_
  refine a_aload_n C 0 dX3_hasRank_5 rfl rfl ?_
  refine a_get C 0 3 iwX3 rfl rfl (by decide) kf_X3_21 rfl dX3_hasRank_6 ?_
  refine a_ic_ge C (tgt := 16) dX3_hasRank_9 (by decide) hF (fun c9_2 hF => ?_) (fun c9_2 hF => ?_)
  · refine a_iconst C (v := 0) dX3_hasRank_16 (by decide) ?_
    exact a_iret C hr rfl dX3_hasRank_17 hF rfl rfl
  refine a_iconst C (v := 1) dX3_hasRank_12 (by decide) ?_
  refine a_goto C (tgt := 17) dX3_hasRank_13 (by decide) ?_
  exact a_iret C hr rfl dX3_hasRank_17 hF rfl rfl
theorem cs_X3_25 : GoodIn WW (wsV RX3 25 RX3 yX3_hasRank (aW yX3_hasRank cX3_hasRank 2 ((some .boolean)))) := gdV kl_X3_25 ki_X3_hasRank kv_X3_hasRank kn_X3 kc_X3_hasRank
def f_X3_lineAt (t_linesF : Nat → Int32) (t_endings : Int32) (p1 : Int32) : Option Int32 := (f_X3_hasRank t_endings p1).bind fun r2_1 => if r2_1 = 0 then (some 0) else ((ldi t_linesF 80 p1).bind fun v13_3 => some v13_3)
theorem hd_X3_lineAt : yX3_lineAt.cls = RX3 ∧ yX3_lineAt.cls ≠ "java/lang/invoke/MethodHandle" ∧ yX3_lineAt.cls ≠ "java/lang/invoke/VarHandle" ∧ (parseMethodDescriptor yX3_lineAt.desc).map (fun d => d.parameters.length) = some 1 := by decide +kernel
set_option maxRecDepth 100000 in
set_option maxHeartbeats 4000000 in
theorem c_X3_lineAt (l : Launch) (D : va_G) (J : JT) (kc ki kb kl kd : ClassId) (t : Nat) (t_lines : Nat) (t_places : Nat) (t_commons : Nat) (t_linesF : Nat → Int32) (t_placesF : Nat → Int32) (t_commonsF : Nat → Int32) (t_endings : Int32) (p1 : Int32) (res : Int32) (hF : f_X3_lineAt t_linesF t_endings p1 = some res) : aKi l yX3_lineAt (aW yX3_lineAt cX3_lineAt 2 ((some .int))) ({ frames := 1, cells := 0, slots := 0, locals := 21 } : Room) D J (aTy kc ki kb kl kd) [.ref t, .int p1] (wX3 ki t t_lines t_places t_commons t_linesF t_placesF t_commonsF t_endings) (fun r => r) (fun _ => wX3 ki t t_lines t_places t_commons t_linesF t_placesF t_commonsF t_endings) res := by
  refine aKi_of (own := RX3) (by decide) rfl (Nat.le_of_ble_eq_true rfl) rfl ?_
  intro p e s m args below meth c C hr
  unfold f_X3_lineAt at hF
  refine a_aload_n C 0 dX3_lineAt_0 rfl rfl ?_
  refine a_iload_n C 1 dX3_lineAt_1 rfl rfl ?_
  refine a_callVir C 1 [0, 1, 2, 3] 0 cs_X3_25 hd_X3_hasRank ⟨rfl, rfl⟩ ⟨Nat.le_of_ble_eq_true rfl, Nat.le_of_ble_eq_true rfl⟩ (fun r h => c_X3_hasRank l D J kc ki kb kl kd t t_lines t_places t_commons t_linesF t_placesF t_commonsF t_endings p1 r h) rfl rfl rfl rfl rfl rfl (Nat.le_of_ble_eq_true rfl) dX3_lineAt_2 ⟨Nat.zero_le _, Nat.zero_le _⟩ hF (fun r2_1 er2_1 hF => ?_)
  refine a_if_eq C (tgt := 17) dX3_lineAt_5 (by decide) hF (fun c5_2 hF => ?_) (fun c5_2 hF => ?_)
  · refine a_iconst C (v := 0) dX3_lineAt_17 (by decide) ?_
    exact a_iret C hr rfl dX3_lineAt_18 hF rfl rfl
  refine a_aload_n C 0 dX3_lineAt_8 rfl rfl ?_
  refine a_get C 0 0 iwX3 rfl rfl (by decide) kf_X3_9 rfl dX3_lineAt_9 ?_
  refine a_iload_n C 1 dX3_lineAt_12 rfl rfl ?_
  refine a_iald C 1 1 rfl rfl dX3_lineAt_13 hF (fun v13_3 ev13_3 hF => ?_)
  refine a_goto C (tgt := 18) dX3_lineAt_14 (by decide) ?_
  exact a_iret C hr rfl dX3_lineAt_18 hF rfl rfl
def f_X3_placeAt (t_placesF : Nat → Int32) (t_endings : Int32) (p1 : Int32) : Option Int32 := (f_X3_hasRank t_endings p1).bind fun r2_1 => if r2_1 = 0 then (some 0) else ((ldi t_placesF 80 p1).bind fun v13_3 => some v13_3)
theorem hd_X3_placeAt : yX3_placeAt.cls = RX3 ∧ yX3_placeAt.cls ≠ "java/lang/invoke/MethodHandle" ∧ yX3_placeAt.cls ≠ "java/lang/invoke/VarHandle" ∧ (parseMethodDescriptor yX3_placeAt.desc).map (fun d => d.parameters.length) = some 1 := by decide +kernel
set_option maxRecDepth 100000 in
set_option maxHeartbeats 4000000 in
theorem c_X3_placeAt (l : Launch) (D : va_G) (J : JT) (kc ki kb kl kd : ClassId) (t : Nat) (t_lines : Nat) (t_places : Nat) (t_commons : Nat) (t_linesF : Nat → Int32) (t_placesF : Nat → Int32) (t_commonsF : Nat → Int32) (t_endings : Int32) (p1 : Int32) (res : Int32) (hF : f_X3_placeAt t_placesF t_endings p1 = some res) : aKi l yX3_placeAt (aW yX3_placeAt cX3_placeAt 2 ((some .int))) ({ frames := 1, cells := 0, slots := 0, locals := 21 } : Room) D J (aTy kc ki kb kl kd) [.ref t, .int p1] (wX3 ki t t_lines t_places t_commons t_linesF t_placesF t_commonsF t_endings) (fun r => r) (fun _ => wX3 ki t t_lines t_places t_commons t_linesF t_placesF t_commonsF t_endings) res := by
  refine aKi_of (own := RX3) (by decide) rfl (Nat.le_of_ble_eq_true rfl) rfl ?_
  intro p e s m args below meth c C hr
  unfold f_X3_placeAt at hF
  refine a_aload_n C 0 dX3_placeAt_0 rfl rfl ?_
  refine a_iload_n C 1 dX3_placeAt_1 rfl rfl ?_
  refine a_callVir C 1 [0, 1, 2, 3] 0 cs_X3_25 hd_X3_hasRank ⟨rfl, rfl⟩ ⟨Nat.le_of_ble_eq_true rfl, Nat.le_of_ble_eq_true rfl⟩ (fun r h => c_X3_hasRank l D J kc ki kb kl kd t t_lines t_places t_commons t_linesF t_placesF t_commonsF t_endings p1 r h) rfl rfl rfl rfl rfl rfl (Nat.le_of_ble_eq_true rfl) dX3_placeAt_2 ⟨Nat.zero_le _, Nat.zero_le _⟩ hF (fun r2_1 er2_1 hF => ?_)
  refine a_if_eq C (tgt := 17) dX3_placeAt_5 (by decide) hF (fun c5_2 hF => ?_) (fun c5_2 hF => ?_)
  · refine a_iconst C (v := 0) dX3_placeAt_17 (by decide) ?_
    exact a_iret C hr rfl dX3_placeAt_18 hF rfl rfl
  refine a_aload_n C 0 dX3_placeAt_8 rfl rfl ?_
  refine a_get C 0 1 iwX3 rfl rfl (by decide) kf_X3_15 rfl dX3_placeAt_9 ?_
  refine a_iload_n C 1 dX3_placeAt_12 rfl rfl ?_
  refine a_iald C 2 1 rfl rfl dX3_placeAt_13 hF (fun v13_3 ev13_3 hF => ?_)
  refine a_goto C (tgt := 18) dX3_placeAt_14 (by decide) ?_
  exact a_iret C hr rfl dX3_placeAt_18 hF rfl rfl
def f_X3_commonAt (t_commonsF : Nat → Int32) (t_endings : Int32) (p1 : Int32) : Option Int32 := (f_X3_hasRank t_endings p1).bind fun r2_1 => if r2_1 = 0 then (some 0) else ((ldi t_commonsF 80 p1).bind fun v13_3 => some v13_3)
theorem hd_X3_commonAt : yX3_commonAt.cls = RX3 ∧ yX3_commonAt.cls ≠ "java/lang/invoke/MethodHandle" ∧ yX3_commonAt.cls ≠ "java/lang/invoke/VarHandle" ∧ (parseMethodDescriptor yX3_commonAt.desc).map (fun d => d.parameters.length) = some 1 := by decide +kernel
set_option maxRecDepth 100000 in
set_option maxHeartbeats 4000000 in
theorem c_X3_commonAt (l : Launch) (D : va_G) (J : JT) (kc ki kb kl kd : ClassId) (t : Nat) (t_lines : Nat) (t_places : Nat) (t_commons : Nat) (t_linesF : Nat → Int32) (t_placesF : Nat → Int32) (t_commonsF : Nat → Int32) (t_endings : Int32) (p1 : Int32) (res : Int32) (hF : f_X3_commonAt t_commonsF t_endings p1 = some res) : aKi l yX3_commonAt (aW yX3_commonAt cX3_commonAt 2 ((some .int))) ({ frames := 1, cells := 0, slots := 0, locals := 21 } : Room) D J (aTy kc ki kb kl kd) [.ref t, .int p1] (wX3 ki t t_lines t_places t_commons t_linesF t_placesF t_commonsF t_endings) (fun r => r) (fun _ => wX3 ki t t_lines t_places t_commons t_linesF t_placesF t_commonsF t_endings) res := by
  refine aKi_of (own := RX3) (by decide) rfl (Nat.le_of_ble_eq_true rfl) rfl ?_
  intro p e s m args below meth c C hr
  unfold f_X3_commonAt at hF
  refine a_aload_n C 0 dX3_commonAt_0 rfl rfl ?_
  refine a_iload_n C 1 dX3_commonAt_1 rfl rfl ?_
  refine a_callVir C 1 [0, 1, 2, 3] 0 cs_X3_25 hd_X3_hasRank ⟨rfl, rfl⟩ ⟨Nat.le_of_ble_eq_true rfl, Nat.le_of_ble_eq_true rfl⟩ (fun r h => c_X3_hasRank l D J kc ki kb kl kd t t_lines t_places t_commons t_linesF t_placesF t_commonsF t_endings p1 r h) rfl rfl rfl rfl rfl rfl (Nat.le_of_ble_eq_true rfl) dX3_commonAt_2 ⟨Nat.zero_le _, Nat.zero_le _⟩ hF (fun r2_1 er2_1 hF => ?_)
  refine a_if_eq C (tgt := 17) dX3_commonAt_5 (by decide) hF (fun c5_2 hF => ?_) (fun c5_2 hF => ?_)
  · refine a_iconst C (v := 0) dX3_commonAt_17 (by decide) ?_
    exact a_iret C hr rfl dX3_commonAt_18 hF rfl rfl
  refine a_aload_n C 0 dX3_commonAt_8 rfl rfl ?_
  refine a_get C 0 2 iwX3 rfl rfl (by decide) kf_X3_18 rfl dX3_commonAt_9 ?_
  refine a_iload_n C 1 dX3_commonAt_12 rfl rfl ?_
  refine a_iald C 3 1 rfl rfl dX3_commonAt_13 hF (fun v13_3 ev13_3 hF => ?_)
  refine a_goto C (tgt := 18) dX3_commonAt_14 (by decide) ?_
  exact a_iret C hr rfl dX3_commonAt_18 hF rfl rfl
theorem cs_X3_50 : GoodIn WW (wsV RX3 50 RX3 yX3_lineAt (aW yX3_lineAt cX3_lineAt 2 ((some .int)))) := gdV kl_X3_50 ki_X3_lineAt kv_X3_lineAt kn_X3 kc_X3_lineAt
theorem cs_X3_53 : GoodIn WW (wsV RX3 53 RX3 yX3_placeAt (aW yX3_placeAt cX3_placeAt 2 ((some .int)))) := gdV kl_X3_53 ki_X3_placeAt kv_X3_placeAt kn_X3 kc_X3_placeAt
theorem cs_X3_56 : GoodIn WW (wsV RX3 56 RX0 yX0_comesBefore (aW yX0_comesBefore cX0_comesBefore 8 ((some .boolean)))) := gdV kl_X3_56 ki_X0_comesBefore kv_X0_comesBefore kn_X0 kc_X0_comesBefore
def f_X3_rankToTake_L12 (p2 : Int32) (p3 : Int32) (t_linesF : Nat → Int32) (t_placesF : Nat → Int32) (t_endings : Int32) (o1_lettersF : Nat → Int32) (o1_sizesF : Nat → Int32) (o1_lines : Int32) : Nat → Int32 → Int32 → Int32 → (Int32 → Int32 → Int32 → Option Int32) → Option Int32
  | 0, _, _, _, _ => none
  | fuel + 1, x4, x5, x6, k => if 100 ≤ x6 then (k x4 x5 x6) else (if x5 ≤ x4 then (k x4 x5 x6) else ((f_X3_lineAt t_linesF t_endings ((x4 + x5) / 2)).bind fun r39_3 => (f_X3_placeAt t_placesF t_endings ((x4 + x5) / 2)).bind fun r45_4 => (f_X0_comesBefore o1_lettersF o1_sizesF o1_lines r39_3 r45_4 p2 p3).bind fun r50_5 => if r50_5 = 0 then (f_X3_rankToTake_L12 p2 p3 t_linesF t_placesF t_endings o1_lettersF o1_sizesF o1_lines fuel x4 ((x4 + x5) / 2) (x6 + 1) k) else (f_X3_rankToTake_L12 p2 p3 t_linesF t_placesF t_endings o1_lettersF o1_sizesF o1_lines fuel (((x4 + x5) / 2) + 1) x5 (x6 + 1) k)))
def f_X3_rankToTake (t_linesF : Nat → Int32) (t_placesF : Nat → Int32) (t_endings : Int32) (o1_lettersF : Nat → Int32) (o1_sizesF : Nat → Int32) (o1_lines : Int32) (p2 : Int32) (p3 : Int32) : Option Int32 := f_X3_rankToTake_L12 p2 p3 t_linesF t_placesF t_endings o1_lettersF o1_sizesF o1_lines 1000 0 t_endings 0 (fun x4_12_7 x5_12_8 x6_12_9 => some x4_12_7)
theorem hd_X3_rankToTake : yX3_rankToTake.cls = RX3 ∧ yX3_rankToTake.cls ≠ "java/lang/invoke/MethodHandle" ∧ yX3_rankToTake.cls ≠ "java/lang/invoke/VarHandle" ∧ (parseMethodDescriptor yX3_rankToTake.desc).map (fun d => d.parameters.length) = some 3 := by decide +kernel
set_option maxRecDepth 100000 in
set_option maxHeartbeats 4000000 in
theorem c_X3_rankToTake (l : Launch) (D : va_G) (J : JT) (kc ki kb kl kd : ClassId) (t : Nat) (t_lines : Nat) (t_places : Nat) (t_commons : Nat) (o1 : Nat) (o1_letters : Nat) (o1_sizes : Nat) (t_linesF : Nat → Int32) (t_placesF : Nat → Int32) (t_commonsF : Nat → Int32) (t_endings : Int32) (o1_lettersF : Nat → Int32) (o1_sizesF : Nat → Int32) (o1_lines : Int32) (p2 p3 : Int32) (res : Int32) (hF : f_X3_rankToTake t_linesF t_placesF t_endings o1_lettersF o1_sizesF o1_lines p2 p3 = some res) : aKi l yX3_rankToTake (aW yX3_rankToTake cX3_rankToTake 8 ((some .int))) ({ frames := 3, cells := 0, slots := 0, locals := 71 } : Room) D J (aTy kc ki kb kl kd) [.ref t, .ref o1, .int p2, .int p3] (wX3 ki t t_lines t_places t_commons t_linesF t_placesF t_commonsF t_endings ++ wX0 kc ki o1 o1_letters o1_sizes o1_lettersF o1_sizesF o1_lines) (fun r => r) (fun _ => wX3 ki t t_lines t_places t_commons t_linesF t_placesF t_commonsF t_endings ++ wX0 kc ki o1 o1_letters o1_sizes o1_lettersF o1_sizesF o1_lines) res := by
  refine aKi_of (own := RX3) (by decide) rfl (Nat.le_of_ble_eq_true rfl) rfl ?_
  intro p e s m args below meth c C hr
  have hI12 : ∀ (fuel : Nat) (x4 : Int32) (x5 : Int32) (x6 : Int32) (k : Int32 → Int32 → Int32 → Option Int32), f_X3_rankToTake_L12 p2 p3 t_linesF t_placesF t_endings o1_lettersF o1_sizesF o1_lines fuel x4 x5 x6 k = some res → (∀ (x4 : Int32) (x5 : Int32) (x6 : Int32), k x4 x5 x6 = some res → aT p l e ({ frames := 3, cells := 0, slots := 0, locals := 71 } : Room) s m args below meth c (MQ below (aQi D (wX3 ki t t_lines t_places t_commons t_linesF t_placesF t_commonsF t_endings ++ wX0 kc ki o1 o1_letters o1_sizes o1_lettersF o1_sizesF o1_lines) s.heap.size (fun r => r) (fun _ => wX3 ki t t_lines t_places t_commons t_linesF t_placesF t_commonsF t_endings ++ wX0 kc ki o1 o1_letters o1_sizes o1_lettersF o1_sizesF o1_lines) res) args s 0 0 (va_A (wX3 ki t t_lines t_places t_commons t_linesF t_placesF t_commonsF t_endings ++ wX0 kc ki o1 o1_letters o1_sizes o1_lettersF o1_sizesF o1_lines) s.heap.size)) D (va_A (wX3 ki t t_lines t_places t_commons t_linesF t_placesF t_commonsF t_endings ++ wX0 kc ki o1 o1_letters o1_sizes o1_lettersF o1_sizesF o1_lines) s.heap.size) 8 0 0 75 [(4, .int x4)] [] (wX3 ki t t_lines t_places t_commons t_linesF t_placesF t_commonsF t_endings ++ wX0 kc ki o1 o1_letters o1_sizes o1_lettersF o1_sizesF o1_lines)) → aT p l e ({ frames := 3, cells := 0, slots := 0, locals := 71 } : Room) s m args below meth c (MQ below (aQi D (wX3 ki t t_lines t_places t_commons t_linesF t_placesF t_commonsF t_endings ++ wX0 kc ki o1 o1_letters o1_sizes o1_lettersF o1_sizesF o1_lines) s.heap.size (fun r => r) (fun _ => wX3 ki t t_lines t_places t_commons t_linesF t_placesF t_commonsF t_endings ++ wX0 kc ki o1 o1_letters o1_sizes o1_lettersF o1_sizesF o1_lines) res) args s 0 0 (va_A (wX3 ki t t_lines t_places t_commons t_linesF t_placesF t_commonsF t_endings ++ wX0 kc ki o1 o1_letters o1_sizes o1_lettersF o1_sizesF o1_lines) s.heap.size)) D (va_A (wX3 ki t t_lines t_places t_commons t_linesF t_placesF t_commonsF t_endings ++ wX0 kc ki o1 o1_letters o1_sizes o1_lettersF o1_sizesF o1_lines) s.heap.size) 8 0 0 12 [(0, .ref t), (1, .ref o1), (2, .int p2), (3, .int p3), (4, .int x4), (5, .int x5), (6, .int x6)] [] (wX3 ki t t_lines t_places t_commons t_linesF t_placesF t_commonsF t_endings ++ wX0 kc ki o1 o1_letters o1_sizes o1_lettersF o1_sizesF o1_lines) := by
    intro fuel
    induction fuel with
    | zero => intro x4 x5 x6 k hF hX; exact nomatch hF
    | succ fuel ih =>
      intro x4 x5 x6 k hF hX
      rw [f_X3_rankToTake_L12] at hF
      refine a_iload C 6 dX3_rankToTake_12 rfl ?_
      refine a_bipush C (v := 100) dX3_rankToTake_14 (by decide) ?_
      refine a_ic_ge C (tgt := 75) dX3_rankToTake_16 (by decide) hF (fun c16_1 hF => ?_) (fun c16_1 hF => ?_)
      · refine a_sub C [4] [(4, .int x4)] rfl ?_
        exact hX x4 x5 x6 hF
      refine a_iload C 4 dX3_rankToTake_19 rfl ?_
      refine a_iload C 5 dX3_rankToTake_21 rfl ?_
      refine a_ic_ge C (tgt := 75) dX3_rankToTake_23 (by decide) hF (fun c23_2 hF => ?_) (fun c23_2 hF => ?_)
      · refine a_sub C [4] [(4, .int x4)] rfl ?_
        exact hX x4 x5 x6 hF
      refine a_iload C 4 dX3_rankToTake_26 rfl ?_
      refine a_iload C 5 dX3_rankToTake_28 rfl ?_
      refine a_iadd C dX3_rankToTake_30 ?_
      refine a_iconst C (v := 2) dX3_rankToTake_31 (by decide) ?_
      refine a_idiv C dX3_rankToTake_32 (by decide) ?_
      refine a_istore C [(7, .int ((x4 + x5) / 2)), (0, .ref t), (1, .ref o1), (2, .int p2), (3, .int p3), (4, .int x4), (5, .int x5), (6, .int x6)] dX3_rankToTake_33 (by decide) rfl ?_
      refine a_aload_n C 2 dX3_rankToTake_35 rfl rfl ?_
      refine a_aload_n C 1 dX3_rankToTake_36 rfl rfl ?_
      refine a_iload C 0 dX3_rankToTake_37 rfl ?_
      refine a_callVir C 1 [0, 1, 2, 3] 0 cs_X3_50 hd_X3_lineAt ⟨rfl, rfl⟩ ⟨Nat.le_of_ble_eq_true rfl, Nat.le_of_ble_eq_true rfl⟩ (fun r h => c_X3_lineAt l D J kc ki kb kl kd t t_lines t_places t_commons t_linesF t_placesF t_commonsF t_endings ((x4 + x5) / 2) r h) rfl rfl rfl rfl rfl rfl (Nat.le_of_ble_eq_true rfl) dX3_rankToTake_39 ⟨Nat.zero_le _, Nat.zero_le _⟩ hF (fun r39_3 er39_3 hF => ?_)
      refine a_aload_n C 1 dX3_rankToTake_42 rfl rfl ?_
      refine a_iload C 0 dX3_rankToTake_43 rfl ?_
      refine a_callVir C 1 [0, 1, 2, 3] 0 cs_X3_53 hd_X3_placeAt ⟨rfl, rfl⟩ ⟨Nat.le_of_ble_eq_true rfl, Nat.le_of_ble_eq_true rfl⟩ (fun r h => c_X3_placeAt l D J kc ki kb kl kd t t_lines t_places t_commons t_linesF t_placesF t_commonsF t_endings ((x4 + x5) / 2) r h) rfl rfl rfl rfl rfl rfl (Nat.le_of_ble_eq_true rfl) dX3_rankToTake_45 ⟨Nat.zero_le _, Nat.zero_le _⟩ hF (fun r45_4 er45_4 hF => ?_)
      refine a_iload_n C 3 dX3_rankToTake_48 rfl rfl ?_
      refine a_iload_n C 4 dX3_rankToTake_49 rfl rfl ?_
      refine a_callVir C 4 [4, 5, 6] 4 cs_X3_56 hd_X0_comesBefore ⟨rfl, rfl⟩ ⟨Nat.le_of_ble_eq_true rfl, Nat.le_of_ble_eq_true rfl⟩ (fun r h => c_X0_comesBefore l D J kc ki kb kl kd o1 o1_letters o1_sizes o1_lettersF o1_sizesF o1_lines r39_3 r45_4 p2 p3 r h) rfl rfl rfl rfl rfl rfl (Nat.le_of_ble_eq_true rfl) dX3_rankToTake_50 ⟨Nat.zero_le _, Nat.zero_le _⟩ hF (fun r50_5 er50_5 hF => ?_)
      refine a_if_eq C (tgt := 65) dX3_rankToTake_53 (by decide) hF (fun c53_6 hF => ?_) (fun c53_6 hF => ?_)
      · refine a_iload C 0 dX3_rankToTake_65 rfl ?_
        refine a_istore C [(5, .int ((x4 + x5) / 2)), (7, .int ((x4 + x5) / 2)), (0, .ref t), (1, .ref o1), (2, .int p2), (3, .int p3), (4, .int x4), (6, .int x6)] dX3_rankToTake_67 (by decide) rfl ?_
        refine a_iinc C 7 [(6, .int (x6 + 1)), (5, .int ((x4 + x5) / 2)), (7, .int ((x4 + x5) / 2)), (0, .ref t), (1, .ref o1), (2, .int p2), (3, .int p3), (4, .int x4)] dX3_rankToTake_69 rfl rfl (by decide) rfl ?_
        refine a_goto C (tgt := 12) dX3_rankToTake_72 (by decide) ?_
        refine a_sub C [3, 4, 5, 6, 7, 1, 0] [(0, .ref t), (1, .ref o1), (2, .int p2), (3, .int p3), (4, .int x4), (5, .int ((x4 + x5) / 2)), (6, .int (x6 + 1))] rfl ?_
        exact ih x4 ((x4 + x5) / 2) (x6 + 1) k hF hX
      refine a_iload C 0 dX3_rankToTake_56 rfl ?_
      refine a_iconst C (v := 1) dX3_rankToTake_58 (by decide) ?_
      refine a_iadd C dX3_rankToTake_59 ?_
      refine a_istore C [(4, .int (((x4 + x5) / 2) + 1)), (7, .int ((x4 + x5) / 2)), (0, .ref t), (1, .ref o1), (2, .int p2), (3, .int p3), (5, .int x5), (6, .int x6)] dX3_rankToTake_60 (by decide) rfl ?_
      refine a_goto C (tgt := 69) dX3_rankToTake_62 (by decide) ?_
      refine a_iinc C 7 [(6, .int (x6 + 1)), (4, .int (((x4 + x5) / 2) + 1)), (7, .int ((x4 + x5) / 2)), (0, .ref t), (1, .ref o1), (2, .int p2), (3, .int p3), (5, .int x5)] dX3_rankToTake_69 rfl rfl (by decide) rfl ?_
      refine a_goto C (tgt := 12) dX3_rankToTake_72 (by decide) ?_
      refine a_sub C [3, 4, 5, 6, 1, 7, 0] [(0, .ref t), (1, .ref o1), (2, .int p2), (3, .int p3), (4, .int (((x4 + x5) / 2) + 1)), (5, .int x5), (6, .int (x6 + 1))] rfl ?_
      exact ih (((x4 + x5) / 2) + 1) x5 (x6 + 1) k hF hX
  unfold f_X3_rankToTake at hF
  refine a_iconst C (v := 0) dX3_rankToTake_0 (by decide) ?_
  refine a_istore C [(4, .int 0), (0, .ref t), (1, .ref o1), (2, .int p2), (3, .int p3)] dX3_rankToTake_1 (by decide) rfl ?_
  refine a_aload_n C 1 dX3_rankToTake_3 rfl rfl ?_
  refine a_get C 0 3 iwX3 rfl rfl (by decide) kf_X3_21 rfl dX3_rankToTake_4 ?_
  refine a_istore C [(5, .int t_endings), (4, .int 0), (0, .ref t), (1, .ref o1), (2, .int p2), (3, .int p3)] dX3_rankToTake_7 (by decide) rfl ?_
  refine a_iconst C (v := 0) dX3_rankToTake_9 (by decide) ?_
  refine a_istore C [(6, .int 0), (5, .int t_endings), (4, .int 0), (0, .ref t), (1, .ref o1), (2, .int p2), (3, .int p3)] dX3_rankToTake_10 (by decide) rfl ?_
  refine a_sub C [3, 4, 5, 6, 2, 1, 0] [(0, .ref t), (1, .ref o1), (2, .int p2), (3, .int p3), (4, .int 0), (5, .int t_endings), (6, .int 0)] rfl ?_
  refine hI12 1000 0 t_endings 0 _ hF (fun x4_12_7 x5_12_8 x6_12_9 hF => ?_)
  refine a_iload C 0 dX3_rankToTake_75 rfl ?_
  exact a_iret C hr rfl dX3_rankToTake_77 hF rfl rfl
def f_X3_insert_L27 (p1 : Int32) : Nat → Int32 → (Nat → Int32) → (Nat → Int32) → (Int32 → (Nat → Int32) → (Nat → Int32) → Option ((Nat → Int32) × (Nat → Int32) × Int32)) → Option ((Nat → Int32) × (Nat → Int32) × Int32)
  | 0, _, _, _, _ => none
  | fuel + 1, x4, q_t_linesF, q_t_placesF, k => if x4 ≤ p1 then (k x4 q_t_linesF q_t_placesF) else ((ldi q_t_linesF 80 (x4 - 1)).bind fun v47_5 => (sti q_t_linesF 80 x4 v47_5).bind fun g48_6 => (ldi q_t_placesF 80 (x4 - 1)).bind fun v63_7 => (sti q_t_placesF 80 x4 v63_7).bind fun g64_8 => f_X3_insert_L27 p1 fuel (x4 + (-1)) g48_6 g64_8 k)
def f_X3_insert (t_linesF : Nat → Int32) (t_placesF : Nat → Int32) (t_endings : Int32) (p1 : Int32) (p2 : Int32) (p3 : Int32) : Option ((Nat → Int32) × (Nat → Int32) × Int32) := if p1 < 0 then (some (t_linesF, t_placesF, t_endings)) else (if t_endings < p1 then (some (t_linesF, t_placesF, t_endings)) else (if 80 ≤ t_endings then (some (t_linesF, t_placesF, t_endings)) else (f_X3_insert_L27 p1 1000 t_endings t_linesF t_placesF (fun x4_27_9 q_t_linesF_27_10 q_t_placesF_27_11 => (sti q_t_linesF_27_10 80 p1 p2).bind fun g77_12 => (sti q_t_placesF_27_11 80 p1 p3).bind fun g84_13 => some (g77_12, g84_13, t_endings + 1)))))
theorem hd_X3_insert : yX3_insert.cls = RX3 ∧ yX3_insert.cls ≠ "java/lang/invoke/MethodHandle" ∧ yX3_insert.cls ≠ "java/lang/invoke/VarHandle" ∧ (parseMethodDescriptor yX3_insert.desc).map (fun d => d.parameters.length) = some 3 := by decide +kernel
set_option maxRecDepth 100000 in
set_option maxHeartbeats 4000000 in
theorem c_X3_insert (l : Launch) (D : va_G) (J : JT) (kc ki kb kl kd : ClassId) (t : Nat) (t_lines : Nat) (t_places : Nat) (t_commons : Nat) (t_linesF : Nat → Int32) (t_placesF : Nat → Int32) (t_commonsF : Nat → Int32) (t_endings : Int32) (p1 p2 p3 : Int32) (res : (Nat → Int32) × (Nat → Int32) × Int32) (hF : f_X3_insert t_linesF t_placesF t_endings p1 p2 p3 = some res) : aKv l yX3_insert (aW yX3_insert cX3_insert 5 none) ({ frames := 0, cells := 0, slots := 0, locals := 0 } : Room) D J (aTy kc ki kb kl kd) [.ref t, .int p1, .int p2, .int p3] (wX3 ki t t_lines t_places t_commons t_linesF t_placesF t_commonsF t_endings) (fun r => wX3 ki t t_lines t_places t_commons r.1 r.2.1 t_commonsF r.2.2) res := by
  refine aKv_of (own := RX3) (by decide) rfl (Nat.le_of_ble_eq_true rfl) rfl ?_
  intro p e s m args below meth c C hr
  have hI27 : ∀ (q_t_endings : Int32) (fuel : Nat) (x4 : Int32) (q_t_linesF : Nat → Int32) (q_t_placesF : Nat → Int32) (k : Int32 → (Nat → Int32) → (Nat → Int32) → Option ((Nat → Int32) × (Nat → Int32) × Int32)), f_X3_insert_L27 p1 fuel x4 q_t_linesF q_t_placesF k = some res → (∀ (x4 : Int32) (q_t_linesF : Nat → Int32) (q_t_placesF : Nat → Int32), k x4 q_t_linesF q_t_placesF = some res → aT p l e ({ frames := 0, cells := 0, slots := 0, locals := 0 } : Room) s m args below meth c (MQ below (aQv D (wX3 ki t t_lines t_places t_commons t_linesF t_placesF t_commonsF t_endings) s.heap.size (fun r => wX3 ki t t_lines t_places t_commons r.1 r.2.1 t_commonsF r.2.2) res) args s 0 0 (va_A (wX3 ki t t_lines t_places t_commons t_linesF t_placesF t_commonsF t_endings) s.heap.size)) D (va_A (wX3 ki t t_lines t_places t_commons t_linesF t_placesF t_commonsF t_endings) s.heap.size) 5 0 0 71 [(0, .ref t), (1, .int p1), (2, .int p2), (3, .int p3)] [] (wX3 ki t t_lines t_places t_commons q_t_linesF q_t_placesF t_commonsF q_t_endings)) → aT p l e ({ frames := 0, cells := 0, slots := 0, locals := 0 } : Room) s m args below meth c (MQ below (aQv D (wX3 ki t t_lines t_places t_commons t_linesF t_placesF t_commonsF t_endings) s.heap.size (fun r => wX3 ki t t_lines t_places t_commons r.1 r.2.1 t_commonsF r.2.2) res) args s 0 0 (va_A (wX3 ki t t_lines t_places t_commons t_linesF t_placesF t_commonsF t_endings) s.heap.size)) D (va_A (wX3 ki t t_lines t_places t_commons t_linesF t_placesF t_commonsF t_endings) s.heap.size) 5 0 0 27 [(0, .ref t), (1, .int p1), (2, .int p2), (3, .int p3), (4, .int x4)] [] (wX3 ki t t_lines t_places t_commons q_t_linesF q_t_placesF t_commonsF q_t_endings) := by
    intro q_t_endings fuel
    induction fuel with
    | zero => intro x4 q_t_linesF q_t_placesF k hF hX; exact nomatch hF
    | succ fuel ih =>
      intro x4 q_t_linesF q_t_placesF k hF hX
      rw [f_X3_insert_L27] at hF
      refine a_iload C 4 dX3_insert_27 rfl ?_
      refine a_iload_n C 1 dX3_insert_29 rfl rfl ?_
      refine a_ic_le C (tgt := 71) dX3_insert_30 (by decide) hF (fun c30_4 hF => ?_) (fun c30_4 hF => ?_)
      · refine a_sub C [0, 1, 2, 3] [(0, .ref t), (1, .int p1), (2, .int p2), (3, .int p3)] rfl ?_
        exact hX x4 q_t_linesF q_t_placesF hF
      refine a_aload_n C 0 dX3_insert_33 rfl rfl ?_
      refine a_get C 0 0 iwX3 rfl rfl (by decide) kf_X3_9 rfl dX3_insert_34 ?_
      refine a_iload C 4 dX3_insert_37 rfl ?_
      refine a_aload_n C 0 dX3_insert_39 rfl rfl ?_
      refine a_get C 0 0 iwX3 rfl rfl (by decide) kf_X3_9 rfl dX3_insert_40 ?_
      refine a_iload C 4 dX3_insert_43 rfl ?_
      refine a_iconst C (v := 1) dX3_insert_45 (by decide) ?_
      refine a_isub C dX3_insert_46 ?_
      refine a_iald C 1 1 rfl rfl dX3_insert_47 hF (fun v47_5 ev47_5 hF => ?_)
      refine a_iast C 1 1 rfl rfl dX3_insert_48 hF (fun g48_6 eg48_6 hF => ?_)
      refine a_ws C (ws' := wX3 ki t t_lines t_places t_commons g48_6 q_t_placesF t_commonsF q_t_endings) rfl ?_
      refine a_aload_n C 0 dX3_insert_49 rfl rfl ?_
      refine a_get C 0 1 iwX3 rfl rfl (by decide) kf_X3_15 rfl dX3_insert_50 ?_
      refine a_iload C 4 dX3_insert_53 rfl ?_
      refine a_aload_n C 0 dX3_insert_55 rfl rfl ?_
      refine a_get C 0 1 iwX3 rfl rfl (by decide) kf_X3_15 rfl dX3_insert_56 ?_
      refine a_iload C 4 dX3_insert_59 rfl ?_
      refine a_iconst C (v := 1) dX3_insert_61 (by decide) ?_
      refine a_isub C dX3_insert_62 ?_
      refine a_iald C 2 1 rfl rfl dX3_insert_63 hF (fun v63_7 ev63_7 hF => ?_)
      refine a_iast C 2 1 rfl rfl dX3_insert_64 hF (fun g64_8 eg64_8 hF => ?_)
      refine a_ws C (ws' := wX3 ki t t_lines t_places t_commons g48_6 g64_8 t_commonsF q_t_endings) rfl ?_
      refine a_iinc C 4 [(4, .int (x4 + (-1))), (0, .ref t), (1, .int p1), (2, .int p2), (3, .int p3)] dX3_insert_65 rfl rfl (by decide) rfl ?_
      refine a_goto C (tgt := 27) dX3_insert_68 (by decide) ?_
      refine a_sub C [1, 2, 3, 4, 0] [(0, .ref t), (1, .int p1), (2, .int p2), (3, .int p3), (4, .int (x4 + (-1)))] rfl ?_
      exact ih (x4 + (-1)) g48_6 g64_8 k hF hX
  unfold f_X3_insert at hF
  refine a_iload_n C 1 dX3_insert_0 rfl rfl ?_
  refine a_if_lt C (tgt := 95) dX3_insert_1 (by decide) hF (fun c1_1 hF => ?_) (fun c1_1 hF => ?_)
  · exact a_vret C hr dX3_insert_95 hF rfl
  refine a_iload_n C 1 dX3_insert_4 rfl rfl ?_
  refine a_aload_n C 0 dX3_insert_5 rfl rfl ?_
  refine a_get C 0 3 iwX3 rfl rfl (by decide) kf_X3_21 rfl dX3_insert_6 ?_
  refine a_ic_gt C (tgt := 95) dX3_insert_9 (by decide) hF (fun c9_2 hF => ?_) (fun c9_2 hF => ?_)
  · exact a_vret C hr dX3_insert_95 hF rfl
  refine a_aload_n C 0 dX3_insert_12 rfl rfl ?_
  refine a_get C 0 3 iwX3 rfl rfl (by decide) kf_X3_21 rfl dX3_insert_13 ?_
  refine a_bipush C (v := 80) dX3_insert_16 (by decide) ?_
  refine a_ic_ge C (tgt := 95) dX3_insert_18 (by decide) hF (fun c18_3 hF => ?_) (fun c18_3 hF => ?_)
  · exact a_vret C hr dX3_insert_95 hF rfl
  refine a_aload_n C 0 dX3_insert_21 rfl rfl ?_
  refine a_get C 0 3 iwX3 rfl rfl (by decide) kf_X3_21 rfl dX3_insert_22 ?_
  refine a_istore C [(4, .int t_endings), (0, .ref t), (1, .int p1), (2, .int p2), (3, .int p3)] dX3_insert_25 (by decide) rfl ?_
  refine a_sub C [1, 2, 3, 4, 0] [(0, .ref t), (1, .int p1), (2, .int p2), (3, .int p3), (4, .int t_endings)] rfl ?_
  refine hI27 t_endings 1000 t_endings t_linesF t_placesF _ hF (fun x4_27_9 q_t_linesF_27_10 q_t_placesF_27_11 hF => ?_)
  refine a_aload_n C 0 dX3_insert_71 rfl rfl ?_
  refine a_get C 0 0 iwX3 rfl rfl (by decide) kf_X3_9 rfl dX3_insert_72 ?_
  refine a_iload_n C 1 dX3_insert_75 rfl rfl ?_
  refine a_iload_n C 2 dX3_insert_76 rfl rfl ?_
  refine a_iast C 1 1 rfl rfl dX3_insert_77 hF (fun g77_12 eg77_12 hF => ?_)
  refine a_ws C (ws' := wX3 ki t t_lines t_places t_commons g77_12 q_t_placesF_27_11 t_commonsF t_endings) rfl ?_
  refine a_aload_n C 0 dX3_insert_78 rfl rfl ?_
  refine a_get C 0 1 iwX3 rfl rfl (by decide) kf_X3_15 rfl dX3_insert_79 ?_
  refine a_iload_n C 1 dX3_insert_82 rfl rfl ?_
  refine a_iload_n C 3 dX3_insert_83 rfl rfl ?_
  refine a_iast C 2 1 rfl rfl dX3_insert_84 hF (fun g84_13 eg84_13 hF => ?_)
  refine a_ws C (ws' := wX3 ki t t_lines t_places t_commons g77_12 g84_13 t_commonsF t_endings) rfl ?_
  refine a_aload_n C 0 dX3_insert_85 rfl rfl ?_
  refine a_dup C dX3_insert_86 rfl ?_
  refine a_get C 0 3 iwX3 rfl rfl (by decide) kf_X3_21 rfl dX3_insert_87 ?_
  refine a_iconst C (v := 1) dX3_insert_90 (by decide) ?_
  refine a_iadd C dX3_insert_91 ?_
  refine a_put C 0 3 iwX3 tyX3_ok nmX3 rfl rfl (by decide) kf_X3_21 rfl rfl rfl (Nat.le_of_ble_eq_true rfl) dX3_insert_92 ?_
  refine a_ws C (ws' := wX3 ki t t_lines t_places t_commons g77_12 g84_13 t_commonsF (t_endings + 1)) rfl ?_
  exact a_vret C hr dX3_insert_95 hF rfl
theorem cs_X3_29 : GoodIn WW (wsV RX3 29 RX0 yX0_lines (aW yX0_lines cX0_lines 1 ((some .int)))) := gdV kl_X3_29 ki_X0_lines kv_X0_lines kn_X0 kc_X0_lines
theorem cs_X3_34 : GoodIn WW (wsV RX3 34 RX0 yX0_size (aW yX0_size cX0_size 2 ((some .int)))) := gdV kl_X3_34 ki_X0_size kv_X0_size kn_X0 kc_X0_size
theorem cs_X3_38 : GoodIn WW (wsV RX3 38 RX3 yX3_rankToTake (aW yX3_rankToTake cX3_rankToTake 8 ((some .int)))) := gdV kl_X3_38 ki_X3_rankToTake kv_X3_rankToTake kn_X3 kc_X3_rankToTake
theorem cs_X3_42 : GoodIn WW (wsV RX3 42 RX3 yX3_insert (aW yX3_insert cX3_insert 5 none)) := gdV kl_X3_42 ki_X3_insert kv_X3_insert kn_X3 kc_X3_insert
theorem cs_X3_46 : GoodIn WW (wsV RX3 46 RX0 yX0_sameLetters (aW yX0_sameLetters cX0_sameLetters 7 ((some .int)))) := gdV kl_X3_46 ki_X0_sameLetters kv_X0_sameLetters kn_X0 kc_X0_sameLetters
def f_X3_sort_L17 (x2 : Int32) (o1_lettersF : Nat → Int32) (o1_sizesF : Nat → Int32) (o1_lines : Int32) : Nat → Int32 → (Nat → Int32) → (Nat → Int32) → Int32 → (Int32 → (Nat → Int32) → (Nat → Int32) → Int32 → Option ((Nat → Int32) × (Nat → Int32) × (Nat → Int32) × Int32)) → Option ((Nat → Int32) × (Nat → Int32) × (Nat → Int32) × Int32)
  | 0, _, _, _, _, _ => none
  | fuel + 1, x3, q_t_linesF, q_t_placesF, q_t_endings, k => (f_X0_size o1_sizesF o1_lines x2).bind fun r20_3 => if r20_3 ≤ x3 then (k x3 q_t_linesF q_t_placesF q_t_endings) else ((f_X3_rankToTake q_t_linesF q_t_placesF q_t_endings o1_lettersF o1_sizesF o1_lines x2 x3).bind fun r31_5 => (f_X3_insert q_t_linesF q_t_placesF q_t_endings r31_5 x2 x3).bind fun r36_6 => f_X3_sort_L17 x2 o1_lettersF o1_sizesF o1_lines fuel (x3 + 1) r36_6.1 r36_6.2.1 r36_6.2.2 k)
def f_X3_sort_L7 (o1_lettersF : Nat → Int32) (o1_sizesF : Nat → Int32) (o1_lines : Int32) : Nat → Int32 → (Nat → Int32) → (Nat → Int32) → Int32 → (Int32 → (Nat → Int32) → (Nat → Int32) → Int32 → Option ((Nat → Int32) × (Nat → Int32) × (Nat → Int32) × Int32)) → Option ((Nat → Int32) × (Nat → Int32) × (Nat → Int32) × Int32)
  | 0, _, _, _, _, _ => none
  | fuel + 1, x2, q_t_linesF, q_t_placesF, q_t_endings, k => (f_X0_lines o1_lines).bind fun r9_1 => if r9_1 ≤ x2 then (k x2 q_t_linesF q_t_placesF q_t_endings) else (f_X3_sort_L17 x2 o1_lettersF o1_sizesF o1_lines 1000 0 q_t_linesF q_t_placesF q_t_endings (fun x3_17_7 q_t_linesF_17_8 q_t_placesF_17_9 q_t_endings_17_10 => f_X3_sort_L7 o1_lettersF o1_sizesF o1_lines fuel (x2 + 1) q_t_linesF_17_8 q_t_placesF_17_9 q_t_endings_17_10 k))
def f_X3_sort_L53 (q_t_linesF : Nat → Int32) (q_t_placesF : Nat → Int32) (q_t_endings : Int32) (o1_lettersF : Nat → Int32) (o1_sizesF : Nat → Int32) (o1_lines : Int32) : Nat → Int32 → (Nat → Int32) → (Int32 → (Nat → Int32) → Option ((Nat → Int32) × (Nat → Int32) × (Nat → Int32) × Int32)) → Option ((Nat → Int32) × (Nat → Int32) × (Nat → Int32) × Int32)
  | 0, _, _, _ => none
  | fuel + 1, x2, q_t_commonsF, k => if q_t_endings ≤ x2 then (k x2 q_t_commonsF) else ((ldi q_t_linesF 80 (x2 - 1)).bind fun v74_16 => (ldi q_t_placesF 80 (x2 - 1)).bind fun v82_17 => (ldi q_t_linesF 80 x2).bind fun v88_18 => (ldi q_t_placesF 80 x2).bind fun v94_19 => (f_X0_sameLetters o1_lettersF o1_sizesF o1_lines v74_16 v82_17 v88_18 v94_19).bind fun r95_20 => (sti q_t_commonsF 80 x2 r95_20).bind fun g98_21 => f_X3_sort_L53 q_t_linesF q_t_placesF q_t_endings o1_lettersF o1_sizesF o1_lines fuel (x2 + 1) g98_21 k)
def f_X3_sort (t_linesF : Nat → Int32) (t_placesF : Nat → Int32) (t_commonsF : Nat → Int32) (o1_lettersF : Nat → Int32) (o1_sizesF : Nat → Int32) (o1_lines : Int32) : Option ((Nat → Int32) × (Nat → Int32) × (Nat → Int32) × Int32) := f_X3_sort_L7 o1_lettersF o1_sizesF o1_lines 1000 0 t_linesF t_placesF 0 (fun x2_7_11 q_t_linesF_7_12 q_t_placesF_7_13 q_t_endings_7_14 => f_X3_sort_L53 q_t_linesF_7_12 q_t_placesF_7_13 q_t_endings_7_14 o1_lettersF o1_sizesF o1_lines 1000 1 t_commonsF (fun x2_53_22 q_t_commonsF_53_23 => some (q_t_linesF_7_12, q_t_placesF_7_13, q_t_commonsF_53_23, q_t_endings_7_14)))
theorem hd_X3_sort : yX3_sort.cls = RX3 ∧ yX3_sort.cls ≠ "java/lang/invoke/MethodHandle" ∧ yX3_sort.cls ≠ "java/lang/invoke/VarHandle" ∧ (parseMethodDescriptor yX3_sort.desc).map (fun d => d.parameters.length) = some 1 := by decide +kernel
set_option maxRecDepth 100000 in
set_option maxHeartbeats 4000000 in
theorem c_X3_sort (l : Launch) (D : va_G) (J : JT) (kc ki kb kl kd : ClassId) (t : Nat) (t_lines : Nat) (t_places : Nat) (t_commons : Nat) (o1 : Nat) (o1_letters : Nat) (o1_sizes : Nat) (t_linesF : Nat → Int32) (t_placesF : Nat → Int32) (t_commonsF : Nat → Int32) (t_endings : Int32) (o1_lettersF : Nat → Int32) (o1_sizesF : Nat → Int32) (o1_lines : Int32) (res : (Nat → Int32) × (Nat → Int32) × (Nat → Int32) × Int32) (hF : f_X3_sort t_linesF t_placesF t_commonsF o1_lettersF o1_sizesF o1_lines = some res) : aKv l yX3_sort (aW yX3_sort cX3_sort 4 none) ({ frames := 4, cells := 0, slots := 0, locals := 98 } : Room) D J (aTy kc ki kb kl kd) [.ref t, .ref o1] (wX3 ki t t_lines t_places t_commons t_linesF t_placesF t_commonsF t_endings ++ wX0 kc ki o1 o1_letters o1_sizes o1_lettersF o1_sizesF o1_lines) (fun r => wX3 ki t t_lines t_places t_commons r.1 r.2.1 r.2.2.1 r.2.2.2 ++ wX0 kc ki o1 o1_letters o1_sizes o1_lettersF o1_sizesF o1_lines) res := by
  refine aKv_of (own := RX3) (by decide) rfl (Nat.le_of_ble_eq_true rfl) rfl ?_
  intro p e s m args below meth c C hr
  have hI17 : ∀ (x2 : Int32) (q_t_commonsF : Nat → Int32) (fuel : Nat) (x3 : Int32) (q_t_linesF : Nat → Int32) (q_t_placesF : Nat → Int32) (q_t_endings : Int32) (k : Int32 → (Nat → Int32) → (Nat → Int32) → Int32 → Option ((Nat → Int32) × (Nat → Int32) × (Nat → Int32) × Int32)), f_X3_sort_L17 x2 o1_lettersF o1_sizesF o1_lines fuel x3 q_t_linesF q_t_placesF q_t_endings k = some res → (∀ (x3 : Int32) (q_t_linesF : Nat → Int32) (q_t_placesF : Nat → Int32) (q_t_endings : Int32), k x3 q_t_linesF q_t_placesF q_t_endings = some res → aT p l e ({ frames := 4, cells := 0, slots := 0, locals := 98 } : Room) s m args below meth c (MQ below (aQv D (wX3 ki t t_lines t_places t_commons t_linesF t_placesF t_commonsF t_endings ++ wX0 kc ki o1 o1_letters o1_sizes o1_lettersF o1_sizesF o1_lines) s.heap.size (fun r => wX3 ki t t_lines t_places t_commons r.1 r.2.1 r.2.2.1 r.2.2.2 ++ wX0 kc ki o1 o1_letters o1_sizes o1_lettersF o1_sizesF o1_lines) res) args s 0 0 (va_A (wX3 ki t t_lines t_places t_commons t_linesF t_placesF t_commonsF t_endings ++ wX0 kc ki o1 o1_letters o1_sizes o1_lettersF o1_sizesF o1_lines) s.heap.size)) D (va_A (wX3 ki t t_lines t_places t_commons t_linesF t_placesF t_commonsF t_endings ++ wX0 kc ki o1 o1_letters o1_sizes o1_lettersF o1_sizesF o1_lines) s.heap.size) 4 0 0 45 [(0, .ref t), (1, .ref o1), (2, .int x2)] [] (wX3 ki t t_lines t_places t_commons q_t_linesF q_t_placesF q_t_commonsF q_t_endings ++ wX0 kc ki o1 o1_letters o1_sizes o1_lettersF o1_sizesF o1_lines)) → aT p l e ({ frames := 4, cells := 0, slots := 0, locals := 98 } : Room) s m args below meth c (MQ below (aQv D (wX3 ki t t_lines t_places t_commons t_linesF t_placesF t_commonsF t_endings ++ wX0 kc ki o1 o1_letters o1_sizes o1_lettersF o1_sizesF o1_lines) s.heap.size (fun r => wX3 ki t t_lines t_places t_commons r.1 r.2.1 r.2.2.1 r.2.2.2 ++ wX0 kc ki o1 o1_letters o1_sizes o1_lettersF o1_sizesF o1_lines) res) args s 0 0 (va_A (wX3 ki t t_lines t_places t_commons t_linesF t_placesF t_commonsF t_endings ++ wX0 kc ki o1 o1_letters o1_sizes o1_lettersF o1_sizesF o1_lines) s.heap.size)) D (va_A (wX3 ki t t_lines t_places t_commons t_linesF t_placesF t_commonsF t_endings ++ wX0 kc ki o1 o1_letters o1_sizes o1_lettersF o1_sizesF o1_lines) s.heap.size) 4 0 0 17 [(0, .ref t), (1, .ref o1), (2, .int x2), (3, .int x3)] [] (wX3 ki t t_lines t_places t_commons q_t_linesF q_t_placesF q_t_commonsF q_t_endings ++ wX0 kc ki o1 o1_letters o1_sizes o1_lettersF o1_sizesF o1_lines) := by
    intro x2 q_t_commonsF fuel
    induction fuel with
    | zero => intro x3 q_t_linesF q_t_placesF q_t_endings k hF hX; exact nomatch hF
    | succ fuel ih =>
      intro x3 q_t_linesF q_t_placesF q_t_endings k hF hX
      rw [f_X3_sort_L17] at hF
      refine a_iload_n C 3 dX3_sort_17 rfl rfl ?_
      refine a_aload_n C 1 dX3_sort_18 rfl rfl ?_
      refine a_iload_n C 2 dX3_sort_19 rfl rfl ?_
      refine a_callVir C 1 [4, 5, 6] 4 cs_X3_34 hd_X0_size ⟨rfl, rfl⟩ ⟨Nat.le_of_ble_eq_true rfl, Nat.le_of_ble_eq_true rfl⟩ (fun r h => c_X0_size l D J kc ki kb kl kd o1 o1_letters o1_sizes o1_lettersF o1_sizesF o1_lines x2 r h) rfl rfl rfl rfl rfl rfl (Nat.le_of_ble_eq_true rfl) dX3_sort_20 ⟨Nat.zero_le _, Nat.zero_le _⟩ hF (fun r20_3 er20_3 hF => ?_)
      refine a_ic_ge C (tgt := 45) dX3_sort_23 (by decide) hF (fun c23_4 hF => ?_) (fun c23_4 hF => ?_)
      · refine a_sub C [0, 1, 2] [(0, .ref t), (1, .ref o1), (2, .int x2)] rfl ?_
        exact hX x3 q_t_linesF q_t_placesF q_t_endings hF
      refine a_aload_n C 0 dX3_sort_26 rfl rfl ?_
      refine a_aload_n C 0 dX3_sort_27 rfl rfl ?_
      refine a_aload_n C 1 dX3_sort_28 rfl rfl ?_
      refine a_iload_n C 2 dX3_sort_29 rfl rfl ?_
      refine a_iload_n C 3 dX3_sort_30 rfl rfl ?_
      refine a_callVir C 3 [0, 1, 2, 3, 4, 5, 6] 0 cs_X3_38 hd_X3_rankToTake ⟨rfl, rfl⟩ ⟨Nat.le_of_ble_eq_true rfl, Nat.le_of_ble_eq_true rfl⟩ (fun r h => c_X3_rankToTake l D J kc ki kb kl kd t t_lines t_places t_commons o1 o1_letters o1_sizes q_t_linesF q_t_placesF q_t_commonsF q_t_endings o1_lettersF o1_sizesF o1_lines x2 x3 r h) rfl rfl rfl rfl rfl rfl (Nat.le_of_ble_eq_true rfl) dX3_sort_31 ⟨Nat.zero_le _, Nat.zero_le _⟩ hF (fun r31_5 er31_5 hF => ?_)
      refine a_iload_n C 2 dX3_sort_34 rfl rfl ?_
      refine a_iload_n C 3 dX3_sort_35 rfl rfl ?_
      refine a_callVv C 3 [0, 1, 2, 3] 0 cs_X3_42 hd_X3_insert ⟨rfl, rfl⟩ ⟨Nat.le_of_ble_eq_true rfl, Nat.le_of_ble_eq_true rfl⟩ (fun r h => c_X3_insert l D J kc ki kb kl kd t t_lines t_places t_commons q_t_linesF q_t_placesF q_t_commonsF q_t_endings r31_5 x2 x3 r h) rfl rfl rfl (fun _ => rfl) rfl rfl rfl (Nat.le_of_ble_eq_true rfl) dX3_sort_36 ⟨Nat.zero_le _, Nat.zero_le _⟩ hF (fun r36_6 er36_6 hF => ?_)
      refine a_ws C (ws' := wX3 ki t t_lines t_places t_commons r36_6.1 r36_6.2.1 q_t_commonsF r36_6.2.2 ++ wX0 kc ki o1 o1_letters o1_sizes o1_lettersF o1_sizesF o1_lines) rfl ?_
      refine a_iinc C 3 [(3, .int (x3 + 1)), (0, .ref t), (1, .ref o1), (2, .int x2)] dX3_sort_39 rfl rfl (by decide) rfl ?_
      refine a_goto C (tgt := 17) dX3_sort_42 (by decide) ?_
      refine a_sub C [1, 2, 3, 0] [(0, .ref t), (1, .ref o1), (2, .int x2), (3, .int (x3 + 1))] rfl ?_
      exact ih (x3 + 1) r36_6.1 r36_6.2.1 r36_6.2.2 k hF hX
  have hI7 : ∀ (q_t_commonsF : Nat → Int32) (fuel : Nat) (x2 : Int32) (q_t_linesF : Nat → Int32) (q_t_placesF : Nat → Int32) (q_t_endings : Int32) (k : Int32 → (Nat → Int32) → (Nat → Int32) → Int32 → Option ((Nat → Int32) × (Nat → Int32) × (Nat → Int32) × Int32)), f_X3_sort_L7 o1_lettersF o1_sizesF o1_lines fuel x2 q_t_linesF q_t_placesF q_t_endings k = some res → (∀ (x2 : Int32) (q_t_linesF : Nat → Int32) (q_t_placesF : Nat → Int32) (q_t_endings : Int32), k x2 q_t_linesF q_t_placesF q_t_endings = some res → aT p l e ({ frames := 4, cells := 0, slots := 0, locals := 98 } : Room) s m args below meth c (MQ below (aQv D (wX3 ki t t_lines t_places t_commons t_linesF t_placesF t_commonsF t_endings ++ wX0 kc ki o1 o1_letters o1_sizes o1_lettersF o1_sizesF o1_lines) s.heap.size (fun r => wX3 ki t t_lines t_places t_commons r.1 r.2.1 r.2.2.1 r.2.2.2 ++ wX0 kc ki o1 o1_letters o1_sizes o1_lettersF o1_sizesF o1_lines) res) args s 0 0 (va_A (wX3 ki t t_lines t_places t_commons t_linesF t_placesF t_commonsF t_endings ++ wX0 kc ki o1 o1_letters o1_sizes o1_lettersF o1_sizesF o1_lines) s.heap.size)) D (va_A (wX3 ki t t_lines t_places t_commons t_linesF t_placesF t_commonsF t_endings ++ wX0 kc ki o1 o1_letters o1_sizes o1_lettersF o1_sizesF o1_lines) s.heap.size) 4 0 0 51 [(0, .ref t), (1, .ref o1)] [] (wX3 ki t t_lines t_places t_commons q_t_linesF q_t_placesF q_t_commonsF q_t_endings ++ wX0 kc ki o1 o1_letters o1_sizes o1_lettersF o1_sizesF o1_lines)) → aT p l e ({ frames := 4, cells := 0, slots := 0, locals := 98 } : Room) s m args below meth c (MQ below (aQv D (wX3 ki t t_lines t_places t_commons t_linesF t_placesF t_commonsF t_endings ++ wX0 kc ki o1 o1_letters o1_sizes o1_lettersF o1_sizesF o1_lines) s.heap.size (fun r => wX3 ki t t_lines t_places t_commons r.1 r.2.1 r.2.2.1 r.2.2.2 ++ wX0 kc ki o1 o1_letters o1_sizes o1_lettersF o1_sizesF o1_lines) res) args s 0 0 (va_A (wX3 ki t t_lines t_places t_commons t_linesF t_placesF t_commonsF t_endings ++ wX0 kc ki o1 o1_letters o1_sizes o1_lettersF o1_sizesF o1_lines) s.heap.size)) D (va_A (wX3 ki t t_lines t_places t_commons t_linesF t_placesF t_commonsF t_endings ++ wX0 kc ki o1 o1_letters o1_sizes o1_lettersF o1_sizesF o1_lines) s.heap.size) 4 0 0 7 [(0, .ref t), (1, .ref o1), (2, .int x2)] [] (wX3 ki t t_lines t_places t_commons q_t_linesF q_t_placesF q_t_commonsF q_t_endings ++ wX0 kc ki o1 o1_letters o1_sizes o1_lettersF o1_sizesF o1_lines) := by
    intro q_t_commonsF fuel
    induction fuel with
    | zero => intro x2 q_t_linesF q_t_placesF q_t_endings k hF hX; exact nomatch hF
    | succ fuel ih =>
      intro x2 q_t_linesF q_t_placesF q_t_endings k hF hX
      rw [f_X3_sort_L7] at hF
      refine a_iload_n C 2 dX3_sort_7 rfl rfl ?_
      refine a_aload_n C 1 dX3_sort_8 rfl rfl ?_
      refine a_callVir C 0 [4, 5, 6] 4 cs_X3_29 hd_X0_lines ⟨rfl, rfl⟩ ⟨Nat.le_of_ble_eq_true rfl, Nat.le_of_ble_eq_true rfl⟩ (fun r h => c_X0_lines l D J kc ki kb kl kd o1 o1_letters o1_sizes o1_lettersF o1_sizesF o1_lines r h) rfl rfl rfl rfl rfl rfl (Nat.le_of_ble_eq_true rfl) dX3_sort_9 ⟨Nat.zero_le _, Nat.zero_le _⟩ hF (fun r9_1 er9_1 hF => ?_)
      refine a_ic_ge C (tgt := 51) dX3_sort_12 (by decide) hF (fun c12_2 hF => ?_) (fun c12_2 hF => ?_)
      · refine a_sub C [0, 1] [(0, .ref t), (1, .ref o1)] rfl ?_
        exact hX x2 q_t_linesF q_t_placesF q_t_endings hF
      refine a_iconst C (v := 0) dX3_sort_15 (by decide) ?_
      refine a_istore_n C [(3, .int 0), (0, .ref t), (1, .ref o1), (2, .int x2)] dX3_sort_16 rfl (by decide) rfl ?_
      refine a_sub C [1, 2, 3, 0] [(0, .ref t), (1, .ref o1), (2, .int x2), (3, .int 0)] rfl ?_
      refine hI17 x2 q_t_commonsF 1000 0 q_t_linesF q_t_placesF q_t_endings _ hF (fun x3_17_7 q_t_linesF_17_8 q_t_placesF_17_9 q_t_endings_17_10 hF => ?_)
      refine a_iinc C 2 [(2, .int (x2 + 1)), (0, .ref t), (1, .ref o1)] dX3_sort_45 rfl rfl (by decide) rfl ?_
      refine a_goto C (tgt := 7) dX3_sort_48 (by decide) ?_
      refine a_sub C [1, 2, 0] [(0, .ref t), (1, .ref o1), (2, .int (x2 + 1))] rfl ?_
      exact ih (x2 + 1) q_t_linesF_17_8 q_t_placesF_17_9 q_t_endings_17_10 k hF hX
  have hI53 : ∀ (q_t_linesF : Nat → Int32) (q_t_placesF : Nat → Int32) (q_t_endings : Int32) (fuel : Nat) (x2 : Int32) (q_t_commonsF : Nat → Int32) (k : Int32 → (Nat → Int32) → Option ((Nat → Int32) × (Nat → Int32) × (Nat → Int32) × Int32)), f_X3_sort_L53 q_t_linesF q_t_placesF q_t_endings o1_lettersF o1_sizesF o1_lines fuel x2 q_t_commonsF k = some res → (∀ (x2 : Int32) (q_t_commonsF : Nat → Int32), k x2 q_t_commonsF = some res → aT p l e ({ frames := 4, cells := 0, slots := 0, locals := 98 } : Room) s m args below meth c (MQ below (aQv D (wX3 ki t t_lines t_places t_commons t_linesF t_placesF t_commonsF t_endings ++ wX0 kc ki o1 o1_letters o1_sizes o1_lettersF o1_sizesF o1_lines) s.heap.size (fun r => wX3 ki t t_lines t_places t_commons r.1 r.2.1 r.2.2.1 r.2.2.2 ++ wX0 kc ki o1 o1_letters o1_sizes o1_lettersF o1_sizesF o1_lines) res) args s 0 0 (va_A (wX3 ki t t_lines t_places t_commons t_linesF t_placesF t_commonsF t_endings ++ wX0 kc ki o1 o1_letters o1_sizes o1_lettersF o1_sizesF o1_lines) s.heap.size)) D (va_A (wX3 ki t t_lines t_places t_commons t_linesF t_placesF t_commonsF t_endings ++ wX0 kc ki o1 o1_letters o1_sizes o1_lettersF o1_sizesF o1_lines) s.heap.size) 4 0 0 105 [] [] (wX3 ki t t_lines t_places t_commons q_t_linesF q_t_placesF q_t_commonsF q_t_endings ++ wX0 kc ki o1 o1_letters o1_sizes o1_lettersF o1_sizesF o1_lines)) → aT p l e ({ frames := 4, cells := 0, slots := 0, locals := 98 } : Room) s m args below meth c (MQ below (aQv D (wX3 ki t t_lines t_places t_commons t_linesF t_placesF t_commonsF t_endings ++ wX0 kc ki o1 o1_letters o1_sizes o1_lettersF o1_sizesF o1_lines) s.heap.size (fun r => wX3 ki t t_lines t_places t_commons r.1 r.2.1 r.2.2.1 r.2.2.2 ++ wX0 kc ki o1 o1_letters o1_sizes o1_lettersF o1_sizesF o1_lines) res) args s 0 0 (va_A (wX3 ki t t_lines t_places t_commons t_linesF t_placesF t_commonsF t_endings ++ wX0 kc ki o1 o1_letters o1_sizes o1_lettersF o1_sizesF o1_lines) s.heap.size)) D (va_A (wX3 ki t t_lines t_places t_commons t_linesF t_placesF t_commonsF t_endings ++ wX0 kc ki o1 o1_letters o1_sizes o1_lettersF o1_sizesF o1_lines) s.heap.size) 4 0 0 53 [(0, .ref t), (1, .ref o1), (2, .int x2)] [] (wX3 ki t t_lines t_places t_commons q_t_linesF q_t_placesF q_t_commonsF q_t_endings ++ wX0 kc ki o1 o1_letters o1_sizes o1_lettersF o1_sizesF o1_lines) := by
    intro q_t_linesF q_t_placesF q_t_endings fuel
    induction fuel with
    | zero => intro x2 q_t_commonsF k hF hX; exact nomatch hF
    | succ fuel ih =>
      intro x2 q_t_commonsF k hF hX
      rw [f_X3_sort_L53] at hF
      refine a_iload_n C 2 dX3_sort_53 rfl rfl ?_
      refine a_aload_n C 0 dX3_sort_54 rfl rfl ?_
      refine a_get C 0 3 iwX3 rfl rfl (by decide) kf_X3_21 rfl dX3_sort_55 ?_
      refine a_ic_ge C (tgt := 105) dX3_sort_58 (by decide) hF (fun c58_15 hF => ?_) (fun c58_15 hF => ?_)
      · refine a_sub C [] [] rfl ?_
        exact hX x2 q_t_commonsF hF
      refine a_aload_n C 0 dX3_sort_61 rfl rfl ?_
      refine a_get C 0 2 iwX3 rfl rfl (by decide) kf_X3_18 rfl dX3_sort_62 ?_
      refine a_iload_n C 2 dX3_sort_65 rfl rfl ?_
      refine a_aload_n C 1 dX3_sort_66 rfl rfl ?_
      refine a_aload_n C 0 dX3_sort_67 rfl rfl ?_
      refine a_get C 0 0 iwX3 rfl rfl (by decide) kf_X3_9 rfl dX3_sort_68 ?_
      refine a_iload_n C 2 dX3_sort_71 rfl rfl ?_
      refine a_iconst C (v := 1) dX3_sort_72 (by decide) ?_
      refine a_isub C dX3_sort_73 ?_
      refine a_iald C 1 1 rfl rfl dX3_sort_74 hF (fun v74_16 ev74_16 hF => ?_)
      refine a_aload_n C 0 dX3_sort_75 rfl rfl ?_
      refine a_get C 0 1 iwX3 rfl rfl (by decide) kf_X3_15 rfl dX3_sort_76 ?_
      refine a_iload_n C 2 dX3_sort_79 rfl rfl ?_
      refine a_iconst C (v := 1) dX3_sort_80 (by decide) ?_
      refine a_isub C dX3_sort_81 ?_
      refine a_iald C 2 1 rfl rfl dX3_sort_82 hF (fun v82_17 ev82_17 hF => ?_)
      refine a_aload_n C 0 dX3_sort_83 rfl rfl ?_
      refine a_get C 0 0 iwX3 rfl rfl (by decide) kf_X3_9 rfl dX3_sort_84 ?_
      refine a_iload_n C 2 dX3_sort_87 rfl rfl ?_
      refine a_iald C 1 1 rfl rfl dX3_sort_88 hF (fun v88_18 ev88_18 hF => ?_)
      refine a_aload_n C 0 dX3_sort_89 rfl rfl ?_
      refine a_get C 0 1 iwX3 rfl rfl (by decide) kf_X3_15 rfl dX3_sort_90 ?_
      refine a_iload_n C 2 dX3_sort_93 rfl rfl ?_
      refine a_iald C 2 1 rfl rfl dX3_sort_94 hF (fun v94_19 ev94_19 hF => ?_)
      refine a_callVir C 4 [4, 5, 6] 4 cs_X3_46 hd_X0_sameLetters ⟨rfl, rfl⟩ ⟨Nat.le_of_ble_eq_true rfl, Nat.le_of_ble_eq_true rfl⟩ (fun r h => c_X0_sameLetters l D J kc ki kb kl kd o1 o1_letters o1_sizes o1_lettersF o1_sizesF o1_lines v74_16 v82_17 v88_18 v94_19 r h) rfl rfl rfl rfl rfl rfl (Nat.le_of_ble_eq_true rfl) dX3_sort_95 ⟨Nat.zero_le _, Nat.zero_le _⟩ hF (fun r95_20 er95_20 hF => ?_)
      refine a_iast C 3 1 rfl rfl dX3_sort_98 hF (fun g98_21 eg98_21 hF => ?_)
      refine a_ws C (ws' := wX3 ki t t_lines t_places t_commons q_t_linesF q_t_placesF g98_21 q_t_endings ++ wX0 kc ki o1 o1_letters o1_sizes o1_lettersF o1_sizesF o1_lines) rfl ?_
      refine a_iinc C 2 [(2, .int (x2 + 1)), (0, .ref t), (1, .ref o1)] dX3_sort_99 rfl rfl (by decide) rfl ?_
      refine a_goto C (tgt := 53) dX3_sort_102 (by decide) ?_
      refine a_sub C [1, 2, 0] [(0, .ref t), (1, .ref o1), (2, .int (x2 + 1))] rfl ?_
      exact ih (x2 + 1) g98_21 k hF hX
  unfold f_X3_sort at hF
  refine a_aload_n C 0 dX3_sort_0 rfl rfl ?_
  refine a_iconst C (v := 0) dX3_sort_1 (by decide) ?_
  refine a_put C 0 3 iwX3 tyX3_ok nmX3 rfl rfl (by decide) kf_X3_21 rfl rfl rfl (Nat.le_of_ble_eq_true rfl) dX3_sort_2 ?_
  refine a_ws C (ws' := wX3 ki t t_lines t_places t_commons t_linesF t_placesF t_commonsF 0 ++ wX0 kc ki o1 o1_letters o1_sizes o1_lettersF o1_sizesF o1_lines) rfl ?_
  refine a_iconst C (v := 0) dX3_sort_5 (by decide) ?_
  refine a_istore_n C [(2, .int 0), (0, .ref t), (1, .ref o1)] dX3_sort_6 rfl (by decide) rfl ?_
  refine a_sub C [1, 2, 0] [(0, .ref t), (1, .ref o1), (2, .int 0)] rfl ?_
  refine hI7 t_commonsF 1000 0 t_linesF t_placesF 0 _ hF (fun x2_7_11 q_t_linesF_7_12 q_t_placesF_7_13 q_t_endings_7_14 hF => ?_)
  refine a_iconst C (v := 1) dX3_sort_51 (by decide) ?_
  refine a_istore_n C [(2, .int 1), (0, .ref t), (1, .ref o1)] dX3_sort_52 rfl (by decide) rfl ?_
  refine a_sub C [1, 2, 0] [(0, .ref t), (1, .ref o1), (2, .int 1)] rfl ?_
  refine hI53 q_t_linesF_7_12 q_t_placesF_7_13 q_t_endings_7_14 1000 1 t_commonsF _ hF (fun x2_53_22 q_t_commonsF_53_23 hF => ?_)
  exact a_vret C hr dX3_sort_105 hF rfl
def f_X3_rankOf_L2 (p1 : Int32) (p2 : Int32) (t_linesF : Nat → Int32) (t_placesF : Nat → Int32) (t_endings : Int32) : Nat → Int32 → (Int32 → Option Int32) → Option Int32
  | 0, _, _ => none
  | fuel + 1, x3, k => if t_endings ≤ x3 then (k x3) else ((ldi t_linesF 80 x3).bind fun v15_2 => if ¬ v15_2 = p1 then (f_X3_rankOf_L2 p1 p2 t_linesF t_placesF t_endings fuel (x3 + 1) k) else ((ldi t_placesF 80 x3).bind fun v25_4 => if v25_4 = p2 then (k x3) else (f_X3_rankOf_L2 p1 p2 t_linesF t_placesF t_endings fuel (x3 + 1) k)))
def f_X3_rankOf (t_linesF : Nat → Int32) (t_placesF : Nat → Int32) (t_endings : Int32) (p1 : Int32) (p2 : Int32) : Option Int32 := f_X3_rankOf_L2 p1 p2 t_linesF t_placesF t_endings 1000 0 (fun x3_2_6 => some x3_2_6)
theorem hd_X3_rankOf : yX3_rankOf.cls = RX3 ∧ yX3_rankOf.cls ≠ "java/lang/invoke/MethodHandle" ∧ yX3_rankOf.cls ≠ "java/lang/invoke/VarHandle" ∧ (parseMethodDescriptor yX3_rankOf.desc).map (fun d => d.parameters.length) = some 2 := by decide +kernel
set_option maxRecDepth 100000 in
set_option maxHeartbeats 4000000 in
theorem c_X3_rankOf (l : Launch) (D : va_G) (J : JT) (kc ki kb kl kd : ClassId) (t : Nat) (t_lines : Nat) (t_places : Nat) (t_commons : Nat) (t_linesF : Nat → Int32) (t_placesF : Nat → Int32) (t_commonsF : Nat → Int32) (t_endings : Int32) (p1 p2 : Int32) (res : Int32) (hF : f_X3_rankOf t_linesF t_placesF t_endings p1 p2 = some res) : aKi l yX3_rankOf (aW yX3_rankOf cX3_rankOf 4 ((some .int))) ({ frames := 0, cells := 0, slots := 0, locals := 0 } : Room) D J (aTy kc ki kb kl kd) [.ref t, .int p1, .int p2] (wX3 ki t t_lines t_places t_commons t_linesF t_placesF t_commonsF t_endings) (fun r => r) (fun _ => wX3 ki t t_lines t_places t_commons t_linesF t_placesF t_commonsF t_endings) res := by
  refine aKi_of (own := RX3) (by decide) rfl (Nat.le_of_ble_eq_true rfl) rfl ?_
  intro p e s m args below meth c C hr
  have hI2 : ∀ (fuel : Nat) (x3 : Int32) (k : Int32 → Option Int32), f_X3_rankOf_L2 p1 p2 t_linesF t_placesF t_endings fuel x3 k = some res → (∀ (x3 : Int32), k x3 = some res → aT p l e ({ frames := 0, cells := 0, slots := 0, locals := 0 } : Room) s m args below meth c (MQ below (aQi D (wX3 ki t t_lines t_places t_commons t_linesF t_placesF t_commonsF t_endings) s.heap.size (fun r => r) (fun _ => wX3 ki t t_lines t_places t_commons t_linesF t_placesF t_commonsF t_endings) res) args s 0 0 (va_A (wX3 ki t t_lines t_places t_commons t_linesF t_placesF t_commonsF t_endings) s.heap.size)) D (va_A (wX3 ki t t_lines t_places t_commons t_linesF t_placesF t_commonsF t_endings) s.heap.size) 4 0 0 36 [(3, .int x3)] [] (wX3 ki t t_lines t_places t_commons t_linesF t_placesF t_commonsF t_endings)) → aT p l e ({ frames := 0, cells := 0, slots := 0, locals := 0 } : Room) s m args below meth c (MQ below (aQi D (wX3 ki t t_lines t_places t_commons t_linesF t_placesF t_commonsF t_endings) s.heap.size (fun r => r) (fun _ => wX3 ki t t_lines t_places t_commons t_linesF t_placesF t_commonsF t_endings) res) args s 0 0 (va_A (wX3 ki t t_lines t_places t_commons t_linesF t_placesF t_commonsF t_endings) s.heap.size)) D (va_A (wX3 ki t t_lines t_places t_commons t_linesF t_placesF t_commonsF t_endings) s.heap.size) 4 0 0 2 [(0, .ref t), (1, .int p1), (2, .int p2), (3, .int x3)] [] (wX3 ki t t_lines t_places t_commons t_linesF t_placesF t_commonsF t_endings) := by
    intro fuel
    induction fuel with
    | zero => intro x3 k hF hX; exact nomatch hF
    | succ fuel ih =>
      intro x3 k hF hX
      rw [f_X3_rankOf_L2] at hF
      refine a_iload_n C 3 dX3_rankOf_2 rfl rfl ?_
      refine a_aload_n C 0 dX3_rankOf_3 rfl rfl ?_
      refine a_get C 0 3 iwX3 rfl rfl (by decide) kf_X3_21 rfl dX3_rankOf_4 ?_
      refine a_ic_ge C (tgt := 36) dX3_rankOf_7 (by decide) hF (fun c7_1 hF => ?_) (fun c7_1 hF => ?_)
      · refine a_sub C [3] [(3, .int x3)] rfl ?_
        exact hX x3 hF
      refine a_aload_n C 0 dX3_rankOf_10 rfl rfl ?_
      refine a_get C 0 0 iwX3 rfl rfl (by decide) kf_X3_9 rfl dX3_rankOf_11 ?_
      refine a_iload_n C 3 dX3_rankOf_14 rfl rfl ?_
      refine a_iald C 1 1 rfl rfl dX3_rankOf_15 hF (fun v15_2 ev15_2 hF => ?_)
      refine a_iload_n C 1 dX3_rankOf_16 rfl rfl ?_
      refine a_ic_ne C (tgt := 30) dX3_rankOf_17 (by decide) hF (fun c17_3 hF => ?_) (fun c17_3 hF => ?_)
      · refine a_iinc C 3 [(3, .int (x3 + 1)), (0, .ref t), (1, .int p1), (2, .int p2)] dX3_rankOf_30 rfl rfl (by decide) rfl ?_
        refine a_goto C (tgt := 2) dX3_rankOf_33 (by decide) ?_
        refine a_sub C [1, 2, 3, 0] [(0, .ref t), (1, .int p1), (2, .int p2), (3, .int (x3 + 1))] rfl ?_
        exact ih (x3 + 1) k hF hX
      refine a_aload_n C 0 dX3_rankOf_20 rfl rfl ?_
      refine a_get C 0 1 iwX3 rfl rfl (by decide) kf_X3_15 rfl dX3_rankOf_21 ?_
      refine a_iload_n C 3 dX3_rankOf_24 rfl rfl ?_
      refine a_iald C 2 1 rfl rfl dX3_rankOf_25 hF (fun v25_4 ev25_4 hF => ?_)
      refine a_iload_n C 2 dX3_rankOf_26 rfl rfl ?_
      refine a_ic_eq C (tgt := 36) dX3_rankOf_27 (by decide) hF (fun c27_5 hF => ?_) (fun c27_5 hF => ?_)
      · refine a_sub C [3] [(3, .int x3)] rfl ?_
        exact hX x3 hF
      refine a_iinc C 3 [(3, .int (x3 + 1)), (0, .ref t), (1, .int p1), (2, .int p2)] dX3_rankOf_30 rfl rfl (by decide) rfl ?_
      refine a_goto C (tgt := 2) dX3_rankOf_33 (by decide) ?_
      refine a_sub C [1, 2, 3, 0] [(0, .ref t), (1, .int p1), (2, .int p2), (3, .int (x3 + 1))] rfl ?_
      exact ih (x3 + 1) k hF hX
  unfold f_X3_rankOf at hF
  refine a_iconst C (v := 0) dX3_rankOf_0 (by decide) ?_
  refine a_istore_n C [(3, .int 0), (0, .ref t), (1, .int p1), (2, .int p2)] dX3_rankOf_1 rfl (by decide) rfl ?_
  refine a_sub C [1, 2, 3, 0] [(0, .ref t), (1, .int p1), (2, .int p2), (3, .int 0)] rfl ?_
  refine hI2 1000 0 _ hF (fun x3_2_6 hF => ?_)
  refine a_iload_n C 0 dX3_rankOf_36 rfl rfl ?_
  exact a_iret C hr rfl dX3_rankOf_37 hF rfl rfl
def f_X3_longestCommon_L4 (t_commonsF : Nat → Int32) (t_endings : Int32) : Nat → Int32 → Int32 → (Int32 → Int32 → Option Int32) → Option Int32
  | 0, _, _, _ => none
  | fuel + 1, x1, x2, k => if t_endings ≤ x2 then (k x1 x2) else ((ldi t_commonsF 80 x2).bind fun v18_2 => f_X3_longestCommon_L4 t_commonsF t_endings fuel (if x1 < v18_2 then v18_2 else x1) (x2 + 1) k)
def f_X3_longestCommon (t_commonsF : Nat → Int32) (t_endings : Int32) : Option Int32 := f_X3_longestCommon_L4 t_commonsF t_endings 1000 0 1 (fun x1_4_3 x2_4_4 => some x1_4_3)
theorem hd_X3_longestCommon : yX3_longestCommon.cls = RX3 ∧ yX3_longestCommon.cls ≠ "java/lang/invoke/MethodHandle" ∧ yX3_longestCommon.cls ≠ "java/lang/invoke/VarHandle" ∧ (parseMethodDescriptor yX3_longestCommon.desc).map (fun d => d.parameters.length) = some 0 := by decide +kernel
set_option maxRecDepth 100000 in
set_option maxHeartbeats 4000000 in
theorem c_X3_longestCommon (l : Launch) (D : va_G) (J : JT) (kc ki kb kl kd : ClassId) (t : Nat) (t_lines : Nat) (t_places : Nat) (t_commons : Nat) (t_linesF : Nat → Int32) (t_placesF : Nat → Int32) (t_commonsF : Nat → Int32) (t_endings : Int32) (res : Int32) (hF : f_X3_longestCommon t_commonsF t_endings = some res) : aKi l yX3_longestCommon (aW yX3_longestCommon cX3_longestCommon 3 ((some .int))) ({ frames := 1, cells := 0, slots := 0, locals := 30 } : Room) D J (aTy kc ki kb kl kd) [.ref t] (wX3 ki t t_lines t_places t_commons t_linesF t_placesF t_commonsF t_endings) (fun r => r) (fun _ => wX3 ki t t_lines t_places t_commons t_linesF t_placesF t_commonsF t_endings) res := by
  refine aKi_of (own := RX3) (by decide) rfl (Nat.le_of_ble_eq_true rfl) rfl ?_
  intro p e s m args below meth c C hr
  have hI4 : ∀ (fuel : Nat) (x1 : Int32) (x2 : Int32) (k : Int32 → Int32 → Option Int32), f_X3_longestCommon_L4 t_commonsF t_endings fuel x1 x2 k = some res → (∀ (x1 : Int32) (x2 : Int32), k x1 x2 = some res → aT p l e ({ frames := 1, cells := 0, slots := 0, locals := 30 } : Room) s m args below meth c (MQ below (aQi D (wX3 ki t t_lines t_places t_commons t_linesF t_placesF t_commonsF t_endings) s.heap.size (fun r => r) (fun _ => wX3 ki t t_lines t_places t_commons t_linesF t_placesF t_commonsF t_endings) res) args s 0 0 (va_A (wX3 ki t t_lines t_places t_commons t_linesF t_placesF t_commonsF t_endings) s.heap.size)) D (va_A (wX3 ki t t_lines t_places t_commons t_linesF t_placesF t_commonsF t_endings) s.heap.size) 3 0 0 29 [(1, .int x1)] [] (wX3 ki t t_lines t_places t_commons t_linesF t_placesF t_commonsF t_endings)) → aT p l e ({ frames := 1, cells := 0, slots := 0, locals := 30 } : Room) s m args below meth c (MQ below (aQi D (wX3 ki t t_lines t_places t_commons t_linesF t_placesF t_commonsF t_endings) s.heap.size (fun r => r) (fun _ => wX3 ki t t_lines t_places t_commons t_linesF t_placesF t_commonsF t_endings) res) args s 0 0 (va_A (wX3 ki t t_lines t_places t_commons t_linesF t_placesF t_commonsF t_endings) s.heap.size)) D (va_A (wX3 ki t t_lines t_places t_commons t_linesF t_placesF t_commonsF t_endings) s.heap.size) 3 0 0 4 [(0, .ref t), (1, .int x1), (2, .int x2)] [] (wX3 ki t t_lines t_places t_commons t_linesF t_placesF t_commonsF t_endings) := by
    intro fuel
    induction fuel with
    | zero => intro x1 x2 k hF hX; exact nomatch hF
    | succ fuel ih =>
      intro x1 x2 k hF hX
      rw [f_X3_longestCommon_L4] at hF
      refine a_iload_n C 2 dX3_longestCommon_4 rfl rfl ?_
      refine a_aload_n C 0 dX3_longestCommon_5 rfl rfl ?_
      refine a_get C 0 3 iwX3 rfl rfl (by decide) kf_X3_21 rfl dX3_longestCommon_6 ?_
      refine a_ic_ge C (tgt := 29) dX3_longestCommon_9 (by decide) hF (fun c9_1 hF => ?_) (fun c9_1 hF => ?_)
      · refine a_sub C [1] [(1, .int x1)] rfl ?_
        exact hX x1 x2 hF
      refine a_iload_n C 1 dX3_longestCommon_12 rfl rfl ?_
      refine a_aload_n C 0 dX3_longestCommon_13 rfl rfl ?_
      refine a_get C 0 2 iwX3 rfl rfl (by decide) kf_X3_18 rfl dX3_longestCommon_14 ?_
      refine a_iload_n C 2 dX3_longestCommon_17 rfl rfl ?_
      refine a_iald C 3 1 rfl rfl dX3_longestCommon_18 hF (fun v18_2 ev18_2 hF => ?_)
      refine a_mmax C kl_X3_60 ks_J9_max_7cf53 kn_J9 kc_J9_max_7cf53 ⟨Nat.le_of_ble_eq_true rfl, Nat.le_of_ble_eq_true rfl⟩ ⟨Nat.zero_le _, Nat.zero_le _⟩ dX3_longestCommon_19 ?_
      refine a_istore_n C [(1, .int (if x1 < v18_2 then v18_2 else x1)), (0, .ref t), (2, .int x2)] dX3_longestCommon_22 rfl (by decide) rfl ?_
      refine a_iinc C 2 [(2, .int (x2 + 1)), (1, .int (if x1 < v18_2 then v18_2 else x1)), (0, .ref t)] dX3_longestCommon_23 rfl rfl (by decide) rfl ?_
      refine a_goto C (tgt := 4) dX3_longestCommon_26 (by decide) ?_
      refine a_sub C [2, 1, 0] [(0, .ref t), (1, .int (if x1 < v18_2 then v18_2 else x1)), (2, .int (x2 + 1))] rfl ?_
      exact ih (if x1 < v18_2 then v18_2 else x1) (x2 + 1) k hF hX
  unfold f_X3_longestCommon at hF
  refine a_iconst C (v := 0) dX3_longestCommon_0 (by decide) ?_
  refine a_istore_n C [(1, .int 0), (0, .ref t)] dX3_longestCommon_1 rfl (by decide) rfl ?_
  refine a_iconst C (v := 1) dX3_longestCommon_2 (by decide) ?_
  refine a_istore_n C [(2, .int 1), (1, .int 0), (0, .ref t)] dX3_longestCommon_3 rfl (by decide) rfl ?_
  refine a_sub C [2, 1, 0] [(0, .ref t), (1, .int 0), (2, .int 1)] rfl ?_
  refine hI4 1000 0 1 _ hF (fun x1_4_3 x2_4_4 hF => ?_)
  refine a_iload_n C 0 dX3_longestCommon_29 rfl rfl ?_
  exact a_iret C hr rfl dX3_longestCommon_30 hF rfl rfl
theorem cs_X3_66 : GoodIn WW (wsV RX3 66 RX3 yX3_longestCommon (aW yX3_longestCommon cX3_longestCommon 3 ((some .int)))) := gdV kl_X3_66 ki_X3_longestCommon kv_X3_longestCommon kn_X3 kc_X3_longestCommon
def f_X3_firstLongestRank_L7 (x1 : Int32) (t_commonsF : Nat → Int32) (t_endings : Int32) : Nat → Int32 → (Int32 → Option Int32) → Option Int32
  | 0, _, _ => none
  | fuel + 1, x2, k => if t_endings ≤ x2 then (k x2) else ((ldi t_commonsF 80 x2).bind fun v20_3 => if v20_3 = x1 then (k x2) else (f_X3_firstLongestRank_L7 x1 t_commonsF t_endings fuel (x2 + 1) k))
def f_X3_firstLongestRank (t_commonsF : Nat → Int32) (t_endings : Int32) : Option Int32 := (f_X3_longestCommon t_commonsF t_endings).bind fun r1_1 => f_X3_firstLongestRank_L7 r1_1 t_commonsF t_endings 1000 1 (fun x2_7_5 => some (x2_7_5 - 1))
theorem hd_X3_firstLongestRank : yX3_firstLongestRank.cls = RX3 ∧ yX3_firstLongestRank.cls ≠ "java/lang/invoke/MethodHandle" ∧ yX3_firstLongestRank.cls ≠ "java/lang/invoke/VarHandle" ∧ (parseMethodDescriptor yX3_firstLongestRank.desc).map (fun d => d.parameters.length) = some 0 := by decide +kernel
set_option maxRecDepth 100000 in
set_option maxHeartbeats 4000000 in
theorem c_X3_firstLongestRank (l : Launch) (D : va_G) (J : JT) (kc ki kb kl kd : ClassId) (t : Nat) (t_lines : Nat) (t_places : Nat) (t_commons : Nat) (t_linesF : Nat → Int32) (t_placesF : Nat → Int32) (t_commonsF : Nat → Int32) (t_endings : Int32) (res : Int32) (hF : f_X3_firstLongestRank t_commonsF t_endings = some res) : aKi l yX3_firstLongestRank (aW yX3_firstLongestRank cX3_firstLongestRank 3 ((some .int))) ({ frames := 2, cells := 0, slots := 0, locals := 52 } : Room) D J (aTy kc ki kb kl kd) [.ref t] (wX3 ki t t_lines t_places t_commons t_linesF t_placesF t_commonsF t_endings) (fun r => r) (fun _ => wX3 ki t t_lines t_places t_commons t_linesF t_placesF t_commonsF t_endings) res := by
  refine aKi_of (own := RX3) (by decide) rfl (Nat.le_of_ble_eq_true rfl) rfl ?_
  intro p e s m args below meth c C hr
  have hI7 : ∀ (x1 : Int32) (fuel : Nat) (x2 : Int32) (k : Int32 → Option Int32), f_X3_firstLongestRank_L7 x1 t_commonsF t_endings fuel x2 k = some res → (∀ (x2 : Int32), k x2 = some res → aT p l e ({ frames := 2, cells := 0, slots := 0, locals := 52 } : Room) s m args below meth c (MQ below (aQi D (wX3 ki t t_lines t_places t_commons t_linesF t_placesF t_commonsF t_endings) s.heap.size (fun r => r) (fun _ => wX3 ki t t_lines t_places t_commons t_linesF t_placesF t_commonsF t_endings) res) args s 0 0 (va_A (wX3 ki t t_lines t_places t_commons t_linesF t_placesF t_commonsF t_endings) s.heap.size)) D (va_A (wX3 ki t t_lines t_places t_commons t_linesF t_placesF t_commonsF t_endings) s.heap.size) 3 0 0 31 [(2, .int x2)] [] (wX3 ki t t_lines t_places t_commons t_linesF t_placesF t_commonsF t_endings)) → aT p l e ({ frames := 2, cells := 0, slots := 0, locals := 52 } : Room) s m args below meth c (MQ below (aQi D (wX3 ki t t_lines t_places t_commons t_linesF t_placesF t_commonsF t_endings) s.heap.size (fun r => r) (fun _ => wX3 ki t t_lines t_places t_commons t_linesF t_placesF t_commonsF t_endings) res) args s 0 0 (va_A (wX3 ki t t_lines t_places t_commons t_linesF t_placesF t_commonsF t_endings) s.heap.size)) D (va_A (wX3 ki t t_lines t_places t_commons t_linesF t_placesF t_commonsF t_endings) s.heap.size) 3 0 0 7 [(0, .ref t), (1, .int x1), (2, .int x2)] [] (wX3 ki t t_lines t_places t_commons t_linesF t_placesF t_commonsF t_endings) := by
    intro x1 fuel
    induction fuel with
    | zero => intro x2 k hF hX; exact nomatch hF
    | succ fuel ih =>
      intro x2 k hF hX
      rw [f_X3_firstLongestRank_L7] at hF
      refine a_iload_n C 2 dX3_firstLongestRank_7 rfl rfl ?_
      refine a_aload_n C 0 dX3_firstLongestRank_8 rfl rfl ?_
      refine a_get C 0 3 iwX3 rfl rfl (by decide) kf_X3_21 rfl dX3_firstLongestRank_9 ?_
      refine a_ic_ge C (tgt := 31) dX3_firstLongestRank_12 (by decide) hF (fun c12_2 hF => ?_) (fun c12_2 hF => ?_)
      · refine a_sub C [2] [(2, .int x2)] rfl ?_
        exact hX x2 hF
      refine a_aload_n C 0 dX3_firstLongestRank_15 rfl rfl ?_
      refine a_get C 0 2 iwX3 rfl rfl (by decide) kf_X3_18 rfl dX3_firstLongestRank_16 ?_
      refine a_iload_n C 2 dX3_firstLongestRank_19 rfl rfl ?_
      refine a_iald C 3 1 rfl rfl dX3_firstLongestRank_20 hF (fun v20_3 ev20_3 hF => ?_)
      refine a_iload_n C 1 dX3_firstLongestRank_21 rfl rfl ?_
      refine a_ic_eq C (tgt := 31) dX3_firstLongestRank_22 (by decide) hF (fun c22_4 hF => ?_) (fun c22_4 hF => ?_)
      · refine a_sub C [2] [(2, .int x2)] rfl ?_
        exact hX x2 hF
      refine a_iinc C 2 [(2, .int (x2 + 1)), (0, .ref t), (1, .int x1)] dX3_firstLongestRank_25 rfl rfl (by decide) rfl ?_
      refine a_goto C (tgt := 7) dX3_firstLongestRank_28 (by decide) ?_
      refine a_sub C [1, 2, 0] [(0, .ref t), (1, .int x1), (2, .int (x2 + 1))] rfl ?_
      exact ih (x2 + 1) k hF hX
  unfold f_X3_firstLongestRank at hF
  refine a_aload_n C 0 dX3_firstLongestRank_0 rfl rfl ?_
  refine a_callVir C 0 [0, 1, 2, 3] 0 cs_X3_66 hd_X3_longestCommon ⟨rfl, rfl⟩ ⟨Nat.le_of_ble_eq_true rfl, Nat.le_of_ble_eq_true rfl⟩ (fun r h => c_X3_longestCommon l D J kc ki kb kl kd t t_lines t_places t_commons t_linesF t_placesF t_commonsF t_endings r h) rfl rfl rfl rfl rfl rfl (Nat.le_of_ble_eq_true rfl) dX3_firstLongestRank_1 ⟨Nat.zero_le _, Nat.zero_le _⟩ hF (fun r1_1 er1_1 hF => ?_)
  refine a_istore_n C [(1, .int r1_1), (0, .ref t)] dX3_firstLongestRank_4 rfl (by decide) rfl ?_
  refine a_iconst C (v := 1) dX3_firstLongestRank_5 (by decide) ?_
  refine a_istore_n C [(2, .int 1), (1, .int r1_1), (0, .ref t)] dX3_firstLongestRank_6 rfl (by decide) rfl ?_
  refine a_sub C [2, 1, 0] [(0, .ref t), (1, .int r1_1), (2, .int 1)] rfl ?_
  refine hI7 r1_1 1000 1 _ hF (fun x2_7_5 hF => ?_)
  refine a_iload_n C 0 dX3_firstLongestRank_31 rfl rfl ?_
  refine a_iconst C (v := 1) dX3_firstLongestRank_32 (by decide) ?_
  refine a_isub C dX3_firstLongestRank_33 ?_
  exact a_iret C hr rfl dX3_firstLongestRank_34 hF rfl rfl
def f_X3_sumOfCommons_L4 (t_commonsF : Nat → Int32) (t_endings : Int32) : Nat → Int32 → Int32 → (Int32 → Int32 → Option Int32) → Option Int32
  | 0, _, _, _ => none
  | fuel + 1, x1, x2, k => if t_endings ≤ x2 then (k x1 x2) else ((ldi t_commonsF 80 x2).bind fun v18_2 => f_X3_sumOfCommons_L4 t_commonsF t_endings fuel (x1 + v18_2) (x2 + 1) k)
def f_X3_sumOfCommons (t_commonsF : Nat → Int32) (t_endings : Int32) : Option Int32 := f_X3_sumOfCommons_L4 t_commonsF t_endings 1000 0 1 (fun x1_4_3 x2_4_4 => some x1_4_3)
theorem hd_X3_sumOfCommons : yX3_sumOfCommons.cls = RX3 ∧ yX3_sumOfCommons.cls ≠ "java/lang/invoke/MethodHandle" ∧ yX3_sumOfCommons.cls ≠ "java/lang/invoke/VarHandle" ∧ (parseMethodDescriptor yX3_sumOfCommons.desc).map (fun d => d.parameters.length) = some 0 := by decide +kernel
set_option maxRecDepth 100000 in
set_option maxHeartbeats 4000000 in
theorem c_X3_sumOfCommons (l : Launch) (D : va_G) (J : JT) (kc ki kb kl kd : ClassId) (t : Nat) (t_lines : Nat) (t_places : Nat) (t_commons : Nat) (t_linesF : Nat → Int32) (t_placesF : Nat → Int32) (t_commonsF : Nat → Int32) (t_endings : Int32) (res : Int32) (hF : f_X3_sumOfCommons t_commonsF t_endings = some res) : aKi l yX3_sumOfCommons (aW yX3_sumOfCommons cX3_sumOfCommons 3 ((some .int))) ({ frames := 0, cells := 0, slots := 0, locals := 0 } : Room) D J (aTy kc ki kb kl kd) [.ref t] (wX3 ki t t_lines t_places t_commons t_linesF t_placesF t_commonsF t_endings) (fun r => r) (fun _ => wX3 ki t t_lines t_places t_commons t_linesF t_placesF t_commonsF t_endings) res := by
  refine aKi_of (own := RX3) (by decide) rfl (Nat.le_of_ble_eq_true rfl) rfl ?_
  intro p e s m args below meth c C hr
  have hI4 : ∀ (fuel : Nat) (x1 : Int32) (x2 : Int32) (k : Int32 → Int32 → Option Int32), f_X3_sumOfCommons_L4 t_commonsF t_endings fuel x1 x2 k = some res → (∀ (x1 : Int32) (x2 : Int32), k x1 x2 = some res → aT p l e ({ frames := 0, cells := 0, slots := 0, locals := 0 } : Room) s m args below meth c (MQ below (aQi D (wX3 ki t t_lines t_places t_commons t_linesF t_placesF t_commonsF t_endings) s.heap.size (fun r => r) (fun _ => wX3 ki t t_lines t_places t_commons t_linesF t_placesF t_commonsF t_endings) res) args s 0 0 (va_A (wX3 ki t t_lines t_places t_commons t_linesF t_placesF t_commonsF t_endings) s.heap.size)) D (va_A (wX3 ki t t_lines t_places t_commons t_linesF t_placesF t_commonsF t_endings) s.heap.size) 3 0 0 27 [(1, .int x1)] [] (wX3 ki t t_lines t_places t_commons t_linesF t_placesF t_commonsF t_endings)) → aT p l e ({ frames := 0, cells := 0, slots := 0, locals := 0 } : Room) s m args below meth c (MQ below (aQi D (wX3 ki t t_lines t_places t_commons t_linesF t_placesF t_commonsF t_endings) s.heap.size (fun r => r) (fun _ => wX3 ki t t_lines t_places t_commons t_linesF t_placesF t_commonsF t_endings) res) args s 0 0 (va_A (wX3 ki t t_lines t_places t_commons t_linesF t_placesF t_commonsF t_endings) s.heap.size)) D (va_A (wX3 ki t t_lines t_places t_commons t_linesF t_placesF t_commonsF t_endings) s.heap.size) 3 0 0 4 [(0, .ref t), (1, .int x1), (2, .int x2)] [] (wX3 ki t t_lines t_places t_commons t_linesF t_placesF t_commonsF t_endings) := by
    intro fuel
    induction fuel with
    | zero => intro x1 x2 k hF hX; exact nomatch hF
    | succ fuel ih =>
      intro x1 x2 k hF hX
      rw [f_X3_sumOfCommons_L4] at hF
      refine a_iload_n C 2 dX3_sumOfCommons_4 rfl rfl ?_
      refine a_aload_n C 0 dX3_sumOfCommons_5 rfl rfl ?_
      refine a_get C 0 3 iwX3 rfl rfl (by decide) kf_X3_21 rfl dX3_sumOfCommons_6 ?_
      refine a_ic_ge C (tgt := 27) dX3_sumOfCommons_9 (by decide) hF (fun c9_1 hF => ?_) (fun c9_1 hF => ?_)
      · refine a_sub C [1] [(1, .int x1)] rfl ?_
        exact hX x1 x2 hF
      refine a_iload_n C 1 dX3_sumOfCommons_12 rfl rfl ?_
      refine a_aload_n C 0 dX3_sumOfCommons_13 rfl rfl ?_
      refine a_get C 0 2 iwX3 rfl rfl (by decide) kf_X3_18 rfl dX3_sumOfCommons_14 ?_
      refine a_iload_n C 2 dX3_sumOfCommons_17 rfl rfl ?_
      refine a_iald C 3 1 rfl rfl dX3_sumOfCommons_18 hF (fun v18_2 ev18_2 hF => ?_)
      refine a_iadd C dX3_sumOfCommons_19 ?_
      refine a_istore_n C [(1, .int (x1 + v18_2)), (0, .ref t), (2, .int x2)] dX3_sumOfCommons_20 rfl (by decide) rfl ?_
      refine a_iinc C 2 [(2, .int (x2 + 1)), (1, .int (x1 + v18_2)), (0, .ref t)] dX3_sumOfCommons_21 rfl rfl (by decide) rfl ?_
      refine a_goto C (tgt := 4) dX3_sumOfCommons_24 (by decide) ?_
      refine a_sub C [2, 1, 0] [(0, .ref t), (1, .int (x1 + v18_2)), (2, .int (x2 + 1))] rfl ?_
      exact ih (x1 + v18_2) (x2 + 1) k hF hX
  unfold f_X3_sumOfCommons at hF
  refine a_iconst C (v := 0) dX3_sumOfCommons_0 (by decide) ?_
  refine a_istore_n C [(1, .int 0), (0, .ref t)] dX3_sumOfCommons_1 rfl (by decide) rfl ?_
  refine a_iconst C (v := 1) dX3_sumOfCommons_2 (by decide) ?_
  refine a_istore_n C [(2, .int 1), (1, .int 0), (0, .ref t)] dX3_sumOfCommons_3 rfl (by decide) rfl ?_
  refine a_sub C [2, 1, 0] [(0, .ref t), (1, .int 0), (2, .int 1)] rfl ?_
  refine hI4 1000 0 1 _ hF (fun x1_4_3 x2_4_4 hF => ?_)
  refine a_iload_n C 0 dX3_sumOfCommons_27 rfl rfl ?_
  exact a_iret C hr rfl dX3_sumOfCommons_28 hF rfl rfl
def f_X3_countRepeats_L4 (t_commonsF : Nat → Int32) (t_endings : Int32) : Nat → Int32 → Int32 → (Int32 → Int32 → Option Int32) → Option Int32
  | 0, _, _, _ => none
  | fuel + 1, x1, x2, k => if t_endings ≤ x2 then (k x1 x2) else ((ldi t_commonsF 80 x2).bind fun v17_2 => if v17_2 ≤ 0 then (f_X3_countRepeats_L4 t_commonsF t_endings fuel x1 (x2 + 1) k) else (f_X3_countRepeats_L4 t_commonsF t_endings fuel (x1 + 1) (x2 + 1) k))
def f_X3_countRepeats (t_commonsF : Nat → Int32) (t_endings : Int32) : Option Int32 := f_X3_countRepeats_L4 t_commonsF t_endings 1000 0 1 (fun x1_4_4 x2_4_5 => some x1_4_4)
theorem hd_X3_countRepeats : yX3_countRepeats.cls = RX3 ∧ yX3_countRepeats.cls ≠ "java/lang/invoke/MethodHandle" ∧ yX3_countRepeats.cls ≠ "java/lang/invoke/VarHandle" ∧ (parseMethodDescriptor yX3_countRepeats.desc).map (fun d => d.parameters.length) = some 0 := by decide +kernel
set_option maxRecDepth 100000 in
set_option maxHeartbeats 4000000 in
theorem c_X3_countRepeats (l : Launch) (D : va_G) (J : JT) (kc ki kb kl kd : ClassId) (t : Nat) (t_lines : Nat) (t_places : Nat) (t_commons : Nat) (t_linesF : Nat → Int32) (t_placesF : Nat → Int32) (t_commonsF : Nat → Int32) (t_endings : Int32) (res : Int32) (hF : f_X3_countRepeats t_commonsF t_endings = some res) : aKi l yX3_countRepeats (aW yX3_countRepeats cX3_countRepeats 3 ((some .int))) ({ frames := 0, cells := 0, slots := 0, locals := 0 } : Room) D J (aTy kc ki kb kl kd) [.ref t] (wX3 ki t t_lines t_places t_commons t_linesF t_placesF t_commonsF t_endings) (fun r => r) (fun _ => wX3 ki t t_lines t_places t_commons t_linesF t_placesF t_commonsF t_endings) res := by
  refine aKi_of (own := RX3) (by decide) rfl (Nat.le_of_ble_eq_true rfl) rfl ?_
  intro p e s m args below meth c C hr
  have hI4 : ∀ (fuel : Nat) (x1 : Int32) (x2 : Int32) (k : Int32 → Int32 → Option Int32), f_X3_countRepeats_L4 t_commonsF t_endings fuel x1 x2 k = some res → (∀ (x1 : Int32) (x2 : Int32), k x1 x2 = some res → aT p l e ({ frames := 0, cells := 0, slots := 0, locals := 0 } : Room) s m args below meth c (MQ below (aQi D (wX3 ki t t_lines t_places t_commons t_linesF t_placesF t_commonsF t_endings) s.heap.size (fun r => r) (fun _ => wX3 ki t t_lines t_places t_commons t_linesF t_placesF t_commonsF t_endings) res) args s 0 0 (va_A (wX3 ki t t_lines t_places t_commons t_linesF t_placesF t_commonsF t_endings) s.heap.size)) D (va_A (wX3 ki t t_lines t_places t_commons t_linesF t_placesF t_commonsF t_endings) s.heap.size) 3 0 0 30 [(1, .int x1)] [] (wX3 ki t t_lines t_places t_commons t_linesF t_placesF t_commonsF t_endings)) → aT p l e ({ frames := 0, cells := 0, slots := 0, locals := 0 } : Room) s m args below meth c (MQ below (aQi D (wX3 ki t t_lines t_places t_commons t_linesF t_placesF t_commonsF t_endings) s.heap.size (fun r => r) (fun _ => wX3 ki t t_lines t_places t_commons t_linesF t_placesF t_commonsF t_endings) res) args s 0 0 (va_A (wX3 ki t t_lines t_places t_commons t_linesF t_placesF t_commonsF t_endings) s.heap.size)) D (va_A (wX3 ki t t_lines t_places t_commons t_linesF t_placesF t_commonsF t_endings) s.heap.size) 3 0 0 4 [(0, .ref t), (1, .int x1), (2, .int x2)] [] (wX3 ki t t_lines t_places t_commons t_linesF t_placesF t_commonsF t_endings) := by
    intro fuel
    induction fuel with
    | zero => intro x1 x2 k hF hX; exact nomatch hF
    | succ fuel ih =>
      intro x1 x2 k hF hX
      rw [f_X3_countRepeats_L4] at hF
      refine a_iload_n C 2 dX3_countRepeats_4 rfl rfl ?_
      refine a_aload_n C 0 dX3_countRepeats_5 rfl rfl ?_
      refine a_get C 0 3 iwX3 rfl rfl (by decide) kf_X3_21 rfl dX3_countRepeats_6 ?_
      refine a_ic_ge C (tgt := 30) dX3_countRepeats_9 (by decide) hF (fun c9_1 hF => ?_) (fun c9_1 hF => ?_)
      · refine a_sub C [1] [(1, .int x1)] rfl ?_
        exact hX x1 x2 hF
      refine a_aload_n C 0 dX3_countRepeats_12 rfl rfl ?_
      refine a_get C 0 2 iwX3 rfl rfl (by decide) kf_X3_18 rfl dX3_countRepeats_13 ?_
      refine a_iload_n C 2 dX3_countRepeats_16 rfl rfl ?_
      refine a_iald C 3 1 rfl rfl dX3_countRepeats_17 hF (fun v17_2 ev17_2 hF => ?_)
      refine a_if_le C (tgt := 24) dX3_countRepeats_18 (by decide) hF (fun c18_3 hF => ?_) (fun c18_3 hF => ?_)
      · refine a_iinc C 2 [(2, .int (x2 + 1)), (0, .ref t), (1, .int x1)] dX3_countRepeats_24 rfl rfl (by decide) rfl ?_
        refine a_goto C (tgt := 4) dX3_countRepeats_27 (by decide) ?_
        refine a_sub C [1, 2, 0] [(0, .ref t), (1, .int x1), (2, .int (x2 + 1))] rfl ?_
        exact ih x1 (x2 + 1) k hF hX
      refine a_iinc C 1 [(1, .int (x1 + 1)), (0, .ref t), (2, .int x2)] dX3_countRepeats_21 rfl rfl (by decide) rfl ?_
      refine a_iinc C 2 [(2, .int (x2 + 1)), (1, .int (x1 + 1)), (0, .ref t)] dX3_countRepeats_24 rfl rfl (by decide) rfl ?_
      refine a_goto C (tgt := 4) dX3_countRepeats_27 (by decide) ?_
      refine a_sub C [2, 1, 0] [(0, .ref t), (1, .int (x1 + 1)), (2, .int (x2 + 1))] rfl ?_
      exact ih (x1 + 1) (x2 + 1) k hF hX
  unfold f_X3_countRepeats at hF
  refine a_iconst C (v := 0) dX3_countRepeats_0 (by decide) ?_
  refine a_istore_n C [(1, .int 0), (0, .ref t)] dX3_countRepeats_1 rfl (by decide) rfl ?_
  refine a_iconst C (v := 1) dX3_countRepeats_2 (by decide) ?_
  refine a_istore_n C [(2, .int 1), (1, .int 0), (0, .ref t)] dX3_countRepeats_3 rfl (by decide) rfl ?_
  refine a_sub C [2, 1, 0] [(0, .ref t), (1, .int 0), (2, .int 1)] rfl ?_
  refine hI4 1000 0 1 _ hF (fun x1_4_4 x2_4_5 hF => ?_)
  refine a_iload_n C 0 dX3_countRepeats_30 rfl rfl ?_
  exact a_iret C hr rfl dX3_countRepeats_31 hF rfl rfl
theorem cs_X3_69 : GoodIn WW (wsV RX3 69 RX3 yX3_commonAt (aW yX3_commonAt cX3_commonAt 2 ((some .int)))) := gdV kl_X3_69 ki_X3_commonAt kv_X3_commonAt kn_X3 kc_X3_commonAt
def f_X3_countPieces_L4 (t_linesF : Nat → Int32) (t_placesF : Nat → Int32) (t_commonsF : Nat → Int32) (t_endings : Int32) (o1_sizesF : Nat → Int32) (o1_lines : Int32) : Nat → Int32 → Int32 → (Int32 → Int32 → Option Int32) → Option Int32
  | 0, _, _, _ => none
  | fuel + 1, x2, x3, k => if t_endings ≤ x3 then (k x2 x3) else ((ldi t_linesF 80 x3).bind fun v19_2 => (f_X0_size o1_sizesF o1_lines v19_2).bind fun r20_3 => (ldi t_placesF 80 x3).bind fun v28_4 => (f_X3_commonAt t_commonsF t_endings x3).bind fun r32_5 => f_X3_countPieces_L4 t_linesF t_placesF t_commonsF t_endings o1_sizesF o1_lines fuel (x2 + ((r20_3 - v28_4) - r32_5)) (x3 + 1) k)
def f_X3_countPieces (t_linesF : Nat → Int32) (t_placesF : Nat → Int32) (t_commonsF : Nat → Int32) (t_endings : Int32) (o1_sizesF : Nat → Int32) (o1_lines : Int32) : Option Int32 := f_X3_countPieces_L4 t_linesF t_placesF t_commonsF t_endings o1_sizesF o1_lines 1000 0 0 (fun x2_4_6 x3_4_7 => some x2_4_6)
theorem hd_X3_countPieces : yX3_countPieces.cls = RX3 ∧ yX3_countPieces.cls ≠ "java/lang/invoke/MethodHandle" ∧ yX3_countPieces.cls ≠ "java/lang/invoke/VarHandle" ∧ (parseMethodDescriptor yX3_countPieces.desc).map (fun d => d.parameters.length) = some 1 := by decide +kernel
set_option maxRecDepth 100000 in
set_option maxHeartbeats 4000000 in
theorem c_X3_countPieces (l : Launch) (D : va_G) (J : JT) (kc ki kb kl kd : ClassId) (t : Nat) (t_lines : Nat) (t_places : Nat) (t_commons : Nat) (o1 : Nat) (o1_letters : Nat) (o1_sizes : Nat) (t_linesF : Nat → Int32) (t_placesF : Nat → Int32) (t_commonsF : Nat → Int32) (t_endings : Int32) (o1_lettersF : Nat → Int32) (o1_sizesF : Nat → Int32) (o1_lines : Int32) (res : Int32) (hF : f_X3_countPieces t_linesF t_placesF t_commonsF t_endings o1_sizesF o1_lines = some res) : aKi l yX3_countPieces (aW yX3_countPieces cX3_countPieces 4 ((some .int))) ({ frames := 2, cells := 0, slots := 0, locals := 42 } : Room) D J (aTy kc ki kb kl kd) [.ref t, .ref o1] (wX3 ki t t_lines t_places t_commons t_linesF t_placesF t_commonsF t_endings ++ wX0 kc ki o1 o1_letters o1_sizes o1_lettersF o1_sizesF o1_lines) (fun r => r) (fun _ => wX3 ki t t_lines t_places t_commons t_linesF t_placesF t_commonsF t_endings ++ wX0 kc ki o1 o1_letters o1_sizes o1_lettersF o1_sizesF o1_lines) res := by
  refine aKi_of (own := RX3) (by decide) rfl (Nat.le_of_ble_eq_true rfl) rfl ?_
  intro p e s m args below meth c C hr
  have hI4 : ∀ (fuel : Nat) (x2 : Int32) (x3 : Int32) (k : Int32 → Int32 → Option Int32), f_X3_countPieces_L4 t_linesF t_placesF t_commonsF t_endings o1_sizesF o1_lines fuel x2 x3 k = some res → (∀ (x2 : Int32) (x3 : Int32), k x2 x3 = some res → aT p l e ({ frames := 2, cells := 0, slots := 0, locals := 42 } : Room) s m args below meth c (MQ below (aQi D (wX3 ki t t_lines t_places t_commons t_linesF t_placesF t_commonsF t_endings ++ wX0 kc ki o1 o1_letters o1_sizes o1_lettersF o1_sizesF o1_lines) s.heap.size (fun r => r) (fun _ => wX3 ki t t_lines t_places t_commons t_linesF t_placesF t_commonsF t_endings ++ wX0 kc ki o1 o1_letters o1_sizes o1_lettersF o1_sizesF o1_lines) res) args s 0 0 (va_A (wX3 ki t t_lines t_places t_commons t_linesF t_placesF t_commonsF t_endings ++ wX0 kc ki o1 o1_letters o1_sizes o1_lettersF o1_sizesF o1_lines) s.heap.size)) D (va_A (wX3 ki t t_lines t_places t_commons t_linesF t_placesF t_commonsF t_endings ++ wX0 kc ki o1 o1_letters o1_sizes o1_lettersF o1_sizesF o1_lines) s.heap.size) 4 0 0 44 [(2, .int x2)] [] (wX3 ki t t_lines t_places t_commons t_linesF t_placesF t_commonsF t_endings ++ wX0 kc ki o1 o1_letters o1_sizes o1_lettersF o1_sizesF o1_lines)) → aT p l e ({ frames := 2, cells := 0, slots := 0, locals := 42 } : Room) s m args below meth c (MQ below (aQi D (wX3 ki t t_lines t_places t_commons t_linesF t_placesF t_commonsF t_endings ++ wX0 kc ki o1 o1_letters o1_sizes o1_lettersF o1_sizesF o1_lines) s.heap.size (fun r => r) (fun _ => wX3 ki t t_lines t_places t_commons t_linesF t_placesF t_commonsF t_endings ++ wX0 kc ki o1 o1_letters o1_sizes o1_lettersF o1_sizesF o1_lines) res) args s 0 0 (va_A (wX3 ki t t_lines t_places t_commons t_linesF t_placesF t_commonsF t_endings ++ wX0 kc ki o1 o1_letters o1_sizes o1_lettersF o1_sizesF o1_lines) s.heap.size)) D (va_A (wX3 ki t t_lines t_places t_commons t_linesF t_placesF t_commonsF t_endings ++ wX0 kc ki o1 o1_letters o1_sizes o1_lettersF o1_sizesF o1_lines) s.heap.size) 4 0 0 4 [(0, .ref t), (1, .ref o1), (2, .int x2), (3, .int x3)] [] (wX3 ki t t_lines t_places t_commons t_linesF t_placesF t_commonsF t_endings ++ wX0 kc ki o1 o1_letters o1_sizes o1_lettersF o1_sizesF o1_lines) := by
    intro fuel
    induction fuel with
    | zero => intro x2 x3 k hF hX; exact nomatch hF
    | succ fuel ih =>
      intro x2 x3 k hF hX
      rw [f_X3_countPieces_L4] at hF
      refine a_iload_n C 3 dX3_countPieces_4 rfl rfl ?_
      refine a_aload_n C 0 dX3_countPieces_5 rfl rfl ?_
      refine a_get C 0 3 iwX3 rfl rfl (by decide) kf_X3_21 rfl dX3_countPieces_6 ?_
      refine a_ic_ge C (tgt := 44) dX3_countPieces_9 (by decide) hF (fun c9_1 hF => ?_) (fun c9_1 hF => ?_)
      · refine a_sub C [2] [(2, .int x2)] rfl ?_
        exact hX x2 x3 hF
      refine a_iload_n C 2 dX3_countPieces_12 rfl rfl ?_
      refine a_aload_n C 1 dX3_countPieces_13 rfl rfl ?_
      refine a_aload_n C 0 dX3_countPieces_14 rfl rfl ?_
      refine a_get C 0 0 iwX3 rfl rfl (by decide) kf_X3_9 rfl dX3_countPieces_15 ?_
      refine a_iload_n C 3 dX3_countPieces_18 rfl rfl ?_
      refine a_iald C 1 1 rfl rfl dX3_countPieces_19 hF (fun v19_2 ev19_2 hF => ?_)
      refine a_callVir C 1 [4, 5, 6] 4 cs_X3_34 hd_X0_size ⟨rfl, rfl⟩ ⟨Nat.le_of_ble_eq_true rfl, Nat.le_of_ble_eq_true rfl⟩ (fun r h => c_X0_size l D J kc ki kb kl kd o1 o1_letters o1_sizes o1_lettersF o1_sizesF o1_lines v19_2 r h) rfl rfl rfl rfl rfl rfl (Nat.le_of_ble_eq_true rfl) dX3_countPieces_20 ⟨Nat.zero_le _, Nat.zero_le _⟩ hF (fun r20_3 er20_3 hF => ?_)
      refine a_aload_n C 0 dX3_countPieces_23 rfl rfl ?_
      refine a_get C 0 1 iwX3 rfl rfl (by decide) kf_X3_15 rfl dX3_countPieces_24 ?_
      refine a_iload_n C 3 dX3_countPieces_27 rfl rfl ?_
      refine a_iald C 2 1 rfl rfl dX3_countPieces_28 hF (fun v28_4 ev28_4 hF => ?_)
      refine a_isub C dX3_countPieces_29 ?_
      refine a_aload_n C 0 dX3_countPieces_30 rfl rfl ?_
      refine a_iload_n C 3 dX3_countPieces_31 rfl rfl ?_
      refine a_callVir C 1 [0, 1, 2, 3] 0 cs_X3_69 hd_X3_commonAt ⟨rfl, rfl⟩ ⟨Nat.le_of_ble_eq_true rfl, Nat.le_of_ble_eq_true rfl⟩ (fun r h => c_X3_commonAt l D J kc ki kb kl kd t t_lines t_places t_commons t_linesF t_placesF t_commonsF t_endings x3 r h) rfl rfl rfl rfl rfl rfl (Nat.le_of_ble_eq_true rfl) dX3_countPieces_32 ⟨Nat.zero_le _, Nat.zero_le _⟩ hF (fun r32_5 er32_5 hF => ?_)
      refine a_isub C dX3_countPieces_35 ?_
      refine a_iadd C dX3_countPieces_36 ?_
      refine a_istore_n C [(2, .int (x2 + ((r20_3 - v28_4) - r32_5))), (0, .ref t), (1, .ref o1), (3, .int x3)] dX3_countPieces_37 rfl (by decide) rfl ?_
      refine a_iinc C 3 [(3, .int (x3 + 1)), (2, .int (x2 + ((r20_3 - v28_4) - r32_5))), (0, .ref t), (1, .ref o1)] dX3_countPieces_38 rfl rfl (by decide) rfl ?_
      refine a_goto C (tgt := 4) dX3_countPieces_41 (by decide) ?_
      refine a_sub C [2, 3, 1, 0] [(0, .ref t), (1, .ref o1), (2, .int (x2 + ((r20_3 - v28_4) - r32_5))), (3, .int (x3 + 1))] rfl ?_
      exact ih (x2 + ((r20_3 - v28_4) - r32_5)) (x3 + 1) k hF hX
  unfold f_X3_countPieces at hF
  refine a_iconst C (v := 0) dX3_countPieces_0 (by decide) ?_
  refine a_istore_n C [(2, .int 0), (0, .ref t), (1, .ref o1)] dX3_countPieces_1 rfl (by decide) rfl ?_
  refine a_iconst C (v := 0) dX3_countPieces_2 (by decide) ?_
  refine a_istore_n C [(3, .int 0), (2, .int 0), (0, .ref t), (1, .ref o1)] dX3_countPieces_3 rfl (by decide) rfl ?_
  refine a_sub C [2, 3, 1, 0] [(0, .ref t), (1, .ref o1), (2, .int 0), (3, .int 0)] rfl ?_
  refine hI4 1000 0 0 _ hF (fun x2_4_6 x3_4_7 hF => ?_)
  refine a_iload_n C 0 dX3_countPieces_44 rfl rfl ?_
  exact a_iret C hr rfl dX3_countPieces_45 hF rfl rfl
theorem cs_X3_76 : GoodIn WW (va_wsS RX3 76 yX5_compareToWord (aW yX5_compareToWord cX5_compareToWord 6 ((some .int)))) := gdS kl_X3_76 ks_X5_compareToWord kn_X5 kc_X5_compareToWord
def f_X3_firstRankAbove_L12 (p3 : Int32) (t_linesF : Nat → Int32) (t_placesF : Nat → Int32) (t_endings : Int32) (o1_lettersF : Nat → Int32) (o1_sizesF : Nat → Int32) (o1_lines : Int32) (o2_charactersF : Nat → Int32) (o2_length : Int32) : Nat → Int32 → Int32 → Int32 → (Int32 → Int32 → Int32 → Option Int32) → Option Int32
  | 0, _, _, _, _ => none
  | fuel + 1, x4, x5, x6, k => if 100 ≤ x6 then (k x4 x5 x6) else (if x5 ≤ x4 then (k x4 x5 x6) else ((f_X3_lineAt t_linesF t_endings ((x4 + x5) / 2)).bind fun r39_3 => (f_X3_placeAt t_placesF t_endings ((x4 + x5) / 2)).bind fun r45_4 => (f_X5_compareToWord o1_lettersF o1_sizesF o1_lines o2_charactersF o2_length r39_3 r45_4).bind fun r49_5 => if r49_5 ≤ p3 then (f_X3_firstRankAbove_L12 p3 t_linesF t_placesF t_endings o1_lettersF o1_sizesF o1_lines o2_charactersF o2_length fuel (((x4 + x5) / 2) + 1) x5 (x6 + 1) k) else (f_X3_firstRankAbove_L12 p3 t_linesF t_placesF t_endings o1_lettersF o1_sizesF o1_lines o2_charactersF o2_length fuel x4 ((x4 + x5) / 2) (x6 + 1) k)))
def f_X3_firstRankAbove (t_linesF : Nat → Int32) (t_placesF : Nat → Int32) (t_endings : Int32) (o1_lettersF : Nat → Int32) (o1_sizesF : Nat → Int32) (o1_lines : Int32) (o2_charactersF : Nat → Int32) (o2_length : Int32) (p3 : Int32) : Option Int32 := f_X3_firstRankAbove_L12 p3 t_linesF t_placesF t_endings o1_lettersF o1_sizesF o1_lines o2_charactersF o2_length 1000 0 t_endings 0 (fun x4_12_7 x5_12_8 x6_12_9 => some x4_12_7)
theorem hd_X3_firstRankAbove : yX3_firstRankAbove.cls = RX3 ∧ yX3_firstRankAbove.cls ≠ "java/lang/invoke/MethodHandle" ∧ yX3_firstRankAbove.cls ≠ "java/lang/invoke/VarHandle" ∧ (parseMethodDescriptor yX3_firstRankAbove.desc).map (fun d => d.parameters.length) = some 3 := by decide +kernel
set_option maxRecDepth 100000 in
set_option maxHeartbeats 4000000 in
theorem c_X3_firstRankAbove (l : Launch) (D : va_G) (J : JT) (kc ki kb kl kd : ClassId) (t : Nat) (t_lines : Nat) (t_places : Nat) (t_commons : Nat) (o1 : Nat) (o1_letters : Nat) (o1_sizes : Nat) (o2 : Nat) (o2_characters : Nat) (t_linesF : Nat → Int32) (t_placesF : Nat → Int32) (t_commonsF : Nat → Int32) (t_endings : Int32) (o1_lettersF : Nat → Int32) (o1_sizesF : Nat → Int32) (o1_lines : Int32) (o2_charactersF : Nat → Int32) (o2_length : Int32) (p3 : Int32) (res : Int32) (hF : f_X3_firstRankAbove t_linesF t_placesF t_endings o1_lettersF o1_sizesF o1_lines o2_charactersF o2_length p3 = some res) : aKi l yX3_firstRankAbove (aW yX3_firstRankAbove cX3_firstRankAbove 8 ((some .int))) ({ frames := 3, cells := 0, slots := 0, locals := 69 } : Room) D J (aTy kc ki kb kl kd) [.ref t, .ref o1, .ref o2, .int p3] (wX3 ki t t_lines t_places t_commons t_linesF t_placesF t_commonsF t_endings ++ wX0 kc ki o1 o1_letters o1_sizes o1_lettersF o1_sizesF o1_lines ++ wX7 kc o2 o2_characters o2_charactersF o2_length) (fun r => r) (fun _ => wX3 ki t t_lines t_places t_commons t_linesF t_placesF t_commonsF t_endings ++ wX0 kc ki o1 o1_letters o1_sizes o1_lettersF o1_sizesF o1_lines ++ wX7 kc o2 o2_characters o2_charactersF o2_length) res := by
  refine aKi_of (own := RX3) (by decide) rfl (Nat.le_of_ble_eq_true rfl) rfl ?_
  intro p e s m args below meth c C hr
  have hI12 : ∀ (fuel : Nat) (x4 : Int32) (x5 : Int32) (x6 : Int32) (k : Int32 → Int32 → Int32 → Option Int32), f_X3_firstRankAbove_L12 p3 t_linesF t_placesF t_endings o1_lettersF o1_sizesF o1_lines o2_charactersF o2_length fuel x4 x5 x6 k = some res → (∀ (x4 : Int32) (x5 : Int32) (x6 : Int32), k x4 x5 x6 = some res → aT p l e ({ frames := 3, cells := 0, slots := 0, locals := 69 } : Room) s m args below meth c (MQ below (aQi D (wX3 ki t t_lines t_places t_commons t_linesF t_placesF t_commonsF t_endings ++ wX0 kc ki o1 o1_letters o1_sizes o1_lettersF o1_sizesF o1_lines ++ wX7 kc o2 o2_characters o2_charactersF o2_length) s.heap.size (fun r => r) (fun _ => wX3 ki t t_lines t_places t_commons t_linesF t_placesF t_commonsF t_endings ++ wX0 kc ki o1 o1_letters o1_sizes o1_lettersF o1_sizesF o1_lines ++ wX7 kc o2 o2_characters o2_charactersF o2_length) res) args s 0 0 (va_A (wX3 ki t t_lines t_places t_commons t_linesF t_placesF t_commonsF t_endings ++ wX0 kc ki o1 o1_letters o1_sizes o1_lettersF o1_sizesF o1_lines ++ wX7 kc o2 o2_characters o2_charactersF o2_length) s.heap.size)) D (va_A (wX3 ki t t_lines t_places t_commons t_linesF t_placesF t_commonsF t_endings ++ wX0 kc ki o1 o1_letters o1_sizes o1_lettersF o1_sizesF o1_lines ++ wX7 kc o2 o2_characters o2_charactersF o2_length) s.heap.size) 8 0 0 75 [(4, .int x4)] [] (wX3 ki t t_lines t_places t_commons t_linesF t_placesF t_commonsF t_endings ++ wX0 kc ki o1 o1_letters o1_sizes o1_lettersF o1_sizesF o1_lines ++ wX7 kc o2 o2_characters o2_charactersF o2_length)) → aT p l e ({ frames := 3, cells := 0, slots := 0, locals := 69 } : Room) s m args below meth c (MQ below (aQi D (wX3 ki t t_lines t_places t_commons t_linesF t_placesF t_commonsF t_endings ++ wX0 kc ki o1 o1_letters o1_sizes o1_lettersF o1_sizesF o1_lines ++ wX7 kc o2 o2_characters o2_charactersF o2_length) s.heap.size (fun r => r) (fun _ => wX3 ki t t_lines t_places t_commons t_linesF t_placesF t_commonsF t_endings ++ wX0 kc ki o1 o1_letters o1_sizes o1_lettersF o1_sizesF o1_lines ++ wX7 kc o2 o2_characters o2_charactersF o2_length) res) args s 0 0 (va_A (wX3 ki t t_lines t_places t_commons t_linesF t_placesF t_commonsF t_endings ++ wX0 kc ki o1 o1_letters o1_sizes o1_lettersF o1_sizesF o1_lines ++ wX7 kc o2 o2_characters o2_charactersF o2_length) s.heap.size)) D (va_A (wX3 ki t t_lines t_places t_commons t_linesF t_placesF t_commonsF t_endings ++ wX0 kc ki o1 o1_letters o1_sizes o1_lettersF o1_sizesF o1_lines ++ wX7 kc o2 o2_characters o2_charactersF o2_length) s.heap.size) 8 0 0 12 [(0, .ref t), (1, .ref o1), (2, .ref o2), (3, .int p3), (4, .int x4), (5, .int x5), (6, .int x6)] [] (wX3 ki t t_lines t_places t_commons t_linesF t_placesF t_commonsF t_endings ++ wX0 kc ki o1 o1_letters o1_sizes o1_lettersF o1_sizesF o1_lines ++ wX7 kc o2 o2_characters o2_charactersF o2_length) := by
    intro fuel
    induction fuel with
    | zero => intro x4 x5 x6 k hF hX; exact nomatch hF
    | succ fuel ih =>
      intro x4 x5 x6 k hF hX
      rw [f_X3_firstRankAbove_L12] at hF
      refine a_iload C 6 dX3_firstRankAbove_12 rfl ?_
      refine a_bipush C (v := 100) dX3_firstRankAbove_14 (by decide) ?_
      refine a_ic_ge C (tgt := 75) dX3_firstRankAbove_16 (by decide) hF (fun c16_1 hF => ?_) (fun c16_1 hF => ?_)
      · refine a_sub C [4] [(4, .int x4)] rfl ?_
        exact hX x4 x5 x6 hF
      refine a_iload C 4 dX3_firstRankAbove_19 rfl ?_
      refine a_iload C 5 dX3_firstRankAbove_21 rfl ?_
      refine a_ic_ge C (tgt := 75) dX3_firstRankAbove_23 (by decide) hF (fun c23_2 hF => ?_) (fun c23_2 hF => ?_)
      · refine a_sub C [4] [(4, .int x4)] rfl ?_
        exact hX x4 x5 x6 hF
      refine a_iload C 4 dX3_firstRankAbove_26 rfl ?_
      refine a_iload C 5 dX3_firstRankAbove_28 rfl ?_
      refine a_iadd C dX3_firstRankAbove_30 ?_
      refine a_iconst C (v := 2) dX3_firstRankAbove_31 (by decide) ?_
      refine a_idiv C dX3_firstRankAbove_32 (by decide) ?_
      refine a_istore C [(7, .int ((x4 + x5) / 2)), (0, .ref t), (1, .ref o1), (2, .ref o2), (3, .int p3), (4, .int x4), (5, .int x5), (6, .int x6)] dX3_firstRankAbove_33 (by decide) rfl ?_
      refine a_aload_n C 2 dX3_firstRankAbove_35 rfl rfl ?_
      refine a_aload_n C 1 dX3_firstRankAbove_36 rfl rfl ?_
      refine a_iload C 0 dX3_firstRankAbove_37 rfl ?_
      refine a_callVir C 1 [0, 1, 2, 3] 0 cs_X3_50 hd_X3_lineAt ⟨rfl, rfl⟩ ⟨Nat.le_of_ble_eq_true rfl, Nat.le_of_ble_eq_true rfl⟩ (fun r h => c_X3_lineAt l D J kc ki kb kl kd t t_lines t_places t_commons t_linesF t_placesF t_commonsF t_endings ((x4 + x5) / 2) r h) rfl rfl rfl rfl rfl rfl (Nat.le_of_ble_eq_true rfl) dX3_firstRankAbove_39 ⟨Nat.zero_le _, Nat.zero_le _⟩ hF (fun r39_3 er39_3 hF => ?_)
      refine a_aload_n C 1 dX3_firstRankAbove_42 rfl rfl ?_
      refine a_iload C 0 dX3_firstRankAbove_43 rfl ?_
      refine a_callVir C 1 [0, 1, 2, 3] 0 cs_X3_53 hd_X3_placeAt ⟨rfl, rfl⟩ ⟨Nat.le_of_ble_eq_true rfl, Nat.le_of_ble_eq_true rfl⟩ (fun r h => c_X3_placeAt l D J kc ki kb kl kd t t_lines t_places t_commons t_linesF t_placesF t_commonsF t_endings ((x4 + x5) / 2) r h) rfl rfl rfl rfl rfl rfl (Nat.le_of_ble_eq_true rfl) dX3_firstRankAbove_45 ⟨Nat.zero_le _, Nat.zero_le _⟩ hF (fun r45_4 er45_4 hF => ?_)
      refine a_aload_n C 3 dX3_firstRankAbove_48 rfl rfl ?_
      refine a_callSir C 4 [4, 5, 6, 7, 8] cs_X3_76 hd_X5_compareToWord ⟨rfl, rfl⟩ ⟨Nat.le_of_ble_eq_true rfl, Nat.le_of_ble_eq_true rfl⟩ (fun r h => c_X5_compareToWord l D J kc ki kb kl kd o1 o1_letters o1_sizes o2 o2_characters o1_lettersF o1_sizesF o1_lines o2_charactersF o2_length r39_3 r45_4 r h) rfl rfl rfl rfl (Nat.le_of_ble_eq_true rfl) dX3_firstRankAbove_49 ⟨Nat.zero_le _, Nat.zero_le _⟩ hF (fun r49_5 er49_5 hF => ?_)
      refine a_iload_n C 4 dX3_firstRankAbove_52 rfl rfl ?_
      refine a_ic_le C (tgt := 63) dX3_firstRankAbove_53 (by decide) hF (fun c53_6 hF => ?_) (fun c53_6 hF => ?_)
      · refine a_iload C 0 dX3_firstRankAbove_63 rfl ?_
        refine a_iconst C (v := 1) dX3_firstRankAbove_65 (by decide) ?_
        refine a_iadd C dX3_firstRankAbove_66 ?_
        refine a_istore C [(4, .int (((x4 + x5) / 2) + 1)), (7, .int ((x4 + x5) / 2)), (0, .ref t), (1, .ref o1), (2, .ref o2), (3, .int p3), (5, .int x5), (6, .int x6)] dX3_firstRankAbove_67 (by decide) rfl ?_
        refine a_iinc C 7 [(6, .int (x6 + 1)), (4, .int (((x4 + x5) / 2) + 1)), (7, .int ((x4 + x5) / 2)), (0, .ref t), (1, .ref o1), (2, .ref o2), (3, .int p3), (5, .int x5)] dX3_firstRankAbove_69 rfl rfl (by decide) rfl ?_
        refine a_goto C (tgt := 12) dX3_firstRankAbove_72 (by decide) ?_
        refine a_sub C [3, 4, 5, 6, 1, 7, 0] [(0, .ref t), (1, .ref o1), (2, .ref o2), (3, .int p3), (4, .int (((x4 + x5) / 2) + 1)), (5, .int x5), (6, .int (x6 + 1))] rfl ?_
        exact ih (((x4 + x5) / 2) + 1) x5 (x6 + 1) k hF hX
      refine a_iload C 0 dX3_firstRankAbove_56 rfl ?_
      refine a_istore C [(5, .int ((x4 + x5) / 2)), (7, .int ((x4 + x5) / 2)), (0, .ref t), (1, .ref o1), (2, .ref o2), (3, .int p3), (4, .int x4), (6, .int x6)] dX3_firstRankAbove_58 (by decide) rfl ?_
      refine a_goto C (tgt := 69) dX3_firstRankAbove_60 (by decide) ?_
      refine a_iinc C 7 [(6, .int (x6 + 1)), (5, .int ((x4 + x5) / 2)), (7, .int ((x4 + x5) / 2)), (0, .ref t), (1, .ref o1), (2, .ref o2), (3, .int p3), (4, .int x4)] dX3_firstRankAbove_69 rfl rfl (by decide) rfl ?_
      refine a_goto C (tgt := 12) dX3_firstRankAbove_72 (by decide) ?_
      refine a_sub C [3, 4, 5, 6, 7, 1, 0] [(0, .ref t), (1, .ref o1), (2, .ref o2), (3, .int p3), (4, .int x4), (5, .int ((x4 + x5) / 2)), (6, .int (x6 + 1))] rfl ?_
      exact ih x4 ((x4 + x5) / 2) (x6 + 1) k hF hX
  unfold f_X3_firstRankAbove at hF
  refine a_iconst C (v := 0) dX3_firstRankAbove_0 (by decide) ?_
  refine a_istore C [(4, .int 0), (0, .ref t), (1, .ref o1), (2, .ref o2), (3, .int p3)] dX3_firstRankAbove_1 (by decide) rfl ?_
  refine a_aload_n C 1 dX3_firstRankAbove_3 rfl rfl ?_
  refine a_get C 0 3 iwX3 rfl rfl (by decide) kf_X3_21 rfl dX3_firstRankAbove_4 ?_
  refine a_istore C [(5, .int t_endings), (4, .int 0), (0, .ref t), (1, .ref o1), (2, .ref o2), (3, .int p3)] dX3_firstRankAbove_7 (by decide) rfl ?_
  refine a_iconst C (v := 0) dX3_firstRankAbove_9 (by decide) ?_
  refine a_istore C [(6, .int 0), (5, .int t_endings), (4, .int 0), (0, .ref t), (1, .ref o1), (2, .ref o2), (3, .int p3)] dX3_firstRankAbove_10 (by decide) rfl ?_
  refine a_sub C [3, 4, 5, 6, 2, 1, 0] [(0, .ref t), (1, .ref o1), (2, .ref o2), (3, .int p3), (4, .int 0), (5, .int t_endings), (6, .int 0)] rfl ?_
  refine hI12 1000 0 t_endings 0 _ hF (fun x4_12_7 x5_12_8 x6_12_9 hF => ?_)
  refine a_iload C 0 dX3_firstRankAbove_75 rfl ?_
  exact a_iret C hr rfl dX3_firstRankAbove_77 hF rfl rfl
theorem cs_X3_72 : GoodIn WW (wsV RX3 72 RX3 yX3_firstRankAbove (aW yX3_firstRankAbove cX3_firstRankAbove 8 ((some .int)))) := gdV kl_X3_72 ki_X3_firstRankAbove kv_X3_firstRankAbove kn_X3 kc_X3_firstRankAbove
def f_X3_firstRankNotBefore (t_linesF : Nat → Int32) (t_placesF : Nat → Int32) (t_endings : Int32) (o1_lettersF : Nat → Int32) (o1_sizesF : Nat → Int32) (o1_lines : Int32) (o2_charactersF : Nat → Int32) (o2_length : Int32) : Option Int32 := (f_X3_firstRankAbove t_linesF t_placesF t_endings o1_lettersF o1_sizesF o1_lines o2_charactersF o2_length ((-1))).bind fun r4_1 => some r4_1
theorem hd_X3_firstRankNotBefore : yX3_firstRankNotBefore.cls = RX3 ∧ yX3_firstRankNotBefore.cls ≠ "java/lang/invoke/MethodHandle" ∧ yX3_firstRankNotBefore.cls ≠ "java/lang/invoke/VarHandle" ∧ (parseMethodDescriptor yX3_firstRankNotBefore.desc).map (fun d => d.parameters.length) = some 2 := by decide +kernel
set_option maxRecDepth 100000 in
set_option maxHeartbeats 4000000 in
theorem c_X3_firstRankNotBefore (l : Launch) (D : va_G) (J : JT) (kc ki kb kl kd : ClassId) (t : Nat) (t_lines : Nat) (t_places : Nat) (t_commons : Nat) (o1 : Nat) (o1_letters : Nat) (o1_sizes : Nat) (o2 : Nat) (o2_characters : Nat) (t_linesF : Nat → Int32) (t_placesF : Nat → Int32) (t_commonsF : Nat → Int32) (t_endings : Int32) (o1_lettersF : Nat → Int32) (o1_sizesF : Nat → Int32) (o1_lines : Int32) (o2_charactersF : Nat → Int32) (o2_length : Int32) (res : Int32) (hF : f_X3_firstRankNotBefore t_linesF t_placesF t_endings o1_lettersF o1_sizesF o1_lines o2_charactersF o2_length = some res) : aKi l yX3_firstRankNotBefore (aW yX3_firstRankNotBefore cX3_firstRankNotBefore 3 ((some .int))) ({ frames := 4, cells := 0, slots := 0, locals := 96 } : Room) D J (aTy kc ki kb kl kd) [.ref t, .ref o1, .ref o2] (wX3 ki t t_lines t_places t_commons t_linesF t_placesF t_commonsF t_endings ++ wX0 kc ki o1 o1_letters o1_sizes o1_lettersF o1_sizesF o1_lines ++ wX7 kc o2 o2_characters o2_charactersF o2_length) (fun r => r) (fun _ => wX3 ki t t_lines t_places t_commons t_linesF t_placesF t_commonsF t_endings ++ wX0 kc ki o1 o1_letters o1_sizes o1_lettersF o1_sizesF o1_lines ++ wX7 kc o2 o2_characters o2_charactersF o2_length) res := by
  refine aKi_of (own := RX3) (by decide) rfl (Nat.le_of_ble_eq_true rfl) rfl ?_
  intro p e s m args below meth c C hr
  unfold f_X3_firstRankNotBefore at hF
  refine a_aload_n C 0 dX3_firstRankNotBefore_0 rfl rfl ?_
  refine a_aload_n C 1 dX3_firstRankNotBefore_1 rfl rfl ?_
  refine a_aload_n C 2 dX3_firstRankNotBefore_2 rfl rfl ?_
  refine a_iconst C (v := (-1)) dX3_firstRankNotBefore_3 (by decide) ?_
  refine a_callVir C 3 [0, 1, 2, 3, 4, 5, 6, 7, 8] 0 cs_X3_72 hd_X3_firstRankAbove ⟨rfl, rfl⟩ ⟨Nat.le_of_ble_eq_true rfl, Nat.le_of_ble_eq_true rfl⟩ (fun r h => c_X3_firstRankAbove l D J kc ki kb kl kd t t_lines t_places t_commons o1 o1_letters o1_sizes o2 o2_characters t_linesF t_placesF t_commonsF t_endings o1_lettersF o1_sizesF o1_lines o2_charactersF o2_length ((-1)) r h) rfl rfl rfl rfl rfl rfl (Nat.le_of_ble_eq_true rfl) dX3_firstRankNotBefore_4 ⟨Nat.zero_le _, Nat.zero_le _⟩ hF (fun r4_1 er4_1 hF => ?_)
  exact a_iret C hr rfl dX3_firstRankNotBefore_7 hF rfl rfl
def f_X3_firstRankBehind (t_linesF : Nat → Int32) (t_placesF : Nat → Int32) (t_endings : Int32) (o1_lettersF : Nat → Int32) (o1_sizesF : Nat → Int32) (o1_lines : Int32) (o2_charactersF : Nat → Int32) (o2_length : Int32) : Option Int32 := (f_X3_firstRankAbove t_linesF t_placesF t_endings o1_lettersF o1_sizesF o1_lines o2_charactersF o2_length 0).bind fun r4_1 => some r4_1
theorem hd_X3_firstRankBehind : yX3_firstRankBehind.cls = RX3 ∧ yX3_firstRankBehind.cls ≠ "java/lang/invoke/MethodHandle" ∧ yX3_firstRankBehind.cls ≠ "java/lang/invoke/VarHandle" ∧ (parseMethodDescriptor yX3_firstRankBehind.desc).map (fun d => d.parameters.length) = some 2 := by decide +kernel
set_option maxRecDepth 100000 in
set_option maxHeartbeats 4000000 in
theorem c_X3_firstRankBehind (l : Launch) (D : va_G) (J : JT) (kc ki kb kl kd : ClassId) (t : Nat) (t_lines : Nat) (t_places : Nat) (t_commons : Nat) (o1 : Nat) (o1_letters : Nat) (o1_sizes : Nat) (o2 : Nat) (o2_characters : Nat) (t_linesF : Nat → Int32) (t_placesF : Nat → Int32) (t_commonsF : Nat → Int32) (t_endings : Int32) (o1_lettersF : Nat → Int32) (o1_sizesF : Nat → Int32) (o1_lines : Int32) (o2_charactersF : Nat → Int32) (o2_length : Int32) (res : Int32) (hF : f_X3_firstRankBehind t_linesF t_placesF t_endings o1_lettersF o1_sizesF o1_lines o2_charactersF o2_length = some res) : aKi l yX3_firstRankBehind (aW yX3_firstRankBehind cX3_firstRankBehind 3 ((some .int))) ({ frames := 4, cells := 0, slots := 0, locals := 96 } : Room) D J (aTy kc ki kb kl kd) [.ref t, .ref o1, .ref o2] (wX3 ki t t_lines t_places t_commons t_linesF t_placesF t_commonsF t_endings ++ wX0 kc ki o1 o1_letters o1_sizes o1_lettersF o1_sizesF o1_lines ++ wX7 kc o2 o2_characters o2_charactersF o2_length) (fun r => r) (fun _ => wX3 ki t t_lines t_places t_commons t_linesF t_placesF t_commonsF t_endings ++ wX0 kc ki o1 o1_letters o1_sizes o1_lettersF o1_sizesF o1_lines ++ wX7 kc o2 o2_characters o2_charactersF o2_length) res := by
  refine aKi_of (own := RX3) (by decide) rfl (Nat.le_of_ble_eq_true rfl) rfl ?_
  intro p e s m args below meth c C hr
  unfold f_X3_firstRankBehind at hF
  refine a_aload_n C 0 dX3_firstRankBehind_0 rfl rfl ?_
  refine a_aload_n C 1 dX3_firstRankBehind_1 rfl rfl ?_
  refine a_aload_n C 2 dX3_firstRankBehind_2 rfl rfl ?_
  refine a_iconst C (v := 0) dX3_firstRankBehind_3 (by decide) ?_
  refine a_callVir C 3 [0, 1, 2, 3, 4, 5, 6, 7, 8] 0 cs_X3_72 hd_X3_firstRankAbove ⟨rfl, rfl⟩ ⟨Nat.le_of_ble_eq_true rfl, Nat.le_of_ble_eq_true rfl⟩ (fun r h => c_X3_firstRankAbove l D J kc ki kb kl kd t t_lines t_places t_commons o1 o1_letters o1_sizes o2 o2_characters t_linesF t_placesF t_commonsF t_endings o1_lettersF o1_sizesF o1_lines o2_charactersF o2_length 0 r h) rfl rfl rfl rfl rfl rfl (Nat.le_of_ble_eq_true rfl) dX3_firstRankBehind_4 ⟨Nat.zero_le _, Nat.zero_le _⟩ hF (fun r4_1 er4_1 hF => ?_)
  exact a_iret C hr rfl dX3_firstRankBehind_7 hF rfl rfl
