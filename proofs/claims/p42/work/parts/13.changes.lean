theorem cs_X1_31 : GoodIn WW (wsV RX1 31 RX0 yX0_lines (aW yX0_lines cX0_lines 1 ((some .int)))) := gdV kl_X1_31 ki_X0_lines kv_X0_lines kn_X0 kc_X0_lines
theorem cs_X1_36 : GoodIn WW (wsV RX1 36 RX0 yX0_openLine (aW yX0_openLine cX0_openLine 1 none)) := gdV kl_X1_36 ki_X0_openLine kv_X0_openLine kn_X0 kc_X0_openLine
theorem cs_X1_39 : GoodIn WW (wsV RX1 39 RX7 yX7_characterAt (aW yX7_characterAt cX7_characterAt 2 ((some .char)))) := gdV kl_X1_39 ki_X7_characterAt kv_X7_characterAt kn_X7 kc_X7_characterAt
theorem cs_X1_43 : GoodIn WW (wsV RX1 43 RX0 yX0_putLetter (aW yX0_putLetter cX0_putLetter 3 none)) := gdV kl_X1_43 ki_X0_putLetter kv_X0_putLetter kn_X0 kc_X0_putLetter
theorem cs_X1_19 : GoodIn WW (wsV RX1 19 RX6 yX6_keep (aW yX6_keep cX6_keep 3 none)) := gdV kl_X1_19 ki_X6_keep kv_X6_keep kn_X6 kc_X6_keep
def f_X1_addWord_L29 (x5 : Int32) (q_o0_lines : Int32) (p4 : Int32) (o2_charactersF : Nat → Int32) (o2_length : Int32) : Nat → Int32 → (Nat → Int32) → (Nat → Int32) → (Int32 → (Nat → Int32) → (Nat → Int32) → Option (Int32 × (Nat → Int32) × (Nat → Int32) × Int32 × (Nat → Int32) × (Nat → Int32) × Int32)) → Option (Int32 × (Nat → Int32) × (Nat → Int32) × Int32 × (Nat → Int32) × (Nat → Int32) × Int32)
  | 0, _, _, _, _ => none
  | fuel + 1, x6, q_o0_lettersF, q_o0_sizesF, k => if p4 ≤ x6 then (k x6 q_o0_lettersF q_o0_sizesF) else ((f_X7_characterAt o2_charactersF o2_length x6).bind fun r42_5 => (f_X0_putLetter q_o0_lettersF q_o0_sizesF q_o0_lines x5 r42_5).bind fun r45_6 => f_X1_addWord_L29 x5 q_o0_lines p4 o2_charactersF o2_length fuel (x6 + 1) r45_6.1 r45_6.2 k)
def f_X1_addWord (o0_lettersF : Nat → Int32) (o0_sizesF : Nat → Int32) (o0_lines : Int32) (o1_reasonsF : Nat → Int32) (o1_detailsF : Nat → Int32) (o1_count : Int32) (o2_charactersF : Nat → Int32) (o2_length : Int32) (p3 : Int32) (p4 : Int32) : Option (Int32 × (Nat → Int32) × (Nat → Int32) × Int32 × (Nat → Int32) × (Nat → Int32) × Int32) := (f_X0_lines o0_lines).bind fun r1_1 => if r1_1 < 8 then ((f_X0_openLine o0_sizesF o0_lines).bind fun r23_3 => f_X1_addWord_L29 r1_1 r23_3.2 p4 o2_charactersF o2_length 1000 p3 o0_lettersF r23_3.1 (fun x6_29_7 q_o0_lettersF_29_8 q_o0_sizesF_29_9 => some (1, q_o0_lettersF_29_8, q_o0_sizesF_29_9, r23_3.2, o1_reasonsF, o1_detailsF, o1_count))) else ((f_X6_keep o1_reasonsF o1_detailsF 1 r1_1).bind fun r17_10 => some (0, o0_lettersF, o0_sizesF, o0_lines, r17_10.1, r17_10.2.1, r17_10.2.2))
theorem hd_X1_addWord : yX1_addWord.cls ≠ "java/lang/invoke/MethodHandle" ∧ yX1_addWord.cls ≠ "java/lang/invoke/VarHandle" ∧ (parseMethodDescriptor yX1_addWord.desc).map (fun d => d.parameters.length) = some 5 := by decide +kernel
set_option maxRecDepth 100000 in
set_option maxHeartbeats 4000000 in
theorem c_X1_addWord (l : Launch) (D : va_G) (J : JT) (kc ki kb kl kd : ClassId) (o0 : Nat) (o0_letters : Nat) (o0_sizes : Nat) (o1 : Nat) (o1_reasons : Nat) (o1_details : Nat) (o2 : Nat) (o2_characters : Nat) (o0_lettersF : Nat → Int32) (o0_sizesF : Nat → Int32) (o0_lines : Int32) (o1_reasonsF : Nat → Int32) (o1_detailsF : Nat → Int32) (o1_count : Int32) (o2_charactersF : Nat → Int32) (o2_length : Int32) (p3 p4 : Int32) (res : Int32 × (Nat → Int32) × (Nat → Int32) × Int32 × (Nat → Int32) × (Nat → Int32) × Int32) (hF : f_X1_addWord o0_lettersF o0_sizesF o0_lines o1_reasonsF o1_detailsF o1_count o2_charactersF o2_length p3 p4 = some res) : aKi l yX1_addWord (aW yX1_addWord cX1_addWord 7 ((some .boolean))) ({ frames := 3, cells := 0, slots := 0, locals := 67 } : Room) D J (aTy kc ki kb kl kd) [.ref o0, .ref o1, .ref o2, .int p3, .int p4] (wX0 kc ki o0 o0_letters o0_sizes o0_lettersF o0_sizesF o0_lines ++ wX6 ki o1 o1_reasons o1_details o1_reasonsF o1_detailsF o1_count ++ wX7 kc o2 o2_characters o2_charactersF o2_length) (fun r => r.1) (fun r => wX0 kc ki o0 o0_letters o0_sizes r.2.1 r.2.2.1 r.2.2.2.1 ++ wX6 ki o1 o1_reasons o1_details r.2.2.2.2.1 r.2.2.2.2.2.1 r.2.2.2.2.2.2 ++ wX7 kc o2 o2_characters o2_charactersF o2_length) res := by
  refine aKi_of (own := RX1) (by decide) rfl (Nat.le_of_ble_eq_true rfl) rfl ?_
  intro p e s m args below meth c C hr
  have hI29 : ∀ (x5 : Int32) (q_o0_lines : Int32) (q_o1_reasonsF : Nat → Int32) (q_o1_detailsF : Nat → Int32) (q_o1_count : Int32) (fuel : Nat) (x6 : Int32) (q_o0_lettersF : Nat → Int32) (q_o0_sizesF : Nat → Int32) (k : Int32 → (Nat → Int32) → (Nat → Int32) → Option (Int32 × (Nat → Int32) × (Nat → Int32) × Int32 × (Nat → Int32) × (Nat → Int32) × Int32)), f_X1_addWord_L29 x5 q_o0_lines p4 o2_charactersF o2_length fuel x6 q_o0_lettersF q_o0_sizesF k = some res → (∀ (x6 : Int32) (q_o0_lettersF : Nat → Int32) (q_o0_sizesF : Nat → Int32), k x6 q_o0_lettersF q_o0_sizesF = some res → aT p l e ({ frames := 3, cells := 0, slots := 0, locals := 67 } : Room) s m args below meth c (MQ below (aQi D (wX0 kc ki o0 o0_letters o0_sizes o0_lettersF o0_sizesF o0_lines ++ wX6 ki o1 o1_reasons o1_details o1_reasonsF o1_detailsF o1_count ++ wX7 kc o2 o2_characters o2_charactersF o2_length) s.heap.size (fun r => r.1) (fun r => wX0 kc ki o0 o0_letters o0_sizes r.2.1 r.2.2.1 r.2.2.2.1 ++ wX6 ki o1 o1_reasons o1_details r.2.2.2.2.1 r.2.2.2.2.2.1 r.2.2.2.2.2.2 ++ wX7 kc o2 o2_characters o2_charactersF o2_length) res) args s 0 0 (va_A (wX0 kc ki o0 o0_letters o0_sizes o0_lettersF o0_sizesF o0_lines ++ wX6 ki o1 o1_reasons o1_details o1_reasonsF o1_detailsF o1_count ++ wX7 kc o2 o2_characters o2_charactersF o2_length) s.heap.size)) D (va_A (wX0 kc ki o0 o0_letters o0_sizes o0_lettersF o0_sizesF o0_lines ++ wX6 ki o1 o1_reasons o1_details o1_reasonsF o1_detailsF o1_count ++ wX7 kc o2 o2_characters o2_charactersF o2_length) s.heap.size) 7 0 0 54 [] [] (wX0 kc ki o0 o0_letters o0_sizes q_o0_lettersF q_o0_sizesF q_o0_lines ++ wX6 ki o1 o1_reasons o1_details q_o1_reasonsF q_o1_detailsF q_o1_count ++ wX7 kc o2 o2_characters o2_charactersF o2_length)) → aT p l e ({ frames := 3, cells := 0, slots := 0, locals := 67 } : Room) s m args below meth c (MQ below (aQi D (wX0 kc ki o0 o0_letters o0_sizes o0_lettersF o0_sizesF o0_lines ++ wX6 ki o1 o1_reasons o1_details o1_reasonsF o1_detailsF o1_count ++ wX7 kc o2 o2_characters o2_charactersF o2_length) s.heap.size (fun r => r.1) (fun r => wX0 kc ki o0 o0_letters o0_sizes r.2.1 r.2.2.1 r.2.2.2.1 ++ wX6 ki o1 o1_reasons o1_details r.2.2.2.2.1 r.2.2.2.2.2.1 r.2.2.2.2.2.2 ++ wX7 kc o2 o2_characters o2_charactersF o2_length) res) args s 0 0 (va_A (wX0 kc ki o0 o0_letters o0_sizes o0_lettersF o0_sizesF o0_lines ++ wX6 ki o1 o1_reasons o1_details o1_reasonsF o1_detailsF o1_count ++ wX7 kc o2 o2_characters o2_charactersF o2_length) s.heap.size)) D (va_A (wX0 kc ki o0 o0_letters o0_sizes o0_lettersF o0_sizesF o0_lines ++ wX6 ki o1 o1_reasons o1_details o1_reasonsF o1_detailsF o1_count ++ wX7 kc o2 o2_characters o2_charactersF o2_length) s.heap.size) 7 0 0 29 [(0, .ref o0), (2, .ref o2), (4, .int p4), (5, .int x5), (6, .int x6)] [] (wX0 kc ki o0 o0_letters o0_sizes q_o0_lettersF q_o0_sizesF q_o0_lines ++ wX6 ki o1 o1_reasons o1_details q_o1_reasonsF q_o1_detailsF q_o1_count ++ wX7 kc o2 o2_characters o2_charactersF o2_length) := by
    intro x5 q_o0_lines q_o1_reasonsF q_o1_detailsF q_o1_count fuel
    induction fuel with
    | zero => intro x6 q_o0_lettersF q_o0_sizesF k hF hX; exact nomatch hF
    | succ fuel ih =>
      intro x6 q_o0_lettersF q_o0_sizesF k hF hX
      rw [f_X1_addWord_L29] at hF
      refine a_iload C 4 dX1_addWord_29 rfl ?_
      refine a_iload C 2 dX1_addWord_31 rfl ?_
      refine a_ic_ge C (tgt := 54) dX1_addWord_33 (by decide) hF (fun c33_4 hF => ?_) (fun c33_4 hF => ?_)
      · refine a_sub C [] [] rfl ?_
        exact hX x6 q_o0_lettersF q_o0_sizesF hF
      refine a_aload_n C 0 dX1_addWord_36 rfl rfl ?_
      refine a_iload C 3 dX1_addWord_37 rfl ?_
      refine a_aload_n C 1 dX1_addWord_39 rfl rfl ?_
      refine a_iload C 4 dX1_addWord_40 rfl ?_
      refine a_callVir C 1 [6, 7] 6 cs_X1_39 hd_X7_characterAt ⟨rfl, rfl⟩ ⟨Nat.le_of_ble_eq_true rfl, Nat.le_of_ble_eq_true rfl⟩ (fun r h => c_X7_characterAt l D J kc ki kb kl kd o2 o2_characters o2_charactersF o2_length x6 r h) rfl rfl rfl rfl rfl rfl (Nat.le_of_ble_eq_true rfl) dX1_addWord_42 ⟨Nat.zero_le _, Nat.zero_le _⟩ hF (fun r42_5 er42_5 hF => ?_)
      refine a_callVv C 2 [0, 1, 2] 0 cs_X1_43 hd_X0_putLetter ⟨rfl, rfl⟩ ⟨Nat.le_of_ble_eq_true rfl, Nat.le_of_ble_eq_true rfl⟩ (fun r h => c_X0_putLetter l D J kc ki kb kl kd o0 o0_letters o0_sizes q_o0_lettersF q_o0_sizesF q_o0_lines x5 r42_5 r h) rfl rfl rfl (fun _ => rfl) rfl rfl rfl (Nat.le_of_ble_eq_true rfl) dX1_addWord_45 ⟨Nat.zero_le _, Nat.zero_le _⟩ hF (fun r45_6 er45_6 hF => ?_)
      refine a_ws C (ws' := wX0 kc ki o0 o0_letters o0_sizes r45_6.1 r45_6.2 q_o0_lines ++ wX6 ki o1 o1_reasons o1_details q_o1_reasonsF q_o1_detailsF q_o1_count ++ wX7 kc o2 o2_characters o2_charactersF o2_length) rfl ?_
      refine a_iinc C 4 [(6, .int (x6 + 1)), (0, .ref o0), (2, .ref o2), (4, .int p4), (5, .int x5)] dX1_addWord_48 rfl rfl (by decide) rfl ?_
      refine a_goto C (tgt := 29) dX1_addWord_51 (by decide) ?_
      refine a_sub C [1, 2, 3, 4, 0] [(0, .ref o0), (2, .ref o2), (4, .int p4), (5, .int x5), (6, .int (x6 + 1))] rfl ?_
      exact ih (x6 + 1) r45_6.1 r45_6.2 k hF hX
  unfold f_X1_addWord at hF
  refine a_aload_n C 0 dX1_addWord_0 rfl rfl ?_
  refine a_callVir C 0 [0, 1, 2] 0 cs_X1_31 hd_X0_lines ⟨rfl, rfl⟩ ⟨Nat.le_of_ble_eq_true rfl, Nat.le_of_ble_eq_true rfl⟩ (fun r h => c_X0_lines l D J kc ki kb kl kd o0 o0_letters o0_sizes o0_lettersF o0_sizesF o0_lines r h) rfl rfl rfl rfl rfl rfl (Nat.le_of_ble_eq_true rfl) dX1_addWord_1 ⟨Nat.zero_le _, Nat.zero_le _⟩ hF (fun r1_1 er1_1 hF => ?_)
  refine a_istore C [(5, .int r1_1), (0, .ref o0), (1, .ref o1), (2, .ref o2), (3, .int p3), (4, .int p4)] dX1_addWord_4 (by decide) rfl ?_
  refine a_iload C 0 dX1_addWord_6 rfl ?_
  refine a_bipush C (v := 8) dX1_addWord_8 (by decide) ?_
  refine a_ic_lt C (tgt := 22) dX1_addWord_10 (by decide) hF (fun c10_2 hF => ?_) (fun c10_2 hF => ?_)
  · refine a_aload_n C 1 dX1_addWord_22 rfl rfl ?_
    refine a_callVv C 0 [0, 1, 2] 0 cs_X1_36 hd_X0_openLine ⟨rfl, rfl⟩ ⟨Nat.le_of_ble_eq_true rfl, Nat.le_of_ble_eq_true rfl⟩ (fun r h => c_X0_openLine l D J kc ki kb kl kd o0 o0_letters o0_sizes o0_lettersF o0_sizesF o0_lines r h) rfl rfl rfl (fun _ => rfl) rfl rfl rfl (Nat.le_of_ble_eq_true rfl) dX1_addWord_23 ⟨Nat.zero_le _, Nat.zero_le _⟩ hF (fun r23_3 er23_3 hF => ?_)
    refine a_ws C (ws' := wX0 kc ki o0 o0_letters o0_sizes o0_lettersF r23_3.1 r23_3.2 ++ wX6 ki o1 o1_reasons o1_details o1_reasonsF o1_detailsF o1_count ++ wX7 kc o2 o2_characters o2_charactersF o2_length) rfl ?_
    refine a_iload_n C 4 dX1_addWord_26 rfl rfl ?_
    refine a_istore C [(6, .int p3), (5, .int r1_1), (0, .ref o0), (1, .ref o1), (2, .ref o2), (3, .int p3), (4, .int p4)] dX1_addWord_27 (by decide) rfl ?_
    refine a_sub C [2, 4, 6, 1, 0] [(0, .ref o0), (2, .ref o2), (4, .int p4), (5, .int r1_1), (6, .int p3)] rfl ?_
    refine hI29 r1_1 r23_3.2 o1_reasonsF o1_detailsF o1_count 1000 p3 o0_lettersF r23_3.1 _ hF (fun x6_29_7 q_o0_lettersF_29_8 q_o0_sizesF_29_9 hF => ?_)
    refine a_iconst C (v := 1) dX1_addWord_54 (by decide) ?_
    exact a_iret C hr rfl dX1_addWord_55 hF rfl rfl
  refine a_aload_n C 2 dX1_addWord_13 rfl rfl ?_
  refine a_iconst C (v := 1) dX1_addWord_14 (by decide) ?_
  refine a_iload C 0 dX1_addWord_15 rfl ?_
  refine a_callVv C 2 [3, 4, 5] 3 cs_X1_19 hd_X6_keep ⟨rfl, rfl⟩ ⟨Nat.le_of_ble_eq_true rfl, Nat.le_of_ble_eq_true rfl⟩ (fun r h => c_X6_keep l D J kc ki kb kl kd o1 o1_reasons o1_details o1_reasonsF o1_detailsF o1_count 1 r1_1 r h) rfl rfl rfl (fun _ => rfl) rfl rfl rfl (Nat.le_of_ble_eq_true rfl) dX1_addWord_17 ⟨Nat.zero_le _, Nat.zero_le _⟩ hF (fun r17_10 er17_10 hF => ?_)
  refine a_ws C (ws' := wX0 kc ki o0 o0_letters o0_sizes o0_lettersF o0_sizesF o0_lines ++ wX6 ki o1 o1_reasons o1_details r17_10.1 r17_10.2.1 r17_10.2.2 ++ wX7 kc o2 o2_characters o2_charactersF o2_length) rfl ?_
  refine a_iconst C (v := 0) dX1_addWord_20 (by decide) ?_
  exact a_iret C hr rfl dX1_addWord_21 hF rfl rfl
theorem cs_X1_9 : GoodIn WW (wsV RX1 9 RX7 yX7_isWord (aW yX7_isWord cX7_isWord 2 ((some .boolean)))) := gdV kl_X1_9 ki_X7_isWord kv_X7_isWord kn_X7 kc_X7_isWord
theorem cs_X1_15 : GoodIn WW (wsV RX1 15 RX7 yX7_length (aW yX7_length cX7_length 1 ((some .int)))) := gdV kl_X1_15 ki_X7_length kv_X7_length kn_X7 kc_X7_length
theorem cs_X1_25 : GoodIn WW (va_wsS RX1 25 yX1_addWord (aW yX1_addWord cX1_addWord 7 ((some .boolean)))) := gdS kl_X1_25 ks_X1_addWord kn_X1 kc_X1_addWord
def f_X1_addText (o0_lettersF : Nat → Int32) (o0_sizesF : Nat → Int32) (o0_lines : Int32) (o1_reasonsF : Nat → Int32) (o1_detailsF : Nat → Int32) (o1_count : Int32) (o2_charactersF : Nat → Int32) (o2_length : Int32) : Option (Int32 × (Nat → Int32) × (Nat → Int32) × Int32 × (Nat → Int32) × (Nat → Int32) × Int32) := (f_X7_isWord o2_charactersF o2_length).bind fun r1_1 => if ¬ r1_1 = 0 then ((f_X7_length o2_length).bind fun r24_3 => (f_X1_addWord o0_lettersF o0_sizesF o0_lines o1_reasonsF o1_detailsF o1_count o2_charactersF o2_length 0 r24_3).bind fun r27_4 => (rz r27_4.1).bind fun _ => some (r27_4.1, r27_4.2.1, r27_4.2.2.1, r27_4.2.2.2.1, r27_4.2.2.2.2.1, r27_4.2.2.2.2.2.1, r27_4.2.2.2.2.2.2)) else ((f_X7_length o2_length).bind fun r11_6 => (f_X6_keep o1_reasonsF o1_detailsF 9 r11_6).bind fun r14_7 => some (0, o0_lettersF, o0_sizesF, o0_lines, r14_7.1, r14_7.2.1, r14_7.2.2))
theorem hd_X1_addText : yX1_addText.cls ≠ "java/lang/invoke/MethodHandle" ∧ yX1_addText.cls ≠ "java/lang/invoke/VarHandle" ∧ (parseMethodDescriptor yX1_addText.desc).map (fun d => d.parameters.length) = some 3 := by decide +kernel
set_option maxRecDepth 100000 in
set_option maxHeartbeats 4000000 in
theorem c_X1_addText (l : Launch) (D : va_G) (J : JT) (kc ki kb kl kd : ClassId) (o0 : Nat) (o0_letters : Nat) (o0_sizes : Nat) (o1 : Nat) (o1_reasons : Nat) (o1_details : Nat) (o2 : Nat) (o2_characters : Nat) (o0_lettersF : Nat → Int32) (o0_sizesF : Nat → Int32) (o0_lines : Int32) (o1_reasonsF : Nat → Int32) (o1_detailsF : Nat → Int32) (o1_count : Int32) (o2_charactersF : Nat → Int32) (o2_length : Int32) (res : Int32 × (Nat → Int32) × (Nat → Int32) × Int32 × (Nat → Int32) × (Nat → Int32) × Int32) (hF : f_X1_addText o0_lettersF o0_sizesF o0_lines o1_reasonsF o1_detailsF o1_count o2_charactersF o2_length = some res) : aKi l yX1_addText (aW yX1_addText cX1_addText 3 ((some .boolean))) ({ frames := 4, cells := 0, slots := 0, locals := 93 } : Room) D J (aTy kc ki kb kl kd) [.ref o0, .ref o1, .ref o2] (wX0 kc ki o0 o0_letters o0_sizes o0_lettersF o0_sizesF o0_lines ++ wX6 ki o1 o1_reasons o1_details o1_reasonsF o1_detailsF o1_count ++ wX7 kc o2 o2_characters o2_charactersF o2_length) (fun r => r.1) (fun r => wX0 kc ki o0 o0_letters o0_sizes r.2.1 r.2.2.1 r.2.2.2.1 ++ wX6 ki o1 o1_reasons o1_details r.2.2.2.2.1 r.2.2.2.2.2.1 r.2.2.2.2.2.2 ++ wX7 kc o2 o2_characters o2_charactersF o2_length) res := by
  refine aKi_of (own := RX1) (by decide) rfl (Nat.le_of_ble_eq_true rfl) rfl ?_
  intro p e s m args below meth c C hr
  unfold f_X1_addText at hF
  refine a_aload_n C 2 dX1_addText_0 rfl rfl ?_
  refine a_callVir C 0 [6, 7] 6 cs_X1_9 hd_X7_isWord ⟨rfl, rfl⟩ ⟨Nat.le_of_ble_eq_true rfl, Nat.le_of_ble_eq_true rfl⟩ (fun r h => c_X7_isWord l D J kc ki kb kl kd o2 o2_characters o2_charactersF o2_length r h) rfl rfl rfl rfl rfl rfl (Nat.le_of_ble_eq_true rfl) dX1_addText_1 ⟨Nat.zero_le _, Nat.zero_le _⟩ hF (fun r1_1 er1_1 hF => ?_)
  refine a_if_ne C (tgt := 19) dX1_addText_4 (by decide) hF (fun c4_2 hF => ?_) (fun c4_2 hF => ?_)
  · refine a_aload_n C 0 dX1_addText_19 rfl rfl ?_
    refine a_aload_n C 1 dX1_addText_20 rfl rfl ?_
    refine a_aload_n C 2 dX1_addText_21 rfl rfl ?_
    refine a_iconst C (v := 0) dX1_addText_22 (by decide) ?_
    refine a_aload_n C 2 dX1_addText_23 rfl rfl ?_
    refine a_callVir C 0 [6, 7] 6 cs_X1_15 hd_X7_length ⟨rfl, rfl⟩ ⟨Nat.le_of_ble_eq_true rfl, Nat.le_of_ble_eq_true rfl⟩ (fun r h => c_X7_length l D J kc ki kb kl kd o2 o2_characters o2_charactersF o2_length r h) rfl rfl rfl rfl rfl rfl (Nat.le_of_ble_eq_true rfl) dX1_addText_24 ⟨Nat.zero_le _, Nat.zero_le _⟩ hF (fun r24_3 er24_3 hF => ?_)
    refine a_callSi C 5 [0, 1, 2, 3, 4, 5, 6, 7] cs_X1_25 hd_X1_addWord ⟨rfl, rfl⟩ ⟨Nat.le_of_ble_eq_true rfl, Nat.le_of_ble_eq_true rfl⟩ (fun r h => c_X1_addWord l D J kc ki kb kl kd o0 o0_letters o0_sizes o1 o1_reasons o1_details o2 o2_characters o0_lettersF o0_sizesF o0_lines o1_reasonsF o1_detailsF o1_count o2_charactersF o2_length 0 r24_3 r h) rfl (fun _ => rfl) rfl rfl rfl (Nat.le_of_ble_eq_true rfl) dX1_addText_27 ⟨Nat.zero_le _, Nat.zero_le _⟩ hF (fun r27_4 er27_4 hF => ?_)
    refine a_ws C (ws' := wX0 kc ki o0 o0_letters o0_sizes r27_4.2.1 r27_4.2.2.1 r27_4.2.2.2.1 ++ wX6 ki o1 o1_reasons o1_details r27_4.2.2.2.2.1 r27_4.2.2.2.2.2.1 r27_4.2.2.2.2.2.2 ++ wX7 kc o2 o2_characters o2_charactersF o2_length) rfl ?_
    refine a_rz hF (fun n30_5 hF => ?_)
    exact a_iret C hr n30_5 dX1_addText_30 hF rfl rfl
  refine a_aload_n C 1 dX1_addText_7 rfl rfl ?_
  refine a_bipush C (v := 9) dX1_addText_8 (by decide) ?_
  refine a_aload_n C 2 dX1_addText_10 rfl rfl ?_
  refine a_callVir C 0 [6, 7] 6 cs_X1_15 hd_X7_length ⟨rfl, rfl⟩ ⟨Nat.le_of_ble_eq_true rfl, Nat.le_of_ble_eq_true rfl⟩ (fun r h => c_X7_length l D J kc ki kb kl kd o2 o2_characters o2_charactersF o2_length r h) rfl rfl rfl rfl rfl rfl (Nat.le_of_ble_eq_true rfl) dX1_addText_11 ⟨Nat.zero_le _, Nat.zero_le _⟩ hF (fun r11_6 er11_6 hF => ?_)
  refine a_callVv C 2 [3, 4, 5] 3 cs_X1_19 hd_X6_keep ⟨rfl, rfl⟩ ⟨Nat.le_of_ble_eq_true rfl, Nat.le_of_ble_eq_true rfl⟩ (fun r h => c_X6_keep l D J kc ki kb kl kd o1 o1_reasons o1_details o1_reasonsF o1_detailsF o1_count 9 r11_6 r h) rfl rfl rfl (fun _ => rfl) rfl rfl rfl (Nat.le_of_ble_eq_true rfl) dX1_addText_14 ⟨Nat.zero_le _, Nat.zero_le _⟩ hF (fun r14_7 er14_7 hF => ?_)
  refine a_ws C (ws' := wX0 kc ki o0 o0_letters o0_sizes o0_lettersF o0_sizesF o0_lines ++ wX6 ki o1 o1_reasons o1_details r14_7.1 r14_7.2.1 r14_7.2.2 ++ wX7 kc o2 o2_characters o2_charactersF o2_length) rfl ?_
  refine a_iconst C (v := 0) dX1_addText_17 (by decide) ?_
  exact a_iret C hr rfl dX1_addText_18 hF rfl rfl
theorem cs_X1_91 : GoodIn WW (wsV RX1 91 RX0 yX0_hasLine (aW yX0_hasLine cX0_hasLine 2 ((some .boolean)))) := gdV kl_X1_91 ki_X0_hasLine kv_X0_hasLine kn_X0 kc_X0_hasLine
def f_X1_isMissing (o0_lines : Int32) (o1_reasonsF : Nat → Int32) (o1_detailsF : Nat → Int32) (o1_count : Int32) (p2 : Int32) : Option (Int32 × (Nat → Int32) × (Nat → Int32) × Int32) := (f_X0_hasLine o0_lines p2).bind fun r2_1 => if r2_1 = 0 then ((f_X6_keep o1_reasonsF o1_detailsF 2 p2).bind fun r13_3 => some (1, r13_3.1, r13_3.2.1, r13_3.2.2)) else (some (0, o1_reasonsF, o1_detailsF, o1_count))
theorem hd_X1_isMissing : yX1_isMissing.cls ≠ "java/lang/invoke/MethodHandle" ∧ yX1_isMissing.cls ≠ "java/lang/invoke/VarHandle" ∧ (parseMethodDescriptor yX1_isMissing.desc).map (fun d => d.parameters.length) = some 3 := by decide +kernel
set_option maxRecDepth 100000 in
set_option maxHeartbeats 4000000 in
theorem c_X1_isMissing (l : Launch) (D : va_G) (J : JT) (kc ki kb kl kd : ClassId) (o0 : Nat) (o0_letters : Nat) (o0_sizes : Nat) (o1 : Nat) (o1_reasons : Nat) (o1_details : Nat) (o0_lettersF : Nat → Int32) (o0_sizesF : Nat → Int32) (o0_lines : Int32) (o1_reasonsF : Nat → Int32) (o1_detailsF : Nat → Int32) (o1_count : Int32) (p2 : Int32) (res : Int32 × (Nat → Int32) × (Nat → Int32) × Int32) (hF : f_X1_isMissing o0_lines o1_reasonsF o1_detailsF o1_count p2 = some res) : aKi l yX1_isMissing (aW yX1_isMissing cX1_isMissing 3 ((some .boolean))) ({ frames := 1, cells := 0, slots := 0, locals := 22 } : Room) D J (aTy kc ki kb kl kd) [.ref o0, .ref o1, .int p2] (wX0 kc ki o0 o0_letters o0_sizes o0_lettersF o0_sizesF o0_lines ++ wX6 ki o1 o1_reasons o1_details o1_reasonsF o1_detailsF o1_count) (fun r => r.1) (fun r => wX0 kc ki o0 o0_letters o0_sizes o0_lettersF o0_sizesF o0_lines ++ wX6 ki o1 o1_reasons o1_details r.2.1 r.2.2.1 r.2.2.2) res := by
  refine aKi_of (own := RX1) (by decide) rfl (Nat.le_of_ble_eq_true rfl) rfl ?_
  intro p e s m args below meth c C hr
  unfold f_X1_isMissing at hF
  refine a_aload_n C 0 dX1_isMissing_0 rfl rfl ?_
  refine a_iload_n C 2 dX1_isMissing_1 rfl rfl ?_
  refine a_callVir C 1 [0, 1, 2] 0 cs_X1_91 hd_X0_hasLine ⟨rfl, rfl⟩ ⟨Nat.le_of_ble_eq_true rfl, Nat.le_of_ble_eq_true rfl⟩ (fun r h => c_X0_hasLine l D J kc ki kb kl kd o0 o0_letters o0_sizes o0_lettersF o0_sizesF o0_lines p2 r h) rfl rfl rfl rfl rfl rfl (Nat.le_of_ble_eq_true rfl) dX1_isMissing_2 ⟨Nat.zero_le _, Nat.zero_le _⟩ hF (fun r2_1 er2_1 hF => ?_)
  refine a_if_eq C (tgt := 10) dX1_isMissing_5 (by decide) hF (fun c5_2 hF => ?_) (fun c5_2 hF => ?_)
  · refine a_aload_n C 1 dX1_isMissing_10 rfl rfl ?_
    refine a_iconst C (v := 2) dX1_isMissing_11 (by decide) ?_
    refine a_iload_n C 2 dX1_isMissing_12 rfl rfl ?_
    refine a_callVv C 2 [3, 4, 5] 3 cs_X1_19 hd_X6_keep ⟨rfl, rfl⟩ ⟨Nat.le_of_ble_eq_true rfl, Nat.le_of_ble_eq_true rfl⟩ (fun r h => c_X6_keep l D J kc ki kb kl kd o1 o1_reasons o1_details o1_reasonsF o1_detailsF o1_count 2 p2 r h) rfl rfl rfl (fun _ => rfl) rfl rfl rfl (Nat.le_of_ble_eq_true rfl) dX1_isMissing_13 ⟨Nat.zero_le _, Nat.zero_le _⟩ hF (fun r13_3 er13_3 hF => ?_)
    refine a_ws C (ws' := wX0 kc ki o0 o0_letters o0_sizes o0_lettersF o0_sizesF o0_lines ++ wX6 ki o1 o1_reasons o1_details r13_3.1 r13_3.2.1 r13_3.2.2) rfl ?_
    refine a_iconst C (v := 1) dX1_isMissing_16 (by decide) ?_
    exact a_iret C hr rfl dX1_isMissing_17 hF rfl rfl
  refine a_iconst C (v := 0) dX1_isMissing_8 (by decide) ?_
  exact a_iret C hr rfl dX1_isMissing_9 hF rfl rfl
theorem cs_X1_47 : GoodIn WW (va_wsS RX1 47 yX1_isMissing (aW yX1_isMissing cX1_isMissing 3 ((some .boolean)))) := gdS kl_X1_47 ks_X1_isMissing kn_X1 kc_X1_isMissing
theorem cs_X1_51 : GoodIn WW (wsV RX1 51 RX0 yX0_removeLine (aW yX0_removeLine cX0_removeLine 3 none)) := gdV kl_X1_51 ki_X0_removeLine kv_X0_removeLine kn_X0 kc_X0_removeLine
def f_X1_cutLine (o0_lettersF : Nat → Int32) (o0_sizesF : Nat → Int32) (o0_lines : Int32) (o1_reasonsF : Nat → Int32) (o1_detailsF : Nat → Int32) (o1_count : Int32) (p2 : Int32) : Option (Int32 × (Nat → Int32) × (Nat → Int32) × Int32 × (Nat → Int32) × (Nat → Int32) × Int32) := (f_X1_isMissing o0_lines o1_reasonsF o1_detailsF o1_count p2).bind fun r3_1 => if r3_1.1 = 0 then ((f_X0_removeLine o0_lettersF o0_sizesF o0_lines p2).bind fun r13_3 => some (1, r13_3.1, r13_3.2.1, r13_3.2.2, r3_1.2.1, r3_1.2.2.1, r3_1.2.2.2)) else (some (0, o0_lettersF, o0_sizesF, o0_lines, r3_1.2.1, r3_1.2.2.1, r3_1.2.2.2))
theorem hd_X1_cutLine : yX1_cutLine.cls ≠ "java/lang/invoke/MethodHandle" ∧ yX1_cutLine.cls ≠ "java/lang/invoke/VarHandle" ∧ (parseMethodDescriptor yX1_cutLine.desc).map (fun d => d.parameters.length) = some 3 := by decide +kernel
set_option maxRecDepth 100000 in
set_option maxHeartbeats 4000000 in
theorem c_X1_cutLine (l : Launch) (D : va_G) (J : JT) (kc ki kb kl kd : ClassId) (o0 : Nat) (o0_letters : Nat) (o0_sizes : Nat) (o1 : Nat) (o1_reasons : Nat) (o1_details : Nat) (o0_lettersF : Nat → Int32) (o0_sizesF : Nat → Int32) (o0_lines : Int32) (o1_reasonsF : Nat → Int32) (o1_detailsF : Nat → Int32) (o1_count : Int32) (p2 : Int32) (res : Int32 × (Nat → Int32) × (Nat → Int32) × Int32 × (Nat → Int32) × (Nat → Int32) × Int32) (hF : f_X1_cutLine o0_lettersF o0_sizesF o0_lines o1_reasonsF o1_detailsF o1_count p2 = some res) : aKi l yX1_cutLine (aW yX1_cutLine cX1_cutLine 3 ((some .boolean))) ({ frames := 3, cells := 0, slots := 0, locals := 67 } : Room) D J (aTy kc ki kb kl kd) [.ref o0, .ref o1, .int p2] (wX0 kc ki o0 o0_letters o0_sizes o0_lettersF o0_sizesF o0_lines ++ wX6 ki o1 o1_reasons o1_details o1_reasonsF o1_detailsF o1_count) (fun r => r.1) (fun r => wX0 kc ki o0 o0_letters o0_sizes r.2.1 r.2.2.1 r.2.2.2.1 ++ wX6 ki o1 o1_reasons o1_details r.2.2.2.2.1 r.2.2.2.2.2.1 r.2.2.2.2.2.2) res := by
  refine aKi_of (own := RX1) (by decide) rfl (Nat.le_of_ble_eq_true rfl) rfl ?_
  intro p e s m args below meth c C hr
  unfold f_X1_cutLine at hF
  refine a_aload_n C 0 dX1_cutLine_0 rfl rfl ?_
  refine a_aload_n C 1 dX1_cutLine_1 rfl rfl ?_
  refine a_iload_n C 2 dX1_cutLine_2 rfl rfl ?_
  refine a_callSi C 3 [0, 1, 2, 3, 4, 5] cs_X1_47 hd_X1_isMissing ⟨rfl, rfl⟩ ⟨Nat.le_of_ble_eq_true rfl, Nat.le_of_ble_eq_true rfl⟩ (fun r h => c_X1_isMissing l D J kc ki kb kl kd o0 o0_letters o0_sizes o1 o1_reasons o1_details o0_lettersF o0_sizesF o0_lines o1_reasonsF o1_detailsF o1_count p2 r h) rfl (fun _ => rfl) rfl rfl rfl (Nat.le_of_ble_eq_true rfl) dX1_cutLine_3 ⟨Nat.zero_le _, Nat.zero_le _⟩ hF (fun r3_1 er3_1 hF => ?_)
  refine a_ws C (ws' := wX0 kc ki o0 o0_letters o0_sizes o0_lettersF o0_sizesF o0_lines ++ wX6 ki o1 o1_reasons o1_details r3_1.2.1 r3_1.2.2.1 r3_1.2.2.2) rfl ?_
  refine a_if_eq C (tgt := 11) dX1_cutLine_6 (by decide) hF (fun c6_2 hF => ?_) (fun c6_2 hF => ?_)
  · refine a_aload_n C 0 dX1_cutLine_11 rfl rfl ?_
    refine a_iload_n C 2 dX1_cutLine_12 rfl rfl ?_
    refine a_callVv C 1 [0, 1, 2] 0 cs_X1_51 hd_X0_removeLine ⟨rfl, rfl⟩ ⟨Nat.le_of_ble_eq_true rfl, Nat.le_of_ble_eq_true rfl⟩ (fun r h => c_X0_removeLine l D J kc ki kb kl kd o0 o0_letters o0_sizes o0_lettersF o0_sizesF o0_lines p2 r h) rfl rfl rfl (fun _ => rfl) rfl rfl rfl (Nat.le_of_ble_eq_true rfl) dX1_cutLine_13 ⟨Nat.zero_le _, Nat.zero_le _⟩ hF (fun r13_3 er13_3 hF => ?_)
    refine a_ws C (ws' := wX0 kc ki o0 o0_letters o0_sizes r13_3.1 r13_3.2.1 r13_3.2.2 ++ wX6 ki o1 o1_reasons o1_details r3_1.2.1 r3_1.2.2.1 r3_1.2.2.2) rfl ?_
    refine a_iconst C (v := 1) dX1_cutLine_16 (by decide) ?_
    exact a_iret C hr rfl dX1_cutLine_17 hF rfl rfl
  refine a_iconst C (v := 0) dX1_cutLine_9 (by decide) ?_
  exact a_iret C hr rfl dX1_cutLine_10 hF rfl rfl
theorem cs_X1_55 : GoodIn WW (wsV RX1 55 RX0 yX0_hasPlace (aW yX0_hasPlace cX0_hasPlace 3 ((some .boolean)))) := gdV kl_X1_55 ki_X0_hasPlace kv_X0_hasPlace kn_X0 kc_X0_hasPlace
theorem cs_X1_63 : GoodIn WW (wsV RX1 63 RX0 yX0_letterAt (aW yX0_letterAt cX0_letterAt 3 ((some .char)))) := gdV kl_X1_63 ki_X0_letterAt kv_X0_letterAt kn_X0 kc_X0_letterAt
theorem cs_X1_67 : GoodIn WW (wsV RX1 67 RX0 yX0_setLetter (aW yX0_setLetter cX0_setLetter 4 none)) := gdV kl_X1_67 ki_X0_setLetter kv_X0_setLetter kn_X0 kc_X0_setLetter
def f_X1_changeLetter (o0_lettersF : Nat → Int32) (o0_sizesF : Nat → Int32) (o0_lines : Int32) (o1_reasonsF : Nat → Int32) (o1_detailsF : Nat → Int32) (o1_count : Int32) (p2 : Int32) (p3 : Int32) (p4 : Int32) : Option (Int32 × (Nat → Int32) × (Nat → Int32) × (Nat → Int32) × Int32) := (f_X1_isMissing o0_lines o1_reasonsF o1_detailsF o1_count p2).bind fun r3_1 => if r3_1.1 = 0 then ((f_X0_hasPlace o0_sizesF o0_lines p2 p3).bind fun r14_3 => if ¬ r14_3 = 0 then ((f_X8_isSmallLetter p4).bind fun r30_5 => if ¬ r30_5 = 0 then ((f_X0_letterAt o0_lettersF o0_sizesF o0_lines p2 p3).bind fun r48_7 => if ¬ r48_7 = p4 then ((f_X0_setLetter o0_lettersF o0_sizesF o0_lines p2 p3 p4).bind fun r69_9 => some (1, r69_9, r3_1.2.1, r3_1.2.2.1, r3_1.2.2.2)) else ((f_X6_keep r3_1.2.1 r3_1.2.2.1 5 p3).bind fun r59_10 => some (0, o0_lettersF, r59_10.1, r59_10.2.1, r59_10.2.2))) else ((f_X6_keep r3_1.2.1 r3_1.2.2.1 4 p4).bind fun r40_11 => some (0, o0_lettersF, r40_11.1, r40_11.2.1, r40_11.2.2))) else ((f_X6_keep r3_1.2.1 r3_1.2.2.1 3 p3).bind fun r23_12 => some (0, o0_lettersF, r23_12.1, r23_12.2.1, r23_12.2.2))) else (some (0, o0_lettersF, r3_1.2.1, r3_1.2.2.1, r3_1.2.2.2))
theorem hd_X1_changeLetter : yX1_changeLetter.cls ≠ "java/lang/invoke/MethodHandle" ∧ yX1_changeLetter.cls ≠ "java/lang/invoke/VarHandle" ∧ (parseMethodDescriptor yX1_changeLetter.desc).map (fun d => d.parameters.length) = some 5 := by decide +kernel
set_option maxRecDepth 100000 in
set_option maxHeartbeats 4000000 in
theorem c_X1_changeLetter (l : Launch) (D : va_G) (J : JT) (kc ki kb kl kd : ClassId) (o0 : Nat) (o0_letters : Nat) (o0_sizes : Nat) (o1 : Nat) (o1_reasons : Nat) (o1_details : Nat) (o0_lettersF : Nat → Int32) (o0_sizesF : Nat → Int32) (o0_lines : Int32) (o1_reasonsF : Nat → Int32) (o1_detailsF : Nat → Int32) (o1_count : Int32) (p2 p3 p4 : Int32) (res : Int32 × (Nat → Int32) × (Nat → Int32) × (Nat → Int32) × Int32) (hF : f_X1_changeLetter o0_lettersF o0_sizesF o0_lines o1_reasonsF o1_detailsF o1_count p2 p3 p4 = some res) : aKi l yX1_changeLetter (aW yX1_changeLetter cX1_changeLetter 5 ((some .boolean))) ({ frames := 2, cells := 0, slots := 0, locals := 45 } : Room) D J (aTy kc ki kb kl kd) [.ref o0, .ref o1, .int p2, .int p3, .int p4] (wX0 kc ki o0 o0_letters o0_sizes o0_lettersF o0_sizesF o0_lines ++ wX6 ki o1 o1_reasons o1_details o1_reasonsF o1_detailsF o1_count) (fun r => r.1) (fun r => wX0 kc ki o0 o0_letters o0_sizes r.2.1 o0_sizesF o0_lines ++ wX6 ki o1 o1_reasons o1_details r.2.2.1 r.2.2.2.1 r.2.2.2.2) res := by
  refine aKi_of (own := RX1) (by decide) rfl (Nat.le_of_ble_eq_true rfl) rfl ?_
  intro p e s m args below meth c C hr
  unfold f_X1_changeLetter at hF
  refine a_aload_n C 0 dX1_changeLetter_0 rfl rfl ?_
  refine a_aload_n C 1 dX1_changeLetter_1 rfl rfl ?_
  refine a_iload_n C 2 dX1_changeLetter_2 rfl rfl ?_
  refine a_callSi C 3 [0, 1, 2, 3, 4, 5] cs_X1_47 hd_X1_isMissing ⟨rfl, rfl⟩ ⟨Nat.le_of_ble_eq_true rfl, Nat.le_of_ble_eq_true rfl⟩ (fun r h => c_X1_isMissing l D J kc ki kb kl kd o0 o0_letters o0_sizes o1 o1_reasons o1_details o0_lettersF o0_sizesF o0_lines o1_reasonsF o1_detailsF o1_count p2 r h) rfl (fun _ => rfl) rfl rfl rfl (Nat.le_of_ble_eq_true rfl) dX1_changeLetter_3 ⟨Nat.zero_le _, Nat.zero_le _⟩ hF (fun r3_1 er3_1 hF => ?_)
  refine a_ws C (ws' := wX0 kc ki o0 o0_letters o0_sizes o0_lettersF o0_sizesF o0_lines ++ wX6 ki o1 o1_reasons o1_details r3_1.2.1 r3_1.2.2.1 r3_1.2.2.2) rfl ?_
  refine a_if_eq C (tgt := 11) dX1_changeLetter_6 (by decide) hF (fun c6_2 hF => ?_) (fun c6_2 hF => ?_)
  · refine a_aload_n C 0 dX1_changeLetter_11 rfl rfl ?_
    refine a_iload_n C 2 dX1_changeLetter_12 rfl rfl ?_
    refine a_iload_n C 3 dX1_changeLetter_13 rfl rfl ?_
    refine a_callVir C 2 [0, 1, 2] 0 cs_X1_55 hd_X0_hasPlace ⟨rfl, rfl⟩ ⟨Nat.le_of_ble_eq_true rfl, Nat.le_of_ble_eq_true rfl⟩ (fun r h => c_X0_hasPlace l D J kc ki kb kl kd o0 o0_letters o0_sizes o0_lettersF o0_sizesF o0_lines p2 p3 r h) rfl rfl rfl rfl rfl rfl (Nat.le_of_ble_eq_true rfl) dX1_changeLetter_14 ⟨Nat.zero_le _, Nat.zero_le _⟩ hF (fun r14_3 er14_3 hF => ?_)
    refine a_if_ne C (tgt := 28) dX1_changeLetter_17 (by decide) hF (fun c17_4 hF => ?_) (fun c17_4 hF => ?_)
    · refine a_iload C 4 dX1_changeLetter_28 rfl ?_
      refine a_callN C 1 (good_c _ _ _ _ kc_X8_isSmallLetter) ks_X8_isSmallLetter kn_X8 C.2.1.2.1 hd_X8_isSmallLetter ⟨rfl, rfl⟩ ⟨Nat.le_of_ble_eq_true rfl, Nat.le_of_ble_eq_true rfl⟩ (fun r h => c_X8_isSmallLetter l D J kc ki kb kl kd p4 r h) rfl rfl (Nat.le_of_ble_eq_true rfl) dX1_changeLetter_30 ⟨Nat.zero_le _, Nat.zero_le _⟩ hF (fun r30_5 er30_5 hF => ?_)
      refine a_if_ne C (tgt := 45) dX1_changeLetter_33 (by decide) hF (fun c33_6 hF => ?_) (fun c33_6 hF => ?_)
      · refine a_aload_n C 0 dX1_changeLetter_45 rfl rfl ?_
        refine a_iload_n C 2 dX1_changeLetter_46 rfl rfl ?_
        refine a_iload_n C 3 dX1_changeLetter_47 rfl rfl ?_
        refine a_callVir C 2 [0, 1, 2] 0 cs_X1_63 hd_X0_letterAt ⟨rfl, rfl⟩ ⟨Nat.le_of_ble_eq_true rfl, Nat.le_of_ble_eq_true rfl⟩ (fun r h => c_X0_letterAt l D J kc ki kb kl kd o0 o0_letters o0_sizes o0_lettersF o0_sizesF o0_lines p2 p3 r h) rfl rfl rfl rfl rfl rfl (Nat.le_of_ble_eq_true rfl) dX1_changeLetter_48 ⟨Nat.zero_le _, Nat.zero_le _⟩ hF (fun r48_7 er48_7 hF => ?_)
        refine a_iload C 4 dX1_changeLetter_51 rfl ?_
        refine a_ic_ne C (tgt := 64) dX1_changeLetter_53 (by decide) hF (fun c53_8 hF => ?_) (fun c53_8 hF => ?_)
        · refine a_aload_n C 0 dX1_changeLetter_64 rfl rfl ?_
          refine a_iload_n C 2 dX1_changeLetter_65 rfl rfl ?_
          refine a_iload_n C 3 dX1_changeLetter_66 rfl rfl ?_
          refine a_iload C 4 dX1_changeLetter_67 rfl ?_
          refine a_callVv C 3 [0, 1, 2] 0 cs_X1_67 hd_X0_setLetter ⟨rfl, rfl⟩ ⟨Nat.le_of_ble_eq_true rfl, Nat.le_of_ble_eq_true rfl⟩ (fun r h => c_X0_setLetter l D J kc ki kb kl kd o0 o0_letters o0_sizes o0_lettersF o0_sizesF o0_lines p2 p3 p4 r h) rfl rfl rfl (fun _ => rfl) rfl rfl rfl (Nat.le_of_ble_eq_true rfl) dX1_changeLetter_69 ⟨Nat.zero_le _, Nat.zero_le _⟩ hF (fun r69_9 er69_9 hF => ?_)
          refine a_ws C (ws' := wX0 kc ki o0 o0_letters o0_sizes r69_9 o0_sizesF o0_lines ++ wX6 ki o1 o1_reasons o1_details r3_1.2.1 r3_1.2.2.1 r3_1.2.2.2) rfl ?_
          refine a_iconst C (v := 1) dX1_changeLetter_72 (by decide) ?_
          exact a_iret C hr rfl dX1_changeLetter_73 hF rfl rfl
        refine a_aload_n C 1 dX1_changeLetter_56 rfl rfl ?_
        refine a_iconst C (v := 5) dX1_changeLetter_57 (by decide) ?_
        refine a_iload_n C 3 dX1_changeLetter_58 rfl rfl ?_
        refine a_callVv C 2 [3, 4, 5] 3 cs_X1_19 hd_X6_keep ⟨rfl, rfl⟩ ⟨Nat.le_of_ble_eq_true rfl, Nat.le_of_ble_eq_true rfl⟩ (fun r h => c_X6_keep l D J kc ki kb kl kd o1 o1_reasons o1_details r3_1.2.1 r3_1.2.2.1 r3_1.2.2.2 5 p3 r h) rfl rfl rfl (fun _ => rfl) rfl rfl rfl (Nat.le_of_ble_eq_true rfl) dX1_changeLetter_59 ⟨Nat.zero_le _, Nat.zero_le _⟩ hF (fun r59_10 er59_10 hF => ?_)
        refine a_ws C (ws' := wX0 kc ki o0 o0_letters o0_sizes o0_lettersF o0_sizesF o0_lines ++ wX6 ki o1 o1_reasons o1_details r59_10.1 r59_10.2.1 r59_10.2.2) rfl ?_
        refine a_iconst C (v := 0) dX1_changeLetter_62 (by decide) ?_
        exact a_iret C hr rfl dX1_changeLetter_63 hF rfl rfl
      refine a_aload_n C 1 dX1_changeLetter_36 rfl rfl ?_
      refine a_iconst C (v := 4) dX1_changeLetter_37 (by decide) ?_
      refine a_iload C 4 dX1_changeLetter_38 rfl ?_
      refine a_callVv C 2 [3, 4, 5] 3 cs_X1_19 hd_X6_keep ⟨rfl, rfl⟩ ⟨Nat.le_of_ble_eq_true rfl, Nat.le_of_ble_eq_true rfl⟩ (fun r h => c_X6_keep l D J kc ki kb kl kd o1 o1_reasons o1_details r3_1.2.1 r3_1.2.2.1 r3_1.2.2.2 4 p4 r h) rfl rfl rfl (fun _ => rfl) rfl rfl rfl (Nat.le_of_ble_eq_true rfl) dX1_changeLetter_40 ⟨Nat.zero_le _, Nat.zero_le _⟩ hF (fun r40_11 er40_11 hF => ?_)
      refine a_ws C (ws' := wX0 kc ki o0 o0_letters o0_sizes o0_lettersF o0_sizesF o0_lines ++ wX6 ki o1 o1_reasons o1_details r40_11.1 r40_11.2.1 r40_11.2.2) rfl ?_
      refine a_iconst C (v := 0) dX1_changeLetter_43 (by decide) ?_
      exact a_iret C hr rfl dX1_changeLetter_44 hF rfl rfl
    refine a_aload_n C 1 dX1_changeLetter_20 rfl rfl ?_
    refine a_iconst C (v := 3) dX1_changeLetter_21 (by decide) ?_
    refine a_iload_n C 3 dX1_changeLetter_22 rfl rfl ?_
    refine a_callVv C 2 [3, 4, 5] 3 cs_X1_19 hd_X6_keep ⟨rfl, rfl⟩ ⟨Nat.le_of_ble_eq_true rfl, Nat.le_of_ble_eq_true rfl⟩ (fun r h => c_X6_keep l D J kc ki kb kl kd o1 o1_reasons o1_details r3_1.2.1 r3_1.2.2.1 r3_1.2.2.2 3 p3 r h) rfl rfl rfl (fun _ => rfl) rfl rfl rfl (Nat.le_of_ble_eq_true rfl) dX1_changeLetter_23 ⟨Nat.zero_le _, Nat.zero_le _⟩ hF (fun r23_12 er23_12 hF => ?_)
    refine a_ws C (ws' := wX0 kc ki o0 o0_letters o0_sizes o0_lettersF o0_sizesF o0_lines ++ wX6 ki o1 o1_reasons o1_details r23_12.1 r23_12.2.1 r23_12.2.2) rfl ?_
    refine a_iconst C (v := 0) dX1_changeLetter_26 (by decide) ?_
    exact a_iret C hr rfl dX1_changeLetter_27 hF rfl rfl
  refine a_iconst C (v := 0) dX1_changeLetter_9 (by decide) ?_
  exact a_iret C hr rfl dX1_changeLetter_10 hF rfl rfl
def f_X1_isNoPair (o0_lines : Int32) (o1_reasonsF : Nat → Int32) (o1_detailsF : Nat → Int32) (o1_count : Int32) (p2 : Int32) (p3 : Int32) : Option (Int32 × (Nat → Int32) × (Nat → Int32) × Int32) := (f_X1_isMissing o0_lines o1_reasonsF o1_detailsF o1_count p2).bind fun r3_1 => if ¬ r3_1.1 = 0 then (some (1, r3_1.2.1, r3_1.2.2.1, r3_1.2.2.2)) else ((f_X1_isMissing o0_lines r3_1.2.1 r3_1.2.2.1 r3_1.2.2.2 p3).bind fun r12_3 => if r12_3.1 = 0 then (if ¬ p2 = p3 then (some (0, r12_3.2.1, r12_3.2.2.1, r12_3.2.2.2)) else ((f_X6_keep r12_3.2.1 r12_3.2.2.1 6 p2).bind fun r29_6 => some (1, r29_6.1, r29_6.2.1, r29_6.2.2))) else (some (1, r12_3.2.1, r12_3.2.2.1, r12_3.2.2.2)))
theorem hd_X1_isNoPair : yX1_isNoPair.cls ≠ "java/lang/invoke/MethodHandle" ∧ yX1_isNoPair.cls ≠ "java/lang/invoke/VarHandle" ∧ (parseMethodDescriptor yX1_isNoPair.desc).map (fun d => d.parameters.length) = some 4 := by decide +kernel
set_option maxRecDepth 100000 in
set_option maxHeartbeats 4000000 in
theorem c_X1_isNoPair (l : Launch) (D : va_G) (J : JT) (kc ki kb kl kd : ClassId) (o0 : Nat) (o0_letters : Nat) (o0_sizes : Nat) (o1 : Nat) (o1_reasons : Nat) (o1_details : Nat) (o0_lettersF : Nat → Int32) (o0_sizesF : Nat → Int32) (o0_lines : Int32) (o1_reasonsF : Nat → Int32) (o1_detailsF : Nat → Int32) (o1_count : Int32) (p2 p3 : Int32) (res : Int32 × (Nat → Int32) × (Nat → Int32) × Int32) (hF : f_X1_isNoPair o0_lines o1_reasonsF o1_detailsF o1_count p2 p3 = some res) : aKi l yX1_isNoPair (aW yX1_isNoPair cX1_isNoPair 4 ((some .boolean))) ({ frames := 2, cells := 0, slots := 0, locals := 44 } : Room) D J (aTy kc ki kb kl kd) [.ref o0, .ref o1, .int p2, .int p3] (wX0 kc ki o0 o0_letters o0_sizes o0_lettersF o0_sizesF o0_lines ++ wX6 ki o1 o1_reasons o1_details o1_reasonsF o1_detailsF o1_count) (fun r => r.1) (fun r => wX0 kc ki o0 o0_letters o0_sizes o0_lettersF o0_sizesF o0_lines ++ wX6 ki o1 o1_reasons o1_details r.2.1 r.2.2.1 r.2.2.2) res := by
  refine aKi_of (own := RX1) (by decide) rfl (Nat.le_of_ble_eq_true rfl) rfl ?_
  intro p e s m args below meth c C hr
  unfold f_X1_isNoPair at hF
  refine a_aload_n C 0 dX1_isNoPair_0 rfl rfl ?_
  refine a_aload_n C 1 dX1_isNoPair_1 rfl rfl ?_
  refine a_iload_n C 2 dX1_isNoPair_2 rfl rfl ?_
  refine a_callSi C 3 [0, 1, 2, 3, 4, 5] cs_X1_47 hd_X1_isMissing ⟨rfl, rfl⟩ ⟨Nat.le_of_ble_eq_true rfl, Nat.le_of_ble_eq_true rfl⟩ (fun r h => c_X1_isMissing l D J kc ki kb kl kd o0 o0_letters o0_sizes o1 o1_reasons o1_details o0_lettersF o0_sizesF o0_lines o1_reasonsF o1_detailsF o1_count p2 r h) rfl (fun _ => rfl) rfl rfl rfl (Nat.le_of_ble_eq_true rfl) dX1_isNoPair_3 ⟨Nat.zero_le _, Nat.zero_le _⟩ hF (fun r3_1 er3_1 hF => ?_)
  refine a_ws C (ws' := wX0 kc ki o0 o0_letters o0_sizes o0_lettersF o0_sizesF o0_lines ++ wX6 ki o1 o1_reasons o1_details r3_1.2.1 r3_1.2.2.1 r3_1.2.2.2) rfl ?_
  refine a_if_ne C (tgt := 18) dX1_isNoPair_6 (by decide) hF (fun c6_2 hF => ?_) (fun c6_2 hF => ?_)
  · refine a_iconst C (v := 1) dX1_isNoPair_18 (by decide) ?_
    exact a_iret C hr rfl dX1_isNoPair_19 hF rfl rfl
  refine a_aload_n C 0 dX1_isNoPair_9 rfl rfl ?_
  refine a_aload_n C 1 dX1_isNoPair_10 rfl rfl ?_
  refine a_iload_n C 3 dX1_isNoPair_11 rfl rfl ?_
  refine a_callSi C 3 [0, 1, 2, 3, 4, 5] cs_X1_47 hd_X1_isMissing ⟨rfl, rfl⟩ ⟨Nat.le_of_ble_eq_true rfl, Nat.le_of_ble_eq_true rfl⟩ (fun r h => c_X1_isMissing l D J kc ki kb kl kd o0 o0_letters o0_sizes o1 o1_reasons o1_details o0_lettersF o0_sizesF o0_lines r3_1.2.1 r3_1.2.2.1 r3_1.2.2.2 p3 r h) rfl (fun _ => rfl) rfl rfl rfl (Nat.le_of_ble_eq_true rfl) dX1_isNoPair_12 ⟨Nat.zero_le _, Nat.zero_le _⟩ hF (fun r12_3 er12_3 hF => ?_)
  refine a_ws C (ws' := wX0 kc ki o0 o0_letters o0_sizes o0_lettersF o0_sizesF o0_lines ++ wX6 ki o1 o1_reasons o1_details r12_3.2.1 r12_3.2.2.1 r12_3.2.2.2) rfl ?_
  refine a_if_eq C (tgt := 20) dX1_isNoPair_15 (by decide) hF (fun c15_4 hF => ?_) (fun c15_4 hF => ?_)
  · refine a_iload_n C 2 dX1_isNoPair_20 rfl rfl ?_
    refine a_iload_n C 3 dX1_isNoPair_21 rfl rfl ?_
    refine a_ic_ne C (tgt := 34) dX1_isNoPair_22 (by decide) hF (fun c22_5 hF => ?_) (fun c22_5 hF => ?_)
    · refine a_iconst C (v := 0) dX1_isNoPair_34 (by decide) ?_
      exact a_iret C hr rfl dX1_isNoPair_35 hF rfl rfl
    refine a_aload_n C 1 dX1_isNoPair_25 rfl rfl ?_
    refine a_bipush C (v := 6) dX1_isNoPair_26 (by decide) ?_
    refine a_iload_n C 2 dX1_isNoPair_28 rfl rfl ?_
    refine a_callVv C 2 [3, 4, 5] 3 cs_X1_19 hd_X6_keep ⟨rfl, rfl⟩ ⟨Nat.le_of_ble_eq_true rfl, Nat.le_of_ble_eq_true rfl⟩ (fun r h => c_X6_keep l D J kc ki kb kl kd o1 o1_reasons o1_details r12_3.2.1 r12_3.2.2.1 r12_3.2.2.2 6 p2 r h) rfl rfl rfl (fun _ => rfl) rfl rfl rfl (Nat.le_of_ble_eq_true rfl) dX1_isNoPair_29 ⟨Nat.zero_le _, Nat.zero_le _⟩ hF (fun r29_6 er29_6 hF => ?_)
    refine a_ws C (ws' := wX0 kc ki o0 o0_letters o0_sizes o0_lettersF o0_sizesF o0_lines ++ wX6 ki o1 o1_reasons o1_details r29_6.1 r29_6.2.1 r29_6.2.2) rfl ?_
    refine a_iconst C (v := 1) dX1_isNoPair_32 (by decide) ?_
    exact a_iret C hr rfl dX1_isNoPair_33 hF rfl rfl
  refine a_iconst C (v := 1) dX1_isNoPair_18 (by decide) ?_
  exact a_iret C hr rfl dX1_isNoPair_19 hF rfl rfl
theorem cs_X1_71 : GoodIn WW (va_wsS RX1 71 yX1_isNoPair (aW yX1_isNoPair cX1_isNoPair 4 ((some .boolean)))) := gdS kl_X1_71 ks_X1_isNoPair kn_X1 kc_X1_isNoPair
theorem cs_X1_75 : GoodIn WW (wsV RX1 75 RX0 yX0_exchangeLines (aW yX0_exchangeLines cX0_exchangeLines 5 none)) := gdV kl_X1_75 ki_X0_exchangeLines kv_X0_exchangeLines kn_X0 kc_X0_exchangeLines
def f_X1_swapLines (o0_lettersF : Nat → Int32) (o0_sizesF : Nat → Int32) (o0_lines : Int32) (o1_reasonsF : Nat → Int32) (o1_detailsF : Nat → Int32) (o1_count : Int32) (p2 : Int32) (p3 : Int32) : Option (Int32 × (Nat → Int32) × (Nat → Int32) × (Nat → Int32) × (Nat → Int32) × Int32) := (f_X1_isNoPair o0_lines o1_reasonsF o1_detailsF o1_count p2 p3).bind fun r4_1 => if r4_1.1 = 0 then ((f_X0_exchangeLines o0_lettersF o0_sizesF o0_lines p2 p3).bind fun r15_3 => some (1, r15_3.1, r15_3.2, r4_1.2.1, r4_1.2.2.1, r4_1.2.2.2)) else (some (0, o0_lettersF, o0_sizesF, r4_1.2.1, r4_1.2.2.1, r4_1.2.2.2))
theorem hd_X1_swapLines : yX1_swapLines.cls ≠ "java/lang/invoke/MethodHandle" ∧ yX1_swapLines.cls ≠ "java/lang/invoke/VarHandle" ∧ (parseMethodDescriptor yX1_swapLines.desc).map (fun d => d.parameters.length) = some 4 := by decide +kernel
set_option maxRecDepth 100000 in
set_option maxHeartbeats 4000000 in
theorem c_X1_swapLines (l : Launch) (D : va_G) (J : JT) (kc ki kb kl kd : ClassId) (o0 : Nat) (o0_letters : Nat) (o0_sizes : Nat) (o1 : Nat) (o1_reasons : Nat) (o1_details : Nat) (o0_lettersF : Nat → Int32) (o0_sizesF : Nat → Int32) (o0_lines : Int32) (o1_reasonsF : Nat → Int32) (o1_detailsF : Nat → Int32) (o1_count : Int32) (p2 p3 : Int32) (res : Int32 × (Nat → Int32) × (Nat → Int32) × (Nat → Int32) × (Nat → Int32) × Int32) (hF : f_X1_swapLines o0_lettersF o0_sizesF o0_lines o1_reasonsF o1_detailsF o1_count p2 p3 = some res) : aKi l yX1_swapLines (aW yX1_swapLines cX1_swapLines 4 ((some .boolean))) ({ frames := 3, cells := 0, slots := 0, locals := 67 } : Room) D J (aTy kc ki kb kl kd) [.ref o0, .ref o1, .int p2, .int p3] (wX0 kc ki o0 o0_letters o0_sizes o0_lettersF o0_sizesF o0_lines ++ wX6 ki o1 o1_reasons o1_details o1_reasonsF o1_detailsF o1_count) (fun r => r.1) (fun r => wX0 kc ki o0 o0_letters o0_sizes r.2.1 r.2.2.1 o0_lines ++ wX6 ki o1 o1_reasons o1_details r.2.2.2.1 r.2.2.2.2.1 r.2.2.2.2.2) res := by
  refine aKi_of (own := RX1) (by decide) rfl (Nat.le_of_ble_eq_true rfl) rfl ?_
  intro p e s m args below meth c C hr
  unfold f_X1_swapLines at hF
  refine a_aload_n C 0 dX1_swapLines_0 rfl rfl ?_
  refine a_aload_n C 1 dX1_swapLines_1 rfl rfl ?_
  refine a_iload_n C 2 dX1_swapLines_2 rfl rfl ?_
  refine a_iload_n C 3 dX1_swapLines_3 rfl rfl ?_
  refine a_callSi C 4 [0, 1, 2, 3, 4, 5] cs_X1_71 hd_X1_isNoPair ⟨rfl, rfl⟩ ⟨Nat.le_of_ble_eq_true rfl, Nat.le_of_ble_eq_true rfl⟩ (fun r h => c_X1_isNoPair l D J kc ki kb kl kd o0 o0_letters o0_sizes o1 o1_reasons o1_details o0_lettersF o0_sizesF o0_lines o1_reasonsF o1_detailsF o1_count p2 p3 r h) rfl (fun _ => rfl) rfl rfl rfl (Nat.le_of_ble_eq_true rfl) dX1_swapLines_4 ⟨Nat.zero_le _, Nat.zero_le _⟩ hF (fun r4_1 er4_1 hF => ?_)
  refine a_ws C (ws' := wX0 kc ki o0 o0_letters o0_sizes o0_lettersF o0_sizesF o0_lines ++ wX6 ki o1 o1_reasons o1_details r4_1.2.1 r4_1.2.2.1 r4_1.2.2.2) rfl ?_
  refine a_if_eq C (tgt := 12) dX1_swapLines_7 (by decide) hF (fun c7_2 hF => ?_) (fun c7_2 hF => ?_)
  · refine a_aload_n C 0 dX1_swapLines_12 rfl rfl ?_
    refine a_iload_n C 2 dX1_swapLines_13 rfl rfl ?_
    refine a_iload_n C 3 dX1_swapLines_14 rfl rfl ?_
    refine a_callVv C 2 [0, 1, 2] 0 cs_X1_75 hd_X0_exchangeLines ⟨rfl, rfl⟩ ⟨Nat.le_of_ble_eq_true rfl, Nat.le_of_ble_eq_true rfl⟩ (fun r h => c_X0_exchangeLines l D J kc ki kb kl kd o0 o0_letters o0_sizes o0_lettersF o0_sizesF o0_lines p2 p3 r h) rfl rfl rfl (fun _ => rfl) rfl rfl rfl (Nat.le_of_ble_eq_true rfl) dX1_swapLines_15 ⟨Nat.zero_le _, Nat.zero_le _⟩ hF (fun r15_3 er15_3 hF => ?_)
    refine a_ws C (ws' := wX0 kc ki o0 o0_letters o0_sizes r15_3.1 r15_3.2 o0_lines ++ wX6 ki o1 o1_reasons o1_details r4_1.2.1 r4_1.2.2.1 r4_1.2.2.2) rfl ?_
    refine a_iconst C (v := 1) dX1_swapLines_18 (by decide) ?_
    exact a_iret C hr rfl dX1_swapLines_19 hF rfl rfl
  refine a_iconst C (v := 0) dX1_swapLines_10 (by decide) ?_
  exact a_iret C hr rfl dX1_swapLines_11 hF rfl rfl
theorem cs_X1_78 : GoodIn WW (wsV RX1 78 RX0 yX0_size (aW yX0_size cX0_size 2 ((some .int)))) := gdV kl_X1_78 ki_X0_size kv_X0_size kn_X0 kc_X0_size
theorem cs_X1_82 : GoodIn WW (wsV RX1 82 RX6 yX6_keepCause (aW yX6_keepCause cX6_keepCause 3 none)) := gdV kl_X1_82 ki_X6_keepCause kv_X6_keepCause kn_X6 kc_X6_keepCause
def f_X1_joinLines_L56 (q_o0_lines : Int32) (p2 : Int32) (p3 : Int32) : Nat → Int32 → (Nat → Int32) → (Nat → Int32) → (Int32 → (Nat → Int32) → (Nat → Int32) → Option (Int32 × (Nat → Int32) × (Nat → Int32) × Int32 × (Nat → Int32) × (Nat → Int32) × Int32)) → Option (Int32 × (Nat → Int32) × (Nat → Int32) × Int32 × (Nat → Int32) × (Nat → Int32) × Int32)
  | 0, _, _, _, _ => none
  | fuel + 1, x5, q_o0_lettersF, q_o0_sizesF, k => (f_X0_size q_o0_sizesF q_o0_lines p3).bind fun r60_6 => if r60_6 ≤ x5 then (k x5 q_o0_lettersF q_o0_sizesF) else ((f_X0_letterAt q_o0_lettersF q_o0_sizesF q_o0_lines p3 x5).bind fun r72_8 => (f_X0_putLetter q_o0_lettersF q_o0_sizesF q_o0_lines p2 r72_8).bind fun r75_9 => f_X1_joinLines_L56 q_o0_lines p2 p3 fuel (x5 + 1) r75_9.1 r75_9.2 k)
def f_X1_joinLines (o0_lettersF : Nat → Int32) (o0_sizesF : Nat → Int32) (o0_lines : Int32) (o1_reasonsF : Nat → Int32) (o1_detailsF : Nat → Int32) (o1_count : Int32) (p2 : Int32) (p3 : Int32) : Option (Int32 × (Nat → Int32) × (Nat → Int32) × Int32 × (Nat → Int32) × (Nat → Int32) × Int32) := (f_X1_isNoPair o0_lines o1_reasonsF o1_detailsF o1_count p2 p3).bind fun r4_1 => if r4_1.1 = 0 then ((f_X0_size o0_sizesF o0_lines p2).bind fun r14_3 => (f_X0_size o0_sizesF o0_lines p3).bind fun r19_4 => if (r14_3 + r19_4) ≤ 10 then (f_X1_joinLines_L56 o0_lines p2 p3 1000 0 o0_lettersF o0_sizesF (fun x5_56_10 q_o0_lettersF_56_11 q_o0_sizesF_56_12 => (f_X0_removeLine q_o0_lettersF_56_11 q_o0_sizesF_56_12 o0_lines p3).bind fun r86_13 => some (1, r86_13.1, r86_13.2.1, r86_13.2.2, r4_1.2.1, r4_1.2.2.1, r4_1.2.2.2))) else ((f_X6_keep r4_1.2.1 r4_1.2.2.1 7 (r14_3 + r19_4)).bind fun r37_14 => (f_X0_size o0_sizesF o0_lines p3).bind fun r45_15 => (f_X6_keepCause r37_14.1 r37_14.2.1 r37_14.2.2 11 r45_15).bind fun r48_16 => some (0, o0_lettersF, o0_sizesF, o0_lines, r48_16.1, r48_16.2.1, r48_16.2.2))) else (some (0, o0_lettersF, o0_sizesF, o0_lines, r4_1.2.1, r4_1.2.2.1, r4_1.2.2.2))
theorem hd_X1_joinLines : yX1_joinLines.cls ≠ "java/lang/invoke/MethodHandle" ∧ yX1_joinLines.cls ≠ "java/lang/invoke/VarHandle" ∧ (parseMethodDescriptor yX1_joinLines.desc).map (fun d => d.parameters.length) = some 4 := by decide +kernel
set_option maxRecDepth 100000 in
set_option maxHeartbeats 4000000 in
theorem c_X1_joinLines (l : Launch) (D : va_G) (J : JT) (kc ki kb kl kd : ClassId) (o0 : Nat) (o0_letters : Nat) (o0_sizes : Nat) (o1 : Nat) (o1_reasons : Nat) (o1_details : Nat) (o0_lettersF : Nat → Int32) (o0_sizesF : Nat → Int32) (o0_lines : Int32) (o1_reasonsF : Nat → Int32) (o1_detailsF : Nat → Int32) (o1_count : Int32) (p2 p3 : Int32) (res : Int32 × (Nat → Int32) × (Nat → Int32) × Int32 × (Nat → Int32) × (Nat → Int32) × Int32) (hF : f_X1_joinLines o0_lettersF o0_sizesF o0_lines o1_reasonsF o1_detailsF o1_count p2 p3 = some res) : aKi l yX1_joinLines (aW yX1_joinLines cX1_joinLines 6 ((some .boolean))) ({ frames := 3, cells := 0, slots := 0, locals := 67 } : Room) D J (aTy kc ki kb kl kd) [.ref o0, .ref o1, .int p2, .int p3] (wX0 kc ki o0 o0_letters o0_sizes o0_lettersF o0_sizesF o0_lines ++ wX6 ki o1 o1_reasons o1_details o1_reasonsF o1_detailsF o1_count) (fun r => r.1) (fun r => wX0 kc ki o0 o0_letters o0_sizes r.2.1 r.2.2.1 r.2.2.2.1 ++ wX6 ki o1 o1_reasons o1_details r.2.2.2.2.1 r.2.2.2.2.2.1 r.2.2.2.2.2.2) res := by
  refine aKi_of (own := RX1) (by decide) rfl (Nat.le_of_ble_eq_true rfl) rfl ?_
  intro p e s m args below meth c C hr
  have hI56 : ∀ (q_o0_lines : Int32) (q_o1_reasonsF : Nat → Int32) (q_o1_detailsF : Nat → Int32) (q_o1_count : Int32) (fuel : Nat) (x5 : Int32) (q_o0_lettersF : Nat → Int32) (q_o0_sizesF : Nat → Int32) (k : Int32 → (Nat → Int32) → (Nat → Int32) → Option (Int32 × (Nat → Int32) × (Nat → Int32) × Int32 × (Nat → Int32) × (Nat → Int32) × Int32)), f_X1_joinLines_L56 q_o0_lines p2 p3 fuel x5 q_o0_lettersF q_o0_sizesF k = some res → (∀ (x5 : Int32) (q_o0_lettersF : Nat → Int32) (q_o0_sizesF : Nat → Int32), k x5 q_o0_lettersF q_o0_sizesF = some res → aT p l e ({ frames := 3, cells := 0, slots := 0, locals := 67 } : Room) s m args below meth c (MQ below (aQi D (wX0 kc ki o0 o0_letters o0_sizes o0_lettersF o0_sizesF o0_lines ++ wX6 ki o1 o1_reasons o1_details o1_reasonsF o1_detailsF o1_count) s.heap.size (fun r => r.1) (fun r => wX0 kc ki o0 o0_letters o0_sizes r.2.1 r.2.2.1 r.2.2.2.1 ++ wX6 ki o1 o1_reasons o1_details r.2.2.2.2.1 r.2.2.2.2.2.1 r.2.2.2.2.2.2) res) args s 0 0 (va_A (wX0 kc ki o0 o0_letters o0_sizes o0_lettersF o0_sizesF o0_lines ++ wX6 ki o1 o1_reasons o1_details o1_reasonsF o1_detailsF o1_count) s.heap.size)) D (va_A (wX0 kc ki o0 o0_letters o0_sizes o0_lettersF o0_sizesF o0_lines ++ wX6 ki o1 o1_reasons o1_details o1_reasonsF o1_detailsF o1_count) s.heap.size) 6 0 0 84 [(0, .ref o0), (3, .int p3)] [] (wX0 kc ki o0 o0_letters o0_sizes q_o0_lettersF q_o0_sizesF q_o0_lines ++ wX6 ki o1 o1_reasons o1_details q_o1_reasonsF q_o1_detailsF q_o1_count)) → aT p l e ({ frames := 3, cells := 0, slots := 0, locals := 67 } : Room) s m args below meth c (MQ below (aQi D (wX0 kc ki o0 o0_letters o0_sizes o0_lettersF o0_sizesF o0_lines ++ wX6 ki o1 o1_reasons o1_details o1_reasonsF o1_detailsF o1_count) s.heap.size (fun r => r.1) (fun r => wX0 kc ki o0 o0_letters o0_sizes r.2.1 r.2.2.1 r.2.2.2.1 ++ wX6 ki o1 o1_reasons o1_details r.2.2.2.2.1 r.2.2.2.2.2.1 r.2.2.2.2.2.2) res) args s 0 0 (va_A (wX0 kc ki o0 o0_letters o0_sizes o0_lettersF o0_sizesF o0_lines ++ wX6 ki o1 o1_reasons o1_details o1_reasonsF o1_detailsF o1_count) s.heap.size)) D (va_A (wX0 kc ki o0 o0_letters o0_sizes o0_lettersF o0_sizesF o0_lines ++ wX6 ki o1 o1_reasons o1_details o1_reasonsF o1_detailsF o1_count) s.heap.size) 6 0 0 56 [(0, .ref o0), (2, .int p2), (3, .int p3), (5, .int x5)] [] (wX0 kc ki o0 o0_letters o0_sizes q_o0_lettersF q_o0_sizesF q_o0_lines ++ wX6 ki o1 o1_reasons o1_details q_o1_reasonsF q_o1_detailsF q_o1_count) := by
    intro q_o0_lines q_o1_reasonsF q_o1_detailsF q_o1_count fuel
    induction fuel with
    | zero => intro x5 q_o0_lettersF q_o0_sizesF k hF hX; exact nomatch hF
    | succ fuel ih =>
      intro x5 q_o0_lettersF q_o0_sizesF k hF hX
      rw [f_X1_joinLines_L56] at hF
      refine a_iload C 3 dX1_joinLines_56 rfl ?_
      refine a_aload_n C 0 dX1_joinLines_58 rfl rfl ?_
      refine a_iload_n C 2 dX1_joinLines_59 rfl rfl ?_
      refine a_callVir C 1 [0, 1, 2] 0 cs_X1_78 hd_X0_size ⟨rfl, rfl⟩ ⟨Nat.le_of_ble_eq_true rfl, Nat.le_of_ble_eq_true rfl⟩ (fun r h => c_X0_size l D J kc ki kb kl kd o0 o0_letters o0_sizes q_o0_lettersF q_o0_sizesF q_o0_lines p3 r h) rfl rfl rfl rfl rfl rfl (Nat.le_of_ble_eq_true rfl) dX1_joinLines_60 ⟨Nat.zero_le _, Nat.zero_le _⟩ hF (fun r60_6 er60_6 hF => ?_)
      refine a_ic_ge C (tgt := 84) dX1_joinLines_63 (by decide) hF (fun c63_7 hF => ?_) (fun c63_7 hF => ?_)
      · refine a_sub C [0, 2] [(0, .ref o0), (3, .int p3)] rfl ?_
        exact hX x5 q_o0_lettersF q_o0_sizesF hF
      refine a_aload_n C 0 dX1_joinLines_66 rfl rfl ?_
      refine a_iload_n C 1 dX1_joinLines_67 rfl rfl ?_
      refine a_aload_n C 0 dX1_joinLines_68 rfl rfl ?_
      refine a_iload_n C 2 dX1_joinLines_69 rfl rfl ?_
      refine a_iload C 3 dX1_joinLines_70 rfl ?_
      refine a_callVir C 2 [0, 1, 2] 0 cs_X1_63 hd_X0_letterAt ⟨rfl, rfl⟩ ⟨Nat.le_of_ble_eq_true rfl, Nat.le_of_ble_eq_true rfl⟩ (fun r h => c_X0_letterAt l D J kc ki kb kl kd o0 o0_letters o0_sizes q_o0_lettersF q_o0_sizesF q_o0_lines p3 x5 r h) rfl rfl rfl rfl rfl rfl (Nat.le_of_ble_eq_true rfl) dX1_joinLines_72 ⟨Nat.zero_le _, Nat.zero_le _⟩ hF (fun r72_8 er72_8 hF => ?_)
      refine a_callVv C 2 [0, 1, 2] 0 cs_X1_43 hd_X0_putLetter ⟨rfl, rfl⟩ ⟨Nat.le_of_ble_eq_true rfl, Nat.le_of_ble_eq_true rfl⟩ (fun r h => c_X0_putLetter l D J kc ki kb kl kd o0 o0_letters o0_sizes q_o0_lettersF q_o0_sizesF q_o0_lines p2 r72_8 r h) rfl rfl rfl (fun _ => rfl) rfl rfl rfl (Nat.le_of_ble_eq_true rfl) dX1_joinLines_75 ⟨Nat.zero_le _, Nat.zero_le _⟩ hF (fun r75_9 er75_9 hF => ?_)
      refine a_ws C (ws' := wX0 kc ki o0 o0_letters o0_sizes r75_9.1 r75_9.2 q_o0_lines ++ wX6 ki o1 o1_reasons o1_details q_o1_reasonsF q_o1_detailsF q_o1_count) rfl ?_
      refine a_iinc C 3 [(5, .int (x5 + 1)), (0, .ref o0), (2, .int p2), (3, .int p3)] dX1_joinLines_78 rfl rfl (by decide) rfl ?_
      refine a_goto C (tgt := 56) dX1_joinLines_81 (by decide) ?_
      refine a_sub C [1, 2, 3, 0] [(0, .ref o0), (2, .int p2), (3, .int p3), (5, .int (x5 + 1))] rfl ?_
      exact ih (x5 + 1) r75_9.1 r75_9.2 k hF hX
  unfold f_X1_joinLines at hF
  refine a_aload_n C 0 dX1_joinLines_0 rfl rfl ?_
  refine a_aload_n C 1 dX1_joinLines_1 rfl rfl ?_
  refine a_iload_n C 2 dX1_joinLines_2 rfl rfl ?_
  refine a_iload_n C 3 dX1_joinLines_3 rfl rfl ?_
  refine a_callSi C 4 [0, 1, 2, 3, 4, 5] cs_X1_71 hd_X1_isNoPair ⟨rfl, rfl⟩ ⟨Nat.le_of_ble_eq_true rfl, Nat.le_of_ble_eq_true rfl⟩ (fun r h => c_X1_isNoPair l D J kc ki kb kl kd o0 o0_letters o0_sizes o1 o1_reasons o1_details o0_lettersF o0_sizesF o0_lines o1_reasonsF o1_detailsF o1_count p2 p3 r h) rfl (fun _ => rfl) rfl rfl rfl (Nat.le_of_ble_eq_true rfl) dX1_joinLines_4 ⟨Nat.zero_le _, Nat.zero_le _⟩ hF (fun r4_1 er4_1 hF => ?_)
  refine a_ws C (ws' := wX0 kc ki o0 o0_letters o0_sizes o0_lettersF o0_sizesF o0_lines ++ wX6 ki o1 o1_reasons o1_details r4_1.2.1 r4_1.2.2.1 r4_1.2.2.2) rfl ?_
  refine a_if_eq C (tgt := 12) dX1_joinLines_7 (by decide) hF (fun c7_2 hF => ?_) (fun c7_2 hF => ?_)
  · refine a_aload_n C 0 dX1_joinLines_12 rfl rfl ?_
    refine a_iload_n C 2 dX1_joinLines_13 rfl rfl ?_
    refine a_callVir C 1 [0, 1, 2] 0 cs_X1_78 hd_X0_size ⟨rfl, rfl⟩ ⟨Nat.le_of_ble_eq_true rfl, Nat.le_of_ble_eq_true rfl⟩ (fun r h => c_X0_size l D J kc ki kb kl kd o0 o0_letters o0_sizes o0_lettersF o0_sizesF o0_lines p2 r h) rfl rfl rfl rfl rfl rfl (Nat.le_of_ble_eq_true rfl) dX1_joinLines_14 ⟨Nat.zero_le _, Nat.zero_le _⟩ hF (fun r14_3 er14_3 hF => ?_)
    refine a_aload_n C 0 dX1_joinLines_17 rfl rfl ?_
    refine a_iload_n C 3 dX1_joinLines_18 rfl rfl ?_
    refine a_callVir C 1 [0, 1, 2] 0 cs_X1_78 hd_X0_size ⟨rfl, rfl⟩ ⟨Nat.le_of_ble_eq_true rfl, Nat.le_of_ble_eq_true rfl⟩ (fun r h => c_X0_size l D J kc ki kb kl kd o0 o0_letters o0_sizes o0_lettersF o0_sizesF o0_lines p3 r h) rfl rfl rfl rfl rfl rfl (Nat.le_of_ble_eq_true rfl) dX1_joinLines_19 ⟨Nat.zero_le _, Nat.zero_le _⟩ hF (fun r19_4 er19_4 hF => ?_)
    refine a_iadd C dX1_joinLines_22 ?_
    refine a_istore C [(4, .int (r14_3 + r19_4)), (0, .ref o0), (1, .ref o1), (2, .int p2), (3, .int p3)] dX1_joinLines_23 (by decide) rfl ?_
    refine a_iload C 0 dX1_joinLines_25 rfl ?_
    refine a_bipush C (v := 10) dX1_joinLines_27 (by decide) ?_
    refine a_ic_le C (tgt := 53) dX1_joinLines_29 (by decide) hF (fun c29_5 hF => ?_) (fun c29_5 hF => ?_)
    · refine a_iconst C (v := 0) dX1_joinLines_53 (by decide) ?_
      refine a_istore C [(5, .int 0), (4, .int (r14_3 + r19_4)), (0, .ref o0), (1, .ref o1), (2, .int p2), (3, .int p3)] dX1_joinLines_54 (by decide) rfl ?_
      refine a_sub C [2, 4, 5, 0] [(0, .ref o0), (2, .int p2), (3, .int p3), (5, .int 0)] rfl ?_
      refine hI56 o0_lines r4_1.2.1 r4_1.2.2.1 r4_1.2.2.2 1000 0 o0_lettersF o0_sizesF _ hF (fun x5_56_10 q_o0_lettersF_56_11 q_o0_sizesF_56_12 hF => ?_)
      refine a_aload_n C 0 dX1_joinLines_84 rfl rfl ?_
      refine a_iload_n C 1 dX1_joinLines_85 rfl rfl ?_
      refine a_callVv C 1 [0, 1, 2] 0 cs_X1_51 hd_X0_removeLine ⟨rfl, rfl⟩ ⟨Nat.le_of_ble_eq_true rfl, Nat.le_of_ble_eq_true rfl⟩ (fun r h => c_X0_removeLine l D J kc ki kb kl kd o0 o0_letters o0_sizes q_o0_lettersF_56_11 q_o0_sizesF_56_12 o0_lines p3 r h) rfl rfl rfl (fun _ => rfl) rfl rfl rfl (Nat.le_of_ble_eq_true rfl) dX1_joinLines_86 ⟨Nat.zero_le _, Nat.zero_le _⟩ hF (fun r86_13 er86_13 hF => ?_)
      refine a_ws C (ws' := wX0 kc ki o0 o0_letters o0_sizes r86_13.1 r86_13.2.1 r86_13.2.2 ++ wX6 ki o1 o1_reasons o1_details r4_1.2.1 r4_1.2.2.1 r4_1.2.2.2) rfl ?_
      refine a_iconst C (v := 1) dX1_joinLines_89 (by decide) ?_
      exact a_iret C hr rfl dX1_joinLines_90 hF rfl rfl
    refine a_aload_n C 2 dX1_joinLines_32 rfl rfl ?_
    refine a_bipush C (v := 7) dX1_joinLines_33 (by decide) ?_
    refine a_iload C 0 dX1_joinLines_35 rfl ?_
    refine a_callVv C 2 [3, 4, 5] 3 cs_X1_19 hd_X6_keep ⟨rfl, rfl⟩ ⟨Nat.le_of_ble_eq_true rfl, Nat.le_of_ble_eq_true rfl⟩ (fun r h => c_X6_keep l D J kc ki kb kl kd o1 o1_reasons o1_details r4_1.2.1 r4_1.2.2.1 r4_1.2.2.2 7 (r14_3 + r19_4) r h) rfl rfl rfl (fun _ => rfl) rfl rfl rfl (Nat.le_of_ble_eq_true rfl) dX1_joinLines_37 ⟨Nat.zero_le _, Nat.zero_le _⟩ hF (fun r37_14 er37_14 hF => ?_)
    refine a_ws C (ws' := wX0 kc ki o0 o0_letters o0_sizes o0_lettersF o0_sizesF o0_lines ++ wX6 ki o1 o1_reasons o1_details r37_14.1 r37_14.2.1 r37_14.2.2) rfl ?_
    refine a_aload_n C 2 dX1_joinLines_40 rfl rfl ?_
    refine a_bipush C (v := 11) dX1_joinLines_41 (by decide) ?_
    refine a_aload_n C 1 dX1_joinLines_43 rfl rfl ?_
    refine a_iload_n C 4 dX1_joinLines_44 rfl rfl ?_
    refine a_callVir C 1 [0, 1, 2] 0 cs_X1_78 hd_X0_size ⟨rfl, rfl⟩ ⟨Nat.le_of_ble_eq_true rfl, Nat.le_of_ble_eq_true rfl⟩ (fun r h => c_X0_size l D J kc ki kb kl kd o0 o0_letters o0_sizes o0_lettersF o0_sizesF o0_lines p3 r h) rfl rfl rfl rfl rfl rfl (Nat.le_of_ble_eq_true rfl) dX1_joinLines_45 ⟨Nat.zero_le _, Nat.zero_le _⟩ hF (fun r45_15 er45_15 hF => ?_)
    refine a_callVv C 2 [3, 4, 5] 3 cs_X1_82 hd_X6_keepCause ⟨rfl, rfl⟩ ⟨Nat.le_of_ble_eq_true rfl, Nat.le_of_ble_eq_true rfl⟩ (fun r h => c_X6_keepCause l D J kc ki kb kl kd o1 o1_reasons o1_details r37_14.1 r37_14.2.1 r37_14.2.2 11 r45_15 r h) rfl rfl rfl (fun _ => rfl) rfl rfl rfl (Nat.le_of_ble_eq_true rfl) dX1_joinLines_48 ⟨Nat.zero_le _, Nat.zero_le _⟩ hF (fun r48_16 er48_16 hF => ?_)
    refine a_ws C (ws' := wX0 kc ki o0 o0_letters o0_sizes o0_lettersF o0_sizesF o0_lines ++ wX6 ki o1 o1_reasons o1_details r48_16.1 r48_16.2.1 r48_16.2.2) rfl ?_
    refine a_iconst C (v := 0) dX1_joinLines_51 (by decide) ?_
    exact a_iret C hr rfl dX1_joinLines_52 hF rfl rfl
  refine a_iconst C (v := 0) dX1_joinLines_10 (by decide) ?_
  exact a_iret C hr rfl dX1_joinLines_11 hF rfl rfl
theorem cs_X1_85 : GoodIn WW (wsV RX1 85 RX0 yX0_isReverse (aW yX0_isReverse cX0_isReverse 5 ((some .boolean)))) := gdV kl_X1_85 ki_X0_isReverse kv_X0_isReverse kn_X0 kc_X0_isReverse
theorem cs_X1_88 : GoodIn WW (wsV RX1 88 RX0 yX0_reverseLine (aW yX0_reverseLine cX0_reverseLine 5 none)) := gdV kl_X1_88 ki_X0_reverseLine kv_X0_reverseLine kn_X0 kc_X0_reverseLine
def f_X1_turnLine (o0_lettersF : Nat → Int32) (o0_sizesF : Nat → Int32) (o0_lines : Int32) (o1_reasonsF : Nat → Int32) (o1_detailsF : Nat → Int32) (o1_count : Int32) (p2 : Int32) : Option (Int32 × (Nat → Int32) × (Nat → Int32) × (Nat → Int32) × Int32) := (f_X1_isMissing o0_lines o1_reasonsF o1_detailsF o1_count p2).bind fun r3_1 => if r3_1.1 = 0 then ((f_X0_isReverse o0_lettersF o0_sizesF o0_lines p2 p2).bind fun r14_3 => if r14_3 = 0 then ((f_X0_reverseLine o0_lettersF o0_sizesF o0_lines p2).bind fun r31_5 => some (1, r31_5, r3_1.2.1, r3_1.2.2.1, r3_1.2.2.2)) else ((f_X6_keep r3_1.2.1 r3_1.2.2.1 8 p2).bind fun r24_6 => some (0, o0_lettersF, r24_6.1, r24_6.2.1, r24_6.2.2))) else (some (0, o0_lettersF, r3_1.2.1, r3_1.2.2.1, r3_1.2.2.2))
theorem hd_X1_turnLine : yX1_turnLine.cls ≠ "java/lang/invoke/MethodHandle" ∧ yX1_turnLine.cls ≠ "java/lang/invoke/VarHandle" ∧ (parseMethodDescriptor yX1_turnLine.desc).map (fun d => d.parameters.length) = some 3 := by decide +kernel
set_option maxRecDepth 100000 in
set_option maxHeartbeats 4000000 in
theorem c_X1_turnLine (l : Launch) (D : va_G) (J : JT) (kc ki kb kl kd : ClassId) (o0 : Nat) (o0_letters : Nat) (o0_sizes : Nat) (o1 : Nat) (o1_reasons : Nat) (o1_details : Nat) (o0_lettersF : Nat → Int32) (o0_sizesF : Nat → Int32) (o0_lines : Int32) (o1_reasonsF : Nat → Int32) (o1_detailsF : Nat → Int32) (o1_count : Int32) (p2 : Int32) (res : Int32 × (Nat → Int32) × (Nat → Int32) × (Nat → Int32) × Int32) (hF : f_X1_turnLine o0_lettersF o0_sizesF o0_lines o1_reasonsF o1_detailsF o1_count p2 = some res) : aKi l yX1_turnLine (aW yX1_turnLine cX1_turnLine 3 ((some .boolean))) ({ frames := 3, cells := 0, slots := 0, locals := 69 } : Room) D J (aTy kc ki kb kl kd) [.ref o0, .ref o1, .int p2] (wX0 kc ki o0 o0_letters o0_sizes o0_lettersF o0_sizesF o0_lines ++ wX6 ki o1 o1_reasons o1_details o1_reasonsF o1_detailsF o1_count) (fun r => r.1) (fun r => wX0 kc ki o0 o0_letters o0_sizes r.2.1 o0_sizesF o0_lines ++ wX6 ki o1 o1_reasons o1_details r.2.2.1 r.2.2.2.1 r.2.2.2.2) res := by
  refine aKi_of (own := RX1) (by decide) rfl (Nat.le_of_ble_eq_true rfl) rfl ?_
  intro p e s m args below meth c C hr
  unfold f_X1_turnLine at hF
  refine a_aload_n C 0 dX1_turnLine_0 rfl rfl ?_
  refine a_aload_n C 1 dX1_turnLine_1 rfl rfl ?_
  refine a_iload_n C 2 dX1_turnLine_2 rfl rfl ?_
  refine a_callSi C 3 [0, 1, 2, 3, 4, 5] cs_X1_47 hd_X1_isMissing ⟨rfl, rfl⟩ ⟨Nat.le_of_ble_eq_true rfl, Nat.le_of_ble_eq_true rfl⟩ (fun r h => c_X1_isMissing l D J kc ki kb kl kd o0 o0_letters o0_sizes o1 o1_reasons o1_details o0_lettersF o0_sizesF o0_lines o1_reasonsF o1_detailsF o1_count p2 r h) rfl (fun _ => rfl) rfl rfl rfl (Nat.le_of_ble_eq_true rfl) dX1_turnLine_3 ⟨Nat.zero_le _, Nat.zero_le _⟩ hF (fun r3_1 er3_1 hF => ?_)
  refine a_ws C (ws' := wX0 kc ki o0 o0_letters o0_sizes o0_lettersF o0_sizesF o0_lines ++ wX6 ki o1 o1_reasons o1_details r3_1.2.1 r3_1.2.2.1 r3_1.2.2.2) rfl ?_
  refine a_if_eq C (tgt := 11) dX1_turnLine_6 (by decide) hF (fun c6_2 hF => ?_) (fun c6_2 hF => ?_)
  · refine a_aload_n C 0 dX1_turnLine_11 rfl rfl ?_
    refine a_iload_n C 2 dX1_turnLine_12 rfl rfl ?_
    refine a_iload_n C 2 dX1_turnLine_13 rfl rfl ?_
    refine a_callVir C 2 [0, 1, 2] 0 cs_X1_85 hd_X0_isReverse ⟨rfl, rfl⟩ ⟨Nat.le_of_ble_eq_true rfl, Nat.le_of_ble_eq_true rfl⟩ (fun r h => c_X0_isReverse l D J kc ki kb kl kd o0 o0_letters o0_sizes o0_lettersF o0_sizesF o0_lines p2 p2 r h) rfl rfl rfl rfl rfl rfl (Nat.le_of_ble_eq_true rfl) dX1_turnLine_14 ⟨Nat.zero_le _, Nat.zero_le _⟩ hF (fun r14_3 er14_3 hF => ?_)
    refine a_if_eq C (tgt := 29) dX1_turnLine_17 (by decide) hF (fun c17_4 hF => ?_) (fun c17_4 hF => ?_)
    · refine a_aload_n C 0 dX1_turnLine_29 rfl rfl ?_
      refine a_iload_n C 2 dX1_turnLine_30 rfl rfl ?_
      refine a_callVv C 1 [0, 1, 2] 0 cs_X1_88 hd_X0_reverseLine ⟨rfl, rfl⟩ ⟨Nat.le_of_ble_eq_true rfl, Nat.le_of_ble_eq_true rfl⟩ (fun r h => c_X0_reverseLine l D J kc ki kb kl kd o0 o0_letters o0_sizes o0_lettersF o0_sizesF o0_lines p2 r h) rfl rfl rfl (fun _ => rfl) rfl rfl rfl (Nat.le_of_ble_eq_true rfl) dX1_turnLine_31 ⟨Nat.zero_le _, Nat.zero_le _⟩ hF (fun r31_5 er31_5 hF => ?_)
      refine a_ws C (ws' := wX0 kc ki o0 o0_letters o0_sizes r31_5 o0_sizesF o0_lines ++ wX6 ki o1 o1_reasons o1_details r3_1.2.1 r3_1.2.2.1 r3_1.2.2.2) rfl ?_
      refine a_iconst C (v := 1) dX1_turnLine_34 (by decide) ?_
      exact a_iret C hr rfl dX1_turnLine_35 hF rfl rfl
    refine a_aload_n C 1 dX1_turnLine_20 rfl rfl ?_
    refine a_bipush C (v := 8) dX1_turnLine_21 (by decide) ?_
    refine a_iload_n C 2 dX1_turnLine_23 rfl rfl ?_
    refine a_callVv C 2 [3, 4, 5] 3 cs_X1_19 hd_X6_keep ⟨rfl, rfl⟩ ⟨Nat.le_of_ble_eq_true rfl, Nat.le_of_ble_eq_true rfl⟩ (fun r h => c_X6_keep l D J kc ki kb kl kd o1 o1_reasons o1_details r3_1.2.1 r3_1.2.2.1 r3_1.2.2.2 8 p2 r h) rfl rfl rfl (fun _ => rfl) rfl rfl rfl (Nat.le_of_ble_eq_true rfl) dX1_turnLine_24 ⟨Nat.zero_le _, Nat.zero_le _⟩ hF (fun r24_6 er24_6 hF => ?_)
    refine a_ws C (ws' := wX0 kc ki o0 o0_letters o0_sizes o0_lettersF o0_sizesF o0_lines ++ wX6 ki o1 o1_reasons o1_details r24_6.1 r24_6.2.1 r24_6.2.2) rfl ?_
    refine a_iconst C (v := 0) dX1_turnLine_27 (by decide) ?_
    exact a_iret C hr rfl dX1_turnLine_28 hF rfl rfl
  refine a_iconst C (v := 0) dX1_turnLine_9 (by decide) ?_
  exact a_iret C hr rfl dX1_turnLine_10 hF rfl rfl
