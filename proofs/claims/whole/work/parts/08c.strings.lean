/-! the JDK's own methods over the five texts of the reader -/
section SR
variable {p : Program} {l : Launch} {e : Env} {R : Room} {s : State} {m : MethodId} {args : Array Value} {below : List Frame} {meth : Method} {c : Code} {Q : State → Prop} {D : va_G} {J : (Nat → Nat) × (Nat → Nat)} {tys : List (ClassId × FieldType)} {A : Nat → Prop} {nL k n : Nat} {cc : ByteArray} {own : String} {pc : Nat} {lv : List (Nat × Value)} {st : List Value} {ws : va_W}
theorem s_value (C : aC p s m args meth c cc nL RJ0 WW D J tys A) {i : Nat} (hi : i < 5) (hdg : decode cc pc = .ok (.getfield 9, 3)) (kk : aT p l e R s m args below meth c Q D A nL k n (pc + 3) lv (.ref (J.2 i) :: st) ws) : aT p l e R s m args below meth c Q D A nL k n pc lv (.ref (J.1 i) :: st) ws := fun H locs ls hP hD hS hl => va_getX (N := 5) (v := fun i => .ref (J.2 i)) C.1.1 C.1.2.1 (fun j hj => (C.2.2.2.2.2.2.2.2.2.2.1.1 j hj).2.2.1) hi hS C.1.2.2.2.1 (C.1.2.2.2.2 _ kf_J0_9) (fun _ h => h) hdg (kk H locs ls hP hD hS hl)
theorem s_coder (C : aC p s m args meth c cc nL RJ0 WW D J tys A) {i : Nat} (hi : i < 5) (hdg : decode cc pc = .ok (.getfield 15, 3)) (kk : aT p l e R s m args below meth c Q D A nL k n (pc + 3) lv (.int 0 :: st) ws) : aT p l e R s m args below meth c Q D A nL k n pc lv (.ref (J.1 i) :: st) ws := fun H locs ls hP hD hS hl => va_getX (N := 5) (v := fun _ => .int 0) C.1.1 C.1.2.1 (fun j hj => (C.2.2.2.2.2.2.2.2.2.2.1.1 j hj).2.1) hi hS C.1.2.2.2.1 (C.1.2.2.2.2 _ kf_J0_15) (fun _ h => h) hdg (kk H locs ls hP hD hS hl)
theorem s_compact (C : aC p s m args meth c cc nL RJ0 WW D J tys A) (hdg : decode cc pc = .ok (.getstatic 38, 3)) (kk : aT p l e R s m args below meth c Q D A nL k n (pc + 3) lv (.int 1 :: st) ws) : aT p l e R s m args below meth c Q D A nL k n pc lv st ws := fun H locs ls hP hD hS hl => va_gets C.1.1 C.1.2.1 C.2.2.2.2.2.2.2.2.2.2.2.1 hS C.1.2.2.2.1 (C.1.2.2.2.2 _ kf_J0_38) (fun _ h => h) hdg (kk H locs ls hP hD hS hl)
theorem s_fmt (C : aC p s m args meth c cc nL RJ0 WW D J tys A) (hdg : decode cc pc = .ok (.getstatic 1053, 3)) (kk : ∀ v : Value, (v = .null ∨ ∃ t : Nat, v = .ref t) → aT p l e R s m args below meth c Q D A nL k n (pc + 3) lv (v :: st) ws) : aT p l e R s m args below meth c Q D A nL k n pc lv st ws := fun H locs ls hP hD hS hl => by
  rcases C.2.2.2.2.2.2.2.2.2.2.2.2.1 with h | ⟨t, h⟩
  · exact va_gets C.1.1 C.1.2.1 h hS C.1.2.2.2.1 (C.1.2.2.2.2 _ kf_J0_1053) (fun _ h => h) hdg (kk _ (Or.inl rfl) H locs ls hP hD hS hl)
  · exact va_gets C.1.1 C.1.2.1 h hS C.1.2.2.2.1 (C.1.2.2.2.2 _ kf_J0_1053) (fun _ h => h) hdg (kk _ (Or.inr ⟨t, rfl⟩) H locs ls hP hD hS hl)
theorem s_len (C : aC p s m args meth c cc nL own WW D J tys A) {i : Nat} (hi : i < 5) (hdg : decode cc pc = .ok (.arraylength, 1)) (kk : aT p l e R s m args below meth c Q D A nL k n (pc + 1) lv (.int (nI (aLen.getD i 0)) :: st) ws) : aT p l e R s m args below meth c Q D A nL k n pc lv (.ref (J.2 i) :: st) ws := fun H locs ls hP hD hS hl => va_tlen C.1.1 C.1.2.1 (C.2.2.2.2.2.2.2.2.2.2.1.1 i hi).2.2.2 hS rfl hdg (kk H locs ls hP hD hS hl)
theorem s_byte (C : aC p s m args meth c cc nL own WW D J tys A) {i : Nat} {x : Int32} (hi : i < 5) (hx : vp_in x (aLen.getD i 0)) (hdg : decode cc pc = .ok (.baload, 1)) (kk : aT p l e R s m args below meth c Q D A nL k n (pc + 1) lv (.int ((aByt.getD i []).getD x.toNatClampNeg 0) :: st) ws) : aT p l e R s m args below meth c Q D A nL k n pc lv (.int x :: .ref (J.2 i) :: st) ws := fun H locs ls hP hD hS hl => va_tb C.1.1 C.1.2.1 (C.2.2.2.2.2.2.2.2.2.2.1.1 i hi).2.2.2 hS hx rfl hdg (kk H locs ls hP hD hS hl)
theorem s_ishr (C : aC p s m args meth c cc nL own WW D J tys A) {x y : Int32} (hdg : decode cc pc = .ok (.ishr, 1)) (kk : aT p l e R s m args below meth c Q D A nL k n (pc + 1) lv (.int (x >>> (y &&& 31)) :: st) ws) : aT p l e R s m args below meth c Q D A nL k n pc lv (.int y :: .int x :: st) ws := fun H locs ls hP hD hS hl => lv_ishr C.1.1 C.1.2.1 hdg (kk H locs ls hP hD hS hl)
theorem s_aload_n (C : aC p s m args meth c cc nL own WW D J tys A) {j : Fin 4} {i : Nat} {x : Nat} (q : Nat) (hdg : decode cc pc = .ok (.aload_n j, 1)) (hi : (j : Nat) = i) (hk : lv[q]? = some (i, .ref x)) (kk : aT p l e R s m args below meth c Q D A nL k n (pc + 1) lv (.ref x :: st) ws) : aT p l e R s m args below meth c Q D A nL k n pc lv st ws := a_aload_n C q hdg hi hk kk
end SR
theorem hd_J3_checkIndex_8e157 : yJ3_checkIndex_8e157.cls ≠ "java/lang/invoke/MethodHandle" ∧ yJ3_checkIndex_8e157.cls ≠ "java/lang/invoke/VarHandle" ∧ (parseMethodDescriptor yJ3_checkIndex_8e157.desc).map (fun d => d.parameters.length) = some 3 := by decide +kernel
theorem hd_J0_checkIndex_df160 : yJ0_checkIndex_df160.cls ≠ "java/lang/invoke/MethodHandle" ∧ yJ0_checkIndex_df160.cls ≠ "java/lang/invoke/VarHandle" ∧ (parseMethodDescriptor yJ0_checkIndex_df160.desc).map (fun d => d.parameters.length) = some 2 := by decide +kernel
theorem hd_J1_charAt_3b067 : yJ1_charAt_3b067.cls ≠ "java/lang/invoke/MethodHandle" ∧ yJ1_charAt_3b067.cls ≠ "java/lang/invoke/VarHandle" ∧ (parseMethodDescriptor yJ1_charAt_3b067.desc).map (fun d => d.parameters.length) = some 2 := by decide +kernel
theorem hd_J0_coder_7d493 : yJ0_coder_7d493.cls = RJ0 ∧ yJ0_coder_7d493.cls ≠ "java/lang/invoke/MethodHandle" ∧ yJ0_coder_7d493.cls ≠ "java/lang/invoke/VarHandle" ∧ (parseMethodDescriptor yJ0_coder_7d493.desc).map (fun d => d.parameters.length) = some 0 := by decide +kernel
theorem hd_J0_isLatin1_aae02 : yJ0_isLatin1_aae02.cls = RJ0 ∧ yJ0_isLatin1_aae02.cls ≠ "java/lang/invoke/MethodHandle" ∧ yJ0_isLatin1_aae02.cls ≠ "java/lang/invoke/VarHandle" ∧ (parseMethodDescriptor yJ0_isLatin1_aae02.desc).map (fun d => d.parameters.length) = some 0 := by decide +kernel
theorem hd_J0_length_8abf5 : yJ0_length_8abf5.cls = RJ0 ∧ yJ0_length_8abf5.cls ≠ "java/lang/invoke/MethodHandle" ∧ yJ0_length_8abf5.cls ≠ "java/lang/invoke/VarHandle" ∧ (parseMethodDescriptor yJ0_length_8abf5.desc).map (fun d => d.parameters.length) = some 0 := by decide +kernel
theorem hd_J0_isEmpty_aae02 : yJ0_isEmpty_aae02.cls = RJ0 ∧ yJ0_isEmpty_aae02.cls ≠ "java/lang/invoke/MethodHandle" ∧ yJ0_isEmpty_aae02.cls ≠ "java/lang/invoke/VarHandle" ∧ (parseMethodDescriptor yJ0_isEmpty_aae02.desc).map (fun d => d.parameters.length) = some 0 := by decide +kernel
theorem hd_J0_charAt_5068e : yJ0_charAt_5068e.cls = RJ0 ∧ yJ0_charAt_5068e.cls ≠ "java/lang/invoke/MethodHandle" ∧ yJ0_charAt_5068e.cls ≠ "java/lang/invoke/VarHandle" ∧ (parseMethodDescriptor yJ0_charAt_5068e.desc).map (fun d => d.parameters.length) = some 1 := by decide +kernel
theorem cs_J0_1059 : GoodIn WW (va_wsS RJ0 1059 yJ3_checkIndex_8e157 (aW yJ3_checkIndex_8e157 cJ3_checkIndex_8e157 3 (some .int))) := gdS kl_J0_1059 ks_J3_checkIndex_8e157 kn_J3 kc_J3_checkIndex_8e157
theorem cs_J1_9 : GoodIn WW (va_wsS RJ1 9 yJ0_checkIndex_df160 (aW yJ0_checkIndex_df160 cJ0_checkIndex_df160 2 none)) := gdS kl_J1_9 ks_J0_checkIndex_df160 kn_J0 kc_J0_checkIndex_df160
theorem cs_J0_495 : GoodIn WW (va_wsS RJ0 495 yJ1_charAt_3b067 (aW yJ1_charAt_3b067 cJ1_charAt_3b067 2 (some .char))) := gdS kl_J0_495 ks_J1_charAt_3b067 kn_J1 kc_J1_charAt_3b067
theorem cs_J0_335 : GoodIn WW (wsV RJ0 335 RJ0 yJ0_coder_7d493 (aW yJ0_coder_7d493 cJ0_coder_7d493 1 (some .byte))) := gdV kl_J0_335 ki_J0_coder_7d493 kv_J0_coder_7d493 kn_J0 kc_J0_coder_7d493
theorem cs_J0_492 : GoodIn WW (wsV RJ0 492 RJ0 yJ0_isLatin1_aae02 (aW yJ0_isLatin1_aae02 cJ0_isLatin1_aae02 1 (some .boolean))) := gdV kl_J0_492 ki_J0_isLatin1_aae02 kv_J0_isLatin1_aae02 kn_J0 kc_J0_isLatin1_aae02
set_option maxRecDepth 100000 in
set_option maxHeartbeats 4000000 in
theorem c_J3_checkIndex (l : Launch) (D : va_G) (J : (Nat → Nat) × (Nat → Nat)) (kc ki kb kl kd : ClassId) (v : Value) (hv : v = .null ∨ ∃ t : Nat, v = .ref t) (i n0 : Int32) (h0 : ¬ i < 0) (h1 : i < n0) : aKi l yJ3_checkIndex_8e157 (aW yJ3_checkIndex_8e157 cJ3_checkIndex_8e157 3 (some .int)) ({ frames := 0, cells := 0, slots := 0, locals := 0 } : Room) D J (aTy kc ki kb kl kd) [.int i, .int n0, v] [] (fun r => r) (fun _ => []) i := by
  have key : ∀ lv : List (Nat × Value), lv_args 0 [.int i, .int n0, v] = lv → lv[0]? = some (0, .int i) → lv[1]? = some (1, .int n0) → (lg_sl [.int i, .int n0, v]).length ≤ 3 → aKi l yJ3_checkIndex_8e157 (aW yJ3_checkIndex_8e157 cJ3_checkIndex_8e157 3 (some .int)) ({ frames := 0, cells := 0, slots := 0, locals := 0 } : Room) D J (aTy kc ki kb kl kd) [.int i, .int n0, v] [] (fun r => r) (fun _ => []) i := by
    intro lv hlv g0 g1 hlen
    refine aKi_of (own := RJ3) (by decide) rfl hlen hlv ?_
    intro p e s m args below meth c C hr
    refine a_iload_n C 0 dJ3_checkIndex_8e157_0 rfl g0 ?_
    refine a_if_lt C (tgt := 9) dJ3_checkIndex_8e157_1 (by decide) (hF := (if_neg h0 : (if i < 0 then (none : Option Unit) else some ()) = some ())) (fun _ hF => nomatch hF) (fun _ _ => ?_)
    refine a_iload_n C 0 dJ3_checkIndex_8e157_4 rfl g0 ?_
    refine a_iload_n C 1 dJ3_checkIndex_8e157_5 rfl g1 ?_
    refine a_ic_lt C (tgt := 16) dJ3_checkIndex_8e157_6 (by decide) (hF := (if_pos h1 : (if i < n0 then some () else (none : Option Unit)) = some ())) (fun _ _ => ?_) (fun _ hF => nomatch hF)
    refine a_iload_n C 0 dJ3_checkIndex_8e157_16 rfl g0 ?_
    exact a_iret C hr rfl dJ3_checkIndex_8e157_17 (rfl : some i = some i) rfl rfl
  rcases hv with rfl | ⟨t, rfl⟩
  · exact key _ rfl rfl rfl (Nat.le_of_ble_eq_true rfl)
  · exact key _ rfl rfl rfl (Nat.le_of_ble_eq_true rfl)
set_option maxRecDepth 100000 in
set_option maxHeartbeats 4000000 in
theorem c_J0_checkIndex (l : Launch) (D : va_G) (J : (Nat → Nat) × (Nat → Nat)) (kc ki kb kl kd : ClassId) (i n0 : Int32) (h0 : ¬ i < 0) (h1 : i < n0) : aKv l yJ0_checkIndex_df160 (aW yJ0_checkIndex_df160 cJ0_checkIndex_df160 2 none) ({ frames := 1, cells := 0, slots := 0, locals := 30 } : Room) D J (aTy kc ki kb kl kd) [.int i, .int n0] [] (fun _ : Unit => []) () := by
  refine aKv_of (own := RJ0) (by decide) rfl (Nat.le_of_ble_eq_true rfl) rfl ?_
  intro p e s m args below meth c C hr
  refine a_iload_n C 0 dJ0_checkIndex_df160_0 rfl rfl ?_
  refine a_iload_n C 1 dJ0_checkIndex_df160_1 rfl rfl ?_
  refine s_fmt C dJ0_checkIndex_df160_2 (fun v hv => ?_)
  refine a_callSir (fy := some i) (kf := fun r => some r) (gv := fun r => r) C 3 [] cs_J0_1059 hd_J3_checkIndex_8e157 ⟨rfl, rfl⟩ ⟨Nat.le_of_ble_eq_true rfl, Nat.le_of_ble_eq_true rfl⟩ (fun r h => by cases h; exact c_J3_checkIndex l D J kc ki kb kl kd v hv i n0 h0 h1) rfl rfl rfl rfl (Nat.le_of_ble_eq_true rfl) dJ0_checkIndex_df160_5 ⟨Nat.zero_le _, Nat.zero_le _⟩ rfl (fun r _ _ => ?_)
  refine a_pop C dJ0_checkIndex_df160_8 rfl ?_
  exact a_vret C hr dJ0_checkIndex_df160_9 (rfl : some () = some ()) rfl
def sch (i : Nat) (x : Int32) : Int32 := (((aByt.getD i []).getD x.toNatClampNeg 0 &&& 255).toUInt32 % 65536).toInt32
set_option maxRecDepth 100000 in
set_option maxHeartbeats 4000000 in
theorem c_J1_charAt (l : Launch) (D : va_G) (J : (Nat → Nat) × (Nat → Nat)) (kc ki kb kl kd : ClassId) (i : Nat) (x : Int32) (hi : i < 5) (h0 : ¬ x < 0) (h1 : x < nI (aLen.getD i 0)) (hx : vp_in x (aLen.getD i 0)) (hn : narrow .char (.int (sch i x)) = .int (sch i x)) : aKi l yJ1_charAt_3b067 (aW yJ1_charAt_3b067 cJ1_charAt_3b067 2 (some .char)) ({ frames := 2, cells := 0, slots := 0, locals := 60 } : Room) D J (aTy kc ki kb kl kd) [.ref (J.2 i), .int x] [] (fun r => r) (fun _ => []) (sch i x) := by
  refine aKi_of (own := RJ1) (by decide) rfl (Nat.le_of_ble_eq_true rfl) rfl ?_
  intro p e s m args below meth c C hr
  refine a_iload_n C 1 dJ1_charAt_3b067_0 rfl rfl ?_
  refine a_aload_n C 0 dJ1_charAt_3b067_1 rfl rfl ?_
  refine s_len C hi dJ1_charAt_3b067_2 ?_
  refine a_callSvr (fy := some ()) (kf := fun r => some r) C 2 [] cs_J1_9 hd_J0_checkIndex_df160 ⟨rfl, rfl⟩ ⟨Nat.le_of_ble_eq_true rfl, Nat.le_of_ble_eq_true rfl⟩ (fun r h => by cases h; exact c_J0_checkIndex l D J kc ki kb kl kd x _ h0 h1) rfl rfl rfl rfl (Nat.le_of_ble_eq_true rfl) dJ1_charAt_3b067_3 ⟨Nat.zero_le _, Nat.zero_le _⟩ rfl (fun r _ _ => ?_)
  refine a_aload_n C 0 dJ1_charAt_3b067_6 rfl rfl ?_
  refine a_iload_n C 1 dJ1_charAt_3b067_7 rfl rfl ?_
  refine s_byte C hi hx dJ1_charAt_3b067_8 ?_
  refine a_sipush C (v := 255) dJ1_charAt_3b067_9 (by decide) ?_
  refine a_iand C dJ1_charAt_3b067_12 ?_
  refine a_i2c C dJ1_charAt_3b067_13 ?_
  exact a_iret C hr hn dJ1_charAt_3b067_14 (rfl : some (sch i x) = some _) rfl rfl
set_option maxRecDepth 100000 in
set_option maxHeartbeats 4000000 in
theorem c_J0_coder (l : Launch) (D : va_G) (J : (Nat → Nat) × (Nat → Nat)) (kc ki kb kl kd : ClassId) (i : Nat) (hi : i < 5) : aKi l yJ0_coder_7d493 (aW yJ0_coder_7d493 cJ0_coder_7d493 1 (some .byte)) ({ frames := 0, cells := 0, slots := 0, locals := 0 } : Room) D J (aTy kc ki kb kl kd) [.ref (J.1 i)] [] (fun r => r) (fun _ => []) 0 := by
  refine aKi_of (own := RJ0) (by decide) rfl (Nat.le_of_ble_eq_true rfl) rfl ?_
  intro p e s m args below meth c C hr
  refine s_compact C dJ0_coder_7d493_0 ?_
  refine a_if_eq C (tgt := 13) dJ0_coder_7d493_3 (by decide) (hF := (if_neg (by decide) : (if (1 : Int32) = 0 then (none : Option Unit) else some ()) = some ())) (fun _ hF => nomatch hF) (fun _ _ => ?_)
  refine a_aload_n C 0 dJ0_coder_7d493_6 rfl rfl ?_
  refine s_coder C hi dJ0_coder_7d493_7 ?_
  refine a_goto C (tgt := 14) dJ0_coder_7d493_10 (by decide) ?_
  exact a_iret C hr (by decide) dJ0_coder_7d493_14 (rfl : some (0 : Int32) = some 0) rfl rfl
set_option maxRecDepth 100000 in
set_option maxHeartbeats 4000000 in
theorem c_J0_isLatin1 (l : Launch) (D : va_G) (J : (Nat → Nat) × (Nat → Nat)) (kc ki kb kl kd : ClassId) (i : Nat) (hi : i < 5) : aKi l yJ0_isLatin1_aae02 (aW yJ0_isLatin1_aae02 cJ0_isLatin1_aae02 1 (some .boolean)) ({ frames := 0, cells := 0, slots := 0, locals := 0 } : Room) D J (aTy kc ki kb kl kd) [.ref (J.1 i)] [] (fun r => r) (fun _ => []) 1 := by
  refine aKi_of (own := RJ0) (by decide) rfl (Nat.le_of_ble_eq_true rfl) rfl ?_
  intro p e s m args below meth c C hr
  refine s_compact C dJ0_isLatin1_aae02_0 ?_
  refine a_if_eq C (tgt := 17) dJ0_isLatin1_aae02_3 (by decide) (hF := (if_neg (by decide) : (if (1 : Int32) = 0 then (none : Option Unit) else some ()) = some ())) (fun _ hF => nomatch hF) (fun _ _ => ?_)
  refine a_aload_n C 0 dJ0_isLatin1_aae02_6 rfl rfl ?_
  refine s_coder C hi dJ0_isLatin1_aae02_7 ?_
  refine a_if_ne C (tgt := 17) dJ0_isLatin1_aae02_10 (by decide) (hF := (if_neg (by decide) : (if ¬ (0 : Int32) = 0 then (none : Option Unit) else some ()) = some ())) (fun _ hF => nomatch hF) (fun _ _ => ?_)
  refine a_iconst C (v := 1) dJ0_isLatin1_aae02_13 (by decide) ?_
  refine a_goto C (tgt := 18) dJ0_isLatin1_aae02_14 (by decide) ?_
  exact a_iret C hr (by decide) dJ0_isLatin1_aae02_18 (rfl : some (1 : Int32) = some 1) rfl rfl
set_option maxRecDepth 100000 in
set_option maxHeartbeats 4000000 in
theorem c_J0_length (l : Launch) (D : va_G) (J : (Nat → Nat) × (Nat → Nat)) (kc ki kb kl kd : ClassId) (i : Nat) (hi : i < 5) : aKi l yJ0_length_8abf5 (aW yJ0_length_8abf5 cJ0_length_8abf5 1 (some .int)) ({ frames := 1, cells := 0, slots := 0, locals := 25 } : Room) D J (aTy kc ki kb kl kd) [.ref (J.1 i)] [] (fun r => r) (fun _ => []) (nI (aLen.getD i 0)) := by
  refine aKi_of (own := RJ0) (by decide) rfl (Nat.le_of_ble_eq_true rfl) rfl ?_
  intro p e s m args below meth c C hr
  refine a_aload_n C 0 dJ0_length_8abf5_0 rfl rfl ?_
  refine s_value C hi dJ0_length_8abf5_1 ?_
  refine s_len C hi dJ0_length_8abf5_4 ?_
  refine a_aload_n C 0 dJ0_length_8abf5_5 rfl rfl ?_
  refine a_callStr C hi 0 cs_J0_335 hd_J0_coder_7d493 ⟨rfl, rfl⟩ ⟨Nat.le_of_ble_eq_true rfl, Nat.le_of_ble_eq_true rfl⟩ (c_J0_coder l D J kc ki kb kl kd i hi) rfl rfl (Nat.le_of_ble_eq_true rfl) dJ0_length_8abf5_6 ⟨Nat.zero_le _, Nat.zero_le _⟩ ?_
  refine s_ishr C dJ0_length_8abf5_9 ?_
  exact a_iret C hr rfl dJ0_length_8abf5_10 (rfl : some (nI (aLen.getD i 0)) = some _) (sb_shr0 _).symm rfl
def sem (i : Nat) : Int32 := if ¬ nI (aLen.getD i 0) = 0 then 0 else 1
set_option maxRecDepth 100000 in
set_option maxHeartbeats 4000000 in
theorem c_J0_isEmpty (l : Launch) (D : va_G) (J : (Nat → Nat) × (Nat → Nat)) (kc ki kb kl kd : ClassId) (i : Nat) (hi : i < 5) : aKi l yJ0_isEmpty_aae02 (aW yJ0_isEmpty_aae02 cJ0_isEmpty_aae02 1 (some .boolean)) ({ frames := 0, cells := 0, slots := 0, locals := 0 } : Room) D J (aTy kc ki kb kl kd) [.ref (J.1 i)] [] (fun r => r) (fun _ => []) (sem i) := by
  have hF : (if ¬ nI (aLen.getD i 0) = 0 then some (0 : Int32) else some 1) = some (sem i) := by unfold sem; split <;> rfl
  generalize sem i = res at hF ⊢
  refine aKi_of (own := RJ0) (by decide) rfl (Nat.le_of_ble_eq_true rfl) rfl ?_
  intro p e s m args below meth c C hr
  refine a_aload_n C 0 dJ0_isEmpty_aae02_0 rfl rfl ?_
  refine s_value C hi dJ0_isEmpty_aae02_1 ?_
  refine s_len C hi dJ0_isEmpty_aae02_4 ?_
  refine a_if_ne C (tgt := 12) dJ0_isEmpty_aae02_5 (by decide) hF (fun _ hF => ?_) (fun _ hF => ?_)
  · refine a_iconst C (v := 0) dJ0_isEmpty_aae02_12 (by decide) ?_
    exact a_iret C hr rfl dJ0_isEmpty_aae02_13 hF rfl rfl
  refine a_iconst C (v := 1) dJ0_isEmpty_aae02_8 (by decide) ?_
  refine a_goto C (tgt := 13) dJ0_isEmpty_aae02_9 (by decide) ?_
  exact a_iret C hr rfl dJ0_isEmpty_aae02_13 hF rfl rfl
set_option maxRecDepth 100000 in
set_option maxHeartbeats 4000000 in
theorem c_J0_charAt (l : Launch) (D : va_G) (J : (Nat → Nat) × (Nat → Nat)) (kc ki kb kl kd : ClassId) (i : Nat) (x : Int32) (hi : i < 5) (h0 : ¬ x < 0) (h1 : x < nI (aLen.getD i 0)) (hx : vp_in x (aLen.getD i 0)) (hn : narrow .char (.int (sch i x)) = .int (sch i x)) : aKi l yJ0_charAt_5068e (aW yJ0_charAt_5068e cJ0_charAt_5068e 2 (some .char)) ({ frames := 3, cells := 0, slots := 0, locals := 90 } : Room) D J (aTy kc ki kb kl kd) [.ref (J.1 i), .int x] [] (fun r => r) (fun _ => []) (sch i x) := by
  refine aKi_of (own := RJ0) (by decide) rfl (Nat.le_of_ble_eq_true rfl) rfl ?_
  intro p e s m args below meth c C hr
  refine a_aload_n C 0 dJ0_charAt_5068e_0 rfl rfl ?_
  refine a_callStr C hi 0 cs_J0_492 hd_J0_isLatin1_aae02 ⟨rfl, rfl⟩ ⟨Nat.le_of_ble_eq_true rfl, Nat.le_of_ble_eq_true rfl⟩ (c_J0_isLatin1 l D J kc ki kb kl kd i hi) rfl rfl (Nat.le_of_ble_eq_true rfl) dJ0_charAt_5068e_1 ⟨Nat.zero_le _, Nat.zero_le _⟩ ?_
  refine a_if_eq C (tgt := 16) dJ0_charAt_5068e_4 (by decide) (hF := (if_neg (by decide) : (if (1 : Int32) = 0 then (none : Option Unit) else some ()) = some ())) (fun _ hF => nomatch hF) (fun _ _ => ?_)
  refine a_aload_n C 0 dJ0_charAt_5068e_7 rfl rfl ?_
  refine s_value C hi dJ0_charAt_5068e_8 ?_
  refine a_iload_n C 1 dJ0_charAt_5068e_11 rfl rfl ?_
  refine a_callSir (fy := some (sch i x)) (kf := fun r => some r) (gv := fun r => r) C 2 [] cs_J0_495 hd_J1_charAt_3b067 ⟨rfl, rfl⟩ ⟨Nat.le_of_ble_eq_true rfl, Nat.le_of_ble_eq_true rfl⟩ (fun r h => by cases h; exact c_J1_charAt l D J kc ki kb kl kd i x hi h0 h1 hx hn) rfl rfl rfl rfl (Nat.le_of_ble_eq_true rfl) dJ0_charAt_5068e_12 ⟨Nat.zero_le _, Nat.zero_le _⟩ rfl (fun r e1 _ => ?_)
  cases e1
  exact a_iret C hr hn dJ0_charAt_5068e_15 (rfl : some (sch i x) = some _) rfl rfl
def slen (i : Nat) : Option Int32 := if i < 5 then some (nI (aLen.getD i 0)) else none
def semp (i : Nat) : Option Int32 := if i < 5 then some (sem i) else none
def schr (i : Nat) (x : Int32) : Option Int32 := if i < 5 ∧ ¬ x < 0 ∧ x < nI (aLen.getD i 0) ∧ ¬ aLen.getD i 0 ≤ x.toNatClampNeg ∧ vp_nar .char (sch i x) = sch i x then some (sch i x) else none
section SQ
variable {p : Program} {l : Launch} {e : Env} {R : Room} {s : State} {m : MethodId} {args : Array Value} {below : List Frame} {meth : Method} {c : Code} {Q : State → Prop} {D : va_G} {J : (Nat → Nat) × (Nat → Nat)} {kc ki kb kl kd : ClassId} {A : Nat → Prop} {nL k n : Nat} {cc : ByteArray} {own : String} {pc : Nat} {lv : List (Nat × Value)} {st : List Value} {ws : va_W}
theorem a_slen (C : aC p s m args meth c cc nL own WW D J (aTy kc ki kb kl kd) A) {i idx : Nat} {α : Type} {o : α} {kf : Int32 → Option α} (hdg : decode cc pc = .ok (.invokevirtual idx, 3)) (hl0 : Cond.methodLink own idx yJ0_length_8abf5 ∈ WW) (hR : 4 ≤ R.frames ∧ 120 ≤ R.locals) (hcat : (st.map fun v => v.category).sum ≤ 8) (hkn : k ≤ R.cells ∧ n ≤ R.slots) (hF : (slen i).bind kf = some o) (kk : ∀ v, slen i = some v → kf v = some o → aT p l e R s m args below meth c Q D A nL k n (pc + 3) lv (.int v :: st) ws) : aT p l e R s m args below meth c Q D A nL k n pc lv (.ref (J.1 i) :: st) ws := by
  obtain ⟨v, h1, hF⟩ := bd hF
  obtain ⟨hi, hv⟩ := chk2 h1
  have h3 := kk v h1 hF
  rw [hv] at h3
  exact a_callStr C hi 0 (gdV hl0 ki_J0_length_8abf5 kv_J0_length_8abf5 kn_J0 kc_J0_length_8abf5) hd_J0_length_8abf5 ⟨rfl, rfl⟩ ⟨Nat.le_trans (Nat.le_of_ble_eq_true rfl) hR.1, Nat.le_trans (Nat.le_of_ble_eq_true rfl) hR.2⟩ (c_J0_length l D J kc ki kb kl kd i hi) rfl rfl hcat hdg hkn h3
theorem a_semp (C : aC p s m args meth c cc nL own WW D J (aTy kc ki kb kl kd) A) {i idx : Nat} {α : Type} {o : α} {kf : Int32 → Option α} (hdg : decode cc pc = .ok (.invokevirtual idx, 3)) (hl0 : Cond.methodLink own idx yJ0_isEmpty_aae02 ∈ WW) (hR : 4 ≤ R.frames ∧ 120 ≤ R.locals) (hcat : (st.map fun v => v.category).sum ≤ 8) (hkn : k ≤ R.cells ∧ n ≤ R.slots) (hF : (semp i).bind kf = some o) (kk : ∀ v, semp i = some v → kf v = some o → aT p l e R s m args below meth c Q D A nL k n (pc + 3) lv (.int v :: st) ws) : aT p l e R s m args below meth c Q D A nL k n pc lv (.ref (J.1 i) :: st) ws := by
  obtain ⟨v, h1, hF⟩ := bd hF
  obtain ⟨hi, hv⟩ := chk2 h1
  have h3 := kk v h1 hF
  rw [hv] at h3
  exact a_callStr C hi 0 (gdV hl0 ki_J0_isEmpty_aae02 kv_J0_isEmpty_aae02 kn_J0 kc_J0_isEmpty_aae02) hd_J0_isEmpty_aae02 ⟨rfl, rfl⟩ ⟨Nat.le_trans (Nat.le_of_ble_eq_true rfl) hR.1, Nat.le_trans (Nat.le_of_ble_eq_true rfl) hR.2⟩ (c_J0_isEmpty l D J kc ki kb kl kd i hi) rfl rfl hcat hdg hkn h3
theorem a_schr (C : aC p s m args meth c cc nL own WW D J (aTy kc ki kb kl kd) A) {i idx : Nat} {x : Int32} {α : Type} {o : α} {kf : Int32 → Option α} (hdg : decode cc pc = .ok (.invokevirtual idx, 3)) (hl0 : Cond.methodLink own idx yJ0_charAt_5068e ∈ WW) (hR : 4 ≤ R.frames ∧ 120 ≤ R.locals) (hcat : (st.map fun v => v.category).sum ≤ 8) (hkn : k ≤ R.cells ∧ n ≤ R.slots) (hF : (schr i x).bind kf = some o) (kk : ∀ v, schr i x = some v → kf v = some o → aT p l e R s m args below meth c Q D A nL k n (pc + 3) lv (.int v :: st) ws) : aT p l e R s m args below meth c Q D A nL k n pc lv (.int x :: .ref (J.1 i) :: st) ws := by
  obtain ⟨v, h1, hF⟩ := bd hF
  obtain ⟨⟨hi, h0, h2, hx, hn⟩, hv⟩ := chk2 h1
  have h3 := kk v h1 hF
  rw [hv] at h3
  have hn2 : narrow .char (.int (sch i x)) = .int (sch i x) := by
    unfold vp_nar at hn
    exact congrArg Value.int hn
  exact a_callStr C hi 1 (gdV hl0 ki_J0_charAt_5068e kv_J0_charAt_5068e kn_J0 kc_J0_charAt_5068e) hd_J0_charAt_5068e ⟨rfl, rfl⟩ ⟨Nat.le_trans (Nat.le_of_ble_eq_true rfl) hR.1, Nat.le_trans (Nat.le_of_ble_eq_true rfl) hR.2⟩ (c_J0_charAt l D J kc ki kb kl kd i x hi h0 h2 (fun h => h.elim h0 hx) hn2) rfl rfl hcat hdg hkn h3
end SQ
