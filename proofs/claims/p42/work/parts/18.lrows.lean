/-! ROWS OF THE LAW: methods with a table of handlers that catch all (aKt), calls inside a try, longs and doubles -/
theorem hdV_J0_charAt_5068e : yJ0_charAt_5068e.cls = RJ0 ∧ yJ0_charAt_5068e.cls ≠ "java/lang/invoke/MethodHandle" ∧ yJ0_charAt_5068e.cls ≠ "java/lang/invoke/VarHandle" ∧ (parseMethodDescriptor yJ0_charAt_5068e.desc).map (fun d => d.parameters.length) = some 1 := by decide +kernel
theorem hdV_J0_substring_b52d3 : yJ0_substring_b52d3.cls = RJ0 ∧ yJ0_substring_b52d3.cls ≠ "java/lang/invoke/MethodHandle" ∧ yJ0_substring_b52d3.cls ≠ "java/lang/invoke/VarHandle" ∧ (parseMethodDescriptor yJ0_substring_b52d3.desc).map (fun d => d.parameters.length) = some 1 := by decide +kernel
theorem hdV_J4_append_15ec4 : yJ4_append_15ec4.cls = RJ4 ∧ yJ4_append_15ec4.cls ≠ "java/lang/invoke/MethodHandle" ∧ yJ4_append_15ec4.cls ≠ "java/lang/invoke/VarHandle" ∧ (parseMethodDescriptor yJ4_append_15ec4.desc).map (fun d => d.parameters.length) = some 1 := by decide +kernel
theorem hdV_J4_append_cf468 : yJ4_append_cf468.cls = RJ4 ∧ yJ4_append_cf468.cls ≠ "java/lang/invoke/MethodHandle" ∧ yJ4_append_cf468.cls ≠ "java/lang/invoke/VarHandle" ∧ (parseMethodDescriptor yJ4_append_cf468.desc).map (fun d => d.parameters.length) = some 1 := by decide +kernel
theorem hdV_J4_toString_0e30d : yJ4_toString_0e30d.cls = RJ4 ∧ yJ4_toString_0e30d.cls ≠ "java/lang/invoke/MethodHandle" ∧ yJ4_toString_0e30d.cls ≠ "java/lang/invoke/VarHandle" ∧ (parseMethodDescriptor yJ4_toString_0e30d.desc).map (fun d => d.parameters.length) = some 0 := by decide +kernel
theorem hdX_J4_init_da8c8 : yJ4_init_da8c8.cls ≠ "java/lang/invoke/MethodHandle" ∧ yJ4_init_da8c8.cls ≠ "java/lang/invoke/VarHandle" ∧ (parseMethodDescriptor yJ4_init_da8c8.desc).map (fun d => d.parameters.length) = some 0 := by decide +kernel
def aWh (y : MethodName) (b : ByteArray) (n : Nat) (ret : Option FieldType) (hh : List (Nat × Nat × Nat × Nat)) : List Cond := Cond.codeWith y b n ret hh :: WW
theorem good_ch (y : MethodName) (b : ByteArray) (n : Nat) (ret : Option FieldType) (hh : List (Nat × Nat × Nat × Nat)) (h : Cond.codeWith y b n ret hh ∈ WW) : GoodIn WW (aWh y b n ret hh) := fun w hw => by
  rcases List.mem_cons.mp hw with rfl | hw
  · exact ⟨h, good_of_word (WW_good _ h)⟩
  · exact ⟨hw, good_of_word (WW_good _ hw)⟩
theorem gdSh {own : String} {idx : Nat} {y : MethodName} {b : ByteArray} {n : Nat} {ret : Option FieldType} {hh : List (Nat × Nat × Nat × Nat)} (h1 : Cond.methodLink own idx y ∈ WW) (h2 : Cond.static y ∈ WW) (h4 : Cond.initialized y.cls ∈ WW) (h5 : Cond.codeWith y b n ret hh ∈ WW) : GoodIn WW (va_wsS own idx y (aWh y b n ret hh)) := fun w hw => by
  rcases List.mem_append.mp hw with hw | hw
  · simp only [List.mem_cons, List.not_mem_nil, or_false] at hw
    rcases hw with rfl | rfl | rfl
    · exact ⟨h1, good_of_word (WW_good _ h1)⟩
    · exact ⟨h2, good_of_word (WW_good _ h2)⟩
    · exact ⟨h4, good_of_word (WW_good _ h4)⟩
  · exact good_ch _ _ _ _ _ h5 w hw
def aXf (w0 : va_W) (sz : Nat) : String → State → State → Prop := vx_X (fun (_ : Unit) => False) (fun _ _ _ => True) (va_A w0 sz)
def aKt {ρ : Type} (l : Launch) (y : MethodName) (wy : List Cond) (rm : Room) (D : va_G) (J : JT) (tys : List (ClassId × FieldType)) (av : List Value) (w0 : va_W) (gv : ρ → Int32) (gw : ρ → va_W) (res : ρ) (mc ms : Nat) : Prop := ∀ sz : Nat, vx_Met l y wy rm (aPc D J tys av w0 sz) (aQi D w0 sz gv gw res) (aXf w0 sz) mc ms (va_A w0 sz)
theorem aKt_of {ρ : Type} {l : Launch} {y : MethodName} {rm : Room} {cc : ByteArray} {maxL : Nat} {ret : Option FieldType} {hh : List (Nat × Nat × Nat × Nat)} {D : va_G} {J : JT} {tys : List (ClassId × FieldType)} {av : List Value} {w0 : va_W} {gv : ρ → Int32} {gw : ρ → va_W} {res : ρ} {lv : List (Nat × Value)} {own : String} {mc ms : Nat} (hy : plainName y.cls = true) (hown : y.cls = own) (hlen : (lg_sl av).length ≤ maxL) (hlv : lv_args 0 av = lv) (body : ∀ (p : Program) (e : Env) (s : State) (m : MethodId) (args : Array Value) (below : List Frame) (meth : Method) (c : Code), aC p s m args meth c cc maxL own WW D J tys (va_A w0 s.heap.size) → meth.sig.returnType = ret → c.exceptionTable.toList = tableOf hh → aT p l e rm s m args below meth c (vx_MQ below (aQi D w0 s.heap.size gv gw res) (aXf w0 s.heap.size) args s mc ms (va_A w0 s.heap.size)) D (va_A w0 s.heap.size) maxL 0 0 0 lv [] w0) : aKt l y (aWh y cc maxL ret hh) rm D J tys av w0 gv gw res mc ms := by
  intro sz
  refine vx_ofWH hy rfl ?_
  intro p e s m args below meth c s₁ B hml hv
  obtain ⟨rfl, hsz, hP, hU, hD0, hG0⟩ := hv
  subst hsz
  have hl := lv_entry av hlen
  rw [lg_entry_eq]
  have hts := atoms_spec (ws := aWh y cc maxL ret hh) B.pre
  have hfc := findClass_of_methodNamed B.named
  rw [hown] at hfc
  rw [hlv] at hl
  exact body p e s m _ below meth c ⟨⟨B.exec, B.bytes, hml, hfc, fun w hw => hts w (List.mem_cons_of_mem _ hw)⟩, hU, B.notSynchronized, fun q h => Or.inr h, hG0⟩ B.returns (vx_table (x := y) B (hts _ List.mem_cons_self)) s.heap [] _ hP hD0.self va_S.rf hl

section LR
variable {p : Program} {l : Launch} {e : Env} {R : Room} {s : State} {m : MethodId} {args : Array Value} {below : List Frame} {meth : Method} {c : Code} {Q : State → Prop} {D : va_G} {J : JT} {tys : List (ClassId × FieldType)} {A : Nat → Prop} {nL k n : Nat} {cc : ByteArray} {own : String} {pc : Nat} {lv : List (Nat × Value)} {st : List Value} {ws : va_W}
theorem a_dcmp (C : aC p s m args meth c cc nL own WW D J tys A) {x y : UInt64} {op : CmpOp} (hdg : decode cc pc = .ok (.dcmp op, 1))  (kk : aT p l e R s m args below meth c Q D A nL k n (pc + 1) lv (.int (Op.cmpValue (FP.dcmp x y) op) :: st) ws) : aT p l e R s m args below meth c Q D A nL k n pc lv (.double y :: .double x :: st) ws := fun H locs ls hP hD hS hl => lv_dcmp C.1.1 C.1.2.1 hdg  (kk H locs ls hP hD hS hl)
theorem a_fcmp (C : aC p s m args meth c cc nL own WW D J tys A) {x y : UInt32} {op : CmpOp} (hdg : decode cc pc = .ok (.fcmp op, 1))  (kk : aT p l e R s m args below meth c Q D A nL k n (pc + 1) lv (.int (Op.cmpValue (FP.fcmp x y) op) :: st) ws) : aT p l e R s m args below meth c Q D A nL k n pc lv (.float y :: .float x :: st) ws := fun H locs ls hP hD hS hl => lv_fcmp C.1.1 C.1.2.1 hdg  (kk H locs ls hP hD hS hl)
theorem t_call1i {ρ ρ1 : Type} {res : ρ} (C : aC p s m args meth c cc nL own WW D J tys A) {fy : Option ρ1} {kf : ρ1 → Int32 → Option ρ} {cls1 : String} {x1 : ExceptionTableEntry} {kh1 : ρ1 → Option ρ} {y : MethodName} {b : ByteArray} {mL mc1 ms1 : Nat} {ret : Option FieldType} {rm : Room} {idx : Nat} {As stk : List Value} {w1 : va_W} {gv1 : ρ1 → Int32 ⊕ String} {gw1 : ρ1 → va_W} {C1 : String} {T1 : u_T} {N1 ci a : Nat} {fs : List Value} (cnt : Nat) {rest : va_W} (wsn : ρ1 → va_W) (hG : GoodIn WW (wsV own idx C1 y (aW y b mL ret))) (hd : y.cls = C1 ∧ y.cls ≠ "java/lang/invoke/MethodHandle" ∧ y.cls ≠ "java/lang/invoke/VarHandle" ∧ (parseMethodDescriptor y.desc).map (fun d => d.parameters.length) = some cnt) (hex : c.exceptionTable.toList = [x1]) (hx1 : covers x1 pc = true ∧ x1.catchType ≠ 0 ∧ Cond.classLink own x1.catchType cls1 ∈ WW ∧ cls1 ∈ aX7) (hrm : rm.cells = mc1 ∧ rm.slots = ms1) (hR : rm.frames + 1 ≤ R.frames ∧ 8 + (mL + 11) + rm.locals ≤ R.locals) (hM : ∀ r, fy = some r → aKx l y (aW y b mL ret) rm D J tys (.ref a :: As) w1 gv1 gw1 r mc1 ms1) (hc : vwCl[ci]? = some (C1, T1, N1)) (he : w1[0]? = some (a, .inr (ci, fs))) (hC : ws.Perm (w1 ++ rest)) (hN0 : ∀ r, (wsn r).Perm (gw1 r ++ rest)) (hst : stk = As.reverse ++ .ref a :: st) (hn : As.length = cnt) (hcat : (st.map fun v => v.category).sum ≤ 8) (hdg : decode cc pc = .ok (.invokevirtual idx, 3)) (hkn : k + mc1 ≤ R.cells ∧ n + ms1 ≤ R.slots) (hF : (fy.bind fun r => (gv1 r).elim (kf r) (fun E => if E = cls1 then kh1 r else none)) = some res) (kk : ∀ r v, fy = some r → gv1 r = .inl v → kf r v = some res → aT p l e R s m args below meth c Q D A nL (k + mc1) (n + ms1) (pc + 3) lv (.int v :: st) (wsn r)) (kk1 : ∀ r q, fy = some r → kh1 r = some res → aT p l e R s m args below meth c Q D A nL (k + mc1) (n + ms1) x1.handlerPc lv [.ref q] (wsn r)) : aT p l e R s m args below meth c Q D A nL k n pc lv stk ws := by
  obtain ⟨r, h1, hF⟩ := bd hF
  subst hst
  intro H locs ls hP hD hS hl
  have hKc := C.2.1.1
  have hPc : va_P D vwCl w1 H := p_sub hP hC
  have hDc : va_D A w1 := d_sub hD hC
  have hFc := p_free (wc := w1) hD hS C.2.2.2.1 hC
  refine vx_calli (vx_runV (As := As) (rest := st) C.1 (hM r h1 H.size) (cwV cnt C.1.2.2.2.2 hG rfl hrm.1 hrm.2 hd hR) ⟨aPc_blind, va_recv hKc hPc hc he, fun U hU hW => ⟨rfl, by rw [hU], by rw [hU]; exact hPc, C.2.1.warm hW, hDc.weaken (fun _ _ _ _ => trivial), by rw [hU]; exact ((C.2.2.2.2.kept hS.2.1).warm hW).narrow hFc⟩⟩ rfl hn hl.1 rfl (lv_room hcat) hdg hkn) hS (fun q _ h => hFc q h) hFc (fun q _ h => hFc q h) (fun E ce q9 u t H1 locs1 ht hvm hpx hB hz1 hk1 hS hce hcv hcl => ?_) (fun rv u t H1 locs1 ht hvm hw hB hz1 hk1 hS => ?_)
  · obtain ⟨hg, hP1, hD1⟩ := hB
    rw [ht] at hP1
    rw [hg] at hF
    obtain ⟨hP, hD⟩ := p_join hP hD hC (hN0 r) hFc hk1 hP1 hD1
    have hF : (if E = cls1 then kh1 r else none) = some res := hF
    by_cases e1 : E = cls1
    · rw [if_pos e1] at hF
      refine vx_catch (own := own) (name := cls1) (E := E) C.1.2.2.2.1 [] x1 [] hex (fun _ h => nomatch h) hx1.1 hx1.2.1 (C.1.2.2.2.2 _ hx1.2.2.1) ?_ hce hcv hcl (kk1 r q9 h1 hF H1 locs1 ls hP hD hS hl)
      rw [e1]
      exact C.2.2.2.2.2.2.1 cls1 hx1.2.2.2
    · rw [if_neg e1] at hF
      cases hF
  · obtain ⟨hP1, hD1⟩ := hB
    rw [ht] at hP1
    have hw2 : gv1 r = .inl rv := hw
    rw [hw2] at hF
    obtain ⟨hP, hD⟩ := p_join hP hD hC (hN0 r) hFc hk1 hP1 hD1
    exact kk r rv h1 hw2 hF H1 locs1 ls hP hD hS hl
theorem t_call2i {ρ ρ1 : Type} {res : ρ} (C : aC p s m args meth c cc nL own WW D J tys A) {fy : Option ρ1} {kf : ρ1 → Int32 → Option ρ} {cls1 : String} {x1 : ExceptionTableEntry} {kh1 : ρ1 → Option ρ} {cls2 : String} {x2 : ExceptionTableEntry} {kh2 : ρ1 → Option ρ} {y : MethodName} {b : ByteArray} {mL mc1 ms1 : Nat} {ret : Option FieldType} {rm : Room} {idx : Nat} {As stk : List Value} {w1 : va_W} {gv1 : ρ1 → Int32 ⊕ String} {gw1 : ρ1 → va_W} {C1 : String} {T1 : u_T} {N1 ci a : Nat} {fs : List Value} (cnt : Nat) {rest : va_W} (wsn : ρ1 → va_W) (hG : GoodIn WW (wsV own idx C1 y (aW y b mL ret))) (hd : y.cls = C1 ∧ y.cls ≠ "java/lang/invoke/MethodHandle" ∧ y.cls ≠ "java/lang/invoke/VarHandle" ∧ (parseMethodDescriptor y.desc).map (fun d => d.parameters.length) = some cnt) (hex : c.exceptionTable.toList = [x1, x2]) (hx1 : covers x1 pc = true ∧ x1.catchType ≠ 0 ∧ Cond.classLink own x1.catchType cls1 ∈ WW ∧ cls1 ∈ aX7) (hx2 : covers x2 pc = true ∧ x2.catchType ≠ 0 ∧ Cond.classLink own x2.catchType cls2 ∈ WW ∧ cls2 ∈ aX7) (hN : (cls2, cls1) ∈ aN4) (hrm : rm.cells = mc1 ∧ rm.slots = ms1) (hR : rm.frames + 1 ≤ R.frames ∧ 8 + (mL + 11) + rm.locals ≤ R.locals) (hM : ∀ r, fy = some r → aKx l y (aW y b mL ret) rm D J tys (.ref a :: As) w1 gv1 gw1 r mc1 ms1) (hc : vwCl[ci]? = some (C1, T1, N1)) (he : w1[0]? = some (a, .inr (ci, fs))) (hC : ws.Perm (w1 ++ rest)) (hN0 : ∀ r, (wsn r).Perm (gw1 r ++ rest)) (hst : stk = As.reverse ++ .ref a :: st) (hn : As.length = cnt) (hcat : (st.map fun v => v.category).sum ≤ 8) (hdg : decode cc pc = .ok (.invokevirtual idx, 3)) (hkn : k + mc1 ≤ R.cells ∧ n + ms1 ≤ R.slots) (hF : (fy.bind fun r => (gv1 r).elim (kf r) (fun E => if E = cls1 then kh1 r else (if E = cls2 then kh2 r else none))) = some res) (kk : ∀ r v, fy = some r → gv1 r = .inl v → kf r v = some res → aT p l e R s m args below meth c Q D A nL (k + mc1) (n + ms1) (pc + 3) lv (.int v :: st) (wsn r)) (kk1 : ∀ r q, fy = some r → kh1 r = some res → aT p l e R s m args below meth c Q D A nL (k + mc1) (n + ms1) x1.handlerPc lv [.ref q] (wsn r)) (kk2 : ∀ r q, fy = some r → kh2 r = some res → aT p l e R s m args below meth c Q D A nL (k + mc1) (n + ms1) x2.handlerPc lv [.ref q] (wsn r)) : aT p l e R s m args below meth c Q D A nL k n pc lv stk ws := by
  obtain ⟨r, h1, hF⟩ := bd hF
  subst hst
  intro H locs ls hP hD hS hl
  have hKc := C.2.1.1
  have hPc : va_P D vwCl w1 H := p_sub hP hC
  have hDc : va_D A w1 := d_sub hD hC
  have hFc := p_free (wc := w1) hD hS C.2.2.2.1 hC
  refine vx_calli (vx_runV (As := As) (rest := st) C.1 (hM r h1 H.size) (cwV cnt C.1.2.2.2.2 hG rfl hrm.1 hrm.2 hd hR) ⟨aPc_blind, va_recv hKc hPc hc he, fun U hU hW => ⟨rfl, by rw [hU], by rw [hU]; exact hPc, C.2.1.warm hW, hDc.weaken (fun _ _ _ _ => trivial), by rw [hU]; exact ((C.2.2.2.2.kept hS.2.1).warm hW).narrow hFc⟩⟩ rfl hn hl.1 rfl (lv_room hcat) hdg hkn) hS (fun q _ h => hFc q h) hFc (fun q _ h => hFc q h) (fun E ce q9 u t H1 locs1 ht hvm hpx hB hz1 hk1 hS hce hcv hcl => ?_) (fun rv u t H1 locs1 ht hvm hw hB hz1 hk1 hS => ?_)
  · obtain ⟨hg, hP1, hD1⟩ := hB
    rw [ht] at hP1
    rw [hg] at hF
    obtain ⟨hP, hD⟩ := p_join hP hD hC (hN0 r) hFc hk1 hP1 hD1
    have hF : (if E = cls1 then kh1 r else (if E = cls2 then kh2 r else none)) = some res := hF
    by_cases e1 : E = cls1
    · rw [if_pos e1] at hF
      refine vx_catch (own := own) (name := cls1) (E := E) C.1.2.2.2.1 [] x1 [x2] hex (fun _ h => nomatch h) hx1.1 hx1.2.1 (C.1.2.2.2.2 _ hx1.2.2.1) ?_ hce hcv hcl (kk1 r q9 h1 hF H1 locs1 ls hP hD hS hl)
      rw [e1]
      exact C.2.2.2.2.2.2.1 cls1 hx1.2.2.2
    · rw [if_neg e1] at hF
      by_cases e2 : E = cls2
      · rw [if_pos e2] at hF
        refine vx_catch (own := own) (name := cls2) (E := E) C.1.2.2.2.1 [x1] x2 [] hex (fun z h => ?_) hx2.1 hx2.2.1 (C.1.2.2.2.2 _ hx2.2.2.1) ?_ hce hcv hcl (kk2 r q9 h1 hF H1 locs1 ls hP hD hS hl)
        · rw [List.mem_singleton.mp h, e2]
          exact Or.inr ⟨hx1.2.1, cls1, C.1.2.2.2.2 _ hx1.2.2.1, C.2.2.2.2.2.2.2.2.1 (cls2, cls1) hN⟩
        · rw [e2]
          exact C.2.2.2.2.2.2.1 cls2 hx2.2.2.2
      · rw [if_neg e2] at hF
        cases hF
  · obtain ⟨hP1, hD1⟩ := hB
    rw [ht] at hP1
    have hw2 : gv1 r = .inl rv := hw
    rw [hw2] at hF
    obtain ⟨hP, hD⟩ := p_join hP hD hC (hN0 r) hFc hk1 hP1 hD1
    exact kk r rv h1 hw2 hF H1 locs1 ls hP hD hS hl
theorem a_pad {k1 n1 : Nat} (h1 : k ≤ k1) (h2 : n ≤ n1) (kk : aT p l e R s m args below meth c Q D A nL k1 n1 pc lv st ws) : aT p l e R s m args below meth c Q D A nL k n pc lv st ws := fun H locs ls hP hD hS hl => W.widen h1 h2 (kk H locs ls hP hD hS hl)
theorem s_iald (C : aC p s m args meth c cc nL own WW D J tys A) {f : Nat → Int32} {N b : Nat} {i : Int32} {α : Type} {o : α} {kf : Int32 → Option α} (hJ : J.1 = (b, N, f)) (hdg : decode cc pc = .ok (.iaload, 1)) (hF : (ldi f N i).bind kf = some o) (kk : ∀ x, ldi f N i = some x → kf x = some o → aT p l e R s m args below meth c Q D A nL k n (pc + 1) lv (.int x :: st) ws) : aT p l e R s m args below meth c Q D A nL k n pc lv (.int i :: .ref b :: st) ws := by
  obtain ⟨x, h1, hF⟩ := bd hF
  obtain ⟨hi, hx⟩ := chk h1
  obtain ⟨hX, hbl, hbA⟩ := C.2.2.2.2.2.2.2.2.2.2.2.2.2.2.2.1
  rw [hJ] at hX hbl hbA
  intro H locs ls hP hD hS hl
  have h2 := kk x h1 hF H locs ls hP hD hS hl
  rw [hx] at h2
  exact va_sld C.1.1 C.1.2.1 hX hbl hbA hS hi hdg h2
theorem s_slen (C : aC p s m args meth c cc nL own WW D J tys A) {f : Nat → Int32} {N b : Nat} (hJ : J.1 = (b, N, f)) (hdg : decode cc pc = .ok (.arraylength, 1)) (kk : aT p l e R s m args below meth c Q D A nL k n (pc + 1) lv (.int (Int32.ofNat N) :: st) ws) : aT p l e R s m args below meth c Q D A nL k n pc lv (.ref b :: st) ws := by
  obtain ⟨hX, hbl, hbA⟩ := C.2.2.2.2.2.2.2.2.2.2.2.2.2.2.2.1
  rw [hJ] at hX hbl hbA
  exact fun H locs ls hP hD hS hl => va_slen C.1.1 C.1.2.1 hX hbl hbA hS hdg (kk H locs ls hP hD hS hl)
def rmo (x y : Int32) : Option Int32 := if y = 0 then none else some (x - x / y * y)
theorem a_irmo (C : aC p s m args meth c cc nL own WW D J tys A) {x y : Int32} {α : Type} {o : α} {kf : Int32 → Option α} (hdg : decode cc pc = .ok (.irem, 1)) (hF : (rmo x y).bind kf = some o) (kk : ∀ z, rmo x y = some z → kf z = some o → aT p l e R s m args below meth c Q D A nL k n (pc + 1) lv (.int z :: st) ws) : aT p l e R s m args below meth c Q D A nL k n pc lv (.int y :: .int x :: st) ws := by
  obtain ⟨z, h1, hF⟩ := bd hF
  obtain ⟨hn, hz⟩ := chk h1
  have h2 := kk z h1 hF
  rw [hz] at h2
  exact a_irem C hdg hn h2
/-- uncaught calls of the class's methods that may throw, where they don't -/
theorem u_xi {ρ ρ1 : Type} {res : ρ} (C : aC p s m args meth c cc nL own WW D J tys A) {fy : Option ρ1} {kf : ρ1 → Int32 → Option ρ} {y : MethodName} {b : ByteArray} {mL mc1 ms1 : Nat} {ret : Option FieldType} {rm : Room} {idx : Nat} {As stk : List Value} {w1 : va_W} {gv1 : ρ1 → Int32 ⊕ String} {gw1 : ρ1 → va_W} {C1 : String} {T1 : u_T} {N1 ci a : Nat} {fs : List Value} (cnt : Nat) {rest : va_W} (wsn : ρ1 → va_W) (hG : GoodIn WW (wsV own idx C1 y (aW y b mL ret))) (hd : y.cls = C1 ∧ y.cls ≠ "java/lang/invoke/MethodHandle" ∧ y.cls ≠ "java/lang/invoke/VarHandle" ∧ (parseMethodDescriptor y.desc).map (fun d => d.parameters.length) = some cnt) (hrm : rm.cells = mc1 ∧ rm.slots = ms1) (hR : rm.frames + 1 ≤ R.frames ∧ 8 + (mL + 11) + rm.locals ≤ R.locals) (hM : ∀ r, fy = some r → aKx l y (aW y b mL ret) rm D J tys (.ref a :: As) w1 gv1 gw1 r mc1 ms1) (hc : vwCl[ci]? = some (C1, T1, N1)) (he : w1[0]? = some (a, .inr (ci, fs))) (hC : ws.Perm (w1 ++ rest)) (hN0 : ∀ r, (wsn r).Perm (gw1 r ++ rest)) (hst : stk = As.reverse ++ .ref a :: st) (hn : As.length = cnt) (hcat : (st.map fun v => v.category).sum ≤ 8) (hdg : decode cc pc = .ok (.invokevirtual idx, 3)) (hkn : k + mc1 ≤ R.cells ∧ n + ms1 ≤ R.slots) (hF : (fy.bind fun r => (gv1 r).elim (kf r) (fun _ => none)) = some res) (kk : ∀ r v, fy = some r → gv1 r = .inl v → kf r v = some res → aT p l e R s m args below meth c Q D A nL (k + mc1) (n + ms1) (pc + 3) lv (.int v :: st) (wsn r)) : aT p l e R s m args below meth c Q D A nL k n pc lv stk ws := by
  obtain ⟨r, h1, hF⟩ := bd hF
  subst hst
  intro H locs ls hP hD hS hl
  have hKc := C.2.1.1
  have hPc : va_P D vwCl w1 H := p_sub hP hC
  have hDc : va_D A w1 := d_sub hD hC
  have hFc := p_free (wc := w1) hD hS C.2.2.2.1 hC
  refine vx_calli (vx_runV (As := As) (rest := st) C.1 (hM r h1 H.size) (cwV cnt C.1.2.2.2.2 hG rfl hrm.1 hrm.2 hd hR) ⟨aPc_blind, va_recv hKc hPc hc he, fun U hU hW => ⟨rfl, by rw [hU], by rw [hU]; exact hPc, C.2.1.warm hW, hDc.weaken (fun _ _ _ _ => trivial), by rw [hU]; exact ((C.2.2.2.2.kept hS.2.1).warm hW).narrow hFc⟩⟩ rfl hn hl.1 rfl (lv_room hcat) hdg hkn) hS (fun q _ h => hFc q h) hFc (fun q _ h => hFc q h) (fun E ce q9 u t H1 locs1 ht hvm hpx hB hz1 hk1 hS hce hcv hcl => ?_) (fun rv u t H1 locs1 ht hvm hw hB hz1 hk1 hS => ?_)
  · obtain ⟨hg, -⟩ := hB
    rw [hg] at hF
    exact nomatch hF
  · obtain ⟨hP1, hD1⟩ := hB
    rw [ht] at hP1
    have hw2 : gv1 r = .inl rv := hw
    rw [hw2] at hF
    obtain ⟨hP, hD⟩ := p_join hP hD hC (hN0 r) hFc hk1 hP1 hD1
    exact kk r rv h1 hw2 hF H1 locs1 ls hP hD hS hl
theorem u_xf {ρ ρ1 : Type} {res : ρ} (C : aC p s m args meth c cc nL own WW D J tys A) {fy : Option ρ1} {kf : ρ1 → UInt32 → Option ρ} {y : MethodName} {b : ByteArray} {mL mc1 ms1 : Nat} {ret : Option FieldType} {rm : Room} {idx : Nat} {As stk : List Value} {w1 : va_W} {gv1 : ρ1 → UInt32 ⊕ String} {gw1 : ρ1 → va_W} {C1 : String} {T1 : u_T} {N1 ci a : Nat} {fs : List Value} (cnt : Nat) {rest : va_W} (wsn : ρ1 → va_W) (hG : GoodIn WW (wsV own idx C1 y (aW y b mL ret))) (hd : y.cls = C1 ∧ y.cls ≠ "java/lang/invoke/MethodHandle" ∧ y.cls ≠ "java/lang/invoke/VarHandle" ∧ (parseMethodDescriptor y.desc).map (fun d => d.parameters.length) = some cnt) (hrm : rm.cells = mc1 ∧ rm.slots = ms1) (hR : rm.frames + 1 ≤ R.frames ∧ 8 + (mL + 11) + rm.locals ≤ R.locals) (hM : ∀ r, fy = some r → aKxf l y (aW y b mL ret) rm D J tys (.ref a :: As) w1 gv1 gw1 r mc1 ms1) (hc : vwCl[ci]? = some (C1, T1, N1)) (he : w1[0]? = some (a, .inr (ci, fs))) (hC : ws.Perm (w1 ++ rest)) (hN0 : ∀ r, (wsn r).Perm (gw1 r ++ rest)) (hst : stk = As.reverse ++ .ref a :: st) (hn : As.length = cnt) (hcat : (st.map fun v => v.category).sum ≤ 8) (hdg : decode cc pc = .ok (.invokevirtual idx, 3)) (hkn : k + mc1 ≤ R.cells ∧ n + ms1 ≤ R.slots) (hF : (fy.bind fun r => (gv1 r).elim (kf r) (fun _ => none)) = some res) (kk : ∀ r v, fy = some r → gv1 r = .inl v → kf r v = some res → aT p l e R s m args below meth c Q D A nL (k + mc1) (n + ms1) (pc + 3) lv (.float v :: st) (wsn r)) : aT p l e R s m args below meth c Q D A nL k n pc lv stk ws := by
  obtain ⟨r, h1, hF⟩ := bd hF
  subst hst
  intro H locs ls hP hD hS hl
  have hKc := C.2.1.1
  have hPc : va_P D vwCl w1 H := p_sub hP hC
  have hDc : va_D A w1 := d_sub hD hC
  have hFc := p_free (wc := w1) hD hS C.2.2.2.1 hC
  refine vx_callf (vx_runV (As := As) (rest := st) C.1 (hM r h1 H.size) (cwV cnt C.1.2.2.2.2 hG rfl hrm.1 hrm.2 hd hR) ⟨aPc_blind, va_recv hKc hPc hc he, fun U hU hW => ⟨rfl, by rw [hU], by rw [hU]; exact hPc, C.2.1.warm hW, hDc.weaken (fun _ _ _ _ => trivial), by rw [hU]; exact ((C.2.2.2.2.kept hS.2.1).warm hW).narrow hFc⟩⟩ rfl hn hl.1 rfl (lv_room hcat) hdg hkn) hS (fun q _ h => hFc q h) hFc (fun q _ h => hFc q h) (fun E ce q9 u t H1 locs1 ht hvm hpx hB hz1 hk1 hS hce hcv hcl => ?_) (fun rv u t H1 locs1 ht hvm hw hB hz1 hk1 hS => ?_)
  · obtain ⟨hg, -⟩ := hB
    rw [hg] at hF
    exact nomatch hF
  · obtain ⟨hP1, hD1⟩ := hB
    rw [ht] at hP1
    have hw2 : gv1 r = .inl rv := hw
    rw [hw2] at hF
    obtain ⟨hP, hD⟩ := p_join hP hD hC (hN0 r) hFc hk1 hP1 hD1
    exact kk r rv h1 hw2 hF H1 locs1 ls hP hD hS hl
theorem u_xd {ρ ρ1 : Type} {res : ρ} (C : aC p s m args meth c cc nL own WW D J tys A) {fy : Option ρ1} {kf : ρ1 → UInt64 → Option ρ} {y : MethodName} {b : ByteArray} {mL mc1 ms1 : Nat} {ret : Option FieldType} {rm : Room} {idx : Nat} {As stk : List Value} {w1 : va_W} {gv1 : ρ1 → UInt64 ⊕ String} {gw1 : ρ1 → va_W} {C1 : String} {T1 : u_T} {N1 ci a : Nat} {fs : List Value} (cnt : Nat) {rest : va_W} (wsn : ρ1 → va_W) (hG : GoodIn WW (wsV own idx C1 y (aW y b mL ret))) (hd : y.cls = C1 ∧ y.cls ≠ "java/lang/invoke/MethodHandle" ∧ y.cls ≠ "java/lang/invoke/VarHandle" ∧ (parseMethodDescriptor y.desc).map (fun d => d.parameters.length) = some cnt) (hrm : rm.cells = mc1 ∧ rm.slots = ms1) (hR : rm.frames + 1 ≤ R.frames ∧ 8 + (mL + 11) + rm.locals ≤ R.locals) (hM : ∀ r, fy = some r → aKxd l y (aW y b mL ret) rm D J tys (.ref a :: As) w1 gv1 gw1 r mc1 ms1) (hc : vwCl[ci]? = some (C1, T1, N1)) (he : w1[0]? = some (a, .inr (ci, fs))) (hC : ws.Perm (w1 ++ rest)) (hN0 : ∀ r, (wsn r).Perm (gw1 r ++ rest)) (hst : stk = As.reverse ++ .ref a :: st) (hn : As.length = cnt) (hcat : (st.map fun v => v.category).sum ≤ 8) (hdg : decode cc pc = .ok (.invokevirtual idx, 3)) (hkn : k + mc1 ≤ R.cells ∧ n + ms1 ≤ R.slots) (hF : (fy.bind fun r => (gv1 r).elim (kf r) (fun _ => none)) = some res) (kk : ∀ r v, fy = some r → gv1 r = .inl v → kf r v = some res → aT p l e R s m args below meth c Q D A nL (k + mc1) (n + ms1) (pc + 3) lv (.double v :: st) (wsn r)) : aT p l e R s m args below meth c Q D A nL k n pc lv stk ws := by
  obtain ⟨r, h1, hF⟩ := bd hF
  subst hst
  intro H locs ls hP hD hS hl
  have hKc := C.2.1.1
  have hPc : va_P D vwCl w1 H := p_sub hP hC
  have hDc : va_D A w1 := d_sub hD hC
  have hFc := p_free (wc := w1) hD hS C.2.2.2.1 hC
  refine vx_calld (vx_runV (As := As) (rest := st) C.1 (hM r h1 H.size) (cwV cnt C.1.2.2.2.2 hG rfl hrm.1 hrm.2 hd hR) ⟨aPc_blind, va_recv hKc hPc hc he, fun U hU hW => ⟨rfl, by rw [hU], by rw [hU]; exact hPc, C.2.1.warm hW, hDc.weaken (fun _ _ _ _ => trivial), by rw [hU]; exact ((C.2.2.2.2.kept hS.2.1).warm hW).narrow hFc⟩⟩ rfl hn hl.1 rfl (lv_room hcat) hdg hkn) hS (fun q _ h => hFc q h) hFc (fun q _ h => hFc q h) (fun E ce q9 u t H1 locs1 ht hvm hpx hB hz1 hk1 hS hce hcv hcl => ?_) (fun rv u t H1 locs1 ht hvm hw hB hz1 hk1 hS => ?_)
  · obtain ⟨hg, -⟩ := hB
    rw [hg] at hF
    exact nomatch hF
  · obtain ⟨hP1, hD1⟩ := hB
    rw [ht] at hP1
    have hw2 : gv1 r = .inl rv := hw
    rw [hw2] at hF
    obtain ⟨hP, hD⟩ := p_join hP hD hC (hN0 r) hFc hk1 hP1 hD1
    exact kk r rv h1 hw2 hF H1 locs1 ls hP hD hS hl
theorem h_Si {ρ α : Type} {o : α} {fy : Option ρ} {kf : ρ → Option α} (C : aC p s m args meth c cc nL own WW D J tys A) {J1 : JT} {y : MethodName} {b : ByteArray} {mL mc1 ms1 : Nat} {ret : Option FieldType} {hh : List (Nat × Nat × Nat × Nat)} {rm : Room} {idx : Nat} {As stk : List Value} {w0 : va_W} {gv : ρ → Int32} {gw : ρ → va_W} (cnt : Nat) {rest : va_W} (wsn : ρ → va_W) (hG : GoodIn WW (va_wsS own idx y (aWh y b mL ret hh))) (hd : y.cls ≠ "java/lang/invoke/MethodHandle" ∧ y.cls ≠ "java/lang/invoke/VarHandle" ∧ (parseMethodDescriptor y.desc).map (fun d => d.parameters.length) = some cnt) (hJ : gJ p s D A ws w0 J1) (hrm : rm.cells = mc1 ∧ rm.slots = ms1) (hR : rm.frames + 1 ≤ R.frames ∧ 8 + (mL + 11) + rm.locals ≤ R.locals) (hM : ∀ r, fy = some r → aKt l y (aWh y b mL ret hh) rm D J1 tys As w0 gv gw r mc1 ms1) (hC : ws.Perm (w0 ++ rest)) (hN : ∀ r, (wsn r).Perm (gw r ++ rest)) (hst : stk = As.reverse ++ st) (hn : As.length = cnt) (hcat : (st.map fun v => v.category).sum ≤ 8) (hdg : decode cc pc = .ok (.invokestatic idx, 3)) (hkn : k + mc1 ≤ R.cells ∧ n + ms1 ≤ R.slots) (hF : fy.bind kf = some o) (kk : ∀ r, fy = some r → kf r = some o → aT p l e R s m args below meth c Q D A nL (k + mc1) (n + ms1) (pc + 3) lv (.int (gv r) :: st) (wsn r)) : aT p l e R s m args below meth c Q D A nL k n pc lv stk ws := by
  obtain ⟨r, h1, hF⟩ := bd hF
  subst hst
  intro H locs ls hP hD hS hl
  have hts := C.1.2.2.2.2
  have hPc : va_P D vwCl w0 H := p_sub hP hC
  have hDc : va_D A w0 := d_sub hD hC
  have hFc := p_free (wc := w0) hD hS C.2.2.2.1 hC
  refine vx_calli (vx_runSX (As := As) (rest := st) C.1 (hM r h1 H.size) (vx_cwSW cnt hts hG rfl hrm.1 hrm.2 hd hR) ⟨aPc_blind, fun U hU hW => ⟨rfl, by rw [hU], by rw [hU]; exact hPc, C.2.1.warm hW, hDc.weaken (fun _ _ _ _ => trivial), by rw [hU]; exact (hJ H locs hP hD hS hFc).warm hW⟩⟩ rfl hn hl.1 rfl (lv_room hcat) hdg hkn) hS (fun q _ h => hFc q h) hFc (fun q _ h => hFc q h) (fun E ce q9 u t H1 locs1 ht hvm hpx hB hz1 hk1 hS hce hcv hcl => hpx.elim) (fun rv u t H1 locs1 ht hvm hw hB hz1 hk1 hS1 => ?_)
  obtain ⟨hP1, hD1⟩ := hB
  rw [ht] at hP1
  rw [show rv = gv r from hw]
  obtain ⟨hP, hD⟩ := p_join hP hD hC (hN r) hFc hk1 hP1 hD1
  exact kk r h1 hF H1 locs1 ls hP hD hS1 hl
theorem h_iret {ρ : Type} {gv : ρ → Int32} {gw : ρ → va_W} {rv res : ρ} {w0 rest : va_W} {ty : FieldType} {v : Int32} {mc ms : Nat} (C : aC p s m args meth c cc nL own WW D J tys (va_A w0 s.heap.size)) (hr : meth.sig.returnType = some ty) (hn : narrow ty (.int v) = .int v) (hdg : decode cc pc = .ok (.ireturn, 1)) (hkm : k ≤ mc ∧ n ≤ ms) (hF : some rv = some res) (hv : gv rv = v) (hw : ws.Perm (gw rv ++ rest)) : aT p l e R s m args below meth c (vx_MQ below (aQi D w0 s.heap.size gv gw res) (aXf w0 s.heap.size) args s mc ms (va_A w0 s.heap.size)) D (va_A w0 s.heap.size) nL k n pc lv [.int v] ws := by
  cases hF
  subst hv
  exact fun H locs ls hP hD hS hl => W.widen hkm.1 hkm.2 (vx_ret (W.zret C.1.1 C.1.2.1 hr hn (fun t ht hW => ⟨⟨_, (), rfl, rfl, by rw [ht]; exact p_sub hP hw, d_sub hD hw⟩, hS.F ht⟩) hS.2.2 hdg C.2.2.1))
theorem hin_of {b : va_W} {rs : List va_W} : ∀ x ∈ b, x ∈ fl (b :: rs) := fun x hx => by
  rw [fl_flat]
  exact List.mem_flatten.mpr ⟨b, List.mem_cons_self, hx⟩
theorem gp {X : Nat × Nat × (Nat → Int32)} {L P : List TX} {kc ki kb kl kd : ClassId} {w0 rest : va_W} (C : aC p s m args meth c cc nL own WW D (X, L) (aTy kc ki kb kl kd) A) (hC : ws.Perm (w0 ++ rest)) (hin : ∀ x ∈ cP kl P, x ∈ rest) : gJ p s D A ws w0 (X, L ++ P) := fun H locs hP hD hS hFc => by
  refine aG_more ((C.2.2.2.2.kept hS.2.1).narrow hFc) (fun q hq => ?_)
  have m1 : (q.val.1, .inr (7, [.ref q.val.2.1, .int 0, .int 0, .int 0])) ∈ cP kl P := List.mem_flatMap.mpr ⟨q, hq, List.mem_cons_self⟩
  have m2 : (q.val.2.1, .inl (kl, q.val.2.2.length, .inl fun j => q.val.2.2.getD j 0)) ∈ cP kl P := List.mem_flatMap.mpr ⟨q, hq, List.mem_cons_of_mem _ List.mem_cons_self⟩
  exact tx_J C.1.2.2.2.2 C.2.1.1 rfl (p_of fun x hx => p_in hP x (hC.mem_iff.mpr (List.mem_append_right _ (hin x hx)))) hq (d_rest hP hD hC _ (hin _ m1)).2 (d_rest hP hD hC _ (hin _ m2)).2
theorem pool_grow {kl : ClassId} {P p1 : List TX} {bs rs : List va_W} {w1 : va_W} (h : (fl (cP kl P :: bs)).Perm (w1 ++ fl (cP kl P :: rs))) : (fl (cP kl (P ++ p1) :: bs)).Perm ((w1 ++ cP kl p1) ++ fl (cP kl P :: rs)) := by
  rw [fl_flat, fl_flat] at h ⊢
  rw [cP_app]
  simp only [List.flatten_cons] at h ⊢
  have h1 : ((cP kl P ++ cP kl p1) ++ bs.flatten).Perm (cP kl p1 ++ (cP kl P ++ bs.flatten)) := by
    rw [List.append_assoc, ← List.append_assoc (cP kl p1)]
    exact (List.perm_append_comm_assoc _ _ _).trans (by rw [List.append_assoc])
  refine h1.trans ((List.Perm.append_left _ h).trans ?_)
  rw [List.append_assoc w1]
  exact List.perm_append_comm_assoc _ _ _
theorem pool_in {kl : ClassId} {bs : List va_W} : (fl bs).Perm (fl (cP kl [] :: bs)) := by
  rw [fl_flat, fl_flat, cP_nil]
  exact List.Perm.refl _
theorem pool_all {b : va_W} {bs : List va_W} : (fl (b :: bs)).Perm ([] ++ fl (b :: bs)) := List.Perm.refl _
theorem add_blk {b : va_W} {b0 : va_W} {bs : List va_W} : (fl (b0 :: bs) ++ b).Perm (fl (b0 :: b :: bs)) := by
  rw [fl_flat, fl_flat]
  simp only [List.flatten_cons]
  rw [List.append_assoc]
  exact List.Perm.append_left _ List.perm_append_comm
end LR
section LT
variable {p : Program} {l : Launch} {e : Env} {R : Room} {s : State} {m : MethodId} {args : Array Value} {below : List Frame} {meth : Method} {c : Code} {Q : State → Prop} {D : va_G} {X : Nat × Nat × (Nat → Int32)} {L P : List TX} {bs : List va_W} {kc ki kb kl kd : ClassId} {A : Nat → Prop} {nL k n : Nat} {cc : ByteArray} {own : String} {pc : Nat} {lv : List (Nat × Value)} {st : List Value}
theorem gqp (C : aC p s m args meth c cc nL own WW D (X, L) (aTy kc ki kb kl kd) A) {q : TX} (hq : q ∈ L ++ P) : gR s D A (fl (cP kl P :: bs)) RJ0 q.val.1 := fun H locs hP hD hS => by
  rcases List.mem_append.mp hq with h | h
  · exact va_Orecv (C.2.2.2.2.2.2.2.2.2.2.1 q h).1 hS
  · obtain ⟨r, h1, cell, q1, q2, q3, -⟩ := p_in hP (q.val.1, .inr (7, [.ref q.val.2.1, .int 0, .int 0, .int 0])) (hin_of _ (List.mem_flatMap.mpr ⟨q, h, List.mem_cons_self⟩))
    have hr : r = (RJ0, TJ0, 4) := Option.some.inj (h1.symm.trans rfl)
    subst hr
    exact ⟨cell, q1, by rw [q3]; rfl, by rw [q2]; exact (C.2.1.1.1 7 _ rfl).2.1⟩
theorem ld_in {xs : List Int32} {i x : Int32} (hl : xs.length ≤ 10) (h : ldi (fun j => xs.getD j 0) xs.length i = some x) : ¬ i < 0 ∧ i < nI xs.length ∧ vp_in i xs.length ∧ x = xs.getD i.toNatClampNeg 0 := by
  obtain ⟨hi, hx⟩ := chk h
  have h0 : ¬ i < 0 := fun q => hi (Or.inl q)
  obtain ⟨j, hj, rfl⟩ := nI_of h0
  have h1 : j < xs.length := by
    refine Nat.not_le.mp fun q => hi (Or.inr ?_)
    rw [nI_clamp hj]
    exact q
  exact ⟨h0, nI_lt h1 (n10 (by omega)), hi, hx⟩
theorem t_ldc (C : aC p s m args meth c cc nL own WW D (X, L) (aTy kc ki kb kl kd) A) {i idx : Nat} {tx : String} {xs : List Int32} (hi : aSt2[i]? = some (own, idx, tx, xs)) (hdg : decode cc pc = .ok (.ldc idx, 2)) (kk : ∀ a : Nat, Kn (L ++ P) a xs → aT p l e R s m args below meth c Q D A nL k n (pc + 2) lv (.ref a :: st) (fl (cP kl P :: bs))) : aT p l e R s m args below meth c Q D A nL k n pc lv st (fl (cP kl P :: bs)) := c_ldc C hi hdg (fun x h1 h2 => kk x.val.1 ⟨x, List.mem_append_left _ h1, rfl, h2⟩)
theorem t_len (C : aC p s m args meth c cc nL own WW D (X, L) (aTy kc ki kb kl kd) A) {a idx : Nat} {xs : List Int32} (h : Kn (L ++ P) a xs) (hG : GoodIn WW (wsV own idx RJ0 yJ0_length_8abf5 (aW yJ0_length_8abf5 cJ0_length_8abf5 1 (some .int)))) (hR : 2 ≤ R.frames ∧ 40 ≤ R.locals) (hcat : (st.map fun v => v.category).sum ≤ 8) (hdg : decode cc pc = .ok (.invokevirtual idx, 3)) (hkn : k ≤ R.cells ∧ n ≤ R.slots) (kk : aT p l e R s m args below meth c Q D A nL k n (pc + 3) lv (.int (nI xs.length) :: st) (fl (cP kl P :: bs))) : aT p l e R s m args below meth c Q D A nL k n pc lv (.ref a :: st) (fl (cP kl P :: bs)) := by
  obtain ⟨q, hq, rfl, rfl⟩ := h
  exact g_Vi (mc1 := 0) (ms1 := 0) (J1 := (X, L ++ P)) (As := []) C 0 (fl (cP kl P :: bs)) (fl (cP kl P :: bs)) hG hdV_J0_length_8abf5 (gp C pool_all hin_of) (gqp C hq) ⟨rfl, rfl⟩ hR (c_J0_length l D (X, L ++ P) kc ki kb kl kd q hq) pool_all pool_all rfl rfl hcat hdg hkn kk
theorem t_chr (C : aC p s m args meth c cc nL own WW D (X, L) (aTy kc ki kb kl kd) A) {a idx : Nat} {xs : List Int32} {i : Int32} {α : Type} {o : α} {kf : Int32 → Option α} (h : Kn (L ++ P) a xs) (hG : GoodIn WW (wsV own idx RJ0 yJ0_charAt_5068e (aW yJ0_charAt_5068e cJ0_charAt_5068e 2 (some .char)))) (hR : 4 ≤ R.frames ∧ 85 ≤ R.locals) (hcat : (st.map fun v => v.category).sum ≤ 8) (hdg : decode cc pc = .ok (.invokevirtual idx, 3)) (hkn : k ≤ R.cells ∧ n ≤ R.slots) (hF : (ldi (fun j => xs.getD j 0) xs.length i).bind kf = some o) (kk : ∀ x, ldi (fun j => xs.getD j 0) xs.length i = some x → kf x = some o → aT p l e R s m args below meth c Q D A nL k n (pc + 3) lv (.int x :: st) (fl (cP kl P :: bs))) : aT p l e R s m args below meth c Q D A nL k n pc lv (.int i :: .ref a :: st) (fl (cP kl P :: bs)) := by
  obtain ⟨x, h1, hF2⟩ := bd hF
  obtain ⟨g0, g1, g2, g3⟩ := ld_in h.ok.1 h1
  have kk2 := kk x h1 hF2
  obtain ⟨q, hq, rfl, rfl⟩ := h
  rw [g3] at kk2
  exact g_Vi (mc1 := 0) (ms1 := 0) (J1 := (X, L ++ P)) (As := [.int i]) C 1 (fl (cP kl P :: bs)) (fl (cP kl P :: bs)) hG hdV_J0_charAt_5068e (gp C pool_all hin_of) (gqp C hq) ⟨rfl, rfl⟩ hR (c_J0_charAt l D (X, L ++ P) kc ki kb kl kd q hq i g0 g1 g2) pool_all pool_all rfl rfl hcat hdg hkn kk2
def sub2 (xs : List Int32) (i j : Int32) : Option (List Int32) := if i < 0 ∨ j.toNatClampNeg ≤ i.toNatClampNeg ∨ xs.length < j.toNatClampNeg then none else some (slc xs i.toNatClampNeg j.toNatClampNeg)
def sub1 (xs : List Int32) (i : Int32) : Option (List Int32) := if i < 0 ∨ xs.length ≤ i.toNatClampNeg then none else some (slc xs i.toNatClampNeg xs.length)
theorem t_sub2 (C : aC p s m args meth c cc nL own WW D (X, L) (aTy kc ki kb kl kd) A) {a idx : Nat} {xs : List Int32} {i j : Int32} {α : Type} {o : α} {kf : List Int32 → Option α} (h : Kn (L ++ P) a xs) (hG : GoodIn WW (wsV own idx RJ0 yJ0_substring_37a41 (aW yJ0_substring_37a41 cJ0_substring_37a41 5 (some (.object "java/lang/String"))))) (hR : 5 ≤ R.frames ∧ 152 ≤ R.locals) (hcat : (st.map fun v => v.category).sum ≤ 8) (hdg : decode cc pc = .ok (.invokevirtual idx, 3)) (hkn : k + 2 ≤ R.cells ∧ n + 14 ≤ R.slots) (hF : (sub2 xs i j).bind kf = some o) (kk : ∀ ys a1 p1, sub2 xs i j = some ys → Kn (L ++ (P ++ p1)) a1 ys → kf ys = some o → aT p l e R s m args below meth c Q D A nL (k + 2) (n + 14) (pc + 3) lv (.ref a1 :: st) (fl (cP kl (P ++ p1) :: bs))) : aT p l e R s m args below meth c Q D A nL k n pc lv (.int j :: .int i :: .ref a :: st) (fl (cP kl P :: bs)) := by
  obtain ⟨ys, h1, hF2⟩ := bd hF
  obtain ⟨hc, hy⟩ := chk h1
  have g0 : ¬ i < 0 := fun q => hc (Or.inl q)
  obtain ⟨i', hi', rfl⟩ := nI_of g0
  have g1 : ¬ j.toNatClampNeg ≤ (nI i').toNatClampNeg := fun q => hc (Or.inr (Or.inl q))
  have g2 : ¬ xs.length < j.toNatClampNeg := fun q => hc (Or.inr (Or.inr q))
  have g3 : ¬ j < 0 := by
    intro q
    have q2 := Int32.lt_iff_toInt_lt.mp q
    have z : (0 : Int32).toInt = 0 := by decide
    have e : j.toNatClampNeg = j.toInt.toNat := rfl
    omega
  obtain ⟨j', hj', rfl⟩ := nI_of g3
  rw [nI_clamp hi', nI_clamp hj'] at g1 hy
  rw [nI_clamp hj'] at g2
  have kk2 := fun a1 p1 hk => kk ys a1 p1 h1 hk hF2
  obtain ⟨q, hq, rfl, rfl⟩ := h
  subst hy
  exact g_Vr (mc1 := 2) (ms1 := 14) (J1 := (X, L ++ P)) (As := [.int (nI i'), .int (nI j')]) C 2 (fl (cP kl P :: bs)) (fun p1 _ => fl (cP kl (P ++ p1) :: bs)) hG hdV_J0_substring_37a41 (gp C pool_all hin_of) (gqp C hq) ⟨rfl, rfl⟩ hR (c_J0_sub2 l D (X, L ++ P) kc ki kb kl kd q hq i' j' (by omega) (by omega)) pool_all (fun p1 _ => pool_grow (w1 := []) pool_all) rfl rfl hcat hdg hkn (fun p1 a1 ha => kk2 a1 p1 (Kn.s ha))
theorem t_sub1 (C : aC p s m args meth c cc nL own WW D (X, L) (aTy kc ki kb kl kd) A) {a idx : Nat} {xs : List Int32} {i : Int32} {α : Type} {o : α} {kf : List Int32 → Option α} (h : Kn (L ++ P) a xs) (hG : GoodIn WW (wsV own idx RJ0 yJ0_substring_b52d3 (aW yJ0_substring_b52d3 cJ0_substring_b52d3 2 (some (.object "java/lang/String"))))) (hR : 6 ≤ R.frames ∧ 173 ≤ R.locals) (hcat : (st.map fun v => v.category).sum ≤ 8) (hdg : decode cc pc = .ok (.invokevirtual idx, 3)) (hkn : k + 2 ≤ R.cells ∧ n + 14 ≤ R.slots) (hF : (sub1 xs i).bind kf = some o) (kk : ∀ ys a1 p1, sub1 xs i = some ys → Kn (L ++ (P ++ p1)) a1 ys → kf ys = some o → aT p l e R s m args below meth c Q D A nL (k + 2) (n + 14) (pc + 3) lv (.ref a1 :: st) (fl (cP kl (P ++ p1) :: bs))) : aT p l e R s m args below meth c Q D A nL k n pc lv (.int i :: .ref a :: st) (fl (cP kl P :: bs)) := by
  obtain ⟨ys, h1, hF2⟩ := bd hF
  obtain ⟨hc, hy⟩ := chk h1
  have g0 : ¬ i < 0 := fun q => hc (Or.inl q)
  obtain ⟨i', hi', rfl⟩ := nI_of g0
  have g1 : ¬ xs.length ≤ (nI i').toNatClampNeg := fun q => hc (Or.inr q)
  rw [nI_clamp hi'] at g1 hy
  have kk2 := fun a1 p1 hk => kk ys a1 p1 h1 hk hF2
  obtain ⟨q, hq, rfl, rfl⟩ := h
  subst hy
  exact g_Vr (mc1 := 2) (ms1 := 14) (J1 := (X, L ++ P)) (As := [.int (nI i')]) C 1 (fl (cP kl P :: bs)) (fun p1 _ => fl (cP kl (P ++ p1) :: bs)) hG hdV_J0_substring_b52d3 (gp C pool_all hin_of) (gqp C hq) ⟨rfl, rfl⟩ hR (c_J0_sub1 l D (X, L ++ P) kc ki kb kl kd q hq i' (by omega)) pool_all (fun p1 _ => pool_grow (w1 := []) pool_all) rfl rfl hcat hdg hkn (fun p1 a1 ha => kk2 a1 p1 (Kn.s ha))
/-- the builder: new, append, toString -/
def apS (xs ys : List Int32) : Option (List Int32) := if xs.length + ys.length ≤ 16 then some (xs ++ ys) else none
def apC (xs : List Int32) (x : Int32) : Option (List Int32) := if (0 ≤ x ∧ x < 128) ∧ xs.length + 1 ≤ 16 then some (xs ++ [x]) else none
def toS (xs : List Int32) : Option (List Int32) := if (0 < xs.length ∧ xs.length ≤ 10) ∧ ∀ x ∈ xs, 0 ≤ x ∧ x < 128 then some xs else none
theorem t_newSB (C : aC p s m args meth c cc nL own WW D (X, L) (aTy kc ki kb kl kd) A) {ik ii : Nat} (hk : Cond.classLink own ik RJ4 ∈ WW) (hl0 : Cond.methodLink own ii yJ4_init_da8c8 ∈ WW) (hR : 3 ≤ R.frames ∧ 53 ≤ R.locals) (hcat : ((Value.ref 0 :: st).map fun v => v.category).sum ≤ 8) (d0 : decode cc pc = .ok (.new ik, 3)) (d3 : decode cc (pc + 3) = .ok (.dup, 1)) (d4 : decode cc (pc + 4) = .ok (.invokespecial ii, 3)) (hkn : k + 2 ≤ R.cells ∧ n + 20 ≤ R.slots) (kk : ∀ sb row : Nat, aT p l e R s m args below meth c Q D A nL (k + 2) (n + 20) (pc + 7) lv (.ref sb :: st) (fl (cP kl P :: wSB kl sb row [] :: bs))) : aT p l e R s m args below meth c Q D A nL k n pc lv st (fl (cP kl P :: bs)) := by
  refine c_new C (ci := 8) (fs := [.null, .int 0, .int 0, .int 0]) iwJ4 tyJ4_ok hk ka_J4 kn_J4 rfl (fun j hj => by rcases (show j = 0 ∨ j = 1 ∨ j = 2 ∨ j = 3 by omega) with rfl | rfl | rfl | rfl <;> rfl) ⟨Nat.le_trans (by omega) hkn.1, Nat.le_trans (by omega) hkn.2⟩ d0 (fun sb => ?_)
  refine a_dup C d3 rfl ?_
  refine g_Xv (mc1 := 1) (ms1 := 16) (J1 := (X, L)) (As := []) C 0 (fl (cP kl P :: bs)) hl0 ki_J4_init_da8c8 kn_J4 kc_J4_init_da8c8 rfl hdX_J4_init_da8c8 (gj C) ⟨rfl, rfl⟩ hR (c_J4_init l D (X, L) kc ki kb kl kd sb) List.perm_append_comm rfl rfl hcat d4 ⟨Nat.le_trans (by omega) hkn.1, Nat.le_trans (by omega) hkn.2⟩ (fun w1 hw1 => ?_)
  obtain ⟨row, rfl⟩ := hw1
  exact g_ws C (List.perm_append_comm.trans add_blk) (kk sb row)
theorem sb_p {b w : va_W} : (fl (b :: w :: bs)).Perm (w ++ fl (b :: bs)) := add_blk.symm.trans List.perm_append_comm
theorem t_appS (C : aC p s m args meth c cc nL own WW D (X, L) (aTy kc ki kb kl kd) A) {a idx sb row : Nat} {xs ys : List Int32} {α : Type} {o : α} {kf : List Int32 → Option α} (h : Kn (L ++ P) a ys) (hG : GoodIn WW (wsV own idx RJ4 yJ4_append_15ec4 (aW yJ4_append_15ec4 cJ4_append_15ec4 2 (some (.object "java/lang/StringBuilder"))))) (hR : 5 ≤ R.frames ∧ 148 ≤ R.locals) (hcat : (st.map fun v => v.category).sum ≤ 8) (hdg : decode cc pc = .ok (.invokevirtual idx, 3)) (hkn : k ≤ R.cells ∧ n ≤ R.slots) (hF : (apS xs ys).bind kf = some o) (kk : ∀ zs, apS xs ys = some zs → kf zs = some o → aT p l e R s m args below meth c Q D A nL k n (pc + 3) lv (.ref sb :: st) (fl (cP kl P :: wSB kl sb row zs :: bs))) : aT p l e R s m args below meth c Q D A nL k n pc lv (.ref a :: .ref sb :: st) (fl (cP kl P :: wSB kl sb row xs :: bs)) := by
  obtain ⟨zs, h1, hF2⟩ := bd hF
  obtain ⟨hc, rfl⟩ := chk2 h1
  have kk2 := kk _ h1 hF2
  obtain ⟨q, hq, rfl, rfl⟩ := h
  exact g_Vr (mc1 := 0) (ms1 := 0) (J1 := (X, L ++ P)) (As := [.ref q.val.1]) C 1 (fl (cP kl P :: bs)) (fun _ _ => fl (cP kl P :: wSB kl sb row (xs ++ q.val.2.2) :: bs)) hG hdV_J4_append_15ec4 (gp C sb_p hin_of) (fun H locs hP hD hS => va_recv (ws := wSB kl sb row xs) C.2.1.1 (p_sub hP sb_p) (ci := 8) (q := (RJ4, TJ4, 4)) (q0 := 0) rfl rfl) ⟨rfl, rfl⟩ hR (c_J4_appS l D (X, L ++ P) kc ki kb kl kd sb row xs q hq hc) sb_p (fun _ _ => sb_p) rfl rfl hcat hdg hkn (fun _ a1 ha => by subst ha; exact kk2)
theorem t_appC (C : aC p s m args meth c cc nL own WW D (X, L) (aTy kc ki kb kl kd) A) {idx sb row : Nat} {xs : List Int32} {x : Int32} {α : Type} {o : α} {kf : List Int32 → Option α} (hG : GoodIn WW (wsV own idx RJ4 yJ4_append_cf468 (aW yJ4_append_cf468 cJ4_append_cf468 2 (some (.object "java/lang/StringBuilder"))))) (hR : 3 ≤ R.frames ∧ 64 ≤ R.locals) (hcat : (st.map fun v => v.category).sum ≤ 8) (hdg : decode cc pc = .ok (.invokevirtual idx, 3)) (hkn : k ≤ R.cells ∧ n ≤ R.slots) (hF : (apC xs x).bind kf = some o) (kk : ∀ zs, apC xs x = some zs → kf zs = some o → aT p l e R s m args below meth c Q D A nL k n (pc + 3) lv (.ref sb :: st) (fl (cP kl P :: wSB kl sb row zs :: bs))) : aT p l e R s m args below meth c Q D A nL k n pc lv (.int x :: .ref sb :: st) (fl (cP kl P :: wSB kl sb row xs :: bs)) := by
  obtain ⟨zs, h1, hF2⟩ := bd hF
  obtain ⟨hc, rfl⟩ := chk2 h1
  have kk2 := kk _ h1 hF2
  exact g_Vr (mc1 := 0) (ms1 := 0) (J1 := (X, L)) (As := [.int x]) C 1 (fl (cP kl P :: bs)) (fun _ _ => fl (cP kl P :: wSB kl sb row (xs ++ [x]) :: bs)) hG hdV_J4_append_cf468 (gj C) (fun H locs hP hD hS => va_recv (ws := wSB kl sb row xs) C.2.1.1 (p_sub hP sb_p) (ci := 8) (q := (RJ4, TJ4, 4)) (q0 := 0) rfl rfl) ⟨rfl, rfl⟩ hR (c_J4_appC l D (X, L) kc ki kb kl kd sb row xs x hc.1 hc.2) sb_p (fun _ _ => sb_p) rfl rfl hcat hdg hkn (fun _ a1 ha => by subst ha; exact kk2)
theorem t_toS (C : aC p s m args meth c cc nL own WW D (X, L) (aTy kc ki kb kl kd) A) {idx sb row : Nat} {xs : List Int32} {α : Type} {o : α} {kf : List Int32 → Option α} (hG : GoodIn WW (wsV own idx RJ4 yJ4_toString_0e30d (aW yJ4_toString_0e30d cJ4_toString_0e30d 1 (some (.object "java/lang/String"))))) (hR : 6 ≤ R.frames ∧ 171 ≤ R.locals) (hcat : (st.map fun v => v.category).sum ≤ 8) (hdg : decode cc pc = .ok (.invokevirtual idx, 3)) (hkn : k + 2 ≤ R.cells ∧ n + 14 ≤ R.slots) (hF : (toS xs).bind kf = some o) (kk : ∀ zs a1 p1, toS xs = some zs → Kn (L ++ (P ++ p1)) a1 zs → kf zs = some o → aT p l e R s m args below meth c Q D A nL (k + 2) (n + 14) (pc + 3) lv (.ref a1 :: st) (fl (cP kl (P ++ p1) :: bs))) : aT p l e R s m args below meth c Q D A nL k n pc lv (.ref sb :: st) (fl (cP kl P :: wSB kl sb row xs :: bs)) := by
  obtain ⟨zs, h1, hF2⟩ := bd hF
  obtain ⟨⟨⟨hc0, hc1⟩, hc2⟩, rfl⟩ := chk2 h1
  have kk2 := fun a1 p1 hk => kk _ a1 p1 h1 hk hF2
  exact g_Vr (mc1 := 2) (ms1 := 14) (J1 := (X, L ++ P)) (As := []) C 0 (fl (cP kl P :: bs)) (fun p1 _ => fl (cP kl (P ++ p1) :: bs)) hG hdV_J4_toString_0e30d (gp C sb_p hin_of) (fun H locs hP hD hS => va_recv (ws := wSB kl sb row zs) C.2.1.1 (p_sub hP sb_p) (ci := 8) (q := (RJ4, TJ4, 4)) (q0 := 0) rfl rfl) ⟨rfl, rfl⟩ hR (c_J4_toStr l D (X, L ++ P) kc ki kb kl kd sb row zs hc0 hc1 hc2) sb_p (fun p1 _ => pool_grow (w1 := []) pool_all) rfl rfl hcat hdg hkn (fun p1 a1 ha => kk2 a1 p1 (Kn.s ha))
/-- rows of texts, rows of ints, as blocks -/
def tie (L P : List TX) (E : Nat → Option (List Int32)) (B : Nat → Option Nat) : Prop := ∀ j xs, E j = some xs → ∃ r, B j = some r ∧ Kn (L ++ P) r xs
theorem tie.a {L P p1 : List TX} {E : Nat → Option (List Int32)} {B : Nat → Option Nat} (h : tie L P E B) : tie L (P ++ p1) E B := fun j xs hj => by
  obtain ⟨r, h1, h2⟩ := h j xs hj
  exact ⟨r, h1, h2.a⟩
theorem tie.z {L P : List TX} : tie L P (fun _ => none) (fun _ => none) := fun _ _ h => nomatch h
abbrev wR (kd : ClassId) (a N : Nat) (B : Nat → Option Nat) : va_W := [(a, .inl (kd, N, .inr (.inr (.inr (.inr B)))))]
abbrev wI (ki : ClassId) (a N : Nat) (f : Nat → Int32) : va_W := [(a, .inl (ki, N, .inl f))]
def rld (E : Nat → Option (List Int32)) (N : Nat) (i : Int32) : Option (List Int32) := if i < 0 ∨ N ≤ i.toNatClampNeg then none else E i.toNatClampNeg
def rst (E : Nat → Option (List Int32)) (N : Nat) (i : Int32) (xs : List Int32) : Option (Nat → Option (List Int32)) := if i < 0 ∨ N ≤ i.toNatClampNeg then none else some (va_up E i.toNatClampNeg (some xs))
def nwr (x : Int32) : Option Nat := if x < 0 ∨ 90 < x.toNatClampNeg then none else some x.toNatClampNeg
theorem t_newR (C : aC p s m args meth c cc nL own WW D (X, L) (aTy kc ki kb kl kd) A) {idx : Nat} {x : Int32} {α : Type} {o : α} {kf : Nat → Option α} (hk : Cond.classLink own idx RJ0 ∈ WW) (hdg : decode cc pc = .ok (.anewarray idx, 3)) (hkn : k + 1 ≤ R.cells ∧ n + 90 ≤ R.slots) (hF : (nwr x).bind kf = some o) (kk : ∀ N a, nwr x = some N → kf N = some o → aT p l e R s m args below meth c Q D A nL (k + 1) (n + 90) (pc + 3) lv (.ref a :: st) (fl (cP kl P :: wR kd a N (fun _ => none) :: bs))) : aT p l e R s m args below meth c Q D A nL k n pc lv (.int x :: st) (fl (cP kl P :: bs)) := by
  obtain ⟨N, h1, hF⟩ := bd hF
  obtain ⟨hc, hN⟩ := chk h1
  have h9 : N ≤ 90 := by
    rw [hN]
    exact Nat.not_lt.mp fun q => hc (Or.inr q)
  intro H locs ls hP hD hS hl
  refine va_newq (N' := N) C.1.1 C.1.2.1 C.1.2.2.2.1 (C.1.2.2.2.2 _ hk) C.2.2.2.2.2.2.2.2.2.2.2.2.2.2.1 C.2.1.1 hP hD hS C.2.2.2.1 (fun q => hc (Or.inl q)) hN.symm (by omega) hkn.1 (Nat.le_trans (by omega) hkn.2) hdg (fun q cA H1 hK hP hD hS => ?_)
  have g1 := (C.2.1.1.2 4 (kd, .object RJ0) rfl).2
  have g2 := (hK.2 5 (cA, .object RJ0) rfl).2
  obtain ⟨_, _, -, -, -, e1⟩ := g1
  obtain ⟨_, _, -, -, -, e2⟩ := g2
  have e3 : cA = kd := Option.some.inj (e2.symm.trans e1)
  rw [e3] at hP hD
  exact W.widen (Nat.le_refl _) (by omega) (g_ws C add_blk (kk N q h1 hF) H1 locs ls hP hD hS hl)
theorem t_newI (C : aC p s m args meth c cc nL own WW D (X, L) (aTy kc ki kb kl kd) A) {x : Int32} {N : Nat} (hx : ¬ x < 0 ∧ x.toNatClampNeg = N ∧ N * 4 ≤ 536870912) (hdg : decode cc pc = .ok (.newarray .int, 2)) (hkn : k + 1 ≤ R.cells ∧ n + N ≤ R.slots) (kk : ∀ a, aT p l e R s m args below meth c Q D A nL (k + 1) (n + N) (pc + 2) lv (.ref a :: st) (fl (cP kl P :: wI ki a N (fun _ => 0) :: bs))) : aT p l e R s m args below meth c Q D A nL k n pc lv (.int x :: st) (fl (cP kl P :: bs)) := c_newi C 1 rfl hx hkn hdg (fun q => g_ws C add_blk (kk q))
theorem t_aald (C : aC p s m args meth c cc nL own WW D (X, L) (aTy kc ki kb kl kd) A) {a N : Nat} {E : Nat → Option (List Int32)} {B : Nat → Option Nat} {i : Int32} {α : Type} {o : α} {kf : List Int32 → Option α} {rest : va_W} (ht : tie L P E B) (hC : (fl (cP kl P :: bs)).Perm (wR kd a N B ++ rest)) (hdg : decode cc pc = .ok (.aaload, 1)) (hF : (rld E N i).bind kf = some o) (kk : ∀ xs r, rld E N i = some xs → Kn (L ++ P) r xs → kf xs = some o → aT p l e R s m args below meth c Q D A nL k n (pc + 1) lv (.ref r :: st) (fl (cP kl P :: bs))) : aT p l e R s m args below meth c Q D A nL k n pc lv (.int i :: .ref a :: st) (fl (cP kl P :: bs)) := by
  obtain ⟨xs, h1, hF⟩ := bd hF
  have hi : ¬ (i < 0 ∨ N ≤ i.toNatClampNeg) := by
    intro q
    unfold rld at h1
    rw [if_pos q] at h1
    cases h1
  have h2 : E i.toNatClampNeg = some xs := by
    unfold rld at h1
    rw [if_neg hi] at h1
    exact h1
  obtain ⟨r, g1, g2⟩ := ht _ _ h2
  intro H locs ls hP hD hS hl
  have h3 := kk xs r h1 g2 hF H locs ls hP hD hS hl
  refine va_aldq C.1.1 C.1.2.1 C.2.1.1 (p_sub hP hC) 0 4 rfl rfl hi hdg ?_
  rw [g1]
  exact h3
theorem t_aast (C : aC p s m args meth c cc nL own WW D (X, L) (aTy kc ki kb kl kd) A) {a N v : Nat} {E : Nat → Option (List Int32)} {B : Nat → Option Nat} {i : Int32} {xs : List Int32} {α : Type} {o : α} {kf : (Nat → Option (List Int32)) → Option α} {rest : va_W} (wsn : (Nat → Option Nat) → va_W) (ht : tie L P E B) (hv : Kn (L ++ P) v xs) (hC : (fl (cP kl P :: bs)).Perm (wR kd a N B ++ rest)) (hN : ∀ B', (wsn B').Perm (wR kd a N B' ++ rest)) (hdg : decode cc pc = .ok (.aastore, 1)) (hF : (rst E N i xs).bind kf = some o) (kk : ∀ E' B', rst E N i xs = some E' → tie L P E' B' → kf E' = some o → aT p l e R s m args below meth c Q D A nL k n (pc + 1) lv st (wsn B')) : aT p l e R s m args below meth c Q D A nL k n pc lv (.ref v :: .int i :: .ref a :: st) (fl (cP kl P :: bs)) := by
  obtain ⟨E', h1, hF⟩ := bd hF
  obtain ⟨hi, hE⟩ := chk h1
  have ht' : tie L P E' (va_up B i.toNatClampNeg (some v)) := by
    intro j ys hj
    rw [hE] at hj
    unfold va_up at hj ⊢
    by_cases e : j = i.toNatClampNeg
    · rw [if_pos e] at hj ⊢
      cases hj
      exact ⟨v, rfl, hv⟩
    · rw [if_neg e] at hj ⊢
      exact ht j ys hj
  have hr : ∀ (H : Heap) (locs : List Loc), va_P D vwCl (fl (cP kl P :: bs)) H → va_D A (fl (cP kl P :: bs)) → va_S A s.heap H locs → ∃ cell : Cell, H[v]? = some cell ∧ cell.vm.isStatics = false ∧ s.vm.findClass RJ0 = some cell.cls := by
    obtain ⟨q, hq, rfl, -⟩ := hv
    exact gqp C hq
  intro H locs ls hP hD hS hl
  obtain ⟨cellV, g1, g2, g3⟩ := hr H locs hP hD hS
  have hPr := p_sub hP (hC.trans List.perm_append_comm)
  have hP0 : va_P D vwCl (wR kd a N B ++ rest) H := p_of fun x hx => p_in hP x (hC.mem_iff.mpr hx)
  have hD0 : va_D A (wR kd a N B ++ rest) := d_sub (rest := []) hD (by rw [List.append_nil]; exact hC)
  have h0 : ¬ i < 0 := fun q => hi (Or.inl q)
  have hlt : i.toNatClampNeg < N := Nat.not_le.mp fun q => hi (Or.inr q)
  have hcls := (C.2.1.1.1 7 (RJ0, TJ0, 4) rfl).2
  obtain ⟨kA, comp, k1, k2, k3, -⟩ := (C.2.1.1.2 4 (kd, .object RJ0) rfl).2
  have hcomp : comp = D.1 7 := Option.some.inj (k3.symm.trans hcls.1)
  subst hcomp
  have hcv : cellV.cls = D.1 7 := Option.some.inj (g3.symm.trans hcls.1)
  obtain ⟨kC, hkC, -⟩ := hcls.2
  refine W.aast C.1.1 C.1.2.1 (hP0 0 _ rfl) (fun q h => by cases h) (fun h => by cases h) k1 k2 rfl hkC ⟨h0, by show _ < (arrV _ _ _).slots.size; rw [arrV_size]; exact hlt⟩ g1 (fun q h => by rw [h] at g2; cases g2) (by rw [hcv]; exact hkC) (by rw [hcv]; exact va_assign hcls) rfl rfl hdg fun H1 e z oq => ?_
  have hP1 := hP0.set hD0 (p := 0) (a := a) (e := .inl (kd, N, .inr (.inr (.inr (.inr (va_up B i.toNatClampNeg (some v))))))) rfl (by
    show H1[a]? = some (vp_cell _ _)
    rw [e]
    rw [vp_cell_q, vp_cell_q, arrV_store]
    congr 2
    funext q
    by_cases hq : q = i.toNatClampNeg
    · subst hq
      simp [updV, va_up, va_rf]
    · simp [updV, va_up, hq]) oq
  have hD1 := hD0.set (p := 0) (a := a) (e := .inl (kd, N, .inr (.inr (.inr (.inr (va_up B i.toNatClampNeg (some v))))))) rfl
  have hp := (hN (va_up B i.toNatClampNeg (some v))).symm
  exact kk E' _ h1 ht' hF H1 _ ls (p_of fun x hx => p_in hP1 x (hp.mem_iff.mpr hx)) (d_sub (rest := []) hD1 (by rw [List.append_nil]; exact hp)) (hS.put z oq (hD0.2 0 _ rfl)) hl
theorem u_iald (C : aC p s m args meth c cc nL own WW D (X, L) (aTy kc ki kb kl kd) A) {a N : Nat} {f : Nat → Int32} {i : Int32} {α : Type} {o : α} {kf : Int32 → Option α} {rest : va_W} (hC : (fl (cP kl P :: bs)).Perm (wI ki a N f ++ rest)) (hdg : decode cc pc = .ok (.iaload, 1)) (hF : (ldi f N i).bind kf = some o) (kk : ∀ x, ldi f N i = some x → kf x = some o → aT p l e R s m args below meth c Q D A nL k n (pc + 1) lv (.int x :: st) (fl (cP kl P :: bs))) : aT p l e R s m args below meth c Q D A nL k n pc lv (.int i :: .ref a :: st) (fl (cP kl P :: bs)) := g_ws C hC (a_iald C 0 1 rfl rfl hdg hF (fun x h1 h2 => g_ws C hC.symm (kk x h1 h2)))
theorem u_iast (C : aC p s m args meth c cc nL own WW D (X, L) (aTy kc ki kb kl kd) A) {a N : Nat} {f : Nat → Int32} {i x : Int32} {α : Type} {o : α} {kf : (Nat → Int32) → Option α} {rest : va_W} (wsn : (Nat → Int32) → va_W) (hC : (fl (cP kl P :: bs)).Perm (wI ki a N f ++ rest)) (hN : ∀ g, (wsn g).Perm (wI ki a N g ++ rest)) (hdg : decode cc pc = .ok (.iastore, 1)) (hF : (sti f N i x).bind kf = some o) (kk : ∀ g, sti f N i x = some g → kf g = some o → aT p l e R s m args below meth c Q D A nL k n (pc + 1) lv st (wsn g)) : aT p l e R s m args below meth c Q D A nL k n pc lv (.int x :: .int i :: .ref a :: st) (fl (cP kl P :: bs)) := g_ws C hC (a_iast C 0 1 rfl rfl hdg hF (fun g h1 h2 => g_ws C (hN g).symm (kk g h1 h2)))
end LT
def aLi {ρ : Type} (l : Launch) (y : MethodName) (wy : List Cond) (rm : Room) (D : va_G) (J : JT) (tys : List (ClassId × FieldType)) (av : List Value) (w0 : va_W) (gv : ρ → Int32) (gw : ρ → va_W) (res : ρ) (mc ms : Nat) : Prop := ∀ sz : Nat, Met l y wy rm (aPc D J tys av w0 sz) (aQi D w0 sz gv gw res) mc ms (va_A w0 sz)
def aLv {ρ : Type} (l : Launch) (y : MethodName) (wy : List Cond) (rm : Room) (D : va_G) (J : JT) (tys : List (ClassId × FieldType)) (av : List Value) (w0 : va_W) (gw : ρ → va_W) (res : ρ) (mc ms : Nat) : Prop := ∀ sz : Nat, Met l y wy rm (aPc D J tys av w0 sz) (aQv D w0 sz gw res) mc ms (va_A w0 sz)
def aQt {ρ : Type} (kl : ClassId) (L : List TX) (D : va_G) (w0 : va_W) (sz : Nat) (gv : ρ → List Int32) (gw : ρ → va_W) (res : ρ) : Array Value → State → Outcome → State → Prop := va_Qr (fun _ : List TX => True) (fun p1 a t => Kn (L ++ p1) a (gv res) ∧ aB D w0 (gw res ++ cP kl p1) sz t) (va_A w0 sz)
def aLt {ρ : Type} (kl : ClassId) (l : Launch) (y : MethodName) (wy : List Cond) (rm : Room) (D : va_G) (J : JT) (tys : List (ClassId × FieldType)) (av : List Value) (w0 : va_W) (gv : ρ → List Int32) (gw : ρ → va_W) (res : ρ) (mc ms : Nat) : Prop := ∀ sz : Nat, Met l y wy rm (aPc D J tys av w0 sz) (aQt kl J.2 D w0 sz gv gw res) mc ms (va_A w0 sz)
theorem aLi_of {ρ : Type} {l : Launch} {y : MethodName} {rm : Room} {cc : ByteArray} {maxL : Nat} {ret : Option FieldType} {D : va_G} {J : JT} {tys : List (ClassId × FieldType)} {av : List Value} {w0 : va_W} {gw : ρ → va_W} {res : ρ} {mc ms : Nat} {lv : List (Nat × Value)} {own : String} {gv : ρ → Int32} (hy : plainName y.cls = true) (hown : y.cls = own) (hlen : (lg_sl av).length ≤ maxL) (hlv : lv_args 0 av = lv) (body : ∀ (p : Program) (e : Env) (s : State) (m : MethodId) (args : Array Value) (below : List Frame) (meth : Method) (c : Code), aC p s m args meth c cc maxL own WW D J tys (va_A w0 s.heap.size) → meth.sig.returnType = ret → aT p l e rm s m args below meth c (MQ below (aQi D w0 s.heap.size gv gw res) args s mc ms (va_A w0 s.heap.size)) D (va_A w0 s.heap.size) maxL 0 0 0 lv [] w0) : aLi l y (aW y cc maxL ret) rm D J tys av w0 gv gw res mc ms := by
  intro sz
  refine Met.ofW hy rfl ?_
  intro p e s m args below meth c s₁ B hml hv
  obtain ⟨rfl, hsz, hP, hU, hD0, hG0⟩ := hv
  subst hsz
  have hl := lv_entry av hlen
  rw [lg_entry_eq]
  have hts := atoms_spec (ws := aW y cc maxL ret) B.pre
  have hfc := findClass_of_methodNamed B.named
  rw [hown] at hfc
  rw [hlv] at hl
  exact body p e s m _ below meth c ⟨⟨B.exec, B.bytes, hml, hfc, fun w hw => hts w (List.mem_cons_of_mem _ hw)⟩, hU, B.notSynchronized, fun q h => Or.inr h, hG0⟩ B.returns s.heap [] _ hP hD0.self va_S.rf hl
theorem aLv_of {ρ : Type} {l : Launch} {y : MethodName} {rm : Room} {cc : ByteArray} {maxL : Nat} {ret : Option FieldType} {D : va_G} {J : JT} {tys : List (ClassId × FieldType)} {av : List Value} {w0 : va_W} {gw : ρ → va_W} {res : ρ} {mc ms : Nat} {lv : List (Nat × Value)} {own : String} (hy : plainName y.cls = true) (hown : y.cls = own) (hlen : (lg_sl av).length ≤ maxL) (hlv : lv_args 0 av = lv) (body : ∀ (p : Program) (e : Env) (s : State) (m : MethodId) (args : Array Value) (below : List Frame) (meth : Method) (c : Code), aC p s m args meth c cc maxL own WW D J tys (va_A w0 s.heap.size) → meth.sig.returnType = ret → aT p l e rm s m args below meth c (MQ below (aQv D w0 s.heap.size gw res) args s mc ms (va_A w0 s.heap.size)) D (va_A w0 s.heap.size) maxL 0 0 0 lv [] w0) : aLv l y (aW y cc maxL ret) rm D J tys av w0 gw res mc ms := by
  intro sz
  refine Met.ofW hy rfl ?_
  intro p e s m args below meth c s₁ B hml hv
  obtain ⟨rfl, hsz, hP, hU, hD0, hG0⟩ := hv
  subst hsz
  have hl := lv_entry av hlen
  rw [lg_entry_eq]
  have hts := atoms_spec (ws := aW y cc maxL ret) B.pre
  have hfc := findClass_of_methodNamed B.named
  rw [hown] at hfc
  rw [hlv] at hl
  exact body p e s m _ below meth c ⟨⟨B.exec, B.bytes, hml, hfc, fun w hw => hts w (List.mem_cons_of_mem _ hw)⟩, hU, B.notSynchronized, fun q h => Or.inr h, hG0⟩ B.returns s.heap [] _ hP hD0.self va_S.rf hl
theorem aLt_of {ρ : Type} {l : Launch} {y : MethodName} {rm : Room} {cc : ByteArray} {maxL : Nat} {ret : Option FieldType} {D : va_G} {J : JT} {tys : List (ClassId × FieldType)} {av : List Value} {w0 : va_W} {gw : ρ → va_W} {res : ρ} {mc ms : Nat} {lv : List (Nat × Value)} {own : String} {gv : ρ → List Int32} {kl : ClassId} (hy : plainName y.cls = true) (hown : y.cls = own) (hlen : (lg_sl av).length ≤ maxL) (hlv : lv_args 0 av = lv) (body : ∀ (p : Program) (e : Env) (s : State) (m : MethodId) (args : Array Value) (below : List Frame) (meth : Method) (c : Code), aC p s m args meth c cc maxL own WW D J tys (va_A w0 s.heap.size) → meth.sig.returnType = ret → aT p l e rm s m args below meth c (MQ below (aQt kl J.2 D w0 s.heap.size gv gw res) args s mc ms (va_A w0 s.heap.size)) D (va_A w0 s.heap.size) maxL 0 0 0 lv [] w0) : aLt kl l y (aW y cc maxL ret) rm D J tys av w0 gv gw res mc ms := by
  intro sz
  refine Met.ofW hy rfl ?_
  intro p e s m args below meth c s₁ B hml hv
  obtain ⟨rfl, hsz, hP, hU, hD0, hG0⟩ := hv
  subst hsz
  have hl := lv_entry av hlen
  rw [lg_entry_eq]
  have hts := atoms_spec (ws := aW y cc maxL ret) B.pre
  have hfc := findClass_of_methodNamed B.named
  rw [hown] at hfc
  rw [hlv] at hl
  exact body p e s m _ below meth c ⟨⟨B.exec, B.bytes, hml, hfc, fun w hw => hts w (List.mem_cons_of_mem _ hw)⟩, hU, B.notSynchronized, fun q h => Or.inr h, hG0⟩ B.returns s.heap [] _ hP hD0.self va_S.rf hl
section LE
variable {p : Program} {l : Launch} {e : Env} {R : Room} {s : State} {m : MethodId} {args : Array Value} {below : List Frame} {meth : Method} {c : Code} {Q : State → Prop} {D : va_G} {X : Nat × Nat × (Nat → Int32)} {L P : List TX} {bs : List va_W} {kc ki kb kl kd : ClassId} {A : Nat → Prop} {nL k n : Nat} {cc : ByteArray} {own : String} {pc : Nat} {lv : List (Nat × Value)} {st : List Value}
theorem l_iret {ρ : Type} {gv : ρ → Int32} {gw : ρ → va_W} {rv res : ρ} {w0 rest ws : va_W} {ty : FieldType} {v : Int32} {mc ms : Nat} (C : aC p s m args meth c cc nL own WW D (X, L) (aTy kc ki kb kl kd) (va_A w0 s.heap.size)) (hr : meth.sig.returnType = some ty) (hn : narrow ty (.int v) = .int v) (hdg : decode cc pc = .ok (.ireturn, 1)) (hkm : k ≤ mc ∧ n ≤ ms) (hF : some rv = some res) (hv : gv rv = v) (hw : ws.Perm (gw rv ++ rest)) : aT p l e R s m args below meth c (MQ below (aQi D w0 s.heap.size gv gw res) args s mc ms (va_A w0 s.heap.size)) D (va_A w0 s.heap.size) nL k n pc lv [.int v] ws := by
  cases hF
  subst hv
  exact fun H locs ls hP hD hS hl => W.widen hkm.1 hkm.2 (W.zret C.1.1 C.1.2.1 hr hn (fun t ht hW => ⟨⟨_, (), rfl, rfl, by rw [ht]; exact p_sub hP hw, d_sub hD hw⟩, hS.F ht⟩) hS.2.2 hdg C.2.2.1)
theorem l_vret {ρ : Type} {gw : ρ → va_W} {rv res : ρ} {w0 rest ws : va_W} {mc ms : Nat} (C : aC p s m args meth c cc nL own WW D (X, L) (aTy kc ki kb kl kd) (va_A w0 s.heap.size)) (hr : meth.sig.returnType = none) (hdg : decode cc pc = .ok (.return_, 1)) (hkm : k ≤ mc ∧ n ≤ ms) (hF : some rv = some res) (hw : ws.Perm (gw rv ++ rest)) : aT p l e R s m args below meth c (MQ below (aQv D w0 s.heap.size gw res) args s mc ms (va_A w0 s.heap.size)) D (va_A w0 s.heap.size) nL k n pc lv [] ws := by
  cases hF
  exact fun H locs ls hP hD hS hl => W.widen hkm.1 hkm.2 (W.vret C.1.1 C.1.2.1 hr (fun t ht hW => ⟨⟨(), rfl, trivial, by rw [ht]; exact p_sub hP hw, d_sub hD hw⟩, hS.F ht⟩) hS.2.2 hdg C.2.2.1)
theorem l_tret {ρ : Type} {gv : ρ → List Int32} {gw : ρ → va_W} {rv res : ρ} {w0 rest : va_W} {cn : String} {a : Nat} {mc ms : Nat} (C : aC p s m args meth c cc nL own WW D (X, L) (aTy kc ki kb kl kd) (va_A w0 s.heap.size)) (hr : meth.sig.returnType = some (.object cn)) (hdg : decode cc pc = .ok (.areturn, 1)) (hkm : k ≤ mc ∧ n ≤ ms) (hF : some rv = some res) (hv : Kn (L ++ P) a (gv rv)) (hw : (fl (cP kl P :: bs)).Perm ((gw rv ++ cP kl P) ++ rest)) : aT p l e R s m args below meth c (MQ below (aQt kl L D w0 s.heap.size gv gw res) args s mc ms (va_A w0 s.heap.size)) D (va_A w0 s.heap.size) nL k n pc lv [.ref a] (fl (cP kl P :: bs)) := by
  cases hF
  exact fun H locs ls hP hD hS hl => W.widen hkm.1 hkm.2 (W.aret C.1.1 C.1.2.1 hr (Or.inl ⟨_, rfl⟩) (Or.inr ⟨_, rfl⟩) (fun t ht hW => ⟨⟨P, a, rfl, trivial, hv, by rw [ht]; exact p_sub hP hw, d_sub hD hw⟩, hS.F ht⟩) hS.2.2 hdg C.2.2.1)
theorem pool_out {b w : va_W} {rs : List va_W} (h : (fl (b :: bs)).Perm (w ++ fl (b :: rs))) : (fl (b :: bs)).Perm ((w ++ b) ++ fl rs) := by
  refine h.trans ?_
  rw [List.append_assoc, fl_flat, fl_flat, List.flatten_cons]
theorem v_Si {ρ α : Type} {o : α} {fy : Option ρ} {kf : ρ → Option α} (C : aC p s m args meth c cc nL own WW D (X, L) (aTy kc ki kb kl kd) A) {y : MethodName} {b : ByteArray} {mL mc1 ms1 : Nat} {ret : Option FieldType} {rm : Room} {idx : Nat} {As stk : List Value} {w0 : va_W} {gv : ρ → Int32} {gw : ρ → va_W} {rs : List va_W} (cnt : Nat) (bsn : ρ → List va_W) (hG : GoodIn WW (va_wsS own idx y (aW y b mL ret))) (hd : y.cls ≠ "java/lang/invoke/MethodHandle" ∧ y.cls ≠ "java/lang/invoke/VarHandle" ∧ (parseMethodDescriptor y.desc).map (fun d => d.parameters.length) = some cnt) (hrm : rm.cells = mc1 ∧ rm.slots = ms1) (hR : rm.frames + 1 ≤ R.frames ∧ 8 + (mL + 11) + rm.locals ≤ R.locals) (hM : ∀ r, fy = some r → aLi l y (aW y b mL ret) rm D (X, L ++ P) (aTy kc ki kb kl kd) As w0 gv gw r mc1 ms1) (hC : (fl (cP kl P :: bs)).Perm (w0 ++ fl (cP kl P :: rs))) (hN : ∀ r, (fl (cP kl P :: bsn r)).Perm (gw r ++ fl (cP kl P :: rs))) (hst : stk = As.reverse ++ st) (hn : As.length = cnt) (hcat : (st.map fun v => v.category).sum ≤ 8) (hdg : decode cc pc = .ok (.invokestatic idx, 3)) (hkn : k + mc1 ≤ R.cells ∧ n + ms1 ≤ R.slots) (hF : fy.bind kf = some o) (kk : ∀ r, fy = some r → kf r = some o → aT p l e R s m args below meth c Q D A nL (k + mc1) (n + ms1) (pc + 3) lv (.int (gv r) :: st) (fl (cP kl P :: bsn r))) : aT p l e R s m args below meth c Q D A nL k n pc lv stk (fl (cP kl P :: bs)) := by
  obtain ⟨r, h1, hF2⟩ := bd hF
  exact g_Si (J1 := (X, L ++ P)) (v := gv r) (w1 := gw r) C cnt _ (fl (cP kl P :: bsn r)) hG hd (gp C hC hin_of) hrm hR (hM r h1) hC (hN r) hst hn hcat hdg hkn (kk r h1 hF2)
theorem v_Sir {ρ α : Type} {o : α} {fy : Option ρ} {kf : ρ → Option α} (C : aC p s m args meth c cc nL own WW D (X, L) (aTy kc ki kb kl kd) A) {y : MethodName} {b : ByteArray} {mL mc1 ms1 : Nat} {ret : Option FieldType} {rm : Room} {idx : Nat} {As stk : List Value} {w0 : va_W} {gv : ρ → Int32} {rs : List va_W} (cnt : Nat) (hG : GoodIn WW (va_wsS own idx y (aW y b mL ret))) (hd : y.cls ≠ "java/lang/invoke/MethodHandle" ∧ y.cls ≠ "java/lang/invoke/VarHandle" ∧ (parseMethodDescriptor y.desc).map (fun d => d.parameters.length) = some cnt) (hrm : rm.cells = mc1 ∧ rm.slots = ms1) (hR : rm.frames + 1 ≤ R.frames ∧ 8 + (mL + 11) + rm.locals ≤ R.locals) (hM : ∀ r, fy = some r → aLi l y (aW y b mL ret) rm D (X, L ++ P) (aTy kc ki kb kl kd) As w0 gv (fun _ => w0) r mc1 ms1) (hC : (fl (cP kl P :: bs)).Perm (w0 ++ fl (cP kl P :: rs))) (hst : stk = As.reverse ++ st) (hn : As.length = cnt) (hcat : (st.map fun v => v.category).sum ≤ 8) (hdg : decode cc pc = .ok (.invokestatic idx, 3)) (hkn : k + mc1 ≤ R.cells ∧ n + ms1 ≤ R.slots) (hF : fy.bind kf = some o) (kk : ∀ r, fy = some r → kf r = some o → aT p l e R s m args below meth c Q D A nL (k + mc1) (n + ms1) (pc + 3) lv (.int (gv r) :: st) (fl (cP kl P :: bs))) : aT p l e R s m args below meth c Q D A nL k n pc lv stk (fl (cP kl P :: bs)) := by
  obtain ⟨r, h1, hF2⟩ := bd hF
  exact g_Si (J1 := (X, L ++ P)) (v := gv r) (w1 := w0) C cnt _ (fl (cP kl P :: bs)) hG hd (gp C hC hin_of) hrm hR (hM r h1) hC hC hst hn hcat hdg hkn (kk r h1 hF2)
theorem v_Sh {ρ α : Type} {o : α} {fy : Option ρ} {kf : ρ → Option α} (C : aC p s m args meth c cc nL own WW D (X, L) (aTy kc ki kb kl kd) A) {y : MethodName} {b : ByteArray} {mL mc1 ms1 : Nat} {ret : Option FieldType} {hh : List (Nat × Nat × Nat × Nat)} {rm : Room} {idx : Nat} {As stk : List Value} {w0 : va_W} {gv : ρ → Int32} {gw : ρ → va_W} {rs : List va_W} (cnt : Nat) (bsn : ρ → List va_W) (hG : GoodIn WW (va_wsS own idx y (aWh y b mL ret hh))) (hd : y.cls ≠ "java/lang/invoke/MethodHandle" ∧ y.cls ≠ "java/lang/invoke/VarHandle" ∧ (parseMethodDescriptor y.desc).map (fun d => d.parameters.length) = some cnt) (hrm : rm.cells = mc1 ∧ rm.slots = ms1) (hR : rm.frames + 1 ≤ R.frames ∧ 8 + (mL + 11) + rm.locals ≤ R.locals) (hM : ∀ r, fy = some r → aKt l y (aWh y b mL ret hh) rm D (X, L ++ P) (aTy kc ki kb kl kd) As w0 gv gw r mc1 ms1) (hC : (fl (cP kl P :: bs)).Perm (w0 ++ fl (cP kl P :: rs))) (hN : ∀ r, (fl (cP kl P :: bsn r)).Perm (gw r ++ fl (cP kl P :: rs))) (hst : stk = As.reverse ++ st) (hn : As.length = cnt) (hcat : (st.map fun v => v.category).sum ≤ 8) (hdg : decode cc pc = .ok (.invokestatic idx, 3)) (hkn : k + mc1 ≤ R.cells ∧ n + ms1 ≤ R.slots) (hF : fy.bind kf = some o) (kk : ∀ r, fy = some r → kf r = some o → aT p l e R s m args below meth c Q D A nL (k + mc1) (n + ms1) (pc + 3) lv (.int (gv r) :: st) (fl (cP kl P :: bsn r))) : aT p l e R s m args below meth c Q D A nL k n pc lv stk (fl (cP kl P :: bs)) := h_Si (J1 := (X, L ++ P)) C cnt (fun r => fl (cP kl P :: bsn r)) hG hd (gp C hC hin_of) hrm hR hM hC hN hst hn hcat hdg hkn hF kk
theorem v_Shr {ρ α : Type} {o : α} {fy : Option ρ} {kf : ρ → Option α} (C : aC p s m args meth c cc nL own WW D (X, L) (aTy kc ki kb kl kd) A) {y : MethodName} {b : ByteArray} {mL mc1 ms1 : Nat} {ret : Option FieldType} {hh : List (Nat × Nat × Nat × Nat)} {rm : Room} {idx : Nat} {As stk : List Value} {w0 : va_W} {gv : ρ → Int32} {rs : List va_W} (cnt : Nat) (hG : GoodIn WW (va_wsS own idx y (aWh y b mL ret hh))) (hd : y.cls ≠ "java/lang/invoke/MethodHandle" ∧ y.cls ≠ "java/lang/invoke/VarHandle" ∧ (parseMethodDescriptor y.desc).map (fun d => d.parameters.length) = some cnt) (hrm : rm.cells = mc1 ∧ rm.slots = ms1) (hR : rm.frames + 1 ≤ R.frames ∧ 8 + (mL + 11) + rm.locals ≤ R.locals) (hM : ∀ r, fy = some r → aKt l y (aWh y b mL ret hh) rm D (X, L ++ P) (aTy kc ki kb kl kd) As w0 gv (fun _ => w0) r mc1 ms1) (hC : (fl (cP kl P :: bs)).Perm (w0 ++ fl (cP kl P :: rs))) (hst : stk = As.reverse ++ st) (hn : As.length = cnt) (hcat : (st.map fun v => v.category).sum ≤ 8) (hdg : decode cc pc = .ok (.invokestatic idx, 3)) (hkn : k + mc1 ≤ R.cells ∧ n + ms1 ≤ R.slots) (hF : fy.bind kf = some o) (kk : ∀ r, fy = some r → kf r = some o → aT p l e R s m args below meth c Q D A nL (k + mc1) (n + ms1) (pc + 3) lv (.int (gv r) :: st) (fl (cP kl P :: bs))) : aT p l e R s m args below meth c Q D A nL k n pc lv stk (fl (cP kl P :: bs)) := h_Si (J1 := (X, L ++ P)) C cnt (fun r => fl (cP kl P :: bs)) hG hd (gp C hC hin_of) hrm hR hM hC (fun _ => hC) hst hn hcat hdg hkn hF kk
theorem v_Sv {ρ α : Type} {o : α} {fy : Option ρ} {kf : ρ → Option α} (C : aC p s m args meth c cc nL own WW D (X, L) (aTy kc ki kb kl kd) A) {y : MethodName} {b : ByteArray} {mL mc1 ms1 : Nat} {ret : Option FieldType} {rm : Room} {idx : Nat} {As stk : List Value} {w0 : va_W} {gw : ρ → va_W} {rs : List va_W} (cnt : Nat) (bsn : ρ → List va_W) (hG : GoodIn WW (va_wsS own idx y (aW y b mL ret))) (hd : y.cls ≠ "java/lang/invoke/MethodHandle" ∧ y.cls ≠ "java/lang/invoke/VarHandle" ∧ (parseMethodDescriptor y.desc).map (fun d => d.parameters.length) = some cnt) (hrm : rm.cells = mc1 ∧ rm.slots = ms1) (hR : rm.frames + 1 ≤ R.frames ∧ 8 + (mL + 11) + rm.locals ≤ R.locals) (hM : ∀ r, fy = some r → aLv l y (aW y b mL ret) rm D (X, L ++ P) (aTy kc ki kb kl kd) As w0 gw r mc1 ms1) (hC : (fl (cP kl P :: bs)).Perm (w0 ++ fl (cP kl P :: rs))) (hN : ∀ r, (fl (cP kl P :: bsn r)).Perm (gw r ++ fl (cP kl P :: rs))) (hst : stk = As.reverse ++ st) (hn : As.length = cnt) (hcat : (st.map fun v => v.category).sum ≤ 8) (hdg : decode cc pc = .ok (.invokestatic idx, 3)) (hkn : k + mc1 ≤ R.cells ∧ n + ms1 ≤ R.slots) (hF : fy.bind kf = some o) (kk : ∀ r, fy = some r → kf r = some o → aT p l e R s m args below meth c Q D A nL (k + mc1) (n + ms1) (pc + 3) lv (st) (fl (cP kl P :: bsn r))) : aT p l e R s m args below meth c Q D A nL k n pc lv stk (fl (cP kl P :: bs)) := by
  obtain ⟨r, h1, hF2⟩ := bd hF
  subst hst
  intro H locs ls hP hD hS hl
  have hts := C.1.2.2.2.2
  have hPc : va_P D vwCl w0 H := p_sub hP hC
  have hDc : va_D A w0 := d_sub hD hC
  have hFc := p_free (wc := w0) hD hS C.2.2.2.1 hC
  have hJ := gp C hC hin_of
  refine va_callv (va_runS (As := As) (rest := st) C.1 (hM r h1 H.size) (va_cwS cnt hts hG rfl hrm.1 hrm.2 hd hR) ⟨aPc_blind, fun U hU hW => ⟨rfl, by rw [hU], by rw [hU]; exact hPc, C.2.1.warm hW, hDc.weaken (fun _ _ _ _ => trivial), by rw [hU]; exact (hJ H locs hP hD hS hFc).warm hW⟩⟩ rfl hn hl.1 rfl (lv_room hcat) hdg hkn) hS (fun q _ h => hFc q h) hFc (fun u t H1 locs1 ht hvm hw hB hz1 hk1 hS1 => ?_)
  obtain ⟨hP1, hD1⟩ := hB
  rw [ht] at hP1
  obtain ⟨hP, hD⟩ := p_join hP hD hC (hN r) hFc hk1 hP1 hD1
  exact kk r h1 hF2 H1 locs1 ls hP hD hS1 hl
theorem v_Sr {ρ α : Type} {o : α} {fy : Option ρ} {kf : ρ → Option α} (C : aC p s m args meth c cc nL own WW D (X, L) (aTy kc ki kb kl kd) A) {y : MethodName} {b : ByteArray} {mL mc1 ms1 : Nat} {ret : Option FieldType} {rm : Room} {idx : Nat} {As stk : List Value} {w0 : va_W} {gv : ρ → List Int32} {rs : List va_W} (cnt : Nat) (hG : GoodIn WW (va_wsS own idx y (aW y b mL ret))) (hd : y.cls ≠ "java/lang/invoke/MethodHandle" ∧ y.cls ≠ "java/lang/invoke/VarHandle" ∧ (parseMethodDescriptor y.desc).map (fun d => d.parameters.length) = some cnt) (hrm : rm.cells = mc1 ∧ rm.slots = ms1) (hR : rm.frames + 1 ≤ R.frames ∧ 8 + (mL + 11) + rm.locals ≤ R.locals) (hM : ∀ r, fy = some r → aLt kl l y (aW y b mL ret) rm D (X, L ++ P) (aTy kc ki kb kl kd) As w0 gv (fun _ => w0) r mc1 ms1) (hC : (fl (cP kl P :: bs)).Perm (w0 ++ fl (cP kl P :: rs))) (hst : stk = As.reverse ++ st) (hn : As.length = cnt) (hcat : (st.map fun v => v.category).sum ≤ 8) (hdg : decode cc pc = .ok (.invokestatic idx, 3)) (hkn : k + mc1 ≤ R.cells ∧ n + ms1 ≤ R.slots) (hF : fy.bind kf = some o) (kk : ∀ r a1 p1, fy = some r → Kn (L ++ (P ++ p1)) a1 (gv r) → kf r = some o → aT p l e R s m args below meth c Q D A nL (k + mc1) (n + ms1) (pc + 3) lv (.ref a1 :: st) (fl (cP kl (P ++ p1) :: bs))) : aT p l e R s m args below meth c Q D A nL k n pc lv stk (fl (cP kl P :: bs)) := by
  obtain ⟨r, h1, hF2⟩ := bd hF
  exact g_Sr (J1 := (X, L ++ P)) (S := List TX) (pa := fun p1 a => Kn ((L ++ P) ++ p1) a (gv r)) (w1 := fun p1 _ => w0 ++ cP kl p1) C cnt _ (fun p1 _ => fl (cP kl (P ++ p1) :: bs)) hG hd (gp C hC hin_of) hrm hR (hM r h1) hC (fun p1 _ => pool_grow hC) hst hn hcat hdg hkn (fun p1 a1 ha => kk r a1 p1 h1 (Kn.s ha) hF2)
end LE
