/-! ROWS OF THE LAW: methods with a table of handlers that catch all (aKt), calls inside a try, longs and doubles -/
def aWh (y : MethodName) (b : ByteArray) (n : Nat) (ret : Option FieldType) (hh : List (Nat × Nat × Nat × Nat)) : List Cond := Cond.codeWith y b n ret hh :: WW
theorem good_ch (y : MethodName) (b : ByteArray) (n : Nat) (ret : Option FieldType) (hh : List (Nat × Nat × Nat × Nat)) (h : Cond.codeWith y b n ret hh ∈ WW) : GoodIn WW (aWh y b n ret hh) := fun w hw => by
  rcases List.mem_cons.mp hw with rfl | hw
  · exact ⟨h, good_of_word (WW_good _ h)⟩
  · exact ⟨hw, good_of_word (WW_good _ hw)⟩
theorem gdSh {own : String} {idx : Nat} {y : MethodName} {b : ByteArray} {n : Nat} {ret : Option FieldType} {hh : List (Nat × Nat × Nat × Nat)} (h1 : Cond.methodLink own idx y ∈ WW) (h2 : Cond.static y ∈ WW) (h4 : Cond.initialized y.cls ∈ WW) (h5 : Cond.codeWith y b n ret hh ∈ WW) : GoodIn WW (va_wsS own idx y (aWh y b n ret hh)) := fun w hw => by
  rcases List.mem_append.mp hw with hw | hw
  · simp only [List.mem_cons, List.not_mem_nil, or_false] at hw
    rcases hw with rfl | rfl | rfl
    · exact ⟨h1, good_of_word (WW_good _ h1)⟩
    · exact ⟨h2, good_of_word (WW_good _ h2)⟩
    · exact ⟨h4, good_of_word (WW_good _ h4)⟩
  · exact good_ch _ _ _ _ _ h5 w hw
def aXf (w0 : va_W) (sz : Nat) : String → State → State → Prop := vx_X (fun (_ : Unit) => False) (fun _ _ _ => True) (va_A w0 sz)
def aKt {ρ : Type} (l : Launch) (y : MethodName) (wy : List Cond) (rm : Room) (D : va_G) (J : (Nat → Nat) × (Nat → Nat)) (tys : List (ClassId × FieldType)) (av : List Value) (w0 : va_W) (gv : ρ → Int32) (gw : ρ → va_W) (res : ρ) (mc ms : Nat) : Prop := ∀ sz : Nat, vx_Met l y wy rm (aPc D J tys av w0 sz) (aQi D w0 sz gv gw res) (aXf w0 sz) mc ms (va_A w0 sz)
theorem aKt_of {ρ : Type} {l : Launch} {y : MethodName} {rm : Room} {cc : ByteArray} {maxL : Nat} {ret : Option FieldType} {hh : List (Nat × Nat × Nat × Nat)} {D : va_G} {J : (Nat → Nat) × (Nat → Nat)} {tys : List (ClassId × FieldType)} {av : List Value} {w0 : va_W} {gv : ρ → Int32} {gw : ρ → va_W} {res : ρ} {lv : List (Nat × Value)} {own : String} {mc ms : Nat} (hy : plainName y.cls = true) (hown : y.cls = own) (hlen : (lg_sl av).length ≤ maxL) (hlv : lv_args 0 av = lv) (body : ∀ (p : Program) (e : Env) (s : State) (m : MethodId) (args : Array Value) (below : List Frame) (meth : Method) (c : Code), aC p s m args meth c cc maxL own WW D J tys (va_A w0 s.heap.size) → meth.sig.returnType = ret → c.exceptionTable.toList = tableOf hh → aT p l e rm s m args below meth c (vx_MQ below (aQi D w0 s.heap.size gv gw res) (aXf w0 s.heap.size) args s mc ms (va_A w0 s.heap.size)) D (va_A w0 s.heap.size) maxL 0 0 0 lv [] w0) : aKt l y (aWh y cc maxL ret hh) rm D J tys av w0 gv gw res mc ms := by
  intro sz
  refine vx_ofWH hy rfl ?_
  intro p e s m args below meth c s₁ B hml hv
  obtain ⟨rfl, hsz, hP, hU, hD0, hG0⟩ := hv
  subst hsz
  have hl := lv_entry av hlen
  rw [lg_entry_eq]
  have hts := atoms_spec (ws := aWh y cc maxL ret hh) B.pre
  have hfc := findClass_of_methodNamed B.named
  rw [hown] at hfc
  rw [hlv] at hl
  exact body p e s m _ below meth c ⟨⟨B.exec, B.bytes, hml, hfc, fun w hw => hts w (List.mem_cons_of_mem _ hw)⟩, hU, B.notSynchronized, fun q h => Or.inr h, hG0⟩ B.returns (vx_table (x := y) B (hts _ List.mem_cons_self)) s.heap [] _ hP hD0.self va_S.rf hl
section LR
variable {p : Program} {l : Launch} {e : Env} {R : Room} {s : State} {m : MethodId} {args : Array Value} {below : List Frame} {meth : Method} {c : Code} {Q : State → Prop} {D : va_G} {J : (Nat → Nat) × (Nat → Nat)} {tys : List (ClassId × FieldType)} {A : Nat → Prop} {nL k n : Nat} {cc : ByteArray} {own : String} {pc : Nat} {lv : List (Nat × Value)} {st : List Value} {ws : va_W}
def lcv (x y : Int64) : Int32 := if y < x then 1 else if x = y then 0 else -1
theorem lv_lcmp {H : Heap} {locs : List Loc} {cells slots : Nat} {ls : Array Slot} {rest : List Value} (hexec : p.tables.exec = Jvm.exec) (hb : c.code = cc) {x y : Int64} (hdg : decode cc pc = .ok (.lcmp, 1))
    (k : W p l e R s m args below meth c H locs cells slots Q (F0 m (pc + 1) ls (.int (lcv x y) :: rest))) : W p l e R s m args below meth c H locs cells slots Q (F0 m pc ls (.long y :: .long x :: rest)) := by
  intro T hT X
  obtain ⟨t, a, b⟩ := k T hT X
  refine ⟨t, ?_, b⟩
  unfold lcv at a
  jvm_step X.here [X.here.top, hexec, hb, hdg]
  by_cases h1 : y < x
  · simp only [if_pos h1] at a ⊢
    exact a
  · simp only [if_neg h1] at a ⊢
    by_cases h2 : x = y
    · simp only [if_pos h2] at a ⊢
      exact a
    · simp only [if_neg h2] at a ⊢
      exact a
theorem a_i2l (C : aC p s m args meth c cc nL own WW D J tys A) {x : Int32} (hdg : decode cc pc = .ok (.i2l, 1))  (kk : aT p l e R s m args below meth c Q D A nL k n (pc + 1) lv (.long x.toInt64 :: st) ws) : aT p l e R s m args below meth c Q D A nL k n pc lv (.int x :: st) ws := fun H locs ls hP hD hS hl => lv_i2l C.1.1 C.1.2.1 hdg rfl (kk H locs ls hP hD hS hl)
theorem a_lconst (C : aC p s m args meth c cc nL own WW D J tys A) {j : Fin 2} {v : Int64} (hdg : decode cc pc = .ok (.lconst j, 1)) (hv : Int64.ofNat (j : Nat) = v) (kk : aT p l e R s m args below meth c Q D A nL k n (pc + 1) lv (.long v :: st) ws) : aT p l e R s m args below meth c Q D A nL k n pc lv (st) ws := fun H locs ls hP hD hS hl => lv_lconst C.1.1 C.1.2.1 hdg hv (kk H locs ls hP hD hS hl)
theorem a_lcmp (C : aC p s m args meth c cc nL own WW D J tys A) {x y : Int64} (hdg : decode cc pc = .ok (.lcmp, 1))  (kk : aT p l e R s m args below meth c Q D A nL k n (pc + 1) lv (.int (lcv x y) :: st) ws) : aT p l e R s m args below meth c Q D A nL k n pc lv (.long y :: .long x :: st) ws := fun H locs ls hP hD hS hl => lv_lcmp C.1.1 C.1.2.1 hdg  (kk H locs ls hP hD hS hl)
theorem a_dcmp (C : aC p s m args meth c cc nL own WW D J tys A) {x y : UInt64} {op : CmpOp} (hdg : decode cc pc = .ok (.dcmp op, 1))  (kk : aT p l e R s m args below meth c Q D A nL k n (pc + 1) lv (.int (Op.cmpValue (FP.dcmp x y) op) :: st) ws) : aT p l e R s m args below meth c Q D A nL k n pc lv (.double y :: .double x :: st) ws := fun H locs ls hP hD hS hl => lv_dcmp C.1.1 C.1.2.1 hdg  (kk H locs ls hP hD hS hl)
theorem a_fcmp (C : aC p s m args meth c cc nL own WW D J tys A) {x y : UInt32} {op : CmpOp} (hdg : decode cc pc = .ok (.fcmp op, 1))  (kk : aT p l e R s m args below meth c Q D A nL k n (pc + 1) lv (.int (Op.cmpValue (FP.fcmp x y) op) :: st) ws) : aT p l e R s m args below meth c Q D A nL k n pc lv (.float y :: .float x :: st) ws := fun H locs ls hP hD hS hl => lv_fcmp C.1.1 C.1.2.1 hdg  (kk H locs ls hP hD hS hl)
def f2dv (x : UInt32) : Option UInt64 := if FP.f2d x &&& 0x7fffffffffffffff ≤ 0x7ff0000000000000 then some (FP.f2d x) else none
theorem a_f2d (C : aC p s m args meth c cc nL own WW D J tys A) {x : UInt32} {α : Type} {o : α} {kf : UInt64 → Option α} (hdg : decode cc pc = .ok (.f2d, 1)) (hF : (f2dv x).bind kf = some o) (kk : ∀ z, f2dv x = some z → kf z = some o → aT p l e R s m args below meth c Q D A nL k n (pc + 1) lv (.double z :: st) ws) : aT p l e R s m args below meth c Q D A nL k n pc lv (.float x :: st) ws := by
  obtain ⟨z, h1, hF⟩ := bd hF
  obtain ⟨hn, hz⟩ := chk2 h1
  intro H locs ls hP hD hS hl
  have h2 := kk z h1 hF H locs ls hP hD hS hl
  rw [hz] at h2
  exact lv_f2d C.1.1 C.1.2.1 hdg hn h2
theorem a_fload (C : aC p s m args meth c cc nL own WW D J tys A) {i : Nat} {x : UInt32} (q : Nat) (hdg : decode cc pc = .ok (.fload i, 2)) (hk : lv[q]? = some (i, .float x)) (kk : aT p l e R s m args below meth c Q D A nL k n (pc + 2) lv (.float x :: st) ws) : aT p l e R s m args below meth c Q D A nL k n pc lv st ws := fun H locs ls hP hD hS hl => lv_fload C.1.1 C.1.2.1 hdg (lv_at hl q hk) (kk H locs ls hP hD hS hl)
theorem a_dload (C : aC p s m args meth c cc nL own WW D J tys A) {i : Nat} {x : UInt64} (q : Nat) (hdg : decode cc pc = .ok (.dload i, 2)) (hk : lv[q]? = some (i, .double x)) (kk : aT p l e R s m args below meth c Q D A nL k n (pc + 2) lv (.double x :: st) ws) : aT p l e R s m args below meth c Q D A nL k n pc lv st ws := fun H locs ls hP hD hS hl => lv_dload C.1.1 C.1.2.1 hdg (lv_at hl q hk) (kk H locs ls hP hD hS hl)
theorem a_fstore (C : aC p s m args meth c cc nL own WW D J tys A) {i : Nat} {x : UInt32} (lv' : List (Nat × Value)) (hdg : decode cc pc = .ok (.fstore i, 2)) (hn : i < nL) (hl0 : (i, Value.float x) :: lv.filter (fun q => !(q.1 == i) && !(q.1 + 1 == i && q.2.category == 2)) = lv') (kk : aT p l e R s m args below meth c Q D A nL k n (pc + 2) lv' st ws) : aT p l e R s m args below meth c Q D A nL k n pc lv (.float x :: st) ws := fun H locs ls hP hD hS hl => lv_fstore C.1.1 C.1.2.1 hdg hl hn hl0 (fun ls hl => kk H locs ls hP hD hS hl)
theorem a_dstore (C : aC p s m args meth c cc nL own WW D J tys A) {i : Nat} {x : UInt64} (lv' : List (Nat × Value)) (hdg : decode cc pc = .ok (.dstore i, 2)) (hn : i + 1 < nL) (hl0 : (i, Value.double x) :: lv.filter (fun q => !(q.1 == i) && (!(q.1 == i + 1) && !(q.1 + 1 == i && q.2.category == 2))) = lv') (kk : aT p l e R s m args below meth c Q D A nL k n (pc + 2) lv' st ws) : aT p l e R s m args below meth c Q D A nL k n pc lv (.double x :: st) ws := fun H locs ls hP hD hS hl => lv_dstore C.1.1 C.1.2.1 hdg hl hn hl0 (fun ls hl => kk H locs ls hP hD hS hl)
theorem a_lald0 (C : aC p s m args meth c cc nL own WW D J tys A) {a : Nat} {cA : ClassId} {f : Nat → Int64} (q0 : Nat) (ha : ws[q0]? = some (a, .inl (cA, 1, .inr (.inl f)))) (ht : tys[3]? = some (cA, .long)) (hdg : decode cc pc = .ok (.laload, 1)) (kk : aT p l e R s m args below meth c Q D A nL k n (pc + 1) lv (.long (f 0) :: st) ws) : aT p l e R s m args below meth c Q D A nL k n pc lv (.int 0 :: .ref a :: st) ws := fun H locs ls hP hD hS hl => va_lald C.1.1 C.1.2.1 C.2.1.1 hP q0 3 ha ht (vp_in_nI (n := 0) (N := 1) (by decide) (by decide)) hdg (kk H locs ls hP hD hS hl)
theorem a_last0 (C : aC p s m args meth c cc nL own WW D J tys A) {a : Nat} {cA : ClassId} {f : Nat → Int64} {x : Int64} (q0 : Nat) (ha : ws[q0]? = some (a, .inl (cA, 1, .inr (.inl f)))) (ht : tys[3]? = some (cA, .long)) (hdg : decode cc pc = .ok (.lastore, 1)) (kk : aT p l e R s m args below meth c Q D A nL k n (pc + 1) lv st (ws.set q0 (a, .inl (cA, 1, .inr (.inl (vp_updL f 0 x)))))) : aT p l e R s m args below meth c Q D A nL k n pc lv (.long x :: .int 0 :: .ref a :: st) ws := fun H locs ls hP hD hS hl => va_last C.1.1 C.1.2.1 C.2.1.1 hP hD hS q0 3 ha ht (vp_in_nI (n := 0) (N := 1) (by decide) (by decide)) hdg (fun H1 locs1 hP hD hS => kk H1 locs1 ls hP hD hS hl)
theorem a_dald0 (C : aC p s m args meth c cc nL own WW D J tys A) {a : Nat} {cA : ClassId} {f : Nat → UInt64} (q0 : Nat) (ha : ws[q0]? = some (a, .inl (cA, 1, .inr (.inr (.inr (.inl f)))))) (ht : tys[4]? = some (cA, .double)) (hdg : decode cc pc = .ok (.daload, 1)) (kk : aT p l e R s m args below meth c Q D A nL k n (pc + 1) lv (.double (f 0) :: st) ws) : aT p l e R s m args below meth c Q D A nL k n pc lv (.int 0 :: .ref a :: st) ws := fun H locs ls hP hD hS hl => va_dald C.1.1 C.1.2.1 C.2.1.1 hP q0 4 ha ht (vp_in_nI (n := 0) (N := 1) (by decide) (by decide)) hdg (kk H locs ls hP hD hS hl)
theorem a_dast0 (C : aC p s m args meth c cc nL own WW D J tys A) {a : Nat} {cA : ClassId} {f : Nat → UInt64} {x : UInt64} (q0 : Nat) (ha : ws[q0]? = some (a, .inl (cA, 1, .inr (.inr (.inr (.inl f)))))) (ht : tys[4]? = some (cA, .double)) (hdg : decode cc pc = .ok (.dastore, 1)) (kk : aT p l e R s m args below meth c Q D A nL k n (pc + 1) lv st (ws.set q0 (a, .inl (cA, 1, .inr (.inr (.inr (.inl (vf_upd f 0 x)))))))) : aT p l e R s m args below meth c Q D A nL k n pc lv (.double x :: .int 0 :: .ref a :: st) ws := fun H locs ls hP hD hS hl => va_dast C.1.1 C.1.2.1 C.2.1.1 hP hD hS q0 4 ha ht (vp_in_nI (n := 0) (N := 1) (by decide) (by decide)) hdg (fun H1 locs1 hP hD hS => kk H1 locs1 ls hP hD hS hl)
theorem t_iret {ρ : Type} {gv : ρ → Int32} {gw : ρ → va_W} {rv res : ρ} {w0 : va_W} {ty : FieldType} {v : Int32} {mc ms : Nat} (C : aC p s m args meth c cc nL own WW D J tys (va_A w0 s.heap.size)) (hr : meth.sig.returnType = some ty) (hn : narrow ty (.int v) = .int v) (hdg : decode cc pc = .ok (.ireturn, 1)) (hkm : k ≤ mc ∧ n ≤ ms) (hF : some rv = some res) (hv : gv rv = v) (hw : gw rv = ws) : aT p l e R s m args below meth c (vx_MQ below (aQi D w0 s.heap.size gv gw res) (aXf w0 s.heap.size) args s mc ms (va_A w0 s.heap.size)) D (va_A w0 s.heap.size) nL k n pc lv [.int v] ws := by
  cases hF
  subst hv
  subst hw
  exact fun H locs ls hP hD hS hl => W.widen hkm.1 hkm.2 (vx_ret (W.zret C.1.1 C.1.2.1 hr hn (fun t ht hW => ⟨⟨_, (), rfl, rfl, by rw [ht]; exact hP, hD⟩, hS.F ht⟩) hS.2.2 hdg C.2.2.1))
theorem t_call1i {ρ ρ1 : Type} {res : ρ} (C : aC p s m args meth c cc nL own WW D J tys A) {fy : Option ρ1} {kf : ρ1 → Int32 → Option ρ} {cls1 : String} {x1 : ExceptionTableEntry} {kh1 : ρ1 → Option ρ} {y : MethodName} {b : ByteArray} {mL mc1 ms1 : Nat} {ret : Option FieldType} {rm : Room} {idx : Nat} {As stk : List Value} {w1 : va_W} {gv1 : ρ1 → Int32 ⊕ String} {gw1 : ρ1 → va_W} {C1 : String} {T1 : u_T} {N1 ci a : Nat} {fs : List Value} (cnt : Nat) {rest : va_W} (wsn : ρ1 → va_W) (hG : GoodIn WW (wsV own idx C1 y (aW y b mL ret))) (hd : y.cls = C1 ∧ y.cls ≠ "java/lang/invoke/MethodHandle" ∧ y.cls ≠ "java/lang/invoke/VarHandle" ∧ (parseMethodDescriptor y.desc).map (fun d => d.parameters.length) = some cnt) (hex : c.exceptionTable.toList = [x1]) (hx1 : covers x1 pc = true ∧ x1.catchType ≠ 0 ∧ Cond.classLink own x1.catchType cls1 ∈ WW ∧ cls1 ∈ aX7) (hrm : rm.cells = mc1 ∧ rm.slots = ms1) (hR : rm.frames + 1 ≤ R.frames ∧ 8 + (mL + 11) + rm.locals ≤ R.locals) (hM : ∀ r, fy = some r → aKx l y (aW y b mL ret) rm D J tys (.ref a :: As) w1 gv1 gw1 r mc1 ms1) (hc : vwCl[ci]? = some (C1, T1, N1)) (he : w1[0]? = some (a, .inr (ci, fs))) (hC : ws.Perm (w1 ++ rest)) (hN0 : ∀ r, (wsn r).Perm (gw1 r ++ rest)) (hst : stk = As.reverse ++ .ref a :: st) (hn : As.length = cnt) (hcat : (st.map fun v => v.category).sum ≤ 8) (hdg : decode cc pc = .ok (.invokevirtual idx, 3)) (hkn : k + mc1 ≤ R.cells ∧ n + ms1 ≤ R.slots) (hF : (fy.bind fun r => (gv1 r).elim (kf r) (fun E => if E = cls1 then kh1 r else none)) = some res) (kk : ∀ r v, fy = some r → gv1 r = .inl v → kf r v = some res → aT p l e R s m args below meth c Q D A nL (k + mc1) (n + ms1) (pc + 3) lv (.int v :: st) (wsn r)) (kk1 : ∀ r q, fy = some r → kh1 r = some res → aT p l e R s m args below meth c Q D A nL (k + mc1) (n + ms1) x1.handlerPc lv [.ref q] (wsn r)) : aT p l e R s m args below meth c Q D A nL k n pc lv stk ws := by
  obtain ⟨r, h1, hF⟩ := bd hF
  subst hst
  intro H locs ls hP hD hS hl
  have hKc := C.2.1.1
  have hPc : va_P D vwCl w1 H := p_sub hP hC
  have hDc : va_D A w1 := d_sub hD hC
  have hFc := p_free (wc := w1) hD hS C.2.2.2.1 hC
  refine vx_calli (vx_runV (As := As) (rest := st) C.1 (hM r h1 H.size) (cwV cnt C.1.2.2.2.2 hG rfl hrm.1 hrm.2 hd hR) ⟨aPc_blind, va_recv hKc hPc hc he, fun U hU hW => ⟨rfl, by rw [hU], by rw [hU]; exact hPc, C.2.1.warm hW, hDc.weaken (fun _ _ _ _ => trivial), by rw [hU]; exact ((C.2.2.2.2.kept hS.2.1).warm hW).narrow hFc⟩⟩ rfl hn hl.1 rfl (lv_room hcat) hdg hkn) hS (fun q _ h => hFc q h) hFc (fun q _ h => hFc q h) (fun E ce q9 u t H1 locs1 ht hvm hpx hB hz1 hk1 hS hce hcv hcl => ?_) (fun rv u t H1 locs1 ht hvm hw hB hz1 hk1 hS => ?_)
  · obtain ⟨hg, hP1, hD1⟩ := hB
    rw [ht] at hP1
    rw [hg] at hF
    obtain ⟨hP, hD⟩ := p_join hP hD hC (hN0 r) hFc hk1 hP1 hD1
    have hF : (if E = cls1 then kh1 r else none) = some res := hF
    by_cases e1 : E = cls1
    · rw [if_pos e1] at hF
      refine vx_catch (own := own) (name := cls1) (E := E) C.1.2.2.2.1 [] x1 [] hex (fun _ h => nomatch h) hx1.1 hx1.2.1 (C.1.2.2.2.2 _ hx1.2.2.1) ?_ hce hcv hcl (kk1 r q9 h1 hF H1 locs1 ls hP hD hS hl)
      rw [e1]
      exact C.2.2.2.2.2.2.1 cls1 hx1.2.2.2
    · rw [if_neg e1] at hF
      cases hF
  · obtain ⟨hP1, hD1⟩ := hB
    rw [ht] at hP1
    have hw2 : gv1 r = .inl rv := hw
    rw [hw2] at hF
    obtain ⟨hP, hD⟩ := p_join hP hD hC (hN0 r) hFc hk1 hP1 hD1
    exact kk r rv h1 hw2 hF H1 locs1 ls hP hD hS hl
theorem t_call2i {ρ ρ1 : Type} {res : ρ} (C : aC p s m args meth c cc nL own WW D J tys A) {fy : Option ρ1} {kf : ρ1 → Int32 → Option ρ} {cls1 : String} {x1 : ExceptionTableEntry} {kh1 : ρ1 → Option ρ} {cls2 : String} {x2 : ExceptionTableEntry} {kh2 : ρ1 → Option ρ} {y : MethodName} {b : ByteArray} {mL mc1 ms1 : Nat} {ret : Option FieldType} {rm : Room} {idx : Nat} {As stk : List Value} {w1 : va_W} {gv1 : ρ1 → Int32 ⊕ String} {gw1 : ρ1 → va_W} {C1 : String} {T1 : u_T} {N1 ci a : Nat} {fs : List Value} (cnt : Nat) {rest : va_W} (wsn : ρ1 → va_W) (hG : GoodIn WW (wsV own idx C1 y (aW y b mL ret))) (hd : y.cls = C1 ∧ y.cls ≠ "java/lang/invoke/MethodHandle" ∧ y.cls ≠ "java/lang/invoke/VarHandle" ∧ (parseMethodDescriptor y.desc).map (fun d => d.parameters.length) = some cnt) (hex : c.exceptionTable.toList = [x1, x2]) (hx1 : covers x1 pc = true ∧ x1.catchType ≠ 0 ∧ Cond.classLink own x1.catchType cls1 ∈ WW ∧ cls1 ∈ aX7) (hx2 : covers x2 pc = true ∧ x2.catchType ≠ 0 ∧ Cond.classLink own x2.catchType cls2 ∈ WW ∧ cls2 ∈ aX7) (hN : (cls2, cls1) ∈ aN4) (hrm : rm.cells = mc1 ∧ rm.slots = ms1) (hR : rm.frames + 1 ≤ R.frames ∧ 8 + (mL + 11) + rm.locals ≤ R.locals) (hM : ∀ r, fy = some r → aKx l y (aW y b mL ret) rm D J tys (.ref a :: As) w1 gv1 gw1 r mc1 ms1) (hc : vwCl[ci]? = some (C1, T1, N1)) (he : w1[0]? = some (a, .inr (ci, fs))) (hC : ws.Perm (w1 ++ rest)) (hN0 : ∀ r, (wsn r).Perm (gw1 r ++ rest)) (hst : stk = As.reverse ++ .ref a :: st) (hn : As.length = cnt) (hcat : (st.map fun v => v.category).sum ≤ 8) (hdg : decode cc pc = .ok (.invokevirtual idx, 3)) (hkn : k + mc1 ≤ R.cells ∧ n + ms1 ≤ R.slots) (hF : (fy.bind fun r => (gv1 r).elim (kf r) (fun E => if E = cls1 then kh1 r else (if E = cls2 then kh2 r else none))) = some res) (kk : ∀ r v, fy = some r → gv1 r = .inl v → kf r v = some res → aT p l e R s m args below meth c Q D A nL (k + mc1) (n + ms1) (pc + 3) lv (.int v :: st) (wsn r)) (kk1 : ∀ r q, fy = some r → kh1 r = some res → aT p l e R s m args below meth c Q D A nL (k + mc1) (n + ms1) x1.handlerPc lv [.ref q] (wsn r)) (kk2 : ∀ r q, fy = some r → kh2 r = some res → aT p l e R s m args below meth c Q D A nL (k + mc1) (n + ms1) x2.handlerPc lv [.ref q] (wsn r)) : aT p l e R s m args below meth c Q D A nL k n pc lv stk ws := by
  obtain ⟨r, h1, hF⟩ := bd hF
  subst hst
  intro H locs ls hP hD hS hl
  have hKc := C.2.1.1
  have hPc : va_P D vwCl w1 H := p_sub hP hC
  have hDc : va_D A w1 := d_sub hD hC
  have hFc := p_free (wc := w1) hD hS C.2.2.2.1 hC
  refine vx_calli (vx_runV (As := As) (rest := st) C.1 (hM r h1 H.size) (cwV cnt C.1.2.2.2.2 hG rfl hrm.1 hrm.2 hd hR) ⟨aPc_blind, va_recv hKc hPc hc he, fun U hU hW => ⟨rfl, by rw [hU], by rw [hU]; exact hPc, C.2.1.warm hW, hDc.weaken (fun _ _ _ _ => trivial), by rw [hU]; exact ((C.2.2.2.2.kept hS.2.1).warm hW).narrow hFc⟩⟩ rfl hn hl.1 rfl (lv_room hcat) hdg hkn) hS (fun q _ h => hFc q h) hFc (fun q _ h => hFc q h) (fun E ce q9 u t H1 locs1 ht hvm hpx hB hz1 hk1 hS hce hcv hcl => ?_) (fun rv u t H1 locs1 ht hvm hw hB hz1 hk1 hS => ?_)
  · obtain ⟨hg, hP1, hD1⟩ := hB
    rw [ht] at hP1
    rw [hg] at hF
    obtain ⟨hP, hD⟩ := p_join hP hD hC (hN0 r) hFc hk1 hP1 hD1
    have hF : (if E = cls1 then kh1 r else (if E = cls2 then kh2 r else none)) = some res := hF
    by_cases e1 : E = cls1
    · rw [if_pos e1] at hF
      refine vx_catch (own := own) (name := cls1) (E := E) C.1.2.2.2.1 [] x1 [x2] hex (fun _ h => nomatch h) hx1.1 hx1.2.1 (C.1.2.2.2.2 _ hx1.2.2.1) ?_ hce hcv hcl (kk1 r q9 h1 hF H1 locs1 ls hP hD hS hl)
      rw [e1]
      exact C.2.2.2.2.2.2.1 cls1 hx1.2.2.2
    · rw [if_neg e1] at hF
      by_cases e2 : E = cls2
      · rw [if_pos e2] at hF
        refine vx_catch (own := own) (name := cls2) (E := E) C.1.2.2.2.1 [x1] x2 [] hex (fun z h => ?_) hx2.1 hx2.2.1 (C.1.2.2.2.2 _ hx2.2.2.1) ?_ hce hcv hcl (kk2 r q9 h1 hF H1 locs1 ls hP hD hS hl)
        · rw [List.mem_singleton.mp h, e2]
          exact Or.inr ⟨hx1.2.1, cls1, C.1.2.2.2.2 _ hx1.2.2.1, C.2.2.2.2.2.2.2.2.1 (cls2, cls1) hN⟩
        · rw [e2]
          exact C.2.2.2.2.2.2.1 cls2 hx2.2.2.2
      · rw [if_neg e2] at hF
        cases hF
  · obtain ⟨hP1, hD1⟩ := hB
    rw [ht] at hP1
    have hw2 : gv1 r = .inl rv := hw
    rw [hw2] at hF
    obtain ⟨hP, hD⟩ := p_join hP hD hC (hN0 r) hFc hk1 hP1 hD1
    exact kk r rv h1 hw2 hF H1 locs1 ls hP hD hS hl
theorem t_call1f {ρ ρ1 : Type} {res : ρ} (C : aC p s m args meth c cc nL own WW D J tys A) {fy : Option ρ1} {kf : ρ1 → UInt32 → Option ρ} {cls1 : String} {x1 : ExceptionTableEntry} {kh1 : ρ1 → Option ρ} {y : MethodName} {b : ByteArray} {mL mc1 ms1 : Nat} {ret : Option FieldType} {rm : Room} {idx : Nat} {As stk : List Value} {w1 : va_W} {gv1 : ρ1 → UInt32 ⊕ String} {gw1 : ρ1 → va_W} {C1 : String} {T1 : u_T} {N1 ci a : Nat} {fs : List Value} (cnt : Nat) {rest : va_W} (wsn : ρ1 → va_W) (hG : GoodIn WW (wsV own idx C1 y (aW y b mL ret))) (hd : y.cls = C1 ∧ y.cls ≠ "java/lang/invoke/MethodHandle" ∧ y.cls ≠ "java/lang/invoke/VarHandle" ∧ (parseMethodDescriptor y.desc).map (fun d => d.parameters.length) = some cnt) (hex : c.exceptionTable.toList = [x1]) (hx1 : covers x1 pc = true ∧ x1.catchType ≠ 0 ∧ Cond.classLink own x1.catchType cls1 ∈ WW ∧ cls1 ∈ aX7) (hrm : rm.cells = mc1 ∧ rm.slots = ms1) (hR : rm.frames + 1 ≤ R.frames ∧ 8 + (mL + 11) + rm.locals ≤ R.locals) (hM : ∀ r, fy = some r → aKxf l y (aW y b mL ret) rm D J tys (.ref a :: As) w1 gv1 gw1 r mc1 ms1) (hc : vwCl[ci]? = some (C1, T1, N1)) (he : w1[0]? = some (a, .inr (ci, fs))) (hC : ws.Perm (w1 ++ rest)) (hN0 : ∀ r, (wsn r).Perm (gw1 r ++ rest)) (hst : stk = As.reverse ++ .ref a :: st) (hn : As.length = cnt) (hcat : (st.map fun v => v.category).sum ≤ 8) (hdg : decode cc pc = .ok (.invokevirtual idx, 3)) (hkn : k + mc1 ≤ R.cells ∧ n + ms1 ≤ R.slots) (hF : (fy.bind fun r => (gv1 r).elim (kf r) (fun E => if E = cls1 then kh1 r else none)) = some res) (kk : ∀ r v, fy = some r → gv1 r = .inl v → kf r v = some res → aT p l e R s m args below meth c Q D A nL (k + mc1) (n + ms1) (pc + 3) lv (.float v :: st) (wsn r)) (kk1 : ∀ r q, fy = some r → kh1 r = some res → aT p l e R s m args below meth c Q D A nL (k + mc1) (n + ms1) x1.handlerPc lv [.ref q] (wsn r)) : aT p l e R s m args below meth c Q D A nL k n pc lv stk ws := by
  obtain ⟨r, h1, hF⟩ := bd hF
  subst hst
  intro H locs ls hP hD hS hl
  have hKc := C.2.1.1
  have hPc : va_P D vwCl w1 H := p_sub hP hC
  have hDc : va_D A w1 := d_sub hD hC
  have hFc := p_free (wc := w1) hD hS C.2.2.2.1 hC
  refine vx_callf (vx_runV (As := As) (rest := st) C.1 (hM r h1 H.size) (cwV cnt C.1.2.2.2.2 hG rfl hrm.1 hrm.2 hd hR) ⟨aPc_blind, va_recv hKc hPc hc he, fun U hU hW => ⟨rfl, by rw [hU], by rw [hU]; exact hPc, C.2.1.warm hW, hDc.weaken (fun _ _ _ _ => trivial), by rw [hU]; exact ((C.2.2.2.2.kept hS.2.1).warm hW).narrow hFc⟩⟩ rfl hn hl.1 rfl (lv_room hcat) hdg hkn) hS (fun q _ h => hFc q h) hFc (fun q _ h => hFc q h) (fun E ce q9 u t H1 locs1 ht hvm hpx hB hz1 hk1 hS hce hcv hcl => ?_) (fun rv u t H1 locs1 ht hvm hw hB hz1 hk1 hS => ?_)
  · obtain ⟨hg, hP1, hD1⟩ := hB
    rw [ht] at hP1
    rw [hg] at hF
    obtain ⟨hP, hD⟩ := p_join hP hD hC (hN0 r) hFc hk1 hP1 hD1
    have hF : (if E = cls1 then kh1 r else none) = some res := hF
    by_cases e1 : E = cls1
    · rw [if_pos e1] at hF
      refine vx_catch (own := own) (name := cls1) (E := E) C.1.2.2.2.1 [] x1 [] hex (fun _ h => nomatch h) hx1.1 hx1.2.1 (C.1.2.2.2.2 _ hx1.2.2.1) ?_ hce hcv hcl (kk1 r q9 h1 hF H1 locs1 ls hP hD hS hl)
      rw [e1]
      exact C.2.2.2.2.2.2.1 cls1 hx1.2.2.2
    · rw [if_neg e1] at hF
      cases hF
  · obtain ⟨hP1, hD1⟩ := hB
    rw [ht] at hP1
    have hw2 : gv1 r = .inl rv := hw
    rw [hw2] at hF
    obtain ⟨hP, hD⟩ := p_join hP hD hC (hN0 r) hFc hk1 hP1 hD1
    exact kk r rv h1 hw2 hF H1 locs1 ls hP hD hS hl
theorem t_call1d {ρ ρ1 : Type} {res : ρ} (C : aC p s m args meth c cc nL own WW D J tys A) {fy : Option ρ1} {kf : ρ1 → UInt64 → Option ρ} {cls1 : String} {x1 : ExceptionTableEntry} {kh1 : ρ1 → Option ρ} {y : MethodName} {b : ByteArray} {mL mc1 ms1 : Nat} {ret : Option FieldType} {rm : Room} {idx : Nat} {As stk : List Value} {w1 : va_W} {gv1 : ρ1 → UInt64 ⊕ String} {gw1 : ρ1 → va_W} {C1 : String} {T1 : u_T} {N1 ci a : Nat} {fs : List Value} (cnt : Nat) {rest : va_W} (wsn : ρ1 → va_W) (hG : GoodIn WW (wsV own idx C1 y (aW y b mL ret))) (hd : y.cls = C1 ∧ y.cls ≠ "java/lang/invoke/MethodHandle" ∧ y.cls ≠ "java/lang/invoke/VarHandle" ∧ (parseMethodDescriptor y.desc).map (fun d => d.parameters.length) = some cnt) (hex : c.exceptionTable.toList = [x1]) (hx1 : covers x1 pc = true ∧ x1.catchType ≠ 0 ∧ Cond.classLink own x1.catchType cls1 ∈ WW ∧ cls1 ∈ aX7) (hrm : rm.cells = mc1 ∧ rm.slots = ms1) (hR : rm.frames + 1 ≤ R.frames ∧ 8 + (mL + 11) + rm.locals ≤ R.locals) (hM : ∀ r, fy = some r → aKxd l y (aW y b mL ret) rm D J tys (.ref a :: As) w1 gv1 gw1 r mc1 ms1) (hc : vwCl[ci]? = some (C1, T1, N1)) (he : w1[0]? = some (a, .inr (ci, fs))) (hC : ws.Perm (w1 ++ rest)) (hN0 : ∀ r, (wsn r).Perm (gw1 r ++ rest)) (hst : stk = As.reverse ++ .ref a :: st) (hn : As.length = cnt) (hcat : (st.map fun v => v.category).sum ≤ 8) (hdg : decode cc pc = .ok (.invokevirtual idx, 3)) (hkn : k + mc1 ≤ R.cells ∧ n + ms1 ≤ R.slots) (hF : (fy.bind fun r => (gv1 r).elim (kf r) (fun E => if E = cls1 then kh1 r else none)) = some res) (kk : ∀ r v, fy = some r → gv1 r = .inl v → kf r v = some res → aT p l e R s m args below meth c Q D A nL (k + mc1) (n + ms1) (pc + 3) lv (.double v :: st) (wsn r)) (kk1 : ∀ r q, fy = some r → kh1 r = some res → aT p l e R s m args below meth c Q D A nL (k + mc1) (n + ms1) x1.handlerPc lv [.ref q] (wsn r)) : aT p l e R s m args below meth c Q D A nL k n pc lv stk ws := by
  obtain ⟨r, h1, hF⟩ := bd hF
  subst hst
  intro H locs ls hP hD hS hl
  have hKc := C.2.1.1
  have hPc : va_P D vwCl w1 H := p_sub hP hC
  have hDc : va_D A w1 := d_sub hD hC
  have hFc := p_free (wc := w1) hD hS C.2.2.2.1 hC
  refine vx_calld (vx_runV (As := As) (rest := st) C.1 (hM r h1 H.size) (cwV cnt C.1.2.2.2.2 hG rfl hrm.1 hrm.2 hd hR) ⟨aPc_blind, va_recv hKc hPc hc he, fun U hU hW => ⟨rfl, by rw [hU], by rw [hU]; exact hPc, C.2.1.warm hW, hDc.weaken (fun _ _ _ _ => trivial), by rw [hU]; exact ((C.2.2.2.2.kept hS.2.1).warm hW).narrow hFc⟩⟩ rfl hn hl.1 rfl (lv_room hcat) hdg hkn) hS (fun q _ h => hFc q h) hFc (fun q _ h => hFc q h) (fun E ce q9 u t H1 locs1 ht hvm hpx hB hz1 hk1 hS hce hcv hcl => ?_) (fun rv u t H1 locs1 ht hvm hw hB hz1 hk1 hS => ?_)
  · obtain ⟨hg, hP1, hD1⟩ := hB
    rw [ht] at hP1
    rw [hg] at hF
    obtain ⟨hP, hD⟩ := p_join hP hD hC (hN0 r) hFc hk1 hP1 hD1
    have hF : (if E = cls1 then kh1 r else none) = some res := hF
    by_cases e1 : E = cls1
    · rw [if_pos e1] at hF
      refine vx_catch (own := own) (name := cls1) (E := E) C.1.2.2.2.1 [] x1 [] hex (fun _ h => nomatch h) hx1.1 hx1.2.1 (C.1.2.2.2.2 _ hx1.2.2.1) ?_ hce hcv hcl (kk1 r q9 h1 hF H1 locs1 ls hP hD hS hl)
      rw [e1]
      exact C.2.2.2.2.2.2.1 cls1 hx1.2.2.2
    · rw [if_neg e1] at hF
      cases hF
  · obtain ⟨hP1, hD1⟩ := hB
    rw [ht] at hP1
    have hw2 : gv1 r = .inl rv := hw
    rw [hw2] at hF
    obtain ⟨hP, hD⟩ := p_join hP hD hC (hN0 r) hFc hk1 hP1 hD1
    exact kk r rv h1 hw2 hF H1 locs1 ls hP hD hS hl
theorem b_callH (C : aC p s m args meth c cc nL own WW D J tys A) {ρ α : Type} {o : α} {fy : Option ρ} {kf : ρ → Option α} {y : MethodName} {b : ByteArray} {mL : Nat} {ret : Option FieldType} {rm : Room} {hh : List (Nat × Nat × Nat × Nat)} {mc1 ms1 : Nat} {idx : Nat} {As stk : List Value} {w0 : va_W} {gv : ρ → Int32} {gw : ρ → va_W} (cnt : Nat) {rest : va_W} (wsn : ρ → va_W) (hG : GoodIn WW (va_wsS own idx y (aWh y b mL ret hh))) (hd : y.cls ≠ "java/lang/invoke/MethodHandle" ∧ y.cls ≠ "java/lang/invoke/VarHandle" ∧ (parseMethodDescriptor y.desc).map (fun d => d.parameters.length) = some cnt) (hrm : rm.cells = mc1 ∧ rm.slots = ms1) (hR : rm.frames + 1 ≤ R.frames ∧ 8 + (mL + 11) + rm.locals ≤ R.locals) (hM : ∀ r, fy = some r → aKt l y (aWh y b mL ret hh) rm D J tys (As) w0 gv gw r mc1 ms1) (hC : ws.Perm (w0 ++ rest)) (hN : ∀ r, (wsn r).Perm (gw r ++ rest)) (hst : stk = As.reverse ++ st) (hn : As.length = cnt) (hcat : (st.map fun v => v.category).sum ≤ 8) (hdg : decode cc pc = .ok (.invokestatic idx, 3)) (hkn : k + mc1 ≤ R.cells ∧ n + ms1 ≤ R.slots) (hF : fy.bind kf = some o) (kk : ∀ r, fy = some r → kf r = some o → aT p l e R s m args below meth c Q D A nL (k + mc1) (n + ms1) (pc + 3) lv (.int (gv r) :: st) (wsn r)) : aT p l e R s m args below meth c Q D A nL k n pc lv stk ws := by
  obtain ⟨r, h1, hF⟩ := bd hF
  subst hst
  intro H locs ls hP hD hS hl
  have hPc0 := hP
  have hKc := C.2.1.1
  have hPc : va_P D vwCl w0 H := p_sub hP hC
  have hDc : va_D A w0 := d_sub hD hC
  have hFc := p_free (wc := w0) hD hS C.2.2.2.1 hC
  refine vx_calli (vx_runSX (As := As) (rest := st) C.1 (hM r h1 H.size) (vx_cwSW cnt C.1.2.2.2.2 hG rfl hrm.1 hrm.2 hd hR) ⟨aPc_blind, fun U hU hW => ⟨rfl, by rw [hU], by rw [hU]; exact hPc, C.2.1.warm hW, hDc.weaken (fun _ _ _ _ => trivial), by rw [hU]; exact ((C.2.2.2.2.kept hS.2.1).warm hW).narrow hFc⟩⟩ rfl hn hl.1 rfl (lv_room hcat) hdg hkn) hS (fun q _ h => hFc q h) hFc (fun q _ h => hFc q h) (fun E ce q9 u t H1 locs1 ht hvm hpx hB hz1 hk1 hS hce hcv hcl => hpx.elim) (fun rv u t H1 locs1 ht hvm hw hB hz1 hk1 hS => ?_)
  obtain ⟨hP1, hD1⟩ := hB
  rw [ht] at hP1
  rw [show rv = gv r from hw]
  obtain ⟨hP, hD⟩ := p_join hP hD hC (hN r) hFc hk1 hP1 hD1
  exact kk r h1 hF H1 locs1 ls hP hD hS hl
theorem b_callVf (C : aC p s m args meth c cc nL own WW D J tys A) {ρ α : Type} {o : α} {fy : Option ρ} {kf : ρ → Option α} {y : MethodName} {b : ByteArray} {mL : Nat} {ret : Option FieldType} {rm : Room} {idx : Nat} {As stk : List Value} {w0 : va_W} {gv : ρ → UInt32} {gw : ρ → va_W} {C1 : String} {T1 : u_T} {N1 ci a : Nat} {fs : List Value} (cnt : Nat) {rest : va_W} (wsn : ρ → va_W) (hG : GoodIn WW (wsV own idx C1 y (aW y b mL ret))) (hd : y.cls = C1 ∧ y.cls ≠ "java/lang/invoke/MethodHandle" ∧ y.cls ≠ "java/lang/invoke/VarHandle" ∧ (parseMethodDescriptor y.desc).map (fun d => d.parameters.length) = some cnt) (hrm : rm.cells = 0 ∧ rm.slots = 0) (hR : rm.frames + 1 ≤ R.frames ∧ 8 + (mL + 11) + rm.locals ≤ R.locals) (hM : ∀ r, fy = some r → aKf l y (aW y b mL ret) rm D J tys (.ref a :: As) w0 gv gw r) (hc : vwCl[ci]? = some (C1, T1, N1)) (he : w0[0]? = some (a, .inr (ci, fs))) (hC : ws.Perm (w0 ++ rest)) (hN : ∀ r, (wsn r).Perm (gw r ++ rest)) (hst : stk = As.reverse ++ .ref a :: st) (hn : As.length = cnt) (hcat : (st.map fun v => v.category).sum ≤ 8) (hdg : decode cc pc = .ok (.invokevirtual idx, 3)) (hkn : k ≤ R.cells ∧ n ≤ R.slots) (hF : fy.bind kf = some o) (kk : ∀ r, fy = some r → kf r = some o → aT p l e R s m args below meth c Q D A nL k n (pc + 3) lv (.float (gv r) :: st) (wsn r)) : aT p l e R s m args below meth c Q D A nL k n pc lv stk ws := by
  obtain ⟨r, h1, hF⟩ := bd hF
  subst hst
  intro H locs ls hP hD hS hl
  have hPc0 := hP
  have hKc := C.2.1.1
  have hPc : va_P D vwCl w0 H := p_sub hP hC
  have hDc : va_D A w0 := d_sub hD hC
  have hFc := p_free (wc := w0) hD hS C.2.2.2.1 hC
  refine va_callf (va_runV (As := As) (rest := st) C.1 (hM r h1 H.size) (cwV cnt C.1.2.2.2.2 hG rfl hrm.1 hrm.2 hd hR) ⟨aPc_blind, va_recv hKc hPc hc he, fun U hU hW => ⟨rfl, by rw [hU], by rw [hU]; exact hPc, C.2.1.warm hW, hDc.weaken (fun _ _ _ _ => trivial), by rw [hU]; exact ((C.2.2.2.2.kept hS.2.1).warm hW).narrow hFc⟩⟩ rfl hn hl.1 rfl (lv_room hcat) hdg ⟨by simpa using hkn.1, by simpa using hkn.2⟩) hS (fun q _ h => hFc q h) hFc (fun rv u t H1 locs1 ht hvm hw hB hz1 hk1 hS => ?_)
  obtain ⟨hP1, hD1⟩ := hB
  rw [ht] at hP1
  rw [show rv = gv r from hw]
  obtain ⟨hP, hD⟩ := p_join hP hD hC (hN r) hFc hk1 hP1 hD1
  exact kk r h1 hF H1 locs1 ls hP hD hS hl
theorem b_callVd (C : aC p s m args meth c cc nL own WW D J tys A) {ρ α : Type} {o : α} {fy : Option ρ} {kf : ρ → Option α} {y : MethodName} {b : ByteArray} {mL : Nat} {ret : Option FieldType} {rm : Room} {idx : Nat} {As stk : List Value} {w0 : va_W} {gv : ρ → UInt64} {gw : ρ → va_W} {C1 : String} {T1 : u_T} {N1 ci a : Nat} {fs : List Value} (cnt : Nat) {rest : va_W} (wsn : ρ → va_W) (hG : GoodIn WW (wsV own idx C1 y (aW y b mL ret))) (hd : y.cls = C1 ∧ y.cls ≠ "java/lang/invoke/MethodHandle" ∧ y.cls ≠ "java/lang/invoke/VarHandle" ∧ (parseMethodDescriptor y.desc).map (fun d => d.parameters.length) = some cnt) (hrm : rm.cells = 0 ∧ rm.slots = 0) (hR : rm.frames + 1 ≤ R.frames ∧ 8 + (mL + 11) + rm.locals ≤ R.locals) (hM : ∀ r, fy = some r → aKd l y (aW y b mL ret) rm D J tys (.ref a :: As) w0 gv gw r) (hc : vwCl[ci]? = some (C1, T1, N1)) (he : w0[0]? = some (a, .inr (ci, fs))) (hC : ws.Perm (w0 ++ rest)) (hN : ∀ r, (wsn r).Perm (gw r ++ rest)) (hst : stk = As.reverse ++ .ref a :: st) (hn : As.length = cnt) (hcat : (st.map fun v => v.category).sum ≤ 8) (hdg : decode cc pc = .ok (.invokevirtual idx, 3)) (hkn : k ≤ R.cells ∧ n ≤ R.slots) (hF : fy.bind kf = some o) (kk : ∀ r, fy = some r → kf r = some o → aT p l e R s m args below meth c Q D A nL k n (pc + 3) lv (.double (gv r) :: st) (wsn r)) : aT p l e R s m args below meth c Q D A nL k n pc lv stk ws := by
  obtain ⟨r, h1, hF⟩ := bd hF
  subst hst
  intro H locs ls hP hD hS hl
  have hPc0 := hP
  have hKc := C.2.1.1
  have hPc : va_P D vwCl w0 H := p_sub hP hC
  have hDc : va_D A w0 := d_sub hD hC
  have hFc := p_free (wc := w0) hD hS C.2.2.2.1 hC
  refine va_calld (va_runV (As := As) (rest := st) C.1 (hM r h1 H.size) (cwV cnt C.1.2.2.2.2 hG rfl hrm.1 hrm.2 hd hR) ⟨aPc_blind, va_recv hKc hPc hc he, fun U hU hW => ⟨rfl, by rw [hU], by rw [hU]; exact hPc, C.2.1.warm hW, hDc.weaken (fun _ _ _ _ => trivial), by rw [hU]; exact ((C.2.2.2.2.kept hS.2.1).warm hW).narrow hFc⟩⟩ rfl hn hl.1 rfl (lv_room hcat) hdg ⟨by simpa using hkn.1, by simpa using hkn.2⟩) hS (fun q _ h => hFc q h) hFc (fun rv u t H1 locs1 ht hvm hw hB hz1 hk1 hS => ?_)
  obtain ⟨hP1, hD1⟩ := hB
  rw [ht] at hP1
  rw [show rv = gv r from hw]
  obtain ⟨hP, hD⟩ := p_join hP hD hC (hN r) hFc hk1 hP1 hD1
  exact kk r h1 hF H1 locs1 ls hP hD hS hl
theorem a_arrlen (C : aC p s m args meth c cc nL own WW D J tys A) {a : Nat} {cA : ClassId} {N : Nat} {f : Nat → Int32} (q0 t0 : Nat) (ha : ws[q0]? = some (a, .inl (cA, N, .inl f))) (ht : tys[t0]? = some (cA, .int)) (hdg : decode cc pc = .ok (.arraylength, 1)) (kk : aT p l e R s m args below meth c Q D A nL k n (pc + 1) lv (.int (Int32.ofNat N) :: st) ws) : aT p l e R s m args below meth c Q D A nL k n pc lv (.ref a :: st) ws := fun H locs ls hP hD hS hl => va_alen C.1.1 C.1.2.1 C.2.1.1 hP q0 t0 ha ht rfl hdg (kk H locs ls hP hD hS hl)
theorem s_iald (C : aC p s m args meth c cc nL own WW D J tys A) {b N : Nat} {f : Nat → Int32} {i : Int32} {α : Type} {o : α} {kf : Int32 → Option α} (hX : va_X b N f s s.heap) (hbl : b < s.heap.size) (hbA : ¬ A b) (hdg : decode cc pc = .ok (.iaload, 1)) (hF : (ldi f N i).bind kf = some o) (kk : ∀ x, ldi f N i = some x → kf x = some o → aT p l e R s m args below meth c Q D A nL k n (pc + 1) lv (.int x :: st) ws) : aT p l e R s m args below meth c Q D A nL k n pc lv (.int i :: .ref b :: st) ws := by
  obtain ⟨x, h1, hF⟩ := bd hF
  obtain ⟨hi, hx⟩ := chk h1
  intro H locs ls hP hD hS hl
  have h2 := kk x h1 hF H locs ls hP hD hS hl
  rw [hx] at h2
  exact va_sld C.1.1 C.1.2.1 hX hbl hbA hS hi hdg h2
theorem s_alen (C : aC p s m args meth c cc nL own WW D J tys A) {b N : Nat} {f : Nat → Int32} (hX : va_X b N f s s.heap) (hbl : b < s.heap.size) (hbA : ¬ A b) (hdg : decode cc pc = .ok (.arraylength, 1)) (kk : aT p l e R s m args below meth c Q D A nL k n (pc + 1) lv (.int (Int32.ofNat N) :: st) ws) : aT p l e R s m args below meth c Q D A nL k n pc lv (.ref b :: st) ws := fun H locs ls hP hD hS hl => va_slen C.1.1 C.1.2.1 hX hbl hbA hS hdg (kk H locs ls hP hD hS hl)
theorem a_pad {k1 n1 : Nat} (h1 : k ≤ k1) (h2 : n ≤ n1) (kk : aT p l e R s m args below meth c Q D A nL k1 n1 pc lv st ws) : aT p l e R s m args below meth c Q D A nL k n pc lv st ws := fun H locs ls hP hD hS hl => W.widen h1 h2 (kk H locs ls hP hD hS hl)
end LR
