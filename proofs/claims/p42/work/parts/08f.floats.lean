/-! FLOATS AND DOUBLES: quotients that are numbers, contracts with such answers -/
def fdv (x y : UInt32) : Option UInt32 := if FP.fdiv x y &&& 0x7fffffff ≤ 0x7f800000 then some (FP.fdiv x y) else none
def ddv (x y : UInt64) : Option UInt64 := if FP.ddiv x y &&& 0x7fffffffffffffff ≤ 0x7ff0000000000000 then some (FP.ddiv x y) else none
def aQf {ρ : Type} (D : va_G) (w0 : va_W) (sz : Nat) (gv : ρ → UInt32) (gw : ρ → va_W) (res : ρ) : Array Value → State → Outcome → State → Prop := va_Qf (fun r (_ : Unit) => r = gv res) (fun _ t => aB D w0 (gw res) sz t) (va_A w0 sz)
def aKf {ρ : Type} (l : Launch) (y : MethodName) (wy : List Cond) (rm : Room) (D : va_G) (J : JT) (tys : List (ClassId × FieldType)) (av : List Value) (w0 : va_W) (gv : ρ → UInt32) (gw : ρ → va_W) (res : ρ) : Prop := ∀ sz : Nat, Met l y wy rm (aPc D J tys av w0 sz) (aQf D w0 sz gv gw res) 0 0 (va_A w0 sz)
theorem aKf_of {ρ : Type} {l : Launch} {y : MethodName} {rm : Room} {cc : ByteArray} {maxL : Nat} {ret : Option FieldType} {D : va_G} {J : JT} {tys : List (ClassId × FieldType)} {av : List Value} {w0 : va_W} {gv : ρ → UInt32} {gw : ρ → va_W} {res : ρ} {lv : List (Nat × Value)} {own : String} (hy : plainName y.cls = true) (hown : y.cls = own) (hlen : (lg_sl av).length ≤ maxL) (hlv : lv_args 0 av = lv) (body : ∀ (p : Program) (e : Env) (s : State) (m : MethodId) (args : Array Value) (below : List Frame) (meth : Method) (c : Code), aC p s m args meth c cc maxL own WW D J tys (va_A w0 s.heap.size) → meth.sig.returnType = ret → aT p l e rm s m args below meth c (MQ below (aQf D w0 s.heap.size gv gw res) args s 0 0 (va_A w0 s.heap.size)) D (va_A w0 s.heap.size) maxL 0 0 0 lv [] w0) : aKf l y (aW y cc maxL ret) rm D J tys av w0 gv gw res := by
  intro sz
  refine Met.ofW hy rfl ?_
  intro p e s m args below meth c s₁ B hml hv
  obtain ⟨rfl, hsz, hP, hU, hD0, hG0⟩ := hv
  subst hsz
  have hl := lv_entry av hlen
  rw [lg_entry_eq]
  have hts := atoms_spec (ws := aW y cc maxL ret) B.pre
  have hfc := findClass_of_methodNamed B.named
  rw [hown] at hfc
  rw [hlv] at hl
  exact body p e s m _ below meth c ⟨⟨B.exec, B.bytes, hml, hfc, fun w hw => hts w (List.mem_cons_of_mem _ hw)⟩, hU, B.notSynchronized, fun q h => Or.inr h, hG0⟩ B.returns s.heap [] _ hP hD0.self va_S.rf hl
def aQxf {ρ : Type} (D : va_G) (w0 : va_W) (sz : Nat) (gv : ρ → UInt32 ⊕ String) (gw : ρ → va_W) (res : ρ) : Array Value → State → Outcome → State → Prop := va_Qf (fun r (_ : Unit) => gv res = .inl r) (fun _ t => aB D w0 (gw res) sz t) (va_A w0 sz)
def aXxf {ρ : Type} (D : va_G) (w0 : va_W) (sz : Nat) (gv : ρ → UInt32 ⊕ String) (gw : ρ → va_W) (res : ρ) : String → State → State → Prop := vx_X (fun (_ : Unit) => True) (fun E _ t => gv res = .inr E ∧ aB D w0 (gw res) sz t) (va_A w0 sz)
def aKxf {ρ : Type} (l : Launch) (y : MethodName) (wy : List Cond) (rm : Room) (D : va_G) (J : JT) (tys : List (ClassId × FieldType)) (av : List Value) (w0 : va_W) (gv : ρ → UInt32 ⊕ String) (gw : ρ → va_W) (res : ρ) (mc ms : Nat) : Prop := ∀ sz : Nat, vx_Met l y wy rm (aPc D J tys av w0 sz) (aQxf D w0 sz gv gw res) (aXxf D w0 sz gv gw res) mc ms (va_A w0 sz)
theorem aKxf_of {ρ : Type} {l : Launch} {y : MethodName} {rm : Room} {cc : ByteArray} {maxL : Nat} {ret : Option FieldType} {D : va_G} {J : JT} {tys : List (ClassId × FieldType)} {av : List Value} {w0 : va_W} {gv : ρ → UInt32 ⊕ String} {gw : ρ → va_W} {res : ρ} {lv : List (Nat × Value)} {own : String} {mc ms : Nat} (hy : plainName y.cls = true) (hown : y.cls = own) (hlen : (lg_sl av).length ≤ maxL) (hlv : lv_args 0 av = lv) (body : ∀ (p : Program) (e : Env) (s : State) (m : MethodId) (args : Array Value) (below : List Frame) (meth : Method) (c : Code), aC p s m args meth c cc maxL own WW D J tys (va_A w0 s.heap.size) → meth.sig.returnType = ret → (∀ x ∈ c.exceptionTable.toList, False) → aT p l e rm s m args below meth c (vx_MQ below (aQxf D w0 s.heap.size gv gw res) (aXxf D w0 s.heap.size gv gw res) args s mc ms (va_A w0 s.heap.size)) D (va_A w0 s.heap.size) maxL 0 0 0 lv [] w0) : aKxf l y (aW y cc maxL ret) rm D J tys av w0 gv gw res mc ms := by
  intro sz
  refine vx_ofW hy rfl ?_
  intro p e s m args below meth c s₁ B hml hex hv
  obtain ⟨rfl, hsz, hP, hU, hD0, hG0⟩ := hv
  subst hsz
  have hl := lv_entry av hlen
  rw [lg_entry_eq]
  have hts := atoms_spec (ws := aW y cc maxL ret) B.pre
  have hfc := findClass_of_methodNamed B.named
  rw [hown] at hfc
  rw [hlv] at hl
  exact body p e s m _ below meth c ⟨⟨B.exec, B.bytes, hml, hfc, fun w hw => hts w (List.mem_cons_of_mem _ hw)⟩, hU, B.notSynchronized, fun q h => Or.inr h, hG0⟩ B.returns hex s.heap [] _ hP hD0.self va_S.rf hl
def aQd {ρ : Type} (D : va_G) (w0 : va_W) (sz : Nat) (gv : ρ → UInt64) (gw : ρ → va_W) (res : ρ) : Array Value → State → Outcome → State → Prop := va_Qd (fun r (_ : Unit) => r = gv res) (fun _ t => aB D w0 (gw res) sz t) (va_A w0 sz)
def aKd {ρ : Type} (l : Launch) (y : MethodName) (wy : List Cond) (rm : Room) (D : va_G) (J : JT) (tys : List (ClassId × FieldType)) (av : List Value) (w0 : va_W) (gv : ρ → UInt64) (gw : ρ → va_W) (res : ρ) : Prop := ∀ sz : Nat, Met l y wy rm (aPc D J tys av w0 sz) (aQd D w0 sz gv gw res) 0 0 (va_A w0 sz)
theorem aKd_of {ρ : Type} {l : Launch} {y : MethodName} {rm : Room} {cc : ByteArray} {maxL : Nat} {ret : Option FieldType} {D : va_G} {J : JT} {tys : List (ClassId × FieldType)} {av : List Value} {w0 : va_W} {gv : ρ → UInt64} {gw : ρ → va_W} {res : ρ} {lv : List (Nat × Value)} {own : String} (hy : plainName y.cls = true) (hown : y.cls = own) (hlen : (lg_sl av).length ≤ maxL) (hlv : lv_args 0 av = lv) (body : ∀ (p : Program) (e : Env) (s : State) (m : MethodId) (args : Array Value) (below : List Frame) (meth : Method) (c : Code), aC p s m args meth c cc maxL own WW D J tys (va_A w0 s.heap.size) → meth.sig.returnType = ret → aT p l e rm s m args below meth c (MQ below (aQd D w0 s.heap.size gv gw res) args s 0 0 (va_A w0 s.heap.size)) D (va_A w0 s.heap.size) maxL 0 0 0 lv [] w0) : aKd l y (aW y cc maxL ret) rm D J tys av w0 gv gw res := by
  intro sz
  refine Met.ofW hy rfl ?_
  intro p e s m args below meth c s₁ B hml hv
  obtain ⟨rfl, hsz, hP, hU, hD0, hG0⟩ := hv
  subst hsz
  have hl := lv_entry av hlen
  rw [lg_entry_eq]
  have hts := atoms_spec (ws := aW y cc maxL ret) B.pre
  have hfc := findClass_of_methodNamed B.named
  rw [hown] at hfc
  rw [hlv] at hl
  exact body p e s m _ below meth c ⟨⟨B.exec, B.bytes, hml, hfc, fun w hw => hts w (List.mem_cons_of_mem _ hw)⟩, hU, B.notSynchronized, fun q h => Or.inr h, hG0⟩ B.returns s.heap [] _ hP hD0.self va_S.rf hl
def aQxd {ρ : Type} (D : va_G) (w0 : va_W) (sz : Nat) (gv : ρ → UInt64 ⊕ String) (gw : ρ → va_W) (res : ρ) : Array Value → State → Outcome → State → Prop := va_Qd (fun r (_ : Unit) => gv res = .inl r) (fun _ t => aB D w0 (gw res) sz t) (va_A w0 sz)
def aXxd {ρ : Type} (D : va_G) (w0 : va_W) (sz : Nat) (gv : ρ → UInt64 ⊕ String) (gw : ρ → va_W) (res : ρ) : String → State → State → Prop := vx_X (fun (_ : Unit) => True) (fun E _ t => gv res = .inr E ∧ aB D w0 (gw res) sz t) (va_A w0 sz)
def aKxd {ρ : Type} (l : Launch) (y : MethodName) (wy : List Cond) (rm : Room) (D : va_G) (J : JT) (tys : List (ClassId × FieldType)) (av : List Value) (w0 : va_W) (gv : ρ → UInt64 ⊕ String) (gw : ρ → va_W) (res : ρ) (mc ms : Nat) : Prop := ∀ sz : Nat, vx_Met l y wy rm (aPc D J tys av w0 sz) (aQxd D w0 sz gv gw res) (aXxd D w0 sz gv gw res) mc ms (va_A w0 sz)
theorem aKxd_of {ρ : Type} {l : Launch} {y : MethodName} {rm : Room} {cc : ByteArray} {maxL : Nat} {ret : Option FieldType} {D : va_G} {J : JT} {tys : List (ClassId × FieldType)} {av : List Value} {w0 : va_W} {gv : ρ → UInt64 ⊕ String} {gw : ρ → va_W} {res : ρ} {lv : List (Nat × Value)} {own : String} {mc ms : Nat} (hy : plainName y.cls = true) (hown : y.cls = own) (hlen : (lg_sl av).length ≤ maxL) (hlv : lv_args 0 av = lv) (body : ∀ (p : Program) (e : Env) (s : State) (m : MethodId) (args : Array Value) (below : List Frame) (meth : Method) (c : Code), aC p s m args meth c cc maxL own WW D J tys (va_A w0 s.heap.size) → meth.sig.returnType = ret → (∀ x ∈ c.exceptionTable.toList, False) → aT p l e rm s m args below meth c (vx_MQ below (aQxd D w0 s.heap.size gv gw res) (aXxd D w0 s.heap.size gv gw res) args s mc ms (va_A w0 s.heap.size)) D (va_A w0 s.heap.size) maxL 0 0 0 lv [] w0) : aKxd l y (aW y cc maxL ret) rm D J tys av w0 gv gw res mc ms := by
  intro sz
  refine vx_ofW hy rfl ?_
  intro p e s m args below meth c s₁ B hml hex hv
  obtain ⟨rfl, hsz, hP, hU, hD0, hG0⟩ := hv
  subst hsz
  have hl := lv_entry av hlen
  rw [lg_entry_eq]
  have hts := atoms_spec (ws := aW y cc maxL ret) B.pre
  have hfc := findClass_of_methodNamed B.named
  rw [hown] at hfc
  rw [hlv] at hl
  exact body p e s m _ below meth c ⟨⟨B.exec, B.bytes, hml, hfc, fun w hw => hts w (List.mem_cons_of_mem _ hw)⟩, hU, B.notSynchronized, fun q h => Or.inr h, hG0⟩ B.returns hex s.heap [] _ hP hD0.self va_S.rf hl
section FR
variable {p : Program} {l : Launch} {e : Env} {R : Room} {s : State} {m : MethodId} {args : Array Value} {below : List Frame} {meth : Method} {c : Code} {Q : State → Prop} {D : va_G} {J : JT} {tys : List (ClassId × FieldType)} {A : Nat → Prop} {nL k n : Nat} {cc : ByteArray} {own : String} {pc : Nat} {lv : List (Nat × Value)} {st : List Value} {ws : va_W}
theorem a_i2f (C : aC p s m args meth c cc nL own WW D J tys A) {x : Int32} (hdg : decode cc pc = .ok (.i2f, 1)) (kk : aT p l e R s m args below meth c Q D A nL k n (pc + 1) lv (.float (FP.i2f x) :: st) ws) : aT p l e R s m args below meth c Q D A nL k n pc lv (.int x :: st) ws := fun H locs ls hP hD hS hl => lv_i2f C.1.1 C.1.2.1 hdg (kk H locs ls hP hD hS hl)
theorem a_fdiv (C : aC p s m args meth c cc nL own WW D J tys A) {x y : UInt32} {α : Type} {o : α} {kf : UInt32 → Option α} (hdg : decode cc pc = .ok (.fdiv, 1)) (hF : (fdv x y).bind kf = some o) (kk : ∀ z, fdv x y = some z → kf z = some o → aT p l e R s m args below meth c Q D A nL k n (pc + 1) lv (.float z :: st) ws) : aT p l e R s m args below meth c Q D A nL k n pc lv (.float y :: .float x :: st) ws := by
  obtain ⟨z, h1, hF⟩ := bd hF
  obtain ⟨hn, hz⟩ := chk2 h1
  intro H locs ls hP hD hS hl
  have h2 := kk z h1 hF H locs ls hP hD hS hl
  rw [hz] at h2
  exact lv_fdiv C.1.1 C.1.2.1 hdg hn h2
theorem a_fret {ρ : Type} {gv : ρ → UInt32} {gw : ρ → va_W} {rv res : ρ} {w0 : va_W} {v : UInt32} (C : aC p s m args meth c cc nL own WW D J tys (va_A w0 s.heap.size)) (hr : meth.sig.returnType = some .float) (hdg : decode cc pc = .ok (.freturn, 1)) (hF : some rv = some res) (hv : gv rv = v) (hw : gw rv = ws) : aT p l e R s m args below meth c (MQ below (aQf D w0 s.heap.size gv gw res) args s k n (va_A w0 s.heap.size)) D (va_A w0 s.heap.size) nL k n pc lv [.float v] ws := by
  cases hF
  subst hv
  subst hw
  exact fun H locs ls hP hD hS hl => W.fret C.1.1 C.1.2.1 hr (fun t ht hW => ⟨⟨_, (), rfl, rfl, by rw [ht]; exact hP, hD⟩, hS.F ht⟩) hS.2.2 hdg C.2.2.1
theorem x_fret {ρ : Type} {gv : ρ → UInt32 ⊕ String} {gw : ρ → va_W} {rv res : ρ} {w0 : va_W} {v : UInt32} {mc ms : Nat} (C : aC p s m args meth c cc nL own WW D J tys (va_A w0 s.heap.size)) (hr : meth.sig.returnType = some .float) (hdg : decode cc pc = .ok (.freturn, 1)) (hkm : k ≤ mc ∧ n ≤ ms) (hF : some rv = some res) (hv : gv rv = .inl v) (hw : gw rv = ws) : aT p l e R s m args below meth c (vx_MQ below (aQxf D w0 s.heap.size gv gw res) (aXxf D w0 s.heap.size gv gw res) args s mc ms (va_A w0 s.heap.size)) D (va_A w0 s.heap.size) nL k n pc lv [.float v] ws := by
  cases hF
  subst hw
  exact fun H locs ls hP hD hS hl => W.widen hkm.1 hkm.2 (vx_ret (W.fret C.1.1 C.1.2.1 hr (fun t ht hW => ⟨⟨_, (), rfl, hv, by rw [ht]; exact hP, hD⟩, hS.F ht⟩) hS.2.2 hdg C.2.2.1))
theorem xb_callv_f {ρ ρ1 : Type} {gv : ρ → UInt32 ⊕ String} {gw : ρ → va_W} {res : ρ} {w0 : va_W} {mc ms : Nat} (C : aC p s m args meth c cc nL own WW D J tys (va_A w0 s.heap.size)) {fy : Option ρ1} {kx : ρ1 → String → Option ρ} {kf : ρ1 → Int32 → Option ρ} {y : MethodName} {b : ByteArray} {mL mc1 ms1 : Nat} {ret : Option FieldType} {rm : Room} {idx : Nat} {As stk : List Value} {w1 : va_W} {gv1 : ρ1 → Int32 ⊕ String} {gw1 : ρ1 → va_W} {C1 : String} {T1 : u_T} {N1 ci a : Nat} {fs : List Value} (cnt : Nat) {rest : va_W} (wsn : ρ1 → va_W) (hG : GoodIn WW (wsV own idx C1 y (aW y b mL ret))) (hd : y.cls = C1 ∧ y.cls ≠ "java/lang/invoke/MethodHandle" ∧ y.cls ≠ "java/lang/invoke/VarHandle" ∧ (parseMethodDescriptor y.desc).map (fun d => d.parameters.length) = some cnt) (hex : ∀ x ∈ c.exceptionTable.toList, False) (hrm : rm.cells = mc1 ∧ rm.slots = ms1) (hR : rm.frames + 1 ≤ R.frames ∧ 8 + (mL + 11) + rm.locals ≤ R.locals) (hM : ∀ r, fy = some r → aKxv l y (aW y b mL ret) rm D J tys (.ref a :: As) w1 gv1 gw1 r mc1 ms1) (hc : vwCl[ci]? = some (C1, T1, N1)) (he : w1[0]? = some (a, .inr (ci, fs))) (hC : ws.Perm (w1 ++ rest)) (hN : ∀ r, (wsn r).Perm (gw1 r ++ rest)) (hst : stk = As.reverse ++ .ref a :: st) (hn : As.length = cnt) (hcat : (st.map fun v => v.category).sum ≤ 8) (hdg : decode cc pc = .ok (.invokevirtual idx, 3)) (hkn : k + mc1 ≤ R.cells ∧ n + ms1 ≤ R.slots) (hkm : k + mc1 ≤ mc ∧ n + ms1 ≤ ms) (hF : xb fy gv1 kx kf = some res) (hX : ∀ r E, kx r E = some res → gv res = .inr E ∧ gw res = wsn r) (kk : ∀ r v, fy = some r → gv1 r = .inl v → kf r v = some res → aT p l e R s m args below meth c (vx_MQ below (aQxf D w0 s.heap.size gv gw res) (aXxf D w0 s.heap.size gv gw res) args s mc ms (va_A w0 s.heap.size)) D (va_A w0 s.heap.size) nL (k + mc1) (n + ms1) (pc + 3) lv (st) (wsn r)) : aT p l e R s m args below meth c (vx_MQ below (aQxf D w0 s.heap.size gv gw res) (aXxf D w0 s.heap.size gv gw res) args s mc ms (va_A w0 s.heap.size)) D (va_A w0 s.heap.size) nL k n pc lv stk ws := by
  obtain ⟨r, h1, hF⟩ := bd hF
  subst hst
  intro H locs ls hP hD hS hl
  have hPc0 := hP
  have hKc := C.2.1.1
  have hPc : va_P D vwCl w1 H := p_sub hP hC
  have hDc : va_D (va_A w0 s.heap.size) w1 := d_sub hD hC
  have hFc := p_free (wc := w1) hD hS C.2.2.2.1 hC
  refine vx_callv (vx_runV (As := As) (rest := st) C.1 (hM r h1 H.size) (cwV cnt C.1.2.2.2.2 hG rfl hrm.1 hrm.2 hd hR) ⟨aPc_blind, va_recv hKc hPc hc he, fun U hU hW => ⟨rfl, by rw [hU], by rw [hU]; exact hPc, C.2.1.warm hW, hDc.weaken (fun _ _ _ _ => trivial), by rw [hU]; exact ((C.2.2.2.2.kept hS.2.1).warm hW).narrow hFc⟩⟩ rfl hn hl.1 rfl (lv_room hcat) hdg hkn) hS (fun q _ h => hFc q h) hFc (fun q _ h => hFc q h) (fun E ce q9 u t H1 locs1 ht hvm hpx hB hz1 hk1 hS hce hcv hcl => ?_) (fun u t H1 locs1 ht hvm hw hB hz1 hk1 hS => ?_)
  · obtain ⟨hg, hP1, hD1⟩ := hB
    rw [ht] at hP1
    rw [hg] at hF
    obtain ⟨g1, g2⟩ := hX r E hF
    obtain ⟨hP, hD⟩ := p_join hP hD hC (hN r) hFc hk1 hP1 hD1
    rw [← g2] at hP hD
    exact vx_out (fun x hx => (hex x hx).elim) C.2.2.1 hce hcv hcl (fun t2 ht2 hW2 => ⟨(), trivial, ⟨g1, by rw [ht2]; exact hP, hD⟩, hS.F ht2⟩) hS.2.2 hkm.1 hkm.2
  · obtain ⟨hP1, hD1⟩ := hB
    rw [ht] at hP1
    have hw2 : gv1 r = .inl 0 := hw
    rw [hw2] at hF
    obtain ⟨hP, hD⟩ := p_join hP hD hC (hN r) hFc hk1 hP1 hD1
    exact kk r 0 h1 hw2 hF H1 locs1 ls hP hD hS hl
theorem a_i2d (C : aC p s m args meth c cc nL own WW D J tys A) {x : Int32} (hdg : decode cc pc = .ok (.i2d, 1)) (kk : aT p l e R s m args below meth c Q D A nL k n (pc + 1) lv (.double (FP.i2d x) :: st) ws) : aT p l e R s m args below meth c Q D A nL k n pc lv (.int x :: st) ws := fun H locs ls hP hD hS hl => lv_i2d C.1.1 C.1.2.1 hdg (kk H locs ls hP hD hS hl)
theorem a_ddiv (C : aC p s m args meth c cc nL own WW D J tys A) {x y : UInt64} {α : Type} {o : α} {kf : UInt64 → Option α} (hdg : decode cc pc = .ok (.ddiv, 1)) (hF : (ddv x y).bind kf = some o) (kk : ∀ z, ddv x y = some z → kf z = some o → aT p l e R s m args below meth c Q D A nL k n (pc + 1) lv (.double z :: st) ws) : aT p l e R s m args below meth c Q D A nL k n pc lv (.double y :: .double x :: st) ws := by
  obtain ⟨z, h1, hF⟩ := bd hF
  obtain ⟨hn, hz⟩ := chk2 h1
  intro H locs ls hP hD hS hl
  have h2 := kk z h1 hF H locs ls hP hD hS hl
  rw [hz] at h2
  exact lv_ddiv C.1.1 C.1.2.1 hdg hn h2
theorem a_dret {ρ : Type} {gv : ρ → UInt64} {gw : ρ → va_W} {rv res : ρ} {w0 : va_W} {v : UInt64} (C : aC p s m args meth c cc nL own WW D J tys (va_A w0 s.heap.size)) (hr : meth.sig.returnType = some .double) (hdg : decode cc pc = .ok (.dreturn, 1)) (hF : some rv = some res) (hv : gv rv = v) (hw : gw rv = ws) : aT p l e R s m args below meth c (MQ below (aQd D w0 s.heap.size gv gw res) args s k n (va_A w0 s.heap.size)) D (va_A w0 s.heap.size) nL k n pc lv [.double v] ws := by
  cases hF
  subst hv
  subst hw
  exact fun H locs ls hP hD hS hl => W.dret C.1.1 C.1.2.1 hr (fun t ht hW => ⟨⟨_, (), rfl, rfl, by rw [ht]; exact hP, hD⟩, hS.F ht⟩) hS.2.2 hdg C.2.2.1
theorem x_dret {ρ : Type} {gv : ρ → UInt64 ⊕ String} {gw : ρ → va_W} {rv res : ρ} {w0 : va_W} {v : UInt64} {mc ms : Nat} (C : aC p s m args meth c cc nL own WW D J tys (va_A w0 s.heap.size)) (hr : meth.sig.returnType = some .double) (hdg : decode cc pc = .ok (.dreturn, 1)) (hkm : k ≤ mc ∧ n ≤ ms) (hF : some rv = some res) (hv : gv rv = .inl v) (hw : gw rv = ws) : aT p l e R s m args below meth c (vx_MQ below (aQxd D w0 s.heap.size gv gw res) (aXxd D w0 s.heap.size gv gw res) args s mc ms (va_A w0 s.heap.size)) D (va_A w0 s.heap.size) nL k n pc lv [.double v] ws := by
  cases hF
  subst hw
  exact fun H locs ls hP hD hS hl => W.widen hkm.1 hkm.2 (vx_ret (W.dret C.1.1 C.1.2.1 hr (fun t ht hW => ⟨⟨_, (), rfl, hv, by rw [ht]; exact hP, hD⟩, hS.F ht⟩) hS.2.2 hdg C.2.2.1))
theorem xb_callv_d {ρ ρ1 : Type} {gv : ρ → UInt64 ⊕ String} {gw : ρ → va_W} {res : ρ} {w0 : va_W} {mc ms : Nat} (C : aC p s m args meth c cc nL own WW D J tys (va_A w0 s.heap.size)) {fy : Option ρ1} {kx : ρ1 → String → Option ρ} {kf : ρ1 → Int32 → Option ρ} {y : MethodName} {b : ByteArray} {mL mc1 ms1 : Nat} {ret : Option FieldType} {rm : Room} {idx : Nat} {As stk : List Value} {w1 : va_W} {gv1 : ρ1 → Int32 ⊕ String} {gw1 : ρ1 → va_W} {C1 : String} {T1 : u_T} {N1 ci a : Nat} {fs : List Value} (cnt : Nat) {rest : va_W} (wsn : ρ1 → va_W) (hG : GoodIn WW (wsV own idx C1 y (aW y b mL ret))) (hd : y.cls = C1 ∧ y.cls ≠ "java/lang/invoke/MethodHandle" ∧ y.cls ≠ "java/lang/invoke/VarHandle" ∧ (parseMethodDescriptor y.desc).map (fun d => d.parameters.length) = some cnt) (hex : ∀ x ∈ c.exceptionTable.toList, False) (hrm : rm.cells = mc1 ∧ rm.slots = ms1) (hR : rm.frames + 1 ≤ R.frames ∧ 8 + (mL + 11) + rm.locals ≤ R.locals) (hM : ∀ r, fy = some r → aKxv l y (aW y b mL ret) rm D J tys (.ref a :: As) w1 gv1 gw1 r mc1 ms1) (hc : vwCl[ci]? = some (C1, T1, N1)) (he : w1[0]? = some (a, .inr (ci, fs))) (hC : ws.Perm (w1 ++ rest)) (hN : ∀ r, (wsn r).Perm (gw1 r ++ rest)) (hst : stk = As.reverse ++ .ref a :: st) (hn : As.length = cnt) (hcat : (st.map fun v => v.category).sum ≤ 8) (hdg : decode cc pc = .ok (.invokevirtual idx, 3)) (hkn : k + mc1 ≤ R.cells ∧ n + ms1 ≤ R.slots) (hkm : k + mc1 ≤ mc ∧ n + ms1 ≤ ms) (hF : xb fy gv1 kx kf = some res) (hX : ∀ r E, kx r E = some res → gv res = .inr E ∧ gw res = wsn r) (kk : ∀ r v, fy = some r → gv1 r = .inl v → kf r v = some res → aT p l e R s m args below meth c (vx_MQ below (aQxd D w0 s.heap.size gv gw res) (aXxd D w0 s.heap.size gv gw res) args s mc ms (va_A w0 s.heap.size)) D (va_A w0 s.heap.size) nL (k + mc1) (n + ms1) (pc + 3) lv (st) (wsn r)) : aT p l e R s m args below meth c (vx_MQ below (aQxd D w0 s.heap.size gv gw res) (aXxd D w0 s.heap.size gv gw res) args s mc ms (va_A w0 s.heap.size)) D (va_A w0 s.heap.size) nL k n pc lv stk ws := by
  obtain ⟨r, h1, hF⟩ := bd hF
  subst hst
  intro H locs ls hP hD hS hl
  have hPc0 := hP
  have hKc := C.2.1.1
  have hPc : va_P D vwCl w1 H := p_sub hP hC
  have hDc : va_D (va_A w0 s.heap.size) w1 := d_sub hD hC
  have hFc := p_free (wc := w1) hD hS C.2.2.2.1 hC
  refine vx_callv (vx_runV (As := As) (rest := st) C.1 (hM r h1 H.size) (cwV cnt C.1.2.2.2.2 hG rfl hrm.1 hrm.2 hd hR) ⟨aPc_blind, va_recv hKc hPc hc he, fun U hU hW => ⟨rfl, by rw [hU], by rw [hU]; exact hPc, C.2.1.warm hW, hDc.weaken (fun _ _ _ _ => trivial), by rw [hU]; exact ((C.2.2.2.2.kept hS.2.1).warm hW).narrow hFc⟩⟩ rfl hn hl.1 rfl (lv_room hcat) hdg hkn) hS (fun q _ h => hFc q h) hFc (fun q _ h => hFc q h) (fun E ce q9 u t H1 locs1 ht hvm hpx hB hz1 hk1 hS hce hcv hcl => ?_) (fun u t H1 locs1 ht hvm hw hB hz1 hk1 hS => ?_)
  · obtain ⟨hg, hP1, hD1⟩ := hB
    rw [ht] at hP1
    rw [hg] at hF
    obtain ⟨g1, g2⟩ := hX r E hF
    obtain ⟨hP, hD⟩ := p_join hP hD hC (hN r) hFc hk1 hP1 hD1
    rw [← g2] at hP hD
    exact vx_out (fun x hx => (hex x hx).elim) C.2.2.1 hce hcv hcl (fun t2 ht2 hW2 => ⟨(), trivial, ⟨g1, by rw [ht2]; exact hP, hD⟩, hS.F ht2⟩) hS.2.2 hkm.1 hkm.2
  · obtain ⟨hP1, hD1⟩ := hB
    rw [ht] at hP1
    have hw2 : gv1 r = .inl 0 := hw
    rw [hw2] at hF
    obtain ⟨hP, hD⟩ := p_join hP hD hC (hN r) hFc hk1 hP1 hD1
    exact kk r 0 h1 hw2 hF H1 locs1 ls hP hD hS hl
theorem a_fconst0 (C : aC p s m args meth c cc nL own WW D J tys A) (hdg : decode cc pc = .ok (.fconst 0, 1)) (kk : aT p l e R s m args below meth c Q D A nL k n (pc + 1) lv (.float FP.fconst0 :: st) ws) : aT p l e R s m args below meth c Q D A nL k n pc lv st ws := fun H locs ls hP hD hS hl => lv_fconst0 C.1.1 C.1.2.1 hdg (kk H locs ls hP hD hS hl)
theorem a_dconst0 (C : aC p s m args meth c cc nL own WW D J tys A) (hdg : decode cc pc = .ok (.dconst 0, 1)) (kk : aT p l e R s m args below meth c Q D A nL k n (pc + 1) lv (.double FP.dconst0 :: st) ws) : aT p l e R s m args below meth c Q D A nL k n pc lv st ws := fun H locs ls hP hD hS hl => lv_dconst0 C.1.1 C.1.2.1 hdg (kk H locs ls hP hD hS hl)
end FR
