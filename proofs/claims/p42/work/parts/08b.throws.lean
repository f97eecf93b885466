/-! METHODS THAT MAY THROW: a result 'res' says by gv res whether the method answers (.inl v; a void one .inl 0) or throws (.inr class); gw res: its cells then. -/
def xb {ρ τ : Type} (fy : Option ρ) (gv : ρ → Int32 ⊕ String) (kx : ρ → String → Option τ) (kf : ρ → Int32 → Option τ) : Option τ := fy.bind fun r => (gv r).elim (kf r) (kx r)
def aQx {ρ : Type} (D : va_G) (w0 : va_W) (sz : Nat) (gv : ρ → Int32 ⊕ String) (gw : ρ → va_W) (res : ρ) : Array Value → State → Outcome → State → Prop := va_Qi (fun r (_ : Unit) => gv res = .inl r) (fun _ t => aB D w0 (gw res) sz t) (va_A w0 sz)
def aQxv {ρ : Type} (D : va_G) (w0 : va_W) (sz : Nat) (gv : ρ → Int32 ⊕ String) (gw : ρ → va_W) (res : ρ) : Array Value → State → Outcome → State → Prop := va_Qv (fun (_ : Unit) => gv res = .inl 0) (fun _ t => aB D w0 (gw res) sz t) (va_A w0 sz)
def aXx {ρ : Type} (D : va_G) (w0 : va_W) (sz : Nat) (gv : ρ → Int32 ⊕ String) (gw : ρ → va_W) (res : ρ) : String → State → State → Prop := vx_X (fun (_ : Unit) => True) (fun E _ t => gv res = .inr E ∧ aB D w0 (gw res) sz t) (va_A w0 sz)
def aKx {ρ : Type} (l : Launch) (y : MethodName) (wy : List Cond) (rm : Room) (D : va_G) (J : JT) (tys : List (ClassId × FieldType)) (av : List Value) (w0 : va_W) (gv : ρ → Int32 ⊕ String) (gw : ρ → va_W) (res : ρ) (mc ms : Nat) : Prop := ∀ sz : Nat, vx_Met l y wy rm (aPc D J tys av w0 sz) (aQx D w0 sz gv gw res) (aXx D w0 sz gv gw res) mc ms (va_A w0 sz)
def aKxv {ρ : Type} (l : Launch) (y : MethodName) (wy : List Cond) (rm : Room) (D : va_G) (J : JT) (tys : List (ClassId × FieldType)) (av : List Value) (w0 : va_W) (gv : ρ → Int32 ⊕ String) (gw : ρ → va_W) (res : ρ) (mc ms : Nat) : Prop := ∀ sz : Nat, vx_Met l y wy rm (aPc D J tys av w0 sz) (aQxv D w0 sz gv gw res) (aXx D w0 sz gv gw res) mc ms (va_A w0 sz)
theorem aKx_of {ρ : Type} {l : Launch} {y : MethodName} {rm : Room} {cc : ByteArray} {maxL : Nat} {ret : Option FieldType} {D : va_G} {J : JT} {tys : List (ClassId × FieldType)} {av : List Value} {w0 : va_W} {gv : ρ → Int32 ⊕ String} {gw : ρ → va_W} {res : ρ} {lv : List (Nat × Value)} {own : String} {mc ms : Nat} (hy : plainName y.cls = true) (hown : y.cls = own) (hlen : (lg_sl av).length ≤ maxL) (hlv : lv_args 0 av = lv) (body : ∀ (p : Program) (e : Env) (s : State) (m : MethodId) (args : Array Value) (below : List Frame) (meth : Method) (c : Code), aC p s m args meth c cc maxL own WW D J tys (va_A w0 s.heap.size) → meth.sig.returnType = ret → (∀ x ∈ c.exceptionTable.toList, False) → aT p l e rm s m args below meth c (vx_MQ below (aQx D w0 s.heap.size gv gw res) (aXx D w0 s.heap.size gv gw res) args s mc ms (va_A w0 s.heap.size)) D (va_A w0 s.heap.size) maxL 0 0 0 lv [] w0) : aKx l y (aW y cc maxL ret) rm D J tys av w0 gv gw res mc ms := by
  intro sz
  refine vx_ofW hy rfl ?_
  intro p e s m args below meth c s₁ B hml hex hv
  obtain ⟨rfl, hsz, hP, hU, hD0, hG0⟩ := hv
  subst hsz
  have hl := lv_entry av hlen
  rw [lg_entry_eq]
  have hts := atoms_spec (ws := aW y cc maxL ret) B.pre
  have hfc := findClass_of_methodNamed B.named
  rw [hown] at hfc
  rw [hlv] at hl
  exact body p e s m _ below meth c ⟨⟨B.exec, B.bytes, hml, hfc, fun w hw => hts w (List.mem_cons_of_mem _ hw)⟩, hU, B.notSynchronized, fun q h => Or.inr h, hG0⟩ B.returns hex s.heap [] _ hP hD0.self va_S.rf hl
theorem aKxv_of {ρ : Type} {l : Launch} {y : MethodName} {rm : Room} {cc : ByteArray} {maxL : Nat} {ret : Option FieldType} {D : va_G} {J : JT} {tys : List (ClassId × FieldType)} {av : List Value} {w0 : va_W} {gv : ρ → Int32 ⊕ String} {gw : ρ → va_W} {res : ρ} {lv : List (Nat × Value)} {own : String} {mc ms : Nat} (hy : plainName y.cls = true) (hown : y.cls = own) (hlen : (lg_sl av).length ≤ maxL) (hlv : lv_args 0 av = lv) (body : ∀ (p : Program) (e : Env) (s : State) (m : MethodId) (args : Array Value) (below : List Frame) (meth : Method) (c : Code), aC p s m args meth c cc maxL own WW D J tys (va_A w0 s.heap.size) → meth.sig.returnType = ret → (∀ x ∈ c.exceptionTable.toList, False) → aT p l e rm s m args below meth c (vx_MQ below (aQxv D w0 s.heap.size gv gw res) (aXx D w0 s.heap.size gv gw res) args s mc ms (va_A w0 s.heap.size)) D (va_A w0 s.heap.size) maxL 0 0 0 lv [] w0) : aKxv l y (aW y cc maxL ret) rm D J tys av w0 gv gw res mc ms := by
  intro sz
  refine vx_ofW hy rfl ?_
  intro p e s m args below meth c s₁ B hml hex hv
  obtain ⟨rfl, hsz, hP, hU, hD0, hG0⟩ := hv
  subst hsz
  have hl := lv_entry av hlen
  rw [lg_entry_eq]
  have hts := atoms_spec (ws := aW y cc maxL ret) B.pre
  have hfc := findClass_of_methodNamed B.named
  rw [hown] at hfc
  rw [hlv] at hl
  exact body p e s m _ below meth c ⟨⟨B.exec, B.bytes, hml, hfc, fun w hw => hts w (List.mem_cons_of_mem _ hw)⟩, hU, B.notSynchronized, fun q h => Or.inr h, hG0⟩ B.returns hex s.heap [] _ hP hD0.self va_S.rf hl
section XR
variable {p : Program} {l : Launch} {e : Env} {R : Room} {s : State} {m : MethodId} {args : Array Value} {below : List Frame} {meth : Method} {c : Code} {Q : State → Prop} {D : va_G} {J : JT} {tys : List (ClassId × FieldType)} {A : Nat → Prop} {nL k n : Nat} {cc : ByteArray} {own : String} {pc : Nat} {lv : List (Nat × Value)} {st : List Value} {ws : va_W}
theorem x_iret {ρ : Type} {gv : ρ → Int32 ⊕ String} {gw : ρ → va_W} {rv res : ρ} {w0 : va_W} {ty : FieldType} {v : Int32} {mc ms : Nat} (C : aC p s m args meth c cc nL own WW D J tys (va_A w0 s.heap.size)) (hr : meth.sig.returnType = some ty) (hn : narrow ty (.int v) = .int v) (hdg : decode cc pc = .ok (.ireturn, 1)) (hkm : k ≤ mc ∧ n ≤ ms) (hF : some rv = some res) (hv : gv rv = .inl v) (hw : gw rv = ws) : aT p l e R s m args below meth c (vx_MQ below (aQx D w0 s.heap.size gv gw res) (aXx D w0 s.heap.size gv gw res) args s mc ms (va_A w0 s.heap.size)) D (va_A w0 s.heap.size) nL k n pc lv [.int v] ws := by
  cases hF
  subst hw
  exact fun H locs ls hP hD hS hl => W.widen hkm.1 hkm.2 (vx_ret (W.zret C.1.1 C.1.2.1 hr hn (fun t ht hW => ⟨⟨_, (), rfl, hv, by rw [ht]; exact hP, hD⟩, hS.F ht⟩) hS.2.2 hdg C.2.2.1))
theorem x_vret {ρ : Type} {gv : ρ → Int32 ⊕ String} {gw : ρ → va_W} {rv res : ρ} {w0 : va_W} {mc ms : Nat} (C : aC p s m args meth c cc nL own WW D J tys (va_A w0 s.heap.size)) (hr : meth.sig.returnType = none) (hdg : decode cc pc = .ok (.return_, 1)) (hkm : k ≤ mc ∧ n ≤ ms) (hF : some rv = some res) (hv : gv rv = .inl 0) (hw : gw rv = ws) : aT p l e R s m args below meth c (vx_MQ below (aQxv D w0 s.heap.size gv gw res) (aXx D w0 s.heap.size gv gw res) args s mc ms (va_A w0 s.heap.size)) D (va_A w0 s.heap.size) nL k n pc lv [] ws := by
  cases hF
  subst hw
  exact fun H locs ls hP hD hS hl => W.widen hkm.1 hkm.2 (vx_ret (W.vret C.1.1 C.1.2.1 hr (fun t ht hW => ⟨⟨(), rfl, hv, by rw [ht]; exact hP, hD⟩, hS.F ht⟩) hS.2.2 hdg C.2.2.1))
theorem x_world {w0 : va_W} {H : Heap} {locs : List Loc} {t : State} (hP : va_P D vwCl ws H) (hD : va_D (va_A w0 s.heap.size) ws) (hS : va_S (va_A w0 s.heap.size) s.heap H locs) (h1 : H.size ≤ t.heap.size) (h2 : ∀ q : Nat, q < H.size → t.heap[q]? = H[q]?) : aB D w0 ws s.heap.size t ∧ va_F (va_A w0 s.heap.size) s t :=
  ⟨⟨fun k q hq => (hP k q hq).kept (h2 q.1 (hP k q hq).lt), hD⟩, Nat.le_trans hS.1 h1, fun q g1 g2 => (h2 q (Nat.lt_of_lt_of_le g1 hS.1)).trans (hS.2.1 q g1 g2)⟩
def xNm : List String := ["java/lang/RuntimeException", "java/lang/Exception"]
def xB (cls : String) : List Cond := [.castable cls cls, .declares ⟨"java/lang/RuntimeException", "<init>", "(Ljava/lang/String;)V"⟩, .declares ⟨"java/lang/Exception", "<init>", "(Ljava/lang/String;)V"⟩, .declares ⟨"java/lang/Throwable", "<init>", "(Ljava/lang/String;)V"⟩]
/-- what a class of exceptions needs of the words, decided once -/
def xOk (ik ic : Nat) (cls : String) : Prop := Bundle.fit cls = true ∧ Cond.classLink RX8 ik cls ∈ WW ∧ Cond.initialized cls ∈ WW ∧ (∀ w ∈ (vx_atS RX8 ic cls xNm).filter goodWord, w ∈ WW) ∧ (∀ w ∈ (vx_atS RX8 ic cls xNm).filter (fun w => !goodWord w), w ∈ xB cls) ∧ cls ∈ aX7 ∧ ∀ w ∈ Cond.classLink RX8 ik cls :: Cond.initialized cls :: vx_atS RX8 ic cls xNm, vx_ot w = true
theorem x_hat {ik ic : Nat} {cls : String} (C : aC p s m args meth c cc nL RX8 WW D J tys A) (h : xOk ik ic cls) : ∀ w ∈ vx_atS RX8 ic cls xNm, w.before args s = true := by
  refine vx_hat (fun w hw => C.1.2.2.2.2 w (h.2.2.2.1 w hw)) h.2.2.2.2.1 ?_
  have hG := C.2.2.2.2
  exact vx_c (va_Nw.use rfl (hG.2.2.1 cls h.2.2.2.2.2.1)) (vx_c (va_Nw.use rfl (hG.2.2.2.1 _ (List.mem_of_getElem? (i := 0) rfl))) (vx_c (va_Nw.use rfl (hG.2.2.2.1 _ (List.mem_of_getElem? (i := 1) rfl))) (vx_c (va_Nw.use rfl (hG.2.2.2.1 _ (List.mem_of_getElem? (i := 2) rfl))) vx_n)))
theorem x_throwS {ρ : Type} {gv : ρ → Int32 ⊕ String} {gw : ρ → va_W} {rv res : ρ} {w0 : va_W} {mc ms ik is ic : Nat} {cls text : String} (C : aC p s m args meth c cc nL RX8 WW D J tys (va_A w0 s.heap.size)) (hfl : l.stackTraces = false) (hx : xOk ik ic cls) (hst : (is, text) ∈ aSt8) (d0 : decode cc pc = .ok (.new ik, 3)) (d3 : decode cc (pc + 3) = .ok (.dup, 1)) (d4 : decode cc (pc + 4) = .ok (.ldc is, 2)) (d6 : decode cc (pc + 6) = .ok (.invokespecial ic, 3)) (d9 : decode cc (pc + 9) = .ok (.athrow, 1)) (hex : ∀ x ∈ c.exceptionTable.toList, False) (hR : 5 < R.frames ∧ (st.map fun v => v.category).sum + 82 ≤ R.locals) (hRc : k + 1 ≤ R.cells ∧ n + 6 ≤ R.slots) (hkm : k + 1 ≤ mc ∧ n + 6 ≤ ms) (hF : some rv = some res) (hv : gv rv = .inr cls) (hw : gw rv = ws) : aT p l e R s m args below meth c (vx_MQ below (aQx D w0 s.heap.size gv gw res) (aXx D w0 s.heap.size gv gw res) args s mc ms (va_A w0 s.heap.size)) D (va_A w0 s.heap.size) nL k n pc lv st ws := by
  cases hF
  subst hw
  intro H locs ls hP hD hS hl
  obtain ⟨sa, hsa⟩ := C.2.2.2.2.2.1 _ hst
  exact vx_throwS (names := xNm) C.1.1 C.1.2.1 hfl C.1.2.2.2.1 hx.1 (by decide) (C.1.2.2.2.2 _ hx.2.1) (C.1.2.2.2.2 _ hx.2.2.1) hsa (x_hat C hx) hx.2.2.2.2.2.2 C.2.2.2.2.1.1 C.2.2.2.2.1.2 hS (hl.1.trans C.1.2.2.1.symm) d0 d3 d4 d6 d9 (fun x hx => (hex x hx).elim) hR.1 hR.2 hRc.1 hRc.2 C.2.2.1 (fun t ht h1 h2 => ⟨(), trivial, ⟨hv, (x_world hP hD hS h1 h2).1⟩, (x_world hP hD hS h1 h2).2⟩) hS.2.2 hkm.1 hkm.2
theorem x_throwSv {ρ : Type} {gv : ρ → Int32 ⊕ String} {gw : ρ → va_W} {rv res : ρ} {w0 : va_W} {mc ms ik is ic : Nat} {cls text : String} (C : aC p s m args meth c cc nL RX8 WW D J tys (va_A w0 s.heap.size)) (hfl : l.stackTraces = false) (hx : xOk ik ic cls) (hst : (is, text) ∈ aSt8) (d0 : decode cc pc = .ok (.new ik, 3)) (d3 : decode cc (pc + 3) = .ok (.dup, 1)) (d4 : decode cc (pc + 4) = .ok (.ldc is, 2)) (d6 : decode cc (pc + 6) = .ok (.invokespecial ic, 3)) (d9 : decode cc (pc + 9) = .ok (.athrow, 1)) (hex : ∀ x ∈ c.exceptionTable.toList, False) (hR : 5 < R.frames ∧ (st.map fun v => v.category).sum + 82 ≤ R.locals) (hRc : k + 1 ≤ R.cells ∧ n + 6 ≤ R.slots) (hkm : k + 1 ≤ mc ∧ n + 6 ≤ ms) (hF : some rv = some res) (hv : gv rv = .inr cls) (hw : gw rv = ws) : aT p l e R s m args below meth c (vx_MQ below (aQxv D w0 s.heap.size gv gw res) (aXx D w0 s.heap.size gv gw res) args s mc ms (va_A w0 s.heap.size)) D (va_A w0 s.heap.size) nL k n pc lv st ws := by
  cases hF
  subst hw
  intro H locs ls hP hD hS hl
  obtain ⟨sa, hsa⟩ := C.2.2.2.2.2.1 _ hst
  exact vx_throwS (names := xNm) C.1.1 C.1.2.1 hfl C.1.2.2.2.1 hx.1 (by decide) (C.1.2.2.2.2 _ hx.2.1) (C.1.2.2.2.2 _ hx.2.2.1) hsa (x_hat C hx) hx.2.2.2.2.2.2 C.2.2.2.2.1.1 C.2.2.2.2.1.2 hS (hl.1.trans C.1.2.2.1.symm) d0 d3 d4 d6 d9 (fun x hx => (hex x hx).elim) hR.1 hR.2 hRc.1 hRc.2 C.2.2.1 (fun t ht h1 h2 => ⟨(), trivial, ⟨hv, (x_world hP hD hS h1 h2).1⟩, (x_world hP hD hS h1 h2).2⟩) hS.2.2 hkm.1 hkm.2
theorem x_throwSW {ρ : Type} {gv : ρ → Int32 ⊕ String} {gw : ρ → va_W} {rv res : ρ} {w0 : va_W} {mc ms ik is ic : Nat} {cls text : String} (C : aC p s m args meth c cc nL RX8 WW D J tys (va_A w0 s.heap.size)) (hfl : l.stackTraces = false) (hx : xOk ik ic cls) (hst : (is, text) ∈ aSt8) (d0 : decode cc pc = .ok (.new ik, 3)) (d3 : decode cc (pc + 3) = .ok (.dup, 1)) (d4 : decode cc (pc + 4) = .ok (.ldc_w is, 3)) (d6 : decode cc (pc + 7) = .ok (.invokespecial ic, 3)) (d9 : decode cc (pc + 10) = .ok (.athrow, 1)) (hex : ∀ x ∈ c.exceptionTable.toList, False) (hR : 5 < R.frames ∧ (st.map fun v => v.category).sum + 82 ≤ R.locals) (hRc : k + 1 ≤ R.cells ∧ n + 6 ≤ R.slots) (hkm : k + 1 ≤ mc ∧ n + 6 ≤ ms) (hF : some rv = some res) (hv : gv rv = .inr cls) (hw : gw rv = ws) : aT p l e R s m args below meth c (vx_MQ below (aQx D w0 s.heap.size gv gw res) (aXx D w0 s.heap.size gv gw res) args s mc ms (va_A w0 s.heap.size)) D (va_A w0 s.heap.size) nL k n pc lv st ws := by
  cases hF
  subst hw
  intro H locs ls hP hD hS hl
  obtain ⟨sa, hsa⟩ := C.2.2.2.2.2.1 _ hst
  exact vx_throwSW (names := xNm) C.1.1 C.1.2.1 hfl C.1.2.2.2.1 hx.1 (by decide) (C.1.2.2.2.2 _ hx.2.1) (C.1.2.2.2.2 _ hx.2.2.1) hsa (x_hat C hx) hx.2.2.2.2.2.2 C.2.2.2.2.1.1 C.2.2.2.2.1.2 hS (hl.1.trans C.1.2.2.1.symm) d0 d3 d4 d6 d9 (fun x hx => (hex x hx).elim) hR.1 hR.2 hRc.1 hRc.2 C.2.2.1 (fun t ht h1 h2 => ⟨(), trivial, ⟨hv, (x_world hP hD hS h1 h2).1⟩, (x_world hP hD hS h1 h2).2⟩) hS.2.2 hkm.1 hkm.2
theorem x_throwSWv {ρ : Type} {gv : ρ → Int32 ⊕ String} {gw : ρ → va_W} {rv res : ρ} {w0 : va_W} {mc ms ik is ic : Nat} {cls text : String} (C : aC p s m args meth c cc nL RX8 WW D J tys (va_A w0 s.heap.size)) (hfl : l.stackTraces = false) (hx : xOk ik ic cls) (hst : (is, text) ∈ aSt8) (d0 : decode cc pc = .ok (.new ik, 3)) (d3 : decode cc (pc + 3) = .ok (.dup, 1)) (d4 : decode cc (pc + 4) = .ok (.ldc_w is, 3)) (d6 : decode cc (pc + 7) = .ok (.invokespecial ic, 3)) (d9 : decode cc (pc + 10) = .ok (.athrow, 1)) (hex : ∀ x ∈ c.exceptionTable.toList, False) (hR : 5 < R.frames ∧ (st.map fun v => v.category).sum + 82 ≤ R.locals) (hRc : k + 1 ≤ R.cells ∧ n + 6 ≤ R.slots) (hkm : k + 1 ≤ mc ∧ n + 6 ≤ ms) (hF : some rv = some res) (hv : gv rv = .inr cls) (hw : gw rv = ws) : aT p l e R s m args below meth c (vx_MQ below (aQxv D w0 s.heap.size gv gw res) (aXx D w0 s.heap.size gv gw res) args s mc ms (va_A w0 s.heap.size)) D (va_A w0 s.heap.size) nL k n pc lv st ws := by
  cases hF
  subst hw
  intro H locs ls hP hD hS hl
  obtain ⟨sa, hsa⟩ := C.2.2.2.2.2.1 _ hst
  exact vx_throwSW (names := xNm) C.1.1 C.1.2.1 hfl C.1.2.2.2.1 hx.1 (by decide) (C.1.2.2.2.2 _ hx.2.1) (C.1.2.2.2.2 _ hx.2.2.1) hsa (x_hat C hx) hx.2.2.2.2.2.2 C.2.2.2.2.1.1 C.2.2.2.2.1.2 hS (hl.1.trans C.1.2.2.1.symm) d0 d3 d4 d6 d9 (fun x hx => (hex x hx).elim) hR.1 hR.2 hRc.1 hRc.2 C.2.2.1 (fun t ht h1 h2 => ⟨(), trivial, ⟨hv, (x_world hP hD hS h1 h2).1⟩, (x_world hP hD hS h1 h2).2⟩) hS.2.2 hkm.1 hkm.2
theorem x_calli_i {ρ ρ1 : Type} {gv : ρ → Int32 ⊕ String} {gw : ρ → va_W} {res : ρ} {w0 : va_W} {mc ms : Nat} (C : aC p s m args meth c cc nL own WW D J tys (va_A w0 s.heap.size)) {fy : Option ρ1} {kx : ρ1 → String → Option ρ} {kf : ρ1 → Int32 → Option ρ} {y : MethodName} {b : ByteArray} {mL mc1 ms1 : Nat} {ret : Option FieldType} {rm : Room} {idx : Nat} {As stk : List Value} {w1 : va_W} {gv1 : ρ1 → Int32 ⊕ String} {gw1 : ρ1 → va_W} {C1 : String} {T1 : u_T} {N1 ci a : Nat} {fs : List Value} (cnt : Nat) (isC : List Nat) (q0 : Nat) (hG : GoodIn WW (wsV own idx C1 y (aW y b mL ret))) (hd : y.cls = C1 ∧ y.cls ≠ "java/lang/invoke/MethodHandle" ∧ y.cls ≠ "java/lang/invoke/VarHandle" ∧ (parseMethodDescriptor y.desc).map (fun d => d.parameters.length) = some cnt) (hex : ∀ x ∈ c.exceptionTable.toList, False) (hrm : rm.cells = mc1 ∧ rm.slots = ms1) (hR : rm.frames + 1 ≤ R.frames ∧ 8 + (mL + 11) + rm.locals ≤ R.locals) (hM : ∀ r, fy = some r → aKx l y (aW y b mL ret) rm D J tys (.ref a :: As) w1 gv1 gw1 r mc1 ms1) (hc : vwCl[ci]? = some (C1, T1, N1)) (he : ws[q0]? = some (a, .inr (ci, fs))) (hC : isC.map (fun i => ws[i]?) = w1.map some) (hA : ∀ r, (gw1 r).map Prod.fst = w1.map Prod.fst) (hnd : va_nd isC = true) (hst : stk = As.reverse ++ .ref a :: st) (hn : As.length = cnt) (hcat : (st.map fun v => v.category).sum ≤ 8) (hdg : decode cc pc = .ok (.invokevirtual idx, 3)) (hkn : k + mc1 ≤ R.cells ∧ n + ms1 ≤ R.slots) (hkm : k + mc1 ≤ mc ∧ n + ms1 ≤ ms) (hF : xb fy gv1 kx kf = some res) (hX : ∀ r E, kx r E = some res → gv res = .inr E ∧ gw res = wset ws isC (gw1 r)) (kk : ∀ r v, fy = some r → gv1 r = .inl v → kf r v = some res → aT p l e R s m args below meth c (vx_MQ below (aQx D w0 s.heap.size gv gw res) (aXx D w0 s.heap.size gv gw res) args s mc ms (va_A w0 s.heap.size)) D (va_A w0 s.heap.size) nL (k + mc1) (n + ms1) (pc + 3) lv (.int v :: st) (wset ws isC (gw1 r))) : aT p l e R s m args below meth c (vx_MQ below (aQx D w0 s.heap.size gv gw res) (aXx D w0 s.heap.size gv gw res) args s mc ms (va_A w0 s.heap.size)) D (va_A w0 s.heap.size) nL k n pc lv stk ws := by
  obtain ⟨r, h1, hF⟩ := bd hF
  subst hst
  intro H locs ls hP hD hS hl
  have hPc0 := hP
  have hKc := C.2.1.1
  have hPc : va_P D vwCl w1 H := hP.sub isC (w_filt hC)
  have hDc : va_D (va_A w0 s.heap.size) w1 := hD.sub isC hnd hC
  have hFc := va_free (wc := w1) hD hS C.2.2.2.1 isC hC
  refine vx_calli (vx_runV (As := As) (rest := st) C.1 (hM r h1 H.size) (cwV cnt C.1.2.2.2.2 hG rfl hrm.1 hrm.2 hd hR) ⟨aPc_blind, va_recv hKc hPc0 hc he, fun U hU hW => ⟨rfl, by rw [hU], by rw [hU]; exact hPc, C.2.1.warm hW, hDc.weaken (fun _ _ _ _ => trivial), by rw [hU]; exact ((C.2.2.2.2.kept hS.2.1).warm hW).narrow hFc⟩⟩ rfl hn hl.1 rfl (lv_room hcat) hdg hkn) hS (fun q _ h => hFc q h) hFc (fun q _ h => hFc q h) (fun E ce q9 u t H1 locs1 ht hvm hpx hB hz1 hk1 hS hce hcv hcl => ?_) (fun rv u t H1 locs1 ht hvm hw hB hz1 hk1 hS => ?_)
  · obtain ⟨hg, hP1, -⟩ := hB
    rw [ht] at hP1
    rw [hg] at hF
    obtain ⟨g1, g2⟩ := hX r E hF
    obtain ⟨hP, hD⟩ := w_join isC hP hD hC (hA r) hnd hk1 hP1
    rw [← g2] at hP hD
    exact vx_out (fun x hx => (hex x hx).elim) C.2.2.1 hce hcv hcl (fun t2 ht2 hW2 => ⟨(), trivial, ⟨g1, by rw [ht2]; exact hP, hD⟩, hS.F ht2⟩) hS.2.2 hkm.1 hkm.2
  · obtain ⟨hP1, -⟩ := hB
    rw [ht] at hP1
    have hw2 : gv1 r = .inl rv := hw
    rw [hw2] at hF
    obtain ⟨hP, hD⟩ := w_join isC hP hD hC (hA r) hnd hk1 hP1
    exact kk r rv h1 hw2 hF H1 locs1 ls hP hD hS hl
theorem x_callv_i {ρ ρ1 : Type} {gv : ρ → Int32 ⊕ String} {gw : ρ → va_W} {res : ρ} {w0 : va_W} {mc ms : Nat} (C : aC p s m args meth c cc nL own WW D J tys (va_A w0 s.heap.size)) {fy : Option ρ1} {kx : ρ1 → String → Option ρ} {kf : ρ1 → Int32 → Option ρ} {y : MethodName} {b : ByteArray} {mL mc1 ms1 : Nat} {ret : Option FieldType} {rm : Room} {idx : Nat} {As stk : List Value} {w1 : va_W} {gv1 : ρ1 → Int32 ⊕ String} {gw1 : ρ1 → va_W} {C1 : String} {T1 : u_T} {N1 ci a : Nat} {fs : List Value} (cnt : Nat) (isC : List Nat) (q0 : Nat) (hG : GoodIn WW (wsV own idx C1 y (aW y b mL ret))) (hd : y.cls = C1 ∧ y.cls ≠ "java/lang/invoke/MethodHandle" ∧ y.cls ≠ "java/lang/invoke/VarHandle" ∧ (parseMethodDescriptor y.desc).map (fun d => d.parameters.length) = some cnt) (hex : ∀ x ∈ c.exceptionTable.toList, False) (hrm : rm.cells = mc1 ∧ rm.slots = ms1) (hR : rm.frames + 1 ≤ R.frames ∧ 8 + (mL + 11) + rm.locals ≤ R.locals) (hM : ∀ r, fy = some r → aKxv l y (aW y b mL ret) rm D J tys (.ref a :: As) w1 gv1 gw1 r mc1 ms1) (hc : vwCl[ci]? = some (C1, T1, N1)) (he : ws[q0]? = some (a, .inr (ci, fs))) (hC : isC.map (fun i => ws[i]?) = w1.map some) (hA : ∀ r, (gw1 r).map Prod.fst = w1.map Prod.fst) (hnd : va_nd isC = true) (hst : stk = As.reverse ++ .ref a :: st) (hn : As.length = cnt) (hcat : (st.map fun v => v.category).sum ≤ 8) (hdg : decode cc pc = .ok (.invokevirtual idx, 3)) (hkn : k + mc1 ≤ R.cells ∧ n + ms1 ≤ R.slots) (hkm : k + mc1 ≤ mc ∧ n + ms1 ≤ ms) (hF : xb fy gv1 kx kf = some res) (hX : ∀ r E, kx r E = some res → gv res = .inr E ∧ gw res = wset ws isC (gw1 r)) (kk : ∀ r v, fy = some r → gv1 r = .inl v → kf r v = some res → aT p l e R s m args below meth c (vx_MQ below (aQx D w0 s.heap.size gv gw res) (aXx D w0 s.heap.size gv gw res) args s mc ms (va_A w0 s.heap.size)) D (va_A w0 s.heap.size) nL (k + mc1) (n + ms1) (pc + 3) lv (st) (wset ws isC (gw1 r))) : aT p l e R s m args below meth c (vx_MQ below (aQx D w0 s.heap.size gv gw res) (aXx D w0 s.heap.size gv gw res) args s mc ms (va_A w0 s.heap.size)) D (va_A w0 s.heap.size) nL k n pc lv stk ws := by
  obtain ⟨r, h1, hF⟩ := bd hF
  subst hst
  intro H locs ls hP hD hS hl
  have hPc0 := hP
  have hKc := C.2.1.1
  have hPc : va_P D vwCl w1 H := hP.sub isC (w_filt hC)
  have hDc : va_D (va_A w0 s.heap.size) w1 := hD.sub isC hnd hC
  have hFc := va_free (wc := w1) hD hS C.2.2.2.1 isC hC
  refine vx_callv (vx_runV (As := As) (rest := st) C.1 (hM r h1 H.size) (cwV cnt C.1.2.2.2.2 hG rfl hrm.1 hrm.2 hd hR) ⟨aPc_blind, va_recv hKc hPc0 hc he, fun U hU hW => ⟨rfl, by rw [hU], by rw [hU]; exact hPc, C.2.1.warm hW, hDc.weaken (fun _ _ _ _ => trivial), by rw [hU]; exact ((C.2.2.2.2.kept hS.2.1).warm hW).narrow hFc⟩⟩ rfl hn hl.1 rfl (lv_room hcat) hdg hkn) hS (fun q _ h => hFc q h) hFc (fun q _ h => hFc q h) (fun E ce q9 u t H1 locs1 ht hvm hpx hB hz1 hk1 hS hce hcv hcl => ?_) (fun u t H1 locs1 ht hvm hw hB hz1 hk1 hS => ?_)
  · obtain ⟨hg, hP1, -⟩ := hB
    rw [ht] at hP1
    rw [hg] at hF
    obtain ⟨g1, g2⟩ := hX r E hF
    obtain ⟨hP, hD⟩ := w_join isC hP hD hC (hA r) hnd hk1 hP1
    rw [← g2] at hP hD
    exact vx_out (fun x hx => (hex x hx).elim) C.2.2.1 hce hcv hcl (fun t2 ht2 hW2 => ⟨(), trivial, ⟨g1, by rw [ht2]; exact hP, hD⟩, hS.F ht2⟩) hS.2.2 hkm.1 hkm.2
  · obtain ⟨hP1, -⟩ := hB
    rw [ht] at hP1
    have hw2 : gv1 r = .inl 0 := hw
    rw [hw2] at hF
    obtain ⟨hP, hD⟩ := w_join isC hP hD hC (hA r) hnd hk1 hP1
    exact kk r 0 h1 hw2 hF H1 locs1 ls hP hD hS hl
theorem x_calli_v {ρ ρ1 : Type} {gv : ρ → Int32 ⊕ String} {gw : ρ → va_W} {res : ρ} {w0 : va_W} {mc ms : Nat} (C : aC p s m args meth c cc nL own WW D J tys (va_A w0 s.heap.size)) {fy : Option ρ1} {kx : ρ1 → String → Option ρ} {kf : ρ1 → Int32 → Option ρ} {y : MethodName} {b : ByteArray} {mL mc1 ms1 : Nat} {ret : Option FieldType} {rm : Room} {idx : Nat} {As stk : List Value} {w1 : va_W} {gv1 : ρ1 → Int32 ⊕ String} {gw1 : ρ1 → va_W} {C1 : String} {T1 : u_T} {N1 ci a : Nat} {fs : List Value} (cnt : Nat) (isC : List Nat) (q0 : Nat) (hG : GoodIn WW (wsV own idx C1 y (aW y b mL ret))) (hd : y.cls = C1 ∧ y.cls ≠ "java/lang/invoke/MethodHandle" ∧ y.cls ≠ "java/lang/invoke/VarHandle" ∧ (parseMethodDescriptor y.desc).map (fun d => d.parameters.length) = some cnt) (hex : ∀ x ∈ c.exceptionTable.toList, False) (hrm : rm.cells = mc1 ∧ rm.slots = ms1) (hR : rm.frames + 1 ≤ R.frames ∧ 8 + (mL + 11) + rm.locals ≤ R.locals) (hM : ∀ r, fy = some r → aKx l y (aW y b mL ret) rm D J tys (.ref a :: As) w1 gv1 gw1 r mc1 ms1) (hc : vwCl[ci]? = some (C1, T1, N1)) (he : ws[q0]? = some (a, .inr (ci, fs))) (hC : isC.map (fun i => ws[i]?) = w1.map some) (hA : ∀ r, (gw1 r).map Prod.fst = w1.map Prod.fst) (hnd : va_nd isC = true) (hst : stk = As.reverse ++ .ref a :: st) (hn : As.length = cnt) (hcat : (st.map fun v => v.category).sum ≤ 8) (hdg : decode cc pc = .ok (.invokevirtual idx, 3)) (hkn : k + mc1 ≤ R.cells ∧ n + ms1 ≤ R.slots) (hkm : k + mc1 ≤ mc ∧ n + ms1 ≤ ms) (hF : xb fy gv1 kx kf = some res) (hX : ∀ r E, kx r E = some res → gv res = .inr E ∧ gw res = wset ws isC (gw1 r)) (kk : ∀ r v, fy = some r → gv1 r = .inl v → kf r v = some res → aT p l e R s m args below meth c (vx_MQ below (aQxv D w0 s.heap.size gv gw res) (aXx D w0 s.heap.size gv gw res) args s mc ms (va_A w0 s.heap.size)) D (va_A w0 s.heap.size) nL (k + mc1) (n + ms1) (pc + 3) lv (.int v :: st) (wset ws isC (gw1 r))) : aT p l e R s m args below meth c (vx_MQ below (aQxv D w0 s.heap.size gv gw res) (aXx D w0 s.heap.size gv gw res) args s mc ms (va_A w0 s.heap.size)) D (va_A w0 s.heap.size) nL k n pc lv stk ws := by
  obtain ⟨r, h1, hF⟩ := bd hF
  subst hst
  intro H locs ls hP hD hS hl
  have hPc0 := hP
  have hKc := C.2.1.1
  have hPc : va_P D vwCl w1 H := hP.sub isC (w_filt hC)
  have hDc : va_D (va_A w0 s.heap.size) w1 := hD.sub isC hnd hC
  have hFc := va_free (wc := w1) hD hS C.2.2.2.1 isC hC
  refine vx_calli (vx_runV (As := As) (rest := st) C.1 (hM r h1 H.size) (cwV cnt C.1.2.2.2.2 hG rfl hrm.1 hrm.2 hd hR) ⟨aPc_blind, va_recv hKc hPc0 hc he, fun U hU hW => ⟨rfl, by rw [hU], by rw [hU]; exact hPc, C.2.1.warm hW, hDc.weaken (fun _ _ _ _ => trivial), by rw [hU]; exact ((C.2.2.2.2.kept hS.2.1).warm hW).narrow hFc⟩⟩ rfl hn hl.1 rfl (lv_room hcat) hdg hkn) hS (fun q _ h => hFc q h) hFc (fun q _ h => hFc q h) (fun E ce q9 u t H1 locs1 ht hvm hpx hB hz1 hk1 hS hce hcv hcl => ?_) (fun rv u t H1 locs1 ht hvm hw hB hz1 hk1 hS => ?_)
  · obtain ⟨hg, hP1, -⟩ := hB
    rw [ht] at hP1
    rw [hg] at hF
    obtain ⟨g1, g2⟩ := hX r E hF
    obtain ⟨hP, hD⟩ := w_join isC hP hD hC (hA r) hnd hk1 hP1
    rw [← g2] at hP hD
    exact vx_out (fun x hx => (hex x hx).elim) C.2.2.1 hce hcv hcl (fun t2 ht2 hW2 => ⟨(), trivial, ⟨g1, by rw [ht2]; exact hP, hD⟩, hS.F ht2⟩) hS.2.2 hkm.1 hkm.2
  · obtain ⟨hP1, -⟩ := hB
    rw [ht] at hP1
    have hw2 : gv1 r = .inl rv := hw
    rw [hw2] at hF
    obtain ⟨hP, hD⟩ := w_join isC hP hD hC (hA r) hnd hk1 hP1
    exact kk r rv h1 hw2 hF H1 locs1 ls hP hD hS hl
theorem x_callv_v {ρ ρ1 : Type} {gv : ρ → Int32 ⊕ String} {gw : ρ → va_W} {res : ρ} {w0 : va_W} {mc ms : Nat} (C : aC p s m args meth c cc nL own WW D J tys (va_A w0 s.heap.size)) {fy : Option ρ1} {kx : ρ1 → String → Option ρ} {kf : ρ1 → Int32 → Option ρ} {y : MethodName} {b : ByteArray} {mL mc1 ms1 : Nat} {ret : Option FieldType} {rm : Room} {idx : Nat} {As stk : List Value} {w1 : va_W} {gv1 : ρ1 → Int32 ⊕ String} {gw1 : ρ1 → va_W} {C1 : String} {T1 : u_T} {N1 ci a : Nat} {fs : List Value} (cnt : Nat) (isC : List Nat) (q0 : Nat) (hG : GoodIn WW (wsV own idx C1 y (aW y b mL ret))) (hd : y.cls = C1 ∧ y.cls ≠ "java/lang/invoke/MethodHandle" ∧ y.cls ≠ "java/lang/invoke/VarHandle" ∧ (parseMethodDescriptor y.desc).map (fun d => d.parameters.length) = some cnt) (hex : ∀ x ∈ c.exceptionTable.toList, False) (hrm : rm.cells = mc1 ∧ rm.slots = ms1) (hR : rm.frames + 1 ≤ R.frames ∧ 8 + (mL + 11) + rm.locals ≤ R.locals) (hM : ∀ r, fy = some r → aKxv l y (aW y b mL ret) rm D J tys (.ref a :: As) w1 gv1 gw1 r mc1 ms1) (hc : vwCl[ci]? = some (C1, T1, N1)) (he : ws[q0]? = some (a, .inr (ci, fs))) (hC : isC.map (fun i => ws[i]?) = w1.map some) (hA : ∀ r, (gw1 r).map Prod.fst = w1.map Prod.fst) (hnd : va_nd isC = true) (hst : stk = As.reverse ++ .ref a :: st) (hn : As.length = cnt) (hcat : (st.map fun v => v.category).sum ≤ 8) (hdg : decode cc pc = .ok (.invokevirtual idx, 3)) (hkn : k + mc1 ≤ R.cells ∧ n + ms1 ≤ R.slots) (hkm : k + mc1 ≤ mc ∧ n + ms1 ≤ ms) (hF : xb fy gv1 kx kf = some res) (hX : ∀ r E, kx r E = some res → gv res = .inr E ∧ gw res = wset ws isC (gw1 r)) (kk : ∀ r v, fy = some r → gv1 r = .inl v → kf r v = some res → aT p l e R s m args below meth c (vx_MQ below (aQxv D w0 s.heap.size gv gw res) (aXx D w0 s.heap.size gv gw res) args s mc ms (va_A w0 s.heap.size)) D (va_A w0 s.heap.size) nL (k + mc1) (n + ms1) (pc + 3) lv (st) (wset ws isC (gw1 r))) : aT p l e R s m args below meth c (vx_MQ below (aQxv D w0 s.heap.size gv gw res) (aXx D w0 s.heap.size gv gw res) args s mc ms (va_A w0 s.heap.size)) D (va_A w0 s.heap.size) nL k n pc lv stk ws := by
  obtain ⟨r, h1, hF⟩ := bd hF
  subst hst
  intro H locs ls hP hD hS hl
  have hPc0 := hP
  have hKc := C.2.1.1
  have hPc : va_P D vwCl w1 H := hP.sub isC (w_filt hC)
  have hDc : va_D (va_A w0 s.heap.size) w1 := hD.sub isC hnd hC
  have hFc := va_free (wc := w1) hD hS C.2.2.2.1 isC hC
  refine vx_callv (vx_runV (As := As) (rest := st) C.1 (hM r h1 H.size) (cwV cnt C.1.2.2.2.2 hG rfl hrm.1 hrm.2 hd hR) ⟨aPc_blind, va_recv hKc hPc0 hc he, fun U hU hW => ⟨rfl, by rw [hU], by rw [hU]; exact hPc, C.2.1.warm hW, hDc.weaken (fun _ _ _ _ => trivial), by rw [hU]; exact ((C.2.2.2.2.kept hS.2.1).warm hW).narrow hFc⟩⟩ rfl hn hl.1 rfl (lv_room hcat) hdg hkn) hS (fun q _ h => hFc q h) hFc (fun q _ h => hFc q h) (fun E ce q9 u t H1 locs1 ht hvm hpx hB hz1 hk1 hS hce hcv hcl => ?_) (fun u t H1 locs1 ht hvm hw hB hz1 hk1 hS => ?_)
  · obtain ⟨hg, hP1, -⟩ := hB
    rw [ht] at hP1
    rw [hg] at hF
    obtain ⟨g1, g2⟩ := hX r E hF
    obtain ⟨hP, hD⟩ := w_join isC hP hD hC (hA r) hnd hk1 hP1
    rw [← g2] at hP hD
    exact vx_out (fun x hx => (hex x hx).elim) C.2.2.1 hce hcv hcl (fun t2 ht2 hW2 => ⟨(), trivial, ⟨g1, by rw [ht2]; exact hP, hD⟩, hS.F ht2⟩) hS.2.2 hkm.1 hkm.2
  · obtain ⟨hP1, -⟩ := hB
    rw [ht] at hP1
    have hw2 : gv1 r = .inl 0 := hw
    rw [hw2] at hF
    obtain ⟨hP, hD⟩ := w_join isC hP hD hC (hA r) hnd hk1 hP1
    exact kk r 0 h1 hw2 hF H1 locs1 ls hP hD hS hl
end XR
theorem xo_ise1 : ∀ w ∈ (vx_atS RX8 76 "java/lang/IllegalStateException" xNm).filter goodWord, w ∈ lw_tbl ∧ goodWord w = true := by decide +kernel
theorem xo_ise : xOk 72 76 "java/lang/IllegalStateException" := ⟨by decide +kernel, in3 154 (by decide +kernel) rfl, in1 24 (by decide +kernel) rfl, fun w hw => List.mem_filter.mpr (xo_ise1 w hw), by decide +kernel, by decide, by decide +kernel⟩
theorem xo_uoe1 : ∀ w ∈ (vx_atS RX8 332 "java/lang/UnsupportedOperationException" xNm).filter goodWord, w ∈ lw_tbl ∧ goodWord w = true := by decide +kernel
theorem xo_uoe : xOk 328 332 "java/lang/UnsupportedOperationException" := ⟨by decide +kernel, in5 99 (by decide +kernel) rfl, in1 26 (by decide +kernel) rfl, fun w hw => List.mem_filter.mpr (xo_uoe1 w hw), by decide +kernel, by decide, by decide +kernel⟩
theorem xo_ioobe1 : ∀ w ∈ (vx_atS RX8 291 "java/lang/IndexOutOfBoundsException" xNm).filter goodWord, w ∈ lw_tbl ∧ goodWord w = true := by decide +kernel
theorem xo_ioobe : xOk 287 291 "java/lang/IndexOutOfBoundsException" := ⟨by decide +kernel, in1 191 (by decide +kernel) rfl, in1 28 (by decide +kernel) rfl, fun w hw => List.mem_filter.mpr (xo_ioobe1 w hw), by decide +kernel, by decide, by decide +kernel⟩
theorem xo_iae1 : ∀ w ∈ (vx_atS RX8 166 "java/lang/IllegalArgumentException" xNm).filter goodWord, w ∈ lw_tbl ∧ goodWord w = true := by decide +kernel
theorem xo_iae : xOk 162 166 "java/lang/IllegalArgumentException" := ⟨by decide +kernel, in2 72 (by decide +kernel) rfl, in1 21 (by decide +kernel) rfl, fun w hw => List.mem_filter.mpr (xo_iae1 w hw), by decide +kernel, by decide, by decide +kernel⟩
theorem xo_ae1 : ∀ w ∈ (vx_atS RX8 363 "java/lang/ArithmeticException" xNm).filter goodWord, w ∈ lw_tbl ∧ goodWord w = true := by decide +kernel
theorem xo_ae : xOk 359 363 "java/lang/ArithmeticException" := ⟨by decide +kernel, in3 48 (by decide +kernel) rfl, in1 30 (by decide +kernel) rfl, fun w hw => List.mem_filter.mpr (xo_ae1 w hw), by decide +kernel, by decide, by decide +kernel⟩
