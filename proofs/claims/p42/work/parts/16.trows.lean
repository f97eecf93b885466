/-! TEXTS: known ones (Kn: in the list, with its letters), the world's pool of new ones (cP); contracts whose results are said outright; calls by kind of instruction -/
def Kn (L : List TX) (a : Nat) (xs : List Int32) : Prop := ∃ q ∈ L, q.val.1 = a ∧ q.val.2.2 = xs
theorem Kn.a {L P p1 : List TX} {a : Nat} {xs : List Int32} (h : Kn (L ++ P) a xs) : Kn (L ++ (P ++ p1)) a xs := by
  obtain ⟨q, h1, h2⟩ := h
  exact ⟨q, by rw [← List.append_assoc]; exact List.mem_append_left _ h1, h2⟩
theorem Kn.l {L P : List TX} {a : Nat} {xs : List Int32} (h : Kn L a xs) : Kn (L ++ P) a xs := by
  obtain ⟨q, h1, h2⟩ := h
  exact ⟨q, List.mem_append_left _ h1, h2⟩
theorem Kn.s {L P p1 : List TX} {a : Nat} {xs : List Int32} (h : Kn ((L ++ P) ++ p1) a xs) : Kn (L ++ (P ++ p1)) a xs := by rw [← List.append_assoc]; exact h
theorem Kn.ok {L : List TX} {a : Nat} {xs : List Int32} (h : Kn L a xs) : xs.length ≤ 10 ∧ ∀ x ∈ xs, 0 ≤ x ∧ x < 128 := by
  obtain ⟨q, -, -, rfl⟩ := h
  exact q.2
def tP (kl : ClassId) (q : TX) : va_W := [(q.val.1, .inr (7, [.ref q.val.2.1, .int 0, .int 0, .int 0])), (q.val.2.1, .inl (kl, q.val.2.2.length, .inl fun j => q.val.2.2.getD j 0))]
def cP (kl : ClassId) (P : List TX) : va_W := P.flatMap (tP kl)
theorem cP_app (kl : ClassId) (P p1 : List TX) : cP kl (P ++ p1) = cP kl P ++ cP kl p1 := List.flatMap_append ..
theorem cP_nil (kl : ClassId) : cP kl [] = [] := rfl
theorem cP_one (kl : ClassId) (q : TX) : cP kl [q] = tP kl q := by simp [cP]
theorem pr0 (ws : va_W) : ws.Perm (ws ++ []) := by simp
theorem tx_J {D : va_G} {s : State} {args : Array Value} {tys : List (ClassId × FieldType)} {kl : ClassId} {H : Heap} {A : Nat → Prop} {P : List TX} {q : TX} (hts : ∀ w ∈ WW, w.before args s = true) (hK : va_K D vwCl tys s) (hkl : tys[3]? = some (kl, .byte)) (hP : va_P D vwCl (cP kl P) H) (hq : q ∈ P) (hA : ¬ A q.val.1) (hB : ¬ A q.val.2.1) : aJ A s H q := by
  have m1 : (q.val.1, .inr (7, [.ref q.val.2.1, .int 0, .int 0, .int 0])) ∈ cP kl P := List.mem_flatMap.mpr ⟨q, hq, List.mem_cons_self⟩
  have m2 : (q.val.2.1, .inl (kl, q.val.2.2.length, .inl fun j => q.val.2.2.getD j 0)) ∈ cP kl P := List.mem_flatMap.mpr ⟨q, hq, List.mem_cons_of_mem _ List.mem_cons_self⟩
  obtain ⟨r, h1, cell, q1, q2, q3, q4⟩ := p_in hP _ m1
  have hr : r = (RJ0, TJ0, 4) := Option.some.inj (h1.symm.trans rfl)
  subst hr
  obtain ⟨hS, hfc, kC, hkC, hkind⟩ := hK.1 7 (RJ0, TJ0, 4) rfl
  have hb : H[q.val.2.1]? = some (arrV kl q.val.2.2.length fun j => .int (q.val.2.2.getD j 0)) := p_in hP _ m2
  refine ⟨⟨cell, q1, by rw [q3]; rfl, by rw [q2]; exact hfc, hA⟩, ?_, ?_, ⟨_, hb, (hK.2 3 _ hkl).1 _ _, (fun h => by cases h), by rw [arrV_size] <;> exact Nat.le_refl _, by rw [arrV_size] <;> rfl, fun j hj => by rw [arrV_read _ _ hj], hB⟩⟩
  · obtain ⟨cf, kf, fi, f, hi, hsl⟩ := hS 1 (by decide)
    exact ⟨cf, kf, fi, f, cell, hi, (u_facts hfc hkC (u_lays hts iwJ0 (by decide : 1 < 4)) hi).1, q1, (by rw [q3]; exact (fun h => by cases h)), by rw [hsl, q4 1 (by decide)]; rfl, hA⟩
  · obtain ⟨cf, kf, fi, f, hi, hsl⟩ := hS 0 (by decide)
    exact ⟨cf, kf, fi, f, cell, hi, (u_facts hfc hkC (u_lays hts iwJ0 (by decide : 0 < 4)) hi).1, q1, (by rw [q3]; exact (fun h => by cases h)), by rw [hsl, q4 0 (by decide)]; rfl, hA⟩
theorem aG_more {X : Nat × Nat × (Nat → Int32)} {L L1 : List TX} {A : Nat → Prop} {U : State} {H : Heap} (h : aG (X, L) A U H) (hn : ∀ q ∈ L1, aJ A U H q) : aG (X, L ++ L1) A U H :=
  ⟨h.1, h.2.1, h.2.2.1, h.2.2.2.1, h.2.2.2.2.1, fun i q hq => by
    obtain ⟨x, h1, h2⟩ := h.2.2.2.2.2.1 i q hq
    have h1 : L[i]? = some x := h1
    refine ⟨x, ?_, h2⟩
    show (L ++ L1)[i]? = some x
    rw [List.getElem?_append_left (List.getElem?_eq_some_iff.mp h1).1]
    exact h1, fun q hq => by
    rcases List.mem_append.mp hq with hq | hq
    · exact h.2.2.2.2.2.2.1 q hq
    · exact hn q hq, h.2.2.2.2.2.2.2⟩
def aKI (l : Launch) (y : MethodName) (wy : List Cond) (rm : Room) (D : va_G) (J : JT) (tys : List (ClassId × FieldType)) (av : List Value) (w0 : va_W) (v : Int32) (w1 : va_W) (mc ms : Nat) : Prop := ∀ sz : Nat, Met l y wy rm (aPc D J tys av w0 sz) (va_Qi (fun r (_ : Unit) => r = v) (fun _ t => aB D w0 w1 sz t) (va_A w0 sz)) mc ms (va_A w0 sz)
def aKR {S : Type} (l : Launch) (y : MethodName) (wy : List Cond) (rm : Room) (D : va_G) (J : JT) (tys : List (ClassId × FieldType)) (av : List Value) (w0 : va_W) (pa : S → Nat → Prop) (w1 : S → Nat → va_W) (mc ms : Nat) : Prop := ∀ sz : Nat, Met l y wy rm (aPc D J tys av w0 sz) (va_Qr (fun _ : S => True) (fun u a t => pa u a ∧ aB D w0 (w1 u a) sz t) (va_A w0 sz)) mc ms (va_A w0 sz)
theorem aKI_of {l : Launch} {y : MethodName} {rm : Room} {cc : ByteArray} {maxL : Nat} {ret : Option FieldType} {D : va_G} {J : JT} {tys : List (ClassId × FieldType)} {av : List Value} {w0 : va_W} {v : Int32} {w1 : va_W} {mc ms : Nat} {lv : List (Nat × Value)} {own : String} (hy : plainName y.cls = true) (hown : y.cls = own) (hlen : (lg_sl av).length ≤ maxL) (hlv : lv_args 0 av = lv) (body : ∀ (p : Program) (e : Env) (s : State) (m : MethodId) (args : Array Value) (below : List Frame) (meth : Method) (c : Code), aC p s m args meth c cc maxL own WW D J tys (va_A w0 s.heap.size) → meth.sig.returnType = ret → aT p l e rm s m args below meth c (MQ below (va_Qi (fun r (_ : Unit) => r = v) (fun _ t => aB D w0 w1 s.heap.size t) (va_A w0 s.heap.size)) args s mc ms (va_A w0 s.heap.size)) D (va_A w0 s.heap.size) maxL 0 0 0 lv [] w0) : aKI l y (aW y cc maxL ret) rm D J tys av w0 v w1 mc ms := by
  intro sz
  refine Met.ofW hy rfl ?_
  intro p e s m args below meth c s₁ B hml hv
  obtain ⟨rfl, hsz, hP, hU, hD0, hG0⟩ := hv
  subst hsz
  have hl := lv_entry av hlen
  rw [lg_entry_eq]
  have hts := atoms_spec (ws := aW y cc maxL ret) B.pre
  have hfc := findClass_of_methodNamed B.named
  rw [hown] at hfc
  rw [hlv] at hl
  exact body p e s m _ below meth c ⟨⟨B.exec, B.bytes, hml, hfc, fun w hw => hts w (List.mem_cons_of_mem _ hw)⟩, hU, B.notSynchronized, fun q h => Or.inr h, hG0⟩ B.returns s.heap [] _ hP hD0.self va_S.rf hl
theorem aKR_of {l : Launch} {y : MethodName} {rm : Room} {cc : ByteArray} {maxL : Nat} {ret : Option FieldType} {D : va_G} {J : JT} {tys : List (ClassId × FieldType)} {av : List Value} {w0 : va_W} {S : Type} {pa : S → Nat → Prop} {w1 : S → Nat → va_W} {mc ms : Nat} {lv : List (Nat × Value)} {own : String} (hy : plainName y.cls = true) (hown : y.cls = own) (hlen : (lg_sl av).length ≤ maxL) (hlv : lv_args 0 av = lv) (body : ∀ (p : Program) (e : Env) (s : State) (m : MethodId) (args : Array Value) (below : List Frame) (meth : Method) (c : Code), aC p s m args meth c cc maxL own WW D J tys (va_A w0 s.heap.size) → meth.sig.returnType = ret → aT p l e rm s m args below meth c (MQ below (va_Qr (fun _ : S => True) (fun u a t => pa u a ∧ aB D w0 (w1 u a) s.heap.size t) (va_A w0 s.heap.size)) args s mc ms (va_A w0 s.heap.size)) D (va_A w0 s.heap.size) maxL 0 0 0 lv [] w0) : aKR l y (aW y cc maxL ret) rm D J tys av w0 pa w1 mc ms := by
  intro sz
  refine Met.ofW hy rfl ?_
  intro p e s m args below meth c s₁ B hml hv
  obtain ⟨rfl, hsz, hP, hU, hD0, hG0⟩ := hv
  subst hsz
  have hl := lv_entry av hlen
  rw [lg_entry_eq]
  have hts := atoms_spec (ws := aW y cc maxL ret) B.pre
  have hfc := findClass_of_methodNamed B.named
  rw [hown] at hfc
  rw [hlv] at hl
  exact body p e s m _ below meth c ⟨⟨B.exec, B.bytes, hml, hfc, fun w hw => hts w (List.mem_cons_of_mem _ hw)⟩, hU, B.notSynchronized, fun q h => Or.inr h, hG0⟩ B.returns s.heap [] _ hP hD0.self va_S.rf hl
theorem aKN_of {l : Launch} {y : MethodName} {rm : Room} {cc : ByteArray} {maxL : Nat} {ret : Option FieldType} {D : va_G} {J : JT} {tys : List (ClassId × FieldType)} {av : List Value} {w0 : va_W} {Pw : va_W → Prop} {mc ms : Nat} {lv : List (Nat × Value)} {own : String} (hy : plainName y.cls = true) (hown : y.cls = own) (hlen : (lg_sl av).length ≤ maxL) (hlv : lv_args 0 av = lv) (body : ∀ (p : Program) (e : Env) (s : State) (m : MethodId) (args : Array Value) (below : List Frame) (meth : Method) (c : Code), aC p s m args meth c cc maxL own WW D J tys (va_A w0 s.heap.size) → meth.sig.returnType = ret → aT p l e rm s m args below meth c (MQ below (aQn D w0 s.heap.size Pw) args s mc ms (va_A w0 s.heap.size)) D (va_A w0 s.heap.size) maxL 0 0 0 lv [] w0) : aKn l y (aW y cc maxL ret) rm D J tys av w0 Pw mc ms := by
  intro sz
  refine Met.ofW hy rfl ?_
  intro p e s m args below meth c s₁ B hml hv
  obtain ⟨rfl, hsz, hP, hU, hD0, hG0⟩ := hv
  subst hsz
  have hl := lv_entry av hlen
  rw [lg_entry_eq]
  have hts := atoms_spec (ws := aW y cc maxL ret) B.pre
  have hfc := findClass_of_methodNamed B.named
  rw [hown] at hfc
  rw [hlv] at hl
  exact body p e s m _ below meth c ⟨⟨B.exec, B.bytes, hml, hfc, fun w hw => hts w (List.mem_cons_of_mem _ hw)⟩, hU, B.notSynchronized, fun q h => Or.inr h, hG0⟩ B.returns s.heap [] _ hP hD0.self va_S.rf hl
section TR
variable {p : Program} {l : Launch} {e : Env} {R : Room} {s : State} {m : MethodId} {args : Array Value} {below : List Frame} {meth : Method} {c : Code} {Q : State → Prop} {D : va_G} {J : JT} {tys : List (ClassId × FieldType)} {A : Nat → Prop} {nL k n : Nat} {cc : ByteArray} {own : String} {pc : Nat} {lv : List (Nat × Value)} {st : List Value} {ws : va_W}
theorem g_iret {w0 w1 rest : va_W} {ty : FieldType} {v v' : Int32} {mc ms : Nat} (C : aC p s m args meth c cc nL own WW D J tys (va_A w0 s.heap.size)) (hr : meth.sig.returnType = some ty) (hn : narrow ty (.int v') = .int v') (hdg : decode cc pc = .ok (.ireturn, 1)) (hkm : k ≤ mc ∧ n ≤ ms) (hv : v' = v) (hw : ws.Perm (w1 ++ rest)) : aT p l e R s m args below meth c (MQ below (va_Qi (fun r (_ : Unit) => r = v) (fun _ t => aB D w0 w1 s.heap.size t) (va_A w0 s.heap.size)) args s mc ms (va_A w0 s.heap.size)) D (va_A w0 s.heap.size) nL k n pc lv [.int v'] ws :=
  fun H locs ls hP hD hS hl => W.widen hkm.1 hkm.2 (W.zret C.1.1 C.1.2.1 hr hn (fun t ht hW => ⟨⟨_, (), rfl, hv, by rw [ht]; exact p_sub hP hw, d_sub hD hw⟩, hS.F ht⟩) hS.2.2 hdg C.2.2.1)
theorem g_rret {S : Type} {w0 rest : va_W} {pa : S → Nat → Prop} {w1 : S → Nat → va_W} {rt : FieldType} {a : Nat} {mc ms : Nat} (u : S) (C : aC p s m args meth c cc nL own WW D J tys (va_A w0 s.heap.size)) (hr : meth.sig.returnType = some rt) (hrt : (∃ n, rt = .object n) ∨ ∃ t, rt = .array t) (hdg : decode cc pc = .ok (.areturn, 1)) (hkm : k ≤ mc ∧ n ≤ ms) (ha : pa u a) (hw : ws.Perm (w1 u a ++ rest)) : aT p l e R s m args below meth c (MQ below (va_Qr (fun _ : S => True) (fun u a t => pa u a ∧ aB D w0 (w1 u a) s.heap.size t) (va_A w0 s.heap.size)) args s mc ms (va_A w0 s.heap.size)) D (va_A w0 s.heap.size) nL k n pc lv [.ref a] ws :=
  fun H locs ls hP hD hS hl => W.widen hkm.1 hkm.2 (W.aret C.1.1 C.1.2.1 hr hrt (Or.inr ⟨_, rfl⟩) (fun t ht hW => ⟨⟨u, a, rfl, trivial, ha, by rw [ht]; exact p_sub hP hw, d_sub hD hw⟩, hS.F ht⟩) hS.2.2 hdg C.2.2.1)
theorem g_vret {w0 w1 rest : va_W} {Pw : va_W → Prop} {mc ms : Nat} (C : aC p s m args meth c cc nL own WW D J tys (va_A w0 s.heap.size)) (hr : meth.sig.returnType = none) (hdg : decode cc pc = .ok (.return_, 1)) (hkm : k ≤ mc ∧ n ≤ ms) (hw : ws.Perm (w1 ++ rest)) (hp : Pw w1) : aT p l e R s m args below meth c (MQ below (aQn D w0 s.heap.size Pw) args s mc ms (va_A w0 s.heap.size)) D (va_A w0 s.heap.size) nL k n pc lv [] ws :=
  fun H locs ls hP hD hS hl => W.widen hkm.1 hkm.2 (W.vret C.1.1 C.1.2.1 hr (fun t ht hW => ⟨⟨w1, rfl, hp, by rw [ht]; exact p_sub hP hw, d_sub hD hw⟩, hS.F ht⟩) hS.2.2 hdg C.2.2.1)
/-- what a callee's start asks of the known things: the same as ours -/
def gJ (p : Program) (s : State) (D : va_G) (A : Nat → Prop) (ws w0 : va_W) (J : JT) : Prop := ∀ (H : Heap) (locs : List Loc), va_P D vwCl ws H → va_D A ws → va_S A s.heap H locs → (∀ q, va_A w0 H.size q → A q) → aG J (va_A w0 H.size) s H
/-- a receiver of class C1 -/
def gR (s : State) (D : va_G) (A : Nat → Prop) (ws : va_W) (C1 : String) (a : Nat) : Prop := ∀ (H : Heap) (locs : List Loc), va_P D vwCl ws H → va_D A ws → va_S A s.heap H locs → ∃ cell : Cell, H[a]? = some cell ∧ cell.vm.isStatics = false ∧ s.vm.findClass C1 = some cell.cls
theorem gj (C : aC p s m args meth c cc nL own WW D J tys A) {w0 : va_W} : gJ p s D A ws w0 J := fun _ _ _ _ hS hFc => (C.2.2.2.2.kept hS.2.1).narrow hFc
theorem gr (C : aC p s m args meth c cc nL own WW D J tys A) {C1 : String} {T1 : u_T} {N1 ci a : Nat} {fs : List Value} (q0 : Nat) (hc : vwCl[ci]? = some (C1, T1, N1)) (he : ws[q0]? = some (a, .inr (ci, fs))) : gR s D A ws C1 a := fun _ _ hP _ _ => va_recv C.2.1.1 hP hc he
theorem gq (C : aC p s m args meth c cc nL own WW D J tys A) {q : TX} (hq : q ∈ J.2) : gR s D A ws RJ0 q.val.1 := fun _ _ _ _ hS => va_Orecv (C.2.2.2.2.2.2.2.2.2.2.1 q hq).1 hS
theorem sp (C : aC p s m args meth c cc nL own WW D J tys A) {y : MethodName} (hy : y ∈ aP3) : (Cond.selects RJ4 y y).before args s = true := va_Nw.use rfl (C.2.2.2.2.2.2.2.2.2.2.2.2.2.2.2.2 y hy)
theorem g_ws (C : aC p s m args meth c cc nL own WW D J tys A) {ws' : va_W} (h : ws.Perm ws') (kk : aT p l e R s m args below meth c Q D A nL k n pc lv st ws') : aT p l e R s m args below meth c Q D A nL k n pc lv st ws := fun H locs ls hP hD hS hl => kk H locs ls (p_sub (rest := []) hP (h.trans (pr0 _))) (d_sub (rest := []) hD (h.trans (pr0 _))) hS hl
theorem g_forget (C : aC p s m args meth c cc nL own WW D J tys A) {ws' rest : va_W} (h : ws.Perm (ws' ++ rest)) (kk : aT p l e R s m args below meth c Q D A nL k n pc lv st ws') : aT p l e R s m args below meth c Q D A nL k n pc lv st ws := fun H locs ls hP hD hS hl => kk H locs ls (p_sub hP h) (d_sub hD h) hS hl
theorem g_Si (C : aC p s m args meth c cc nL own WW D J tys A) {J1 : JT} {y : MethodName} {b : ByteArray} {mL mc1 ms1 : Nat} {ret : Option FieldType} {rm : Room} {idx : Nat} {As stk : List Value} {w0 : va_W} {v : Int32} {w1 : va_W} (cnt : Nat) (rest : va_W) (ws' : va_W) (hG : GoodIn WW (va_wsS own idx y (aW y b mL ret))) (hd : y.cls ≠ "java/lang/invoke/MethodHandle" ∧ y.cls ≠ "java/lang/invoke/VarHandle" ∧ (parseMethodDescriptor y.desc).map (fun d => d.parameters.length) = some cnt) (hJ : gJ p s D A ws w0 J1) (hrm : rm.cells = mc1 ∧ rm.slots = ms1) (hR : rm.frames + 1 ≤ R.frames ∧ 8 + (mL + 11) + rm.locals ≤ R.locals) (hM : aKI l y (aW y b mL ret) rm D J1 tys As w0 v w1 mc1 ms1) (hC : ws.Perm (w0 ++ rest)) (hN : ws'.Perm (w1 ++ rest)) (hst : stk = As.reverse ++ st) (hn : As.length = cnt) (hcat : (st.map fun v => v.category).sum ≤ 8) (hdg : decode cc pc = .ok (.invokestatic idx, 3)) (hkn : k + mc1 ≤ R.cells ∧ n + ms1 ≤ R.slots) (kk : aT p l e R s m args below meth c Q D A nL (k + mc1) (n + ms1) (pc + 3) lv (.int v :: st) ws') : aT p l e R s m args below meth c Q D A nL k n pc lv stk ws := by
  subst hst
  intro H locs ls hP hD hS hl
  have hts := C.1.2.2.2.2
  have hPc : va_P D vwCl w0 H := p_sub hP hC
  have hDc : va_D A w0 := d_sub hD hC
  have hFc := p_free (wc := w0) hD hS C.2.2.2.1 hC
  refine va_calli (va_runS (As := As) (rest := st) C.1 (hM H.size) (va_cwS cnt hts hG rfl hrm.1 hrm.2 hd hR) ⟨aPc_blind, fun U hU hW => ⟨rfl, by rw [hU], by rw [hU]; exact hPc, C.2.1.warm hW, hDc.weaken (fun _ _ _ _ => trivial), by rw [hU]; exact (hJ H locs hP hD hS hFc).warm hW⟩⟩ rfl hn hl.1 rfl (lv_room hcat) hdg hkn) hS (fun q _ h => hFc q h) hFc (fun rv u t H1 locs1 ht hvm hw hB hz1 hk1 hS1 => ?_)
  obtain ⟨hP1, hD1⟩ := hB
  rw [ht] at hP1
  rw [show rv = v from hw]
  obtain ⟨hP, hD⟩ := p_join hP hD hC hN hFc hk1 hP1 hD1
  exact kk H1 locs1 ls hP hD hS1 hl
theorem g_Sr (C : aC p s m args meth c cc nL own WW D J tys A) {J1 : JT} {y : MethodName} {b : ByteArray} {mL mc1 ms1 : Nat} {ret : Option FieldType} {rm : Room} {idx : Nat} {As stk : List Value} {w0 : va_W} {S : Type} {pa : S → Nat → Prop} {w1 : S → Nat → va_W} (cnt : Nat) (rest : va_W) (ws' : S → Nat → va_W) (hG : GoodIn WW (va_wsS own idx y (aW y b mL ret))) (hd : y.cls ≠ "java/lang/invoke/MethodHandle" ∧ y.cls ≠ "java/lang/invoke/VarHandle" ∧ (parseMethodDescriptor y.desc).map (fun d => d.parameters.length) = some cnt) (hJ : gJ p s D A ws w0 J1) (hrm : rm.cells = mc1 ∧ rm.slots = ms1) (hR : rm.frames + 1 ≤ R.frames ∧ 8 + (mL + 11) + rm.locals ≤ R.locals) (hM : aKR l y (aW y b mL ret) rm D J1 tys As w0 pa w1 mc1 ms1) (hC : ws.Perm (w0 ++ rest)) (hN : ∀ u a, (ws' u a).Perm (w1 u a ++ rest)) (hst : stk = As.reverse ++ st) (hn : As.length = cnt) (hcat : (st.map fun v => v.category).sum ≤ 8) (hdg : decode cc pc = .ok (.invokestatic idx, 3)) (hkn : k + mc1 ≤ R.cells ∧ n + ms1 ≤ R.slots) (kk : ∀ u a1, pa u a1 → aT p l e R s m args below meth c Q D A nL (k + mc1) (n + ms1) (pc + 3) lv (.ref a1 :: st) (ws' u a1)) : aT p l e R s m args below meth c Q D A nL k n pc lv stk ws := by
  subst hst
  intro H locs ls hP hD hS hl
  have hts := C.1.2.2.2.2
  have hPc : va_P D vwCl w0 H := p_sub hP hC
  have hDc : va_D A w0 := d_sub hD hC
  have hFc := p_free (wc := w0) hD hS C.2.2.2.1 hC
  refine va_callr (va_runS (As := As) (rest := st) C.1 (hM H.size) (va_cwS cnt hts hG rfl hrm.1 hrm.2 hd hR) ⟨aPc_blind, fun U hU hW => ⟨rfl, by rw [hU], by rw [hU]; exact hPc, C.2.1.warm hW, hDc.weaken (fun _ _ _ _ => trivial), by rw [hU]; exact (hJ H locs hP hD hS hFc).warm hW⟩⟩ rfl hn hl.1 rfl (lv_room hcat) hdg hkn) hS (fun q _ h => hFc q h) hFc (fun u ra t H1 locs1 ht hvm hw hB hz1 hk1 hS1 => ?_)
  obtain ⟨hpa, hP1, hD1⟩ := hB
  rw [ht] at hP1
  obtain ⟨hP, hD⟩ := p_join hP hD hC (hN u ra) hFc hk1 hP1 hD1
  exact kk u ra hpa H1 locs1 ls hP hD hS1 hl
theorem g_Sv (C : aC p s m args meth c cc nL own WW D J tys A) {J1 : JT} {y : MethodName} {b : ByteArray} {mL mc1 ms1 : Nat} {ret : Option FieldType} {rm : Room} {idx : Nat} {As stk : List Value} {w0 : va_W} {Pw : va_W → Prop} (cnt : Nat) (rest : va_W)  (hG : GoodIn WW (va_wsS own idx y (aW y b mL ret))) (hd : y.cls ≠ "java/lang/invoke/MethodHandle" ∧ y.cls ≠ "java/lang/invoke/VarHandle" ∧ (parseMethodDescriptor y.desc).map (fun d => d.parameters.length) = some cnt) (hJ : gJ p s D A ws w0 J1) (hrm : rm.cells = mc1 ∧ rm.slots = ms1) (hR : rm.frames + 1 ≤ R.frames ∧ 8 + (mL + 11) + rm.locals ≤ R.locals) (hM : aKn l y (aW y b mL ret) rm D J1 tys As w0 Pw mc1 ms1) (hC : ws.Perm (w0 ++ rest))  (hst : stk = As.reverse ++ st) (hn : As.length = cnt) (hcat : (st.map fun v => v.category).sum ≤ 8) (hdg : decode cc pc = .ok (.invokestatic idx, 3)) (hkn : k + mc1 ≤ R.cells ∧ n + ms1 ≤ R.slots) (kk : ∀ w, Pw w → aT p l e R s m args below meth c Q D A nL (k + mc1) (n + ms1) (pc + 3) lv st (w ++ rest)) : aT p l e R s m args below meth c Q D A nL k n pc lv stk ws := by
  subst hst
  intro H locs ls hP hD hS hl
  have hts := C.1.2.2.2.2
  have hPc : va_P D vwCl w0 H := p_sub hP hC
  have hDc : va_D A w0 := d_sub hD hC
  have hFc := p_free (wc := w0) hD hS C.2.2.2.1 hC
  refine va_callv (va_runS (As := As) (rest := st) C.1 (hM H.size) (va_cwS cnt hts hG rfl hrm.1 hrm.2 hd hR) ⟨aPc_blind, fun U hU hW => ⟨rfl, by rw [hU], by rw [hU]; exact hPc, C.2.1.warm hW, hDc.weaken (fun _ _ _ _ => trivial), by rw [hU]; exact (hJ H locs hP hD hS hFc).warm hW⟩⟩ rfl hn hl.1 rfl (lv_room hcat) hdg hkn) hS (fun q _ h => hFc q h) hFc (fun u t H1 locs1 ht hvm hw hB hz1 hk1 hS1 => ?_)
  obtain ⟨hP1, hD1⟩ := hB
  rw [ht] at hP1
  obtain ⟨hP, hD⟩ := p_join hP hD hC (List.Perm.refl (u ++ rest)) hFc hk1 hP1 hD1
  exact kk u hw H1 locs1 ls hP hD hS1 hl
theorem g_Vi (C : aC p s m args meth c cc nL own WW D J tys A) {J1 : JT} {y : MethodName} {b : ByteArray} {mL mc1 ms1 : Nat} {ret : Option FieldType} {rm : Room} {idx a : Nat} {As stk : List Value} {w0 : va_W} {v : Int32} {w1 : va_W} {C1 : String} (cnt : Nat) (rest : va_W) (ws' : va_W) (hG : GoodIn WW (wsV own idx C1 y (aW y b mL ret))) (hd : y.cls = C1 ∧ y.cls ≠ "java/lang/invoke/MethodHandle" ∧ y.cls ≠ "java/lang/invoke/VarHandle" ∧ (parseMethodDescriptor y.desc).map (fun d => d.parameters.length) = some cnt) (hJ : gJ p s D A ws w0 J1) (hrc : gR s D A ws C1 a) (hrm : rm.cells = mc1 ∧ rm.slots = ms1) (hR : rm.frames + 1 ≤ R.frames ∧ 8 + (mL + 11) + rm.locals ≤ R.locals) (hM : aKI l y (aW y b mL ret) rm D J1 tys (.ref a :: As) w0 v w1 mc1 ms1) (hC : ws.Perm (w0 ++ rest)) (hN : ws'.Perm (w1 ++ rest)) (hst : stk = As.reverse ++ .ref a :: st) (hn : As.length = cnt) (hcat : (st.map fun v => v.category).sum ≤ 8) (hdg : decode cc pc = .ok (.invokevirtual idx, 3)) (hkn : k + mc1 ≤ R.cells ∧ n + ms1 ≤ R.slots) (kk : aT p l e R s m args below meth c Q D A nL (k + mc1) (n + ms1) (pc + 3) lv (.int v :: st) ws') : aT p l e R s m args below meth c Q D A nL k n pc lv stk ws := by
  subst hst
  intro H locs ls hP hD hS hl
  have hts := C.1.2.2.2.2
  have hPc : va_P D vwCl w0 H := p_sub hP hC
  have hDc : va_D A w0 := d_sub hD hC
  have hFc := p_free (wc := w0) hD hS C.2.2.2.1 hC
  refine va_calli (va_runV (As := As) (rest := st) C.1 (hM H.size) (cwV cnt hts hG rfl hrm.1 hrm.2 hd hR) ⟨aPc_blind, hrc H locs hP hD hS, fun U hU hW => ⟨rfl, by rw [hU], by rw [hU]; exact hPc, C.2.1.warm hW, hDc.weaken (fun _ _ _ _ => trivial), by rw [hU]; exact (hJ H locs hP hD hS hFc).warm hW⟩⟩ rfl hn hl.1 rfl (lv_room hcat) hdg hkn) hS (fun q _ h => hFc q h) hFc (fun rv u t H1 locs1 ht hvm hw hB hz1 hk1 hS1 => ?_)
  obtain ⟨hP1, hD1⟩ := hB
  rw [ht] at hP1
  rw [show rv = v from hw]
  obtain ⟨hP, hD⟩ := p_join hP hD hC hN hFc hk1 hP1 hD1
  exact kk H1 locs1 ls hP hD hS1 hl
theorem g_Vr (C : aC p s m args meth c cc nL own WW D J tys A) {J1 : JT} {y : MethodName} {b : ByteArray} {mL mc1 ms1 : Nat} {ret : Option FieldType} {rm : Room} {idx a : Nat} {As stk : List Value} {w0 : va_W} {S : Type} {pa : S → Nat → Prop} {w1 : S → Nat → va_W} {C1 : String} (cnt : Nat) (rest : va_W) (ws' : S → Nat → va_W) (hG : GoodIn WW (wsV own idx C1 y (aW y b mL ret))) (hd : y.cls = C1 ∧ y.cls ≠ "java/lang/invoke/MethodHandle" ∧ y.cls ≠ "java/lang/invoke/VarHandle" ∧ (parseMethodDescriptor y.desc).map (fun d => d.parameters.length) = some cnt) (hJ : gJ p s D A ws w0 J1) (hrc : gR s D A ws C1 a) (hrm : rm.cells = mc1 ∧ rm.slots = ms1) (hR : rm.frames + 1 ≤ R.frames ∧ 8 + (mL + 11) + rm.locals ≤ R.locals) (hM : aKR l y (aW y b mL ret) rm D J1 tys (.ref a :: As) w0 pa w1 mc1 ms1) (hC : ws.Perm (w0 ++ rest)) (hN : ∀ u a, (ws' u a).Perm (w1 u a ++ rest)) (hst : stk = As.reverse ++ .ref a :: st) (hn : As.length = cnt) (hcat : (st.map fun v => v.category).sum ≤ 8) (hdg : decode cc pc = .ok (.invokevirtual idx, 3)) (hkn : k + mc1 ≤ R.cells ∧ n + ms1 ≤ R.slots) (kk : ∀ u a1, pa u a1 → aT p l e R s m args below meth c Q D A nL (k + mc1) (n + ms1) (pc + 3) lv (.ref a1 :: st) (ws' u a1)) : aT p l e R s m args below meth c Q D A nL k n pc lv stk ws := by
  subst hst
  intro H locs ls hP hD hS hl
  have hts := C.1.2.2.2.2
  have hPc : va_P D vwCl w0 H := p_sub hP hC
  have hDc : va_D A w0 := d_sub hD hC
  have hFc := p_free (wc := w0) hD hS C.2.2.2.1 hC
  refine va_callr (va_runV (As := As) (rest := st) C.1 (hM H.size) (cwV cnt hts hG rfl hrm.1 hrm.2 hd hR) ⟨aPc_blind, hrc H locs hP hD hS, fun U hU hW => ⟨rfl, by rw [hU], by rw [hU]; exact hPc, C.2.1.warm hW, hDc.weaken (fun _ _ _ _ => trivial), by rw [hU]; exact (hJ H locs hP hD hS hFc).warm hW⟩⟩ rfl hn hl.1 rfl (lv_room hcat) hdg hkn) hS (fun q _ h => hFc q h) hFc (fun u ra t H1 locs1 ht hvm hw hB hz1 hk1 hS1 => ?_)
  obtain ⟨hpa, hP1, hD1⟩ := hB
  rw [ht] at hP1
  obtain ⟨hP, hD⟩ := p_join hP hD hC (hN u ra) hFc hk1 hP1 hD1
  exact kk u ra hpa H1 locs1 ls hP hD hS1 hl
theorem g_Vv (C : aC p s m args meth c cc nL own WW D J tys A) {J1 : JT} {y : MethodName} {b : ByteArray} {mL mc1 ms1 : Nat} {ret : Option FieldType} {rm : Room} {idx a : Nat} {As stk : List Value} {w0 : va_W} {Pw : va_W → Prop} {C1 : String} (cnt : Nat) (rest : va_W)  (hG : GoodIn WW (wsV own idx C1 y (aW y b mL ret))) (hd : y.cls = C1 ∧ y.cls ≠ "java/lang/invoke/MethodHandle" ∧ y.cls ≠ "java/lang/invoke/VarHandle" ∧ (parseMethodDescriptor y.desc).map (fun d => d.parameters.length) = some cnt) (hJ : gJ p s D A ws w0 J1) (hrc : gR s D A ws C1 a) (hrm : rm.cells = mc1 ∧ rm.slots = ms1) (hR : rm.frames + 1 ≤ R.frames ∧ 8 + (mL + 11) + rm.locals ≤ R.locals) (hM : aKn l y (aW y b mL ret) rm D J1 tys (.ref a :: As) w0 Pw mc1 ms1) (hC : ws.Perm (w0 ++ rest))  (hst : stk = As.reverse ++ .ref a :: st) (hn : As.length = cnt) (hcat : (st.map fun v => v.category).sum ≤ 8) (hdg : decode cc pc = .ok (.invokevirtual idx, 3)) (hkn : k + mc1 ≤ R.cells ∧ n + ms1 ≤ R.slots) (kk : ∀ w, Pw w → aT p l e R s m args below meth c Q D A nL (k + mc1) (n + ms1) (pc + 3) lv st (w ++ rest)) : aT p l e R s m args below meth c Q D A nL k n pc lv stk ws := by
  subst hst
  intro H locs ls hP hD hS hl
  have hts := C.1.2.2.2.2
  have hPc : va_P D vwCl w0 H := p_sub hP hC
  have hDc : va_D A w0 := d_sub hD hC
  have hFc := p_free (wc := w0) hD hS C.2.2.2.1 hC
  refine va_callv (va_runV (As := As) (rest := st) C.1 (hM H.size) (cwV cnt hts hG rfl hrm.1 hrm.2 hd hR) ⟨aPc_blind, hrc H locs hP hD hS, fun U hU hW => ⟨rfl, by rw [hU], by rw [hU]; exact hPc, C.2.1.warm hW, hDc.weaken (fun _ _ _ _ => trivial), by rw [hU]; exact (hJ H locs hP hD hS hFc).warm hW⟩⟩ rfl hn hl.1 rfl (lv_room hcat) hdg hkn) hS (fun q _ h => hFc q h) hFc (fun u t H1 locs1 ht hvm hw hB hz1 hk1 hS1 => ?_)
  obtain ⟨hP1, hD1⟩ := hB
  rw [ht] at hP1
  obtain ⟨hP, hD⟩ := p_join hP hD hC (List.Perm.refl (u ++ rest)) hFc hk1 hP1 hD1
  exact kk u hw H1 locs1 ls hP hD hS1 hl
theorem g_Ui (C : aC p s m args meth c cc nL own WW D J tys A) {J1 : JT} {y x : MethodName} {b : ByteArray} {mL mc1 ms1 : Nat} {ret : Option FieldType} {rm : Room} {idx a : Nat} {As stk : List Value} {w0 : va_W} {v : Int32} {w1 : va_W} {C1 : String} (cnt : Nat) (rest : va_W) (ws' : va_W) (hcd : Cond.code y b mL ret ∈ WW) (hini : Cond.initialized y.cls ∈ WW) (hlink : Cond.methodLink own idx x ∈ WW) (hsame : Cond.sameMethod x.cls x.cls x.name x.desc ∈ WW) (hdecl : va_Decl s x) (hsel : (Cond.selects C1 x y).before args s = true) (hinst : Cond.instanceMethod y ∈ WW) (hd : x.cls ≠ "java/lang/invoke/MethodHandle" ∧ x.cls ≠ "java/lang/invoke/VarHandle" ∧ (parseMethodDescriptor x.desc).map (fun d => d.parameters.length) = some cnt) (hJ : gJ p s D A ws w0 J1) (hrc : gR s D A ws C1 a) (hrm : rm.cells = mc1 ∧ rm.slots = ms1) (hR : rm.frames + 1 ≤ R.frames ∧ 8 + (mL + 11) + rm.locals ≤ R.locals) (hM : aKI l y (aW y b mL ret) rm D J1 tys (.ref a :: As) w0 v w1 mc1 ms1) (hC : ws.Perm (w0 ++ rest)) (hN : ws'.Perm (w1 ++ rest)) (hst : stk = As.reverse ++ .ref a :: st) (hn : As.length = cnt) (hcat : (st.map fun v => v.category).sum ≤ 8) (hdg : decode cc pc = .ok (.invokevirtual idx, 3)) (hkn : k + mc1 ≤ R.cells ∧ n + ms1 ≤ R.slots) (kk : aT p l e R s m args below meth c Q D A nL (k + mc1) (n + ms1) (pc + 3) lv (.int v :: st) ws') : aT p l e R s m args below meth c Q D A nL k n pc lv stk ws := by
  subst hst
  intro H locs ls hP hD hS hl
  have hts := C.1.2.2.2.2
  have hPc : va_P D vwCl w0 H := p_sub hP hC
  have hDc : va_D A w0 := d_sub hD hC
  have hFc := p_free (wc := w0) hD hS C.2.2.2.1 hC
  refine va_calli (va_runU (As := As) (rest := st) C.1 (hM H.size) (⟨⟨hrm.1, hrm.2, hR.1, hR.2, pay_in hts (good_c _ _ _ _ hcd), List.mem_cons_self⟩, hts _ hcd, hts _ hini, ⟨hd.1, hd.2.1⟩, (fun sig h => by have h2 := hd.2.2; rw [h] at h2; exact (Option.some.inj h2).symm), hts _ hlink, hts _ hsame, hdecl, hsel, hts _ hinst⟩ : va_CU R s args own C1 x.cls idx x y b mL ret (aW y b mL ret) rm mc1 ms1 cnt) ⟨aPc_blind, hrc H locs hP hD hS, fun U hU hW => ⟨rfl, by rw [hU], by rw [hU]; exact hPc, C.2.1.warm hW, hDc.weaken (fun _ _ _ _ => trivial), by rw [hU]; exact (hJ H locs hP hD hS hFc).warm hW⟩⟩ rfl hn hl.1 rfl (lv_room hcat) hdg hkn) hS (fun q _ h => hFc q h) hFc (fun rv u t H1 locs1 ht hvm hw hB hz1 hk1 hS1 => ?_)
  obtain ⟨hP1, hD1⟩ := hB
  rw [ht] at hP1
  rw [show rv = v from hw]
  obtain ⟨hP, hD⟩ := p_join hP hD hC hN hFc hk1 hP1 hD1
  exact kk H1 locs1 ls hP hD hS1 hl
theorem g_Ur (C : aC p s m args meth c cc nL own WW D J tys A) {J1 : JT} {y x : MethodName} {b : ByteArray} {mL mc1 ms1 : Nat} {ret : Option FieldType} {rm : Room} {idx a : Nat} {As stk : List Value} {w0 : va_W} {S : Type} {pa : S → Nat → Prop} {w1 : S → Nat → va_W} {C1 : String} (cnt : Nat) (rest : va_W) (ws' : S → Nat → va_W) (hcd : Cond.code y b mL ret ∈ WW) (hini : Cond.initialized y.cls ∈ WW) (hlink : Cond.methodLink own idx x ∈ WW) (hsame : Cond.sameMethod x.cls x.cls x.name x.desc ∈ WW) (hdecl : va_Decl s x) (hsel : (Cond.selects C1 x y).before args s = true) (hinst : Cond.instanceMethod y ∈ WW) (hd : x.cls ≠ "java/lang/invoke/MethodHandle" ∧ x.cls ≠ "java/lang/invoke/VarHandle" ∧ (parseMethodDescriptor x.desc).map (fun d => d.parameters.length) = some cnt) (hJ : gJ p s D A ws w0 J1) (hrc : gR s D A ws C1 a) (hrm : rm.cells = mc1 ∧ rm.slots = ms1) (hR : rm.frames + 1 ≤ R.frames ∧ 8 + (mL + 11) + rm.locals ≤ R.locals) (hM : aKR l y (aW y b mL ret) rm D J1 tys (.ref a :: As) w0 pa w1 mc1 ms1) (hC : ws.Perm (w0 ++ rest)) (hN : ∀ u a, (ws' u a).Perm (w1 u a ++ rest)) (hst : stk = As.reverse ++ .ref a :: st) (hn : As.length = cnt) (hcat : (st.map fun v => v.category).sum ≤ 8) (hdg : decode cc pc = .ok (.invokevirtual idx, 3)) (hkn : k + mc1 ≤ R.cells ∧ n + ms1 ≤ R.slots) (kk : ∀ u a1, pa u a1 → aT p l e R s m args below meth c Q D A nL (k + mc1) (n + ms1) (pc + 3) lv (.ref a1 :: st) (ws' u a1)) : aT p l e R s m args below meth c Q D A nL k n pc lv stk ws := by
  subst hst
  intro H locs ls hP hD hS hl
  have hts := C.1.2.2.2.2
  have hPc : va_P D vwCl w0 H := p_sub hP hC
  have hDc : va_D A w0 := d_sub hD hC
  have hFc := p_free (wc := w0) hD hS C.2.2.2.1 hC
  refine va_callr (va_runU (As := As) (rest := st) C.1 (hM H.size) (⟨⟨hrm.1, hrm.2, hR.1, hR.2, pay_in hts (good_c _ _ _ _ hcd), List.mem_cons_self⟩, hts _ hcd, hts _ hini, ⟨hd.1, hd.2.1⟩, (fun sig h => by have h2 := hd.2.2; rw [h] at h2; exact (Option.some.inj h2).symm), hts _ hlink, hts _ hsame, hdecl, hsel, hts _ hinst⟩ : va_CU R s args own C1 x.cls idx x y b mL ret (aW y b mL ret) rm mc1 ms1 cnt) ⟨aPc_blind, hrc H locs hP hD hS, fun U hU hW => ⟨rfl, by rw [hU], by rw [hU]; exact hPc, C.2.1.warm hW, hDc.weaken (fun _ _ _ _ => trivial), by rw [hU]; exact (hJ H locs hP hD hS hFc).warm hW⟩⟩ rfl hn hl.1 rfl (lv_room hcat) hdg hkn) hS (fun q _ h => hFc q h) hFc (fun u ra t H1 locs1 ht hvm hw hB hz1 hk1 hS1 => ?_)
  obtain ⟨hpa, hP1, hD1⟩ := hB
  rw [ht] at hP1
  obtain ⟨hP, hD⟩ := p_join hP hD hC (hN u ra) hFc hk1 hP1 hD1
  exact kk u ra hpa H1 locs1 ls hP hD hS1 hl
theorem g_Uv (C : aC p s m args meth c cc nL own WW D J tys A) {J1 : JT} {y x : MethodName} {b : ByteArray} {mL mc1 ms1 : Nat} {ret : Option FieldType} {rm : Room} {idx a : Nat} {As stk : List Value} {w0 : va_W} {Pw : va_W → Prop} {C1 : String} (cnt : Nat) (rest : va_W)  (hcd : Cond.code y b mL ret ∈ WW) (hini : Cond.initialized y.cls ∈ WW) (hlink : Cond.methodLink own idx x ∈ WW) (hsame : Cond.sameMethod x.cls x.cls x.name x.desc ∈ WW) (hdecl : va_Decl s x) (hsel : (Cond.selects C1 x y).before args s = true) (hinst : Cond.instanceMethod y ∈ WW) (hd : x.cls ≠ "java/lang/invoke/MethodHandle" ∧ x.cls ≠ "java/lang/invoke/VarHandle" ∧ (parseMethodDescriptor x.desc).map (fun d => d.parameters.length) = some cnt) (hJ : gJ p s D A ws w0 J1) (hrc : gR s D A ws C1 a) (hrm : rm.cells = mc1 ∧ rm.slots = ms1) (hR : rm.frames + 1 ≤ R.frames ∧ 8 + (mL + 11) + rm.locals ≤ R.locals) (hM : aKn l y (aW y b mL ret) rm D J1 tys (.ref a :: As) w0 Pw mc1 ms1) (hC : ws.Perm (w0 ++ rest))  (hst : stk = As.reverse ++ .ref a :: st) (hn : As.length = cnt) (hcat : (st.map fun v => v.category).sum ≤ 8) (hdg : decode cc pc = .ok (.invokevirtual idx, 3)) (hkn : k + mc1 ≤ R.cells ∧ n + ms1 ≤ R.slots) (kk : ∀ w, Pw w → aT p l e R s m args below meth c Q D A nL (k + mc1) (n + ms1) (pc + 3) lv st (w ++ rest)) : aT p l e R s m args below meth c Q D A nL k n pc lv stk ws := by
  subst hst
  intro H locs ls hP hD hS hl
  have hts := C.1.2.2.2.2
  have hPc : va_P D vwCl w0 H := p_sub hP hC
  have hDc : va_D A w0 := d_sub hD hC
  have hFc := p_free (wc := w0) hD hS C.2.2.2.1 hC
  refine va_callv (va_runU (As := As) (rest := st) C.1 (hM H.size) (⟨⟨hrm.1, hrm.2, hR.1, hR.2, pay_in hts (good_c _ _ _ _ hcd), List.mem_cons_self⟩, hts _ hcd, hts _ hini, ⟨hd.1, hd.2.1⟩, (fun sig h => by have h2 := hd.2.2; rw [h] at h2; exact (Option.some.inj h2).symm), hts _ hlink, hts _ hsame, hdecl, hsel, hts _ hinst⟩ : va_CU R s args own C1 x.cls idx x y b mL ret (aW y b mL ret) rm mc1 ms1 cnt) ⟨aPc_blind, hrc H locs hP hD hS, fun U hU hW => ⟨rfl, by rw [hU], by rw [hU]; exact hPc, C.2.1.warm hW, hDc.weaken (fun _ _ _ _ => trivial), by rw [hU]; exact (hJ H locs hP hD hS hFc).warm hW⟩⟩ rfl hn hl.1 rfl (lv_room hcat) hdg hkn) hS (fun q _ h => hFc q h) hFc (fun u t H1 locs1 ht hvm hw hB hz1 hk1 hS1 => ?_)
  obtain ⟨hP1, hD1⟩ := hB
  rw [ht] at hP1
  obtain ⟨hP, hD⟩ := p_join hP hD hC (List.Perm.refl (u ++ rest)) hFc hk1 hP1 hD1
  exact kk u hw H1 locs1 ls hP hD hS1 hl
theorem g_Zi (C : aC p s m args meth c cc nL own WW D J tys A) {J1 : JT} {y : MethodName} {b : ByteArray} {mL mc1 ms1 : Nat} {ret : Option FieldType} {rm : Room} {idx a : Nat} {As stk : List Value} {w0 : va_W} {v : Int32} {w1 : va_W} {C1 : String} (cnt : Nat) (rest : va_W) (ws' : va_W) (hG : GoodIn WW (va_wsSU own idx y (aW y b mL ret))) (hd : y.name ≠ "<init>" ∧ (parseMethodDescriptor y.desc).map (fun d => d.parameters.length) = some cnt) (hat : ∃ cC, ClassAt s C1 cC) (hJ : gJ p s D A ws w0 J1) (hrc : gR s D A ws C1 a) (hrm : rm.cells = mc1 ∧ rm.slots = ms1) (hR : rm.frames + 1 ≤ R.frames ∧ 8 + (mL + 11) + rm.locals ≤ R.locals) (hM : aKI l y (aW y b mL ret) rm D J1 tys (.ref a :: As) w0 v w1 mc1 ms1) (hC : ws.Perm (w0 ++ rest)) (hN : ws'.Perm (w1 ++ rest)) (hst : stk = As.reverse ++ .ref a :: st) (hn : As.length = cnt) (hcat : (st.map fun v => v.category).sum ≤ 8) (hdg : decode cc pc = .ok (.invokespecial idx, 3)) (hkn : k + mc1 ≤ R.cells ∧ n + ms1 ≤ R.slots) (kk : aT p l e R s m args below meth c Q D A nL (k + mc1) (n + ms1) (pc + 3) lv (.int v :: st) ws') : aT p l e R s m args below meth c Q D A nL k n pc lv stk ws := by
  subst hst
  intro H locs ls hP hD hS hl
  have hts := C.1.2.2.2.2
  have hPc : va_P D vwCl w0 H := p_sub hP hC
  have hDc : va_D A w0 := d_sub hD hC
  have hFc := p_free (wc := w0) hD hS C.2.2.2.1 hC
  refine va_calli (va_runSU hat.choose_spec (As := As) (rest := st) C.1 (hM H.size) (va_cwSU cnt hts hG rfl hrm.1 hrm.2 hd hR) ⟨aPc_blind, hrc H locs hP hD hS, fun U hU hW => ⟨rfl, by rw [hU], by rw [hU]; exact hPc, C.2.1.warm hW, hDc.weaken (fun _ _ _ _ => trivial), by rw [hU]; exact (hJ H locs hP hD hS hFc).warm hW⟩⟩ rfl hn hl.1 rfl (lv_room hcat) hdg hkn) hS (fun q _ h => hFc q h) hFc (fun rv u t H1 locs1 ht hvm hw hB hz1 hk1 hS1 => ?_)
  obtain ⟨hP1, hD1⟩ := hB
  rw [ht] at hP1
  rw [show rv = v from hw]
  obtain ⟨hP, hD⟩ := p_join hP hD hC hN hFc hk1 hP1 hD1
  exact kk H1 locs1 ls hP hD hS1 hl
theorem g_Zr (C : aC p s m args meth c cc nL own WW D J tys A) {J1 : JT} {y : MethodName} {b : ByteArray} {mL mc1 ms1 : Nat} {ret : Option FieldType} {rm : Room} {idx a : Nat} {As stk : List Value} {w0 : va_W} {S : Type} {pa : S → Nat → Prop} {w1 : S → Nat → va_W} {C1 : String} (cnt : Nat) (rest : va_W) (ws' : S → Nat → va_W) (hG : GoodIn WW (va_wsSU own idx y (aW y b mL ret))) (hd : y.name ≠ "<init>" ∧ (parseMethodDescriptor y.desc).map (fun d => d.parameters.length) = some cnt) (hat : ∃ cC, ClassAt s C1 cC) (hJ : gJ p s D A ws w0 J1) (hrc : gR s D A ws C1 a) (hrm : rm.cells = mc1 ∧ rm.slots = ms1) (hR : rm.frames + 1 ≤ R.frames ∧ 8 + (mL + 11) + rm.locals ≤ R.locals) (hM : aKR l y (aW y b mL ret) rm D J1 tys (.ref a :: As) w0 pa w1 mc1 ms1) (hC : ws.Perm (w0 ++ rest)) (hN : ∀ u a, (ws' u a).Perm (w1 u a ++ rest)) (hst : stk = As.reverse ++ .ref a :: st) (hn : As.length = cnt) (hcat : (st.map fun v => v.category).sum ≤ 8) (hdg : decode cc pc = .ok (.invokespecial idx, 3)) (hkn : k + mc1 ≤ R.cells ∧ n + ms1 ≤ R.slots) (kk : ∀ u a1, pa u a1 → aT p l e R s m args below meth c Q D A nL (k + mc1) (n + ms1) (pc + 3) lv (.ref a1 :: st) (ws' u a1)) : aT p l e R s m args below meth c Q D A nL k n pc lv stk ws := by
  subst hst
  intro H locs ls hP hD hS hl
  have hts := C.1.2.2.2.2
  have hPc : va_P D vwCl w0 H := p_sub hP hC
  have hDc : va_D A w0 := d_sub hD hC
  have hFc := p_free (wc := w0) hD hS C.2.2.2.1 hC
  refine va_callr (va_runSU hat.choose_spec (As := As) (rest := st) C.1 (hM H.size) (va_cwSU cnt hts hG rfl hrm.1 hrm.2 hd hR) ⟨aPc_blind, hrc H locs hP hD hS, fun U hU hW => ⟨rfl, by rw [hU], by rw [hU]; exact hPc, C.2.1.warm hW, hDc.weaken (fun _ _ _ _ => trivial), by rw [hU]; exact (hJ H locs hP hD hS hFc).warm hW⟩⟩ rfl hn hl.1 rfl (lv_room hcat) hdg hkn) hS (fun q _ h => hFc q h) hFc (fun u ra t H1 locs1 ht hvm hw hB hz1 hk1 hS1 => ?_)
  obtain ⟨hpa, hP1, hD1⟩ := hB
  rw [ht] at hP1
  obtain ⟨hP, hD⟩ := p_join hP hD hC (hN u ra) hFc hk1 hP1 hD1
  exact kk u ra hpa H1 locs1 ls hP hD hS1 hl
theorem g_Xv (C : aC p s m args meth c cc nL own WW D J tys A) {J1 : JT} {y : MethodName} {b : ByteArray} {mL mc1 ms1 : Nat} {rm : Room} {idx a : Nat} {As stk : List Value} {w0 : va_W} {Pw : va_W → Prop} (cnt : Nat) (rest : va_W)  (hl0 : Cond.methodLink own idx y ∈ WW) (hi : Cond.instanceMethod y ∈ WW) (hini : Cond.initialized y.cls ∈ WW) (hcd : Cond.code y b mL none ∈ WW) (hy1 : y.name = "<init>") (hd : y.cls ≠ "java/lang/invoke/MethodHandle" ∧ y.cls ≠ "java/lang/invoke/VarHandle" ∧ (parseMethodDescriptor y.desc).map (fun d => d.parameters.length) = some cnt) (hJ : gJ p s D A ws w0 J1) (hrm : rm.cells = mc1 ∧ rm.slots = ms1) (hR : rm.frames + 1 ≤ R.frames ∧ 8 + (mL + 11) + rm.locals ≤ R.locals) (hM : aKn l y (aW y b mL none) rm D J1 tys (.ref a :: As) w0 Pw mc1 ms1) (hC : ws.Perm (w0 ++ rest))  (hst : stk = As.reverse ++ .ref a :: st) (hn : As.length = cnt) (hcat : (st.map fun v => v.category).sum ≤ 8) (hdg : decode cc pc = .ok (.invokespecial idx, 3)) (hkn : k + mc1 ≤ R.cells ∧ n + ms1 ≤ R.slots) (kk : ∀ w, Pw w → aT p l e R s m args below meth c Q D A nL (k + mc1) (n + ms1) (pc + 3) lv st (w ++ rest)) : aT p l e R s m args below meth c Q D A nL k n pc lv stk ws := by
  subst hst
  intro H locs ls hP hD hS hl
  have hts := C.1.2.2.2.2
  have hPc : va_P D vwCl w0 H := p_sub hP hC
  have hDc : va_D A w0 := d_sub hD hC
  have hFc := p_free (wc := w0) hD hS C.2.2.2.1 hC
  refine va_callv (va_runI (As := As) (rest := st) C.1 (hM H.size) (cwI cnt hts (good_c _ _ _ _ hcd) rfl hrm.1 hrm.2 (hts _ hini) (hts _ hl0) (hts _ hi) hy1 hd hR) ⟨aPc_blind, fun U hU hW => ⟨rfl, by rw [hU], by rw [hU]; exact hPc, C.2.1.warm hW, hDc.weaken (fun _ _ _ _ => trivial), by rw [hU]; exact (hJ H locs hP hD hS hFc).warm hW⟩⟩ rfl hn hl.1 rfl (lv_room hcat) hdg hkn) hS (fun q _ h => hFc q h) hFc (fun u t H1 locs1 ht hvm hw hB hz1 hk1 hS1 => ?_)
  obtain ⟨hP1, hD1⟩ := hB
  rw [ht] at hP1
  obtain ⟨hP, hD⟩ := p_join hP hD hC (List.Perm.refl (u ++ rest)) hFc hk1 hP1 hD1
  exact kk u hw H1 locs1 ls hP hD hS1 hl
theorem s_value (C : aC p s m args meth c cc nL RJ0 WW D J tys A) {q : TX} (hq : q ∈ J.2) (hdg : decode cc pc = .ok (.getfield 9, 3)) (kk : aT p l e R s m args below meth c Q D A nL k n (pc + 3) lv (.ref q.val.2.1 :: st) ws) : aT p l e R s m args below meth c Q D A nL k n pc lv (.ref q.val.1 :: st) ws := fun H locs ls hP hD hS hl => vk_getf C.1.1 C.1.2.1 (C.2.2.2.2.2.2.2.2.2.2.1 q hq).2.2.1 hS C.1.2.2.2.1 (C.1.2.2.2.2 _ kf_J0_9) (fun _ h => h) hdg (kk H locs ls hP hD hS hl)
theorem s_coder (C : aC p s m args meth c cc nL RJ0 WW D J tys A) {q : TX} (hq : q ∈ J.2) (hdg : decode cc pc = .ok (.getfield 15, 3)) (kk : aT p l e R s m args below meth c Q D A nL k n (pc + 3) lv (.int 0 :: st) ws) : aT p l e R s m args below meth c Q D A nL k n pc lv (.ref q.val.1 :: st) ws := fun H locs ls hP hD hS hl => vk_getf C.1.1 C.1.2.1 (C.2.2.2.2.2.2.2.2.2.2.1 q hq).2.1 hS C.1.2.2.2.1 (C.1.2.2.2.2 _ kf_J0_15) (fun _ h => h) hdg (kk H locs ls hP hD hS hl)
theorem s_compact (C : aC p s m args meth c cc nL own WW D J tys A) {idx : Nat} (hlink : Cond.fieldLink own idx "java/lang/String" "COMPACT_STRINGS" "Z" ∈ WW) (hdg : decode cc pc = .ok (.getstatic idx, 3)) (kk : aT p l e R s m args below meth c Q D A nL k n (pc + 3) lv (.int 1 :: st) ws) : aT p l e R s m args below meth c Q D A nL k n pc lv st ws := fun H locs ls hP hD hS hl => va_gets C.1.1 C.1.2.1 C.2.2.2.2.2.2.2.2.2.2.2.1 hS C.1.2.2.2.1 (C.1.2.2.2.2 _ hlink) (fun _ h => h) hdg (kk H locs ls hP hD hS hl)
theorem s_fmt (C : aC p s m args meth c cc nL RJ0 WW D J tys A) (hdg : decode cc pc = .ok (.getstatic 1053, 3)) (kk : ∀ v : Value, (v = .null ∨ ∃ t : Nat, v = .ref t) → aT p l e R s m args below meth c Q D A nL k n (pc + 3) lv (v :: st) ws) : aT p l e R s m args below meth c Q D A nL k n pc lv st ws := fun H locs ls hP hD hS hl => by
  rcases C.2.2.2.2.2.2.2.2.2.2.2.2.1 with h | ⟨t, h⟩
  · exact va_gets C.1.1 C.1.2.1 h hS C.1.2.2.2.1 (C.1.2.2.2.2 _ kf_J0_1053) (fun _ h => h) hdg (kk _ (Or.inl rfl) H locs ls hP hD hS hl)
  · exact va_gets C.1.1 C.1.2.1 h hS C.1.2.2.2.1 (C.1.2.2.2.2 _ kf_J0_1053) (fun _ h => h) hdg (kk _ (Or.inr ⟨t, rfl⟩) H locs ls hP hD hS hl)
theorem s_len (C : aC p s m args meth c cc nL own WW D J tys A) {q : TX} (hq : q ∈ J.2) (hdg : decode cc pc = .ok (.arraylength, 1)) (kk : aT p l e R s m args below meth c Q D A nL k n (pc + 1) lv (.int (nI q.val.2.2.length) :: st) ws) : aT p l e R s m args below meth c Q D A nL k n pc lv (.ref q.val.2.1 :: st) ws := fun H locs ls hP hD hS hl => va_tlen C.1.1 C.1.2.1 (C.2.2.2.2.2.2.2.2.2.2.1 q hq).2.2.2 hS rfl hdg (kk H locs ls hP hD hS hl)
theorem s_byte (C : aC p s m args meth c cc nL own WW D J tys A) {q : TX} {x : Int32} (hq : q ∈ J.2) (hx : vp_in x q.val.2.2.length) (hdg : decode cc pc = .ok (.baload, 1)) (kk : aT p l e R s m args below meth c Q D A nL k n (pc + 1) lv (.int (q.val.2.2.getD x.toNatClampNeg 0) :: st) ws) : aT p l e R s m args below meth c Q D A nL k n pc lv (.int x :: .ref q.val.2.1 :: st) ws := fun H locs ls hP hD hS hl => va_tb C.1.1 C.1.2.1 (C.2.2.2.2.2.2.2.2.2.2.1 q hq).2.2.2 hS hx rfl hdg (kk H locs ls hP hD hS hl)
theorem s_ishr (C : aC p s m args meth c cc nL own WW D J tys A) {x y : Int32} (hdg : decode cc pc = .ok (.ishr, 1)) (kk : aT p l e R s m args below meth c Q D A nL k n (pc + 1) lv (.int (x >>> (y &&& 31)) :: st) ws) : aT p l e R s m args below meth c Q D A nL k n pc lv (.int y :: .int x :: st) ws := fun H locs ls hP hD hS hl => lv_ishr C.1.1 C.1.2.1 hdg (kk H locs ls hP hD hS hl)
theorem s_i2b (C : aC p s m args meth c cc nL own WW D J tys A) {x v : Int32} (hv : x.toInt8.toInt32 = v) (hdg : decode cc pc = .ok (.i2b, 1)) (kk : aT p l e R s m args below meth c Q D A nL k n (pc + 1) lv (.int v :: st) ws) : aT p l e R s m args below meth c Q D A nL k n pc lv (.int x :: st) ws := fun H locs ls hP hD hS hl => lv_i2b C.1.1 C.1.2.1 hdg hv (kk H locs ls hP hD hS hl)
theorem s_dupx (C : aC p s m args meth c cc nL own WW D J tys A) {va vb : Value} (hva : va.category = 1) (hvb : vb.category = 1) (hdg : decode cc pc = .ok (.dup_x1, 1)) (kk : aT p l e R s m args below meth c Q D A nL k n (pc + 1) lv (va :: vb :: va :: st) ws) : aT p l e R s m args below meth c Q D A nL k n pc lv (va :: vb :: st) ws := fun H locs ls hP hD hS hl => lv_dup_x1 C.1.1 C.1.2.1 hdg hva hvb (kk H locs ls hP hD hS hl)
theorem s_ifnn (C : aC p s m args meth c cc nL own WW D J tys A) {x : Nat} {off : Int} {tgt : Nat} (hdg : decode cc pc = .ok (.ifnonnull off, 3)) (ht : (pc : Int) + off = (tgt : Int)) (kk : aT p l e R s m args below meth c Q D A nL k n tgt lv st ws) : aT p l e R s m args below meth c Q D A nL k n pc lv (.ref x :: st) ws := fun H locs ls hP hD hS hl => lv_ifnonnull C.1.1 C.1.2.1 hdg ht (kk H locs ls hP hD hS hl)
theorem s_null (C : aC p s m args meth c cc nL own WW D J tys A) (hdg : decode cc pc = .ok (.aconst_null, 1)) (kk : aT p l e R s m args below meth c Q D A nL k n (pc + 1) lv (.null :: st) ws) : aT p l e R s m args below meth c Q D A nL k n pc lv st ws := fun H locs ls hP hD hS hl => lv_null C.1.1 C.1.2.1 hdg (kk H locs ls hP hD hS hl)
theorem s_alen (C : aC p s m args meth c cc nL own WW D J tys A) {a : Nat} {cA : ClassId} {x : vp_A} {v : Int32} (q0 : Nat) (ha : ws[q0]? = some (a, .inl (cA, x))) (ht : tys[3]? = some (cA, .byte)) (hv : Int32.ofNat x.1 = v) (hdg : decode cc pc = .ok (.arraylength, 1)) (kk : aT p l e R s m args below meth c Q D A nL k n (pc + 1) lv (.int v :: st) ws) : aT p l e R s m args below meth c Q D A nL k n pc lv (.ref a :: st) ws := fun H locs ls hP hD hS hl => va_alen C.1.1 C.1.2.1 C.2.1.1 hP q0 3 ha ht hv hdg (kk H locs ls hP hD hS hl)
theorem s_bast (C : aC p s m args meth c cc nL own WW D J tys A) {a : Nat} {cA : ClassId} {N : Nat} {f : Nat → Int32} {i x : Int32} (q0 : Nat) (ha : ws[q0]? = some (a, .inl (cA, N, .inl f))) (ht : tys[3]? = some (cA, .byte)) (hi : vp_in i N) (hdg : decode cc pc = .ok (.bastore, 1)) (kk : aT p l e R s m args below meth c Q D A nL k n (pc + 1) lv st (ws.set q0 (a, .inl (cA, N, .inl (upd f i.toNatClampNeg (vp_nar .byte x)))))) : aT p l e R s m args below meth c Q D A nL k n pc lv (.int x :: .int i :: .ref a :: st) ws := fun H locs ls hP hD hS hl => va_bast C.1.1 C.1.2.1 C.2.1.1 hP hD hS q0 3 ha ht hi hdg (fun H1 locs1 hP hD hS => kk H1 locs1 ls hP hD hS hl)
theorem s_copyt (C : aC p s m args meth c cc nL own WW D J tys A) {idx a n1 : Nat} {c1 : ClassId} {g : Nat → Int32} {q : TX} {sp dp nn : Int32} (hq : q ∈ J.2) (q1 : Nat) (ha1 : ws[q1]? = some (a, .inl (c1, n1, .inl g))) (ht1 : tys[3]? = some (c1, .byte)) (hlink : Cond.methodLink own idx arraycopyName ∈ WW) (h1 : ¬ sp < 0) (h2 : ¬ dp < 0) (h3 : ¬ nn < 0) (h4 : sp.toNatClampNeg + nn.toNatClampNeg ≤ q.val.2.2.length) (h5 : dp.toNatClampNeg + nn.toNatClampNeg ≤ n1) (hfit : ∀ x ∈ q.val.2.2, fits .byte (.int x) = true) (hR : 1 ≤ R.frames ∧ (st.map fun v => v.category).sum + (nativeFrameWords "java/lang/System" "arraycopy" 5 + 11) ≤ R.locals) (hdg : decode cc pc = .ok (.invokestatic idx, 3)) (kk : aT p l e R s m args below meth c Q D A nL k n (pc + 3) lv st (ws.set q1 (a, .inl (c1, n1, .inl (va_cpy (fun j => q.val.2.2.getD j 0) g sp.toNatClampNeg dp.toNatClampNeg nn.toNatClampNeg))))) : aT p l e R s m args below meth c Q D A nL k n pc lv (.int nn :: .int dp :: .ref a :: .int sp :: .ref q.val.2.1 :: st) ws := fun H locs ls hP hD hS hl => vk_copyt C.1.1 C.1.2.1 (C.1.2.2.1.trans hl.1.symm) C.1.2.2.2.1 (C.1.2.2.2.2 _ hlink) (C.1.2.2.2.2 _ kt_arraycopy) (C.1.2.2.2.2 _ ks_arraycopy) (C.1.2.2.2.2 _ kn_J10) C.2.1.1 hP hD hS (C.2.2.2.2.2.2.2.2.2.2.1 q hq).2.2.2 q1 3 ha1 ht1 h1 h2 h3 h4 h5 (fun i hi => hfit _ (by rw [List.getD_eq_getElem?_getD, List.getElem?_eq_getElem (by omega)]; exact List.getElem_mem _)) hR.1 hR.2 hdg (fun H1 locs1 hP hD hS => kk H1 locs1 ls hP hD hS hl)
theorem s_copyi (C : aC p s m args meth c cc nL own WW D J tys A) {idx a a0 n0 n1 : Nat} {c0 : ClassId} {f g : Nat → Int32} {sp dp nn : Int32} (q0 q1 : Nat) (ha0 : ws[q0]? = some (a0, .inl (c0, n0, .inl f))) (ha1 : ws[q1]? = some (a, .inl (c0, n1, .inl g))) (ht0 : tys[3]? = some (c0, .byte)) (hlink : Cond.methodLink own idx arraycopyName ∈ WW) (h1 : ¬ sp < 0) (h2 : ¬ dp < 0) (h3 : ¬ nn < 0) (h4 : sp.toNatClampNeg + nn.toNatClampNeg ≤ n0) (h5 : dp.toNatClampNeg + nn.toNatClampNeg ≤ n1) (hfit : ∀ i, i < nn.toNatClampNeg → fits .byte (.int (f (sp.toNatClampNeg + i))) = true) (hR : 1 ≤ R.frames ∧ (st.map fun v => v.category).sum + (nativeFrameWords "java/lang/System" "arraycopy" 5 + 11) ≤ R.locals) (hdg : decode cc pc = .ok (.invokestatic idx, 3)) (kk : aT p l e R s m args below meth c Q D A nL k n (pc + 3) lv st (ws.set q1 (a, .inl (c0, n1, .inl (va_cpy f g sp.toNatClampNeg dp.toNatClampNeg nn.toNatClampNeg))))) : aT p l e R s m args below meth c Q D A nL k n pc lv (.int nn :: .int dp :: .ref a :: .int sp :: .ref a0 :: st) ws := fun H locs ls hP hD hS hl => va_copyi C.1.1 C.1.2.1 (C.1.2.2.1.trans hl.1.symm) C.1.2.2.2.1 (C.1.2.2.2.2 _ hlink) (C.1.2.2.2.2 _ kt_arraycopy) (C.1.2.2.2.2 _ ks_arraycopy) (C.1.2.2.2.2 _ kn_J10) C.2.1.1 hP hD hS q0 q1 3 3 ha0 ha1 ht0 ht0 rfl h1 h2 h3 h4 h5 hfit hR.1 hR.2 hdg (fun H1 locs1 hP hD hS => kk H1 locs1 ls hP hD hS hl)
end TR
