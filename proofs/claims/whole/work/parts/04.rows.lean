/-! ROWS OF A WALK: the kit's rows with heap, frame and tables out of sight. aT: at this place of the code, with these locals, this stack and this world of cells, the walk comes to Q; aC: what stays through a method; aKi, aKv: a method's contract, by a result 'res' whose answer is gv res and whose cells are gw res. A pure function stands beside each method: a row takes the hypothesis 'hF : <the function at this place> = some o' and hands on what is left of it. -/
def aE (U : State) : Prop := va_Nw (.methodLinkNest RX1 59 yX8_isSmallLetter RX8) U ∧ va_Nw (.methodLinkNest RX2 75 yX8_isSmallLetter RX8) U ∧ va_Nw (.methodLinkNest RX7 33 yX8_isSmallLetter RX8) U
def aU (D : va_G) (tys : List (ClassId × FieldType)) (U : State) : Prop := va_K D vwCl tys U ∧ aE U
theorem aU.warm {D : va_G} {tys : List (ClassId × FieldType)} {s U : State} (hW : s.WarmedH U.vm) (h : aU D tys s) : aU D tys U := ⟨va_K.moved hW.alike h.1, va_Nw.warmM hW h.2.1, va_Nw.warmM hW h.2.2.1, va_Nw.warmM hW h.2.2.2⟩
theorem aU.same {D : va_G} {tys : List (ClassId × FieldType)} {U : State} {g : JFrame} {mk : MethodId} {a : Array Value} (h : aU D tys U) : aU D tys (U.calling g mk a) := ⟨va_K.moved (u := U) (U := U.calling g mk a) (Vm.Alike.refl U.vm) h.1, va_Nw.same rfl rfl h.2.1, va_Nw.same rfl rfl h.2.2.1, va_Nw.same rfl rfl h.2.2.2⟩
def aPc (D : va_G) (tys : List (ClassId × FieldType)) (av : List Value) (w0 : va_W) (sz : Nat) : Array Value → State → Prop := va_Pc av (fun U => U.heap.size = sz ∧ va_P D vwCl w0 U.heap ∧ aU D tys U ∧ va_D (fun _ => True) w0)
theorem aPc_blind {D : va_G} {tys : List (ClassId × FieldType)} {av : List Value} {w0 : va_W} {sz : Nat} : FrameBlind (aPc D tys av w0 sz) := fun a U g mk q => by
  obtain ⟨q0, q1, qP, qU, qD⟩ := q
  exact ⟨q0, q1, qP, qU.same, qD⟩
def aB (D : va_G) (w0 w1 : va_W) (sz : Nat) (t : State) : Prop := va_P D vwCl w1 t.heap ∧ va_D (va_A w0 sz) w1
def aQi {ρ : Type} (D : va_G) (w0 : va_W) (sz : Nat) (gv : ρ → Int32) (gw : ρ → va_W) (res : ρ) : Array Value → State → Outcome → State → Prop := va_Qi (fun r (_ : Unit) => r = gv res) (fun _ t => aB D w0 (gw res) sz t) (va_A w0 sz)
def aQv {ρ : Type} (D : va_G) (w0 : va_W) (sz : Nat) (gw : ρ → va_W) (res : ρ) : Array Value → State → Outcome → State → Prop := va_Qv (fun (_ : Unit) => True) (fun _ t => aB D w0 (gw res) sz t) (va_A w0 sz)
def aKi {ρ : Type} (l : Launch) (y : MethodName) (wy : List Cond) (rm : Room) (D : va_G) (tys : List (ClassId × FieldType)) (av : List Value) (w0 : va_W) (gv : ρ → Int32) (gw : ρ → va_W) (res : ρ) : Prop := ∀ sz : Nat, Met l y wy rm (aPc D tys av w0 sz) (aQi D w0 sz gv gw res) 0 0 (va_A w0 sz)
def aKv {ρ : Type} (l : Launch) (y : MethodName) (wy : List Cond) (rm : Room) (D : va_G) (tys : List (ClassId × FieldType)) (av : List Value) (w0 : va_W) (gw : ρ → va_W) (res : ρ) : Prop := ∀ sz : Nat, Met l y wy rm (aPc D tys av w0 sz) (aQv D w0 sz gw res) 0 0 (va_A w0 sz)
def aC (p : Program) (s : State) (m : MethodId) (args : Array Value) (meth : Method) (c : Code) (cc : ByteArray) (nL : Nat) (own : String) (Ts : List Cond) (D : va_G) (tys : List (ClassId × FieldType)) (A : Nat → Prop) : Prop := CallFix p m c cc nL s args Ts own ∧ aU D tys s ∧ meth.locks = false ∧ ∀ q : Nat, s.heap.size ≤ q → A q
def aT (p : Program) (l : Launch) (e : Env) (R : Room) (s : State) (m : MethodId) (args : Array Value) (below : List Frame) (meth : Method) (c : Code) (Q : State → Prop) (D : va_G) (A : Nat → Prop) (nL k n pc : Nat) (lv : List (Nat × Value)) (st : List Value) (ws : va_W) : Prop := ∀ (H : Heap) (locs : List Loc) (ls : Array Slot), va_P D vwCl ws H → va_D A ws → va_S A s.heap H locs → lv_has ls nL lv → W p l e R s m args below meth c H locs k n Q (F0 m pc ls st)
/-! partial steps: a load or store at an index in its row, a char that fits -/
def ldi (f : Nat → Int32) (N : Nat) (i : Int32) : Option Int32 := if i < 0 ∨ N ≤ i.toNatClampNeg then none else some (f i.toNatClampNeg)
def ldc (f : Nat → Int32) (N : Nat) (i : Int32) : Option Int32 := if i < 0 ∨ N ≤ i.toNatClampNeg then none else some (f i.toNatClampNeg)
def sti (f : Nat → Int32) (N : Nat) (i x : Int32) : Option (Nat → Int32) := if i < 0 ∨ N ≤ i.toNatClampNeg then none else some (upd f i.toNatClampNeg x)
def stc (f : Nat → Int32) (N : Nat) (i x : Int32) : Option (Nat → Int32) := if i < 0 ∨ N ≤ i.toNatClampNeg then none else some (upd f i.toNatClampNeg (vp_nar .char x))
def rz (x : Int32) : Option Int32 := if x = 0 ∨ x = 1 then some x else none
def rc (x : Int32) : Option Int32 := if vp_nar .char x = x then some x else none
theorem bd {α β : Type} {x : Option α} {f : α → Option β} {o : β} (h : x.bind f = some o) : ∃ a, x = some a ∧ f a = some o := by
  cases x with
  | none => cases h
  | some a => exact ⟨a, rfl, h⟩
theorem chk {α : Type} {q : Prop} {d : Decidable q} {a x : α} (h : (if q then none else some a) = some x) : ¬ q ∧ x = a := by
  by_cases hq : q
  · rw [if_pos hq] at h; cases h
  · rw [if_neg hq] at h; exact ⟨hq, (Option.some.inj h).symm⟩
theorem chk2 {α : Type} {q : Prop} {d : Decidable q} {a x : α} (h : (if q then some a else none) = some x) : q ∧ x = a := by
  by_cases hq : q
  · rw [if_pos hq] at h; exact ⟨hq, (Option.some.inj h).symm⟩
  · rw [if_neg hq] at h; cases h
section AR
variable {p : Program} {l : Launch} {e : Env} {R : Room} {s : State} {m : MethodId} {args : Array Value} {below : List Frame} {meth : Method} {c : Code} {Q : State → Prop} {D : va_G} {tys : List (ClassId × FieldType)} {A : Nat → Prop} {nL k n : Nat} {cc : ByteArray} {own : String} {pc : Nat} {lv : List (Nat × Value)} {st : List Value} {ws : va_W}
theorem a_iconst (C : aC p s m args meth c cc nL own WW D tys A) {z : Int} {v : Int32} (hdg : decode cc pc = .ok (.iconst z, 1)) (hv : Int32.ofInt z = v) (kk : aT p l e R s m args below meth c Q D A nL k n (pc + 1) lv (.int v :: st) ws) : aT p l e R s m args below meth c Q D A nL k n pc lv (st) ws := fun H locs ls hP hD hS hl => lv_iconst C.1.1 C.1.2.1 hdg hv (kk H locs ls hP hD hS hl)
theorem a_bipush (C : aC p s m args meth c cc nL own WW D tys A) {z : Int} {v : Int32} (hdg : decode cc pc = .ok (.bipush z, 2)) (hv : (Int8.ofInt z).toInt32 = v) (kk : aT p l e R s m args below meth c Q D A nL k n (pc + 2) lv (.int v :: st) ws) : aT p l e R s m args below meth c Q D A nL k n pc lv (st) ws := fun H locs ls hP hD hS hl => lv_bipush C.1.1 C.1.2.1 hdg hv (kk H locs ls hP hD hS hl)
theorem a_sipush (C : aC p s m args meth c cc nL own WW D tys A) {z : Int} {v : Int32} (hdg : decode cc pc = .ok (.sipush z, 3)) (hv : (Int16.ofInt z).toInt32 = v) (kk : aT p l e R s m args below meth c Q D A nL k n (pc + 3) lv (.int v :: st) ws) : aT p l e R s m args below meth c Q D A nL k n pc lv (st) ws := fun H locs ls hP hD hS hl => lv_sipush C.1.1 C.1.2.1 hdg hv (kk H locs ls hP hD hS hl)
theorem a_iadd (C : aC p s m args meth c cc nL own WW D tys A) {x y : Int32} (hdg : decode cc pc = .ok (.iadd, 1))  (kk : aT p l e R s m args below meth c Q D A nL k n (pc + 1) lv (.int (x + y) :: st) ws) : aT p l e R s m args below meth c Q D A nL k n pc lv (.int y :: .int x :: st) ws := fun H locs ls hP hD hS hl => lv_iadd C.1.1 C.1.2.1 hdg  (kk H locs ls hP hD hS hl)
theorem a_isub (C : aC p s m args meth c cc nL own WW D tys A) {x y : Int32} (hdg : decode cc pc = .ok (.isub, 1))  (kk : aT p l e R s m args below meth c Q D A nL k n (pc + 1) lv (.int (x - y) :: st) ws) : aT p l e R s m args below meth c Q D A nL k n pc lv (.int y :: .int x :: st) ws := fun H locs ls hP hD hS hl => lv_isub C.1.1 C.1.2.1 hdg  (kk H locs ls hP hD hS hl)
theorem a_imul (C : aC p s m args meth c cc nL own WW D tys A) {x y : Int32} (hdg : decode cc pc = .ok (.imul, 1))  (kk : aT p l e R s m args below meth c Q D A nL k n (pc + 1) lv (.int (x * y) :: st) ws) : aT p l e R s m args below meth c Q D A nL k n pc lv (.int y :: .int x :: st) ws := fun H locs ls hP hD hS hl => lv_imul C.1.1 C.1.2.1 hdg  (kk H locs ls hP hD hS hl)
theorem a_iand (C : aC p s m args meth c cc nL own WW D tys A) {x y : Int32} (hdg : decode cc pc = .ok (.iand, 1))  (kk : aT p l e R s m args below meth c Q D A nL k n (pc + 1) lv (.int (x &&& y) :: st) ws) : aT p l e R s m args below meth c Q D A nL k n pc lv (.int y :: .int x :: st) ws := fun H locs ls hP hD hS hl => lv_iand C.1.1 C.1.2.1 hdg  (kk H locs ls hP hD hS hl)
theorem a_ior (C : aC p s m args meth c cc nL own WW D tys A) {x y : Int32} (hdg : decode cc pc = .ok (.ior, 1))  (kk : aT p l e R s m args below meth c Q D A nL k n (pc + 1) lv (.int (x ||| y) :: st) ws) : aT p l e R s m args below meth c Q D A nL k n pc lv (.int y :: .int x :: st) ws := fun H locs ls hP hD hS hl => lv_ior C.1.1 C.1.2.1 hdg  (kk H locs ls hP hD hS hl)
theorem a_ixor (C : aC p s m args meth c cc nL own WW D tys A) {x y : Int32} (hdg : decode cc pc = .ok (.ixor, 1))  (kk : aT p l e R s m args below meth c Q D A nL k n (pc + 1) lv (.int (x ^^^ y) :: st) ws) : aT p l e R s m args below meth c Q D A nL k n pc lv (.int y :: .int x :: st) ws := fun H locs ls hP hD hS hl => lv_ixor C.1.1 C.1.2.1 hdg  (kk H locs ls hP hD hS hl)
theorem a_idiv (C : aC p s m args meth c cc nL own WW D tys A) {x y : Int32} (hdg : decode cc pc = .ok (.idiv, 1)) (hne : ¬ y = 0) (kk : aT p l e R s m args below meth c Q D A nL k n (pc + 1) lv (.int (x / y) :: st) ws) : aT p l e R s m args below meth c Q D A nL k n pc lv (.int y :: .int x :: st) ws := fun H locs ls hP hD hS hl => lv_idiv C.1.1 C.1.2.1 hdg hne (kk H locs ls hP hD hS hl)
theorem a_irem (C : aC p s m args meth c cc nL own WW D tys A) {x y : Int32} (hdg : decode cc pc = .ok (.irem, 1)) (hne : ¬ y = 0) (kk : aT p l e R s m args below meth c Q D A nL k n (pc + 1) lv (.int (x - x / y * y) :: st) ws) : aT p l e R s m args below meth c Q D A nL k n pc lv (.int y :: .int x :: st) ws := fun H locs ls hP hD hS hl => lv_irem C.1.1 C.1.2.1 hdg hne (kk H locs ls hP hD hS hl)
theorem a_ineg (C : aC p s m args meth c cc nL own WW D tys A) {x : Int32} (hdg : decode cc pc = .ok (.ineg, 1))  (kk : aT p l e R s m args below meth c Q D A nL k n (pc + 1) lv (.int (-x) :: st) ws) : aT p l e R s m args below meth c Q D A nL k n pc lv (.int x :: st) ws := fun H locs ls hP hD hS hl => lv_ineg C.1.1 C.1.2.1 hdg  (kk H locs ls hP hD hS hl)
theorem a_ishl (C : aC p s m args meth c cc nL own WW D tys A) {x y : Int32} (hdg : decode cc pc = .ok (.ishl, 1))  (kk : aT p l e R s m args below meth c Q D A nL k n (pc + 1) lv (.int (x <<< (y &&& 31)) :: st) ws) : aT p l e R s m args below meth c Q D A nL k n pc lv (.int y :: .int x :: st) ws := fun H locs ls hP hD hS hl => lv_ishl C.1.1 C.1.2.1 hdg  (kk H locs ls hP hD hS hl)
theorem a_iushr (C : aC p s m args meth c cc nL own WW D tys A) {x y : Int32} (hdg : decode cc pc = .ok (.iushr, 1))  (kk : aT p l e R s m args below meth c Q D A nL k n (pc + 1) lv (.int (x.toUInt32 >>> (y.toUInt32 &&& Int32.toUInt32 31)).toInt32 :: st) ws) : aT p l e R s m args below meth c Q D A nL k n pc lv (.int y :: .int x :: st) ws := fun H locs ls hP hD hS hl => lv_iushr C.1.1 C.1.2.1 hdg rfl (kk H locs ls hP hD hS hl)
theorem a_i2c (C : aC p s m args meth c cc nL own WW D tys A) {x : Int32} (hdg : decode cc pc = .ok (.i2c, 1))  (kk : aT p l e R s m args below meth c Q D A nL k n (pc + 1) lv (.int (x.toUInt32 % 65536).toInt32 :: st) ws) : aT p l e R s m args below meth c Q D A nL k n pc lv (.int x :: st) ws := fun H locs ls hP hD hS hl => lv_i2c C.1.1 C.1.2.1 hdg rfl (kk H locs ls hP hD hS hl)
theorem a_dup (C : aC p s m args meth c cc nL own WW D tys A) {va : Value} (hdg : decode cc pc = .ok (.dup, 1)) (hva : va.category = 1) (kk : aT p l e R s m args below meth c Q D A nL k n (pc + 1) lv (va :: va :: st) ws) : aT p l e R s m args below meth c Q D A nL k n pc lv (va :: st) ws := fun H locs ls hP hD hS hl => lv_dup C.1.1 C.1.2.1 hdg hva (kk H locs ls hP hD hS hl)
theorem a_pop (C : aC p s m args meth c cc nL own WW D tys A) {va : Value} (hdg : decode cc pc = .ok (.pop, 1)) (hva : va.category = 1) (kk : aT p l e R s m args below meth c Q D A nL k n (pc + 1) lv (st) ws) : aT p l e R s m args below meth c Q D A nL k n pc lv (va :: st) ws := fun H locs ls hP hD hS hl => lv_pop C.1.1 C.1.2.1 hdg hva (kk H locs ls hP hD hS hl)
theorem a_dup2 (C : aC p s m args meth c cc nL own WW D tys A) {va vb : Value} (hdg : decode cc pc = .ok (.dup2, 1)) (hva : va.category = 1) (hvb : vb.category = 1) (kk : aT p l e R s m args below meth c Q D A nL k n (pc + 1) lv (va :: vb :: va :: vb :: st) ws) : aT p l e R s m args below meth c Q D A nL k n pc lv (va :: vb :: st) ws := fun H locs ls hP hD hS hl => lv_dup2_11 C.1.1 C.1.2.1 hdg hva hvb (kk H locs ls hP hD hS hl)
theorem a_iload_n (C : aC p s m args meth c cc nL own WW D tys A) {j : Fin 4} {i : Nat} {x : Int32} (q : Nat) (hdg : decode cc pc = .ok (.iload_n j, 1)) (hi : (j : Nat) = i) (hk : lv[q]? = some (i, .int x)) (kk : aT p l e R s m args below meth c Q D A nL k n (pc + 1) lv (.int x :: st) ws) : aT p l e R s m args below meth c Q D A nL k n pc lv st ws := fun H locs ls hP hD hS hl => lv_iload_n C.1.1 C.1.2.1 hdg hi (lv_at hl q hk) (kk H locs ls hP hD hS hl)
theorem a_iload (C : aC p s m args meth c cc nL own WW D tys A) {i : Nat} {x : Int32} (q : Nat) (hdg : decode cc pc = .ok (.iload i, 2)) (hk : lv[q]? = some (i, .int x)) (kk : aT p l e R s m args below meth c Q D A nL k n (pc + 2) lv (.int x :: st) ws) : aT p l e R s m args below meth c Q D A nL k n pc lv st ws := fun H locs ls hP hD hS hl => lv_iload C.1.1 C.1.2.1 hdg (lv_at hl q hk) (kk H locs ls hP hD hS hl)
theorem a_istore_n (C : aC p s m args meth c cc nL own WW D tys A) {j : Fin 4} {i : Nat} {x : Int32} (lv' : List (Nat × Value)) (hdg : decode cc pc = .ok (.istore_n j, 1)) (hi : (j : Nat) = i) (hn : i < nL) (hl0 : (i, Value.int x) :: lv.filter (fun q => !(q.1 == i) && !(q.1 + 1 == i && q.2.category == 2)) = lv') (kk : aT p l e R s m args below meth c Q D A nL k n (pc + 1) lv' st ws) : aT p l e R s m args below meth c Q D A nL k n pc lv (.int x :: st) ws := fun H locs ls hP hD hS hl => lv_istore_n C.1.1 C.1.2.1 hdg hi hl hn hl0 (fun ls hl => kk H locs ls hP hD hS hl)
theorem a_istore (C : aC p s m args meth c cc nL own WW D tys A) {i : Nat} {x : Int32} (lv' : List (Nat × Value)) (hdg : decode cc pc = .ok (.istore i, 2)) (hn : i < nL) (hl0 : (i, Value.int x) :: lv.filter (fun q => !(q.1 == i) && !(q.1 + 1 == i && q.2.category == 2)) = lv') (kk : aT p l e R s m args below meth c Q D A nL k n (pc + 2) lv' st ws) : aT p l e R s m args below meth c Q D A nL k n pc lv (.int x :: st) ws := fun H locs ls hP hD hS hl => lv_istore C.1.1 C.1.2.1 hdg hl hn hl0 (fun ls hl => kk H locs ls hP hD hS hl)
theorem a_aload_n (C : aC p s m args meth c cc nL own WW D tys A) {j : Fin 4} {i : Nat} {x : Nat} (q : Nat) (hdg : decode cc pc = .ok (.aload_n j, 1)) (hi : (j : Nat) = i) (hk : lv[q]? = some (i, .ref x)) (kk : aT p l e R s m args below meth c Q D A nL k n (pc + 1) lv (.ref x :: st) ws) : aT p l e R s m args below meth c Q D A nL k n pc lv st ws := fun H locs ls hP hD hS hl => lv_aload_n C.1.1 C.1.2.1 hdg hi (lv_at hl q hk) (kk H locs ls hP hD hS hl)
theorem a_aload (C : aC p s m args meth c cc nL own WW D tys A) {i : Nat} {x : Nat} (q : Nat) (hdg : decode cc pc = .ok (.aload i, 2)) (hk : lv[q]? = some (i, .ref x)) (kk : aT p l e R s m args below meth c Q D A nL k n (pc + 2) lv (.ref x :: st) ws) : aT p l e R s m args below meth c Q D A nL k n pc lv st ws := fun H locs ls hP hD hS hl => lv_aload C.1.1 C.1.2.1 hdg (lv_at hl q hk) (kk H locs ls hP hD hS hl)
theorem a_astore_n (C : aC p s m args meth c cc nL own WW D tys A) {j : Fin 4} {i : Nat} {x : Nat} (lv' : List (Nat × Value)) (hdg : decode cc pc = .ok (.astore_n j, 1)) (hi : (j : Nat) = i) (hn : i < nL) (hl0 : (i, Value.ref x) :: lv.filter (fun q => !(q.1 == i) && !(q.1 + 1 == i && q.2.category == 2)) = lv') (kk : aT p l e R s m args below meth c Q D A nL k n (pc + 1) lv' st ws) : aT p l e R s m args below meth c Q D A nL k n pc lv (.ref x :: st) ws := fun H locs ls hP hD hS hl => lv_astore_n C.1.1 C.1.2.1 hdg hi hl hn hl0 (fun ls hl => kk H locs ls hP hD hS hl)
theorem a_astore (C : aC p s m args meth c cc nL own WW D tys A) {i : Nat} {x : Nat} (lv' : List (Nat × Value)) (hdg : decode cc pc = .ok (.astore i, 2)) (hn : i < nL) (hl0 : (i, Value.ref x) :: lv.filter (fun q => !(q.1 == i) && !(q.1 + 1 == i && q.2.category == 2)) = lv') (kk : aT p l e R s m args below meth c Q D A nL k n (pc + 2) lv' st ws) : aT p l e R s m args below meth c Q D A nL k n pc lv (.ref x :: st) ws := fun H locs ls hP hD hS hl => lv_astore C.1.1 C.1.2.1 hdg hl hn hl0 (fun ls hl => kk H locs ls hP hD hS hl)
theorem a_iinc (C : aC p s m args meth c cc nL own WW D tys A) {i : Nat} {z : Int} {x v : Int32} (q : Nat) (lv' : List (Nat × Value)) (hdg : decode cc pc = .ok (.iinc i z, 3)) (hk : lv[q]? = some (i, .int x)) (hv : x + Int32.ofInt z = v) (hn : i < nL) (hl0 : (i, Value.int v) :: lv.filter (fun q => !(q.1 == i) && !(q.1 + 1 == i && q.2.category == 2)) = lv') (kk : aT p l e R s m args below meth c Q D A nL k n (pc + 3) lv' st ws) : aT p l e R s m args below meth c Q D A nL k n pc lv st ws := fun H locs ls hP hD hS hl => lv_iinc C.1.1 C.1.2.1 hdg hl hk hv hn hl0 (fun ls hl => kk H locs ls hP hD hS hl)
theorem a_goto (C : aC p s m args meth c cc nL own WW D tys A) {off : Int} {tgt : Nat} (hdg : decode cc pc = .ok (.goto off, 3)) (ht : (pc : Int) + off = (tgt : Int)) (kk : aT p l e R s m args below meth c Q D A nL k n tgt lv st ws) : aT p l e R s m args below meth c Q D A nL k n pc lv st ws := fun H locs ls hP hD hS hl => lv_goto C.1.1 C.1.2.1 hdg ht (kk H locs ls hP hD hS hl)
theorem a_sub (C : aC p s m args meth c cc nL own WW D tys A) (qs : List Nat) (lv' : List (Nat × Value)) (hl0 : lv_pick lv qs = lv') (kk : aT p l e R s m args below meth c Q D A nL k n pc lv' st ws) : aT p l e R s m args below meth c Q D A nL k n pc lv st ws := fun H locs ls hP hD hS hl => kk H locs ls hP hD hS (lv_sub hl qs hl0)
theorem a_if_eq (C : aC p s m args meth c cc nL own WW D tys A) {x : Int32} {off : Int} {tgt : Nat} {α : Type} {o : α} {f g : Option α} {d : Decidable (x = 0)} (hdg : decode cc pc = .ok (.ifCond .eq off, 3)) (ht : (pc : Int) + off = (tgt : Int)) (hF : (if x = 0 then f else g) = some o) (kt : x = 0 → f = some o → aT p l e R s m args below meth c Q D A nL k n tgt lv st ws) (kf : ¬ (x = 0) → g = some o → aT p l e R s m args below meth c Q D A nL k n (pc + 3) lv st ws) : aT p l e R s m args below meth c Q D A nL k n pc lv (.int x :: st) ws := fun H locs ls hP hD hS hl => lv_if_eq C.1.1 C.1.2.1 hdg ht (fun h => kt h ((if_pos h).symm.trans hF) H locs ls hP hD hS hl) (fun h => kf h ((if_neg h).symm.trans hF) H locs ls hP hD hS hl)
theorem a_ic_eq (C : aC p s m args meth c cc nL own WW D tys A) {x y : Int32} {off : Int} {tgt : Nat} {α : Type} {o : α} {f g : Option α} {d : Decidable (x = y)} (hdg : decode cc pc = .ok (.if_icmp .eq off, 3)) (ht : (pc : Int) + off = (tgt : Int)) (hF : (if x = y then f else g) = some o) (kt : x = y → f = some o → aT p l e R s m args below meth c Q D A nL k n tgt lv st ws) (kf : ¬ (x = y) → g = some o → aT p l e R s m args below meth c Q D A nL k n (pc + 3) lv st ws) : aT p l e R s m args below meth c Q D A nL k n pc lv (.int y :: .int x :: st) ws := fun H locs ls hP hD hS hl => lv_icmp_eq C.1.1 C.1.2.1 hdg ht (fun h => kt h ((if_pos h).symm.trans hF) H locs ls hP hD hS hl) (fun h => kf h ((if_neg h).symm.trans hF) H locs ls hP hD hS hl)
theorem a_if_ne (C : aC p s m args meth c cc nL own WW D tys A) {x : Int32} {off : Int} {tgt : Nat} {α : Type} {o : α} {f g : Option α} {d : Decidable (¬ x = 0)} (hdg : decode cc pc = .ok (.ifCond .ne off, 3)) (ht : (pc : Int) + off = (tgt : Int)) (hF : (if ¬ x = 0 then f else g) = some o) (kt : ¬ x = 0 → f = some o → aT p l e R s m args below meth c Q D A nL k n tgt lv st ws) (kf : ¬ (¬ x = 0) → g = some o → aT p l e R s m args below meth c Q D A nL k n (pc + 3) lv st ws) : aT p l e R s m args below meth c Q D A nL k n pc lv (.int x :: st) ws := fun H locs ls hP hD hS hl => lv_if_ne C.1.1 C.1.2.1 hdg ht (fun h => kt h ((if_pos h).symm.trans hF) H locs ls hP hD hS hl) (fun h => kf (fun h9 => h9 h) ((if_neg (fun h9 => h9 h)).symm.trans hF) H locs ls hP hD hS hl)
theorem a_ic_ne (C : aC p s m args meth c cc nL own WW D tys A) {x y : Int32} {off : Int} {tgt : Nat} {α : Type} {o : α} {f g : Option α} {d : Decidable (¬ x = y)} (hdg : decode cc pc = .ok (.if_icmp .ne off, 3)) (ht : (pc : Int) + off = (tgt : Int)) (hF : (if ¬ x = y then f else g) = some o) (kt : ¬ x = y → f = some o → aT p l e R s m args below meth c Q D A nL k n tgt lv st ws) (kf : ¬ (¬ x = y) → g = some o → aT p l e R s m args below meth c Q D A nL k n (pc + 3) lv st ws) : aT p l e R s m args below meth c Q D A nL k n pc lv (.int y :: .int x :: st) ws := fun H locs ls hP hD hS hl => lv_icmp_ne C.1.1 C.1.2.1 hdg ht (fun h => kt h ((if_pos h).symm.trans hF) H locs ls hP hD hS hl) (fun h => kf (fun h9 => h9 h) ((if_neg (fun h9 => h9 h)).symm.trans hF) H locs ls hP hD hS hl)
theorem a_if_lt (C : aC p s m args meth c cc nL own WW D tys A) {x : Int32} {off : Int} {tgt : Nat} {α : Type} {o : α} {f g : Option α} {d : Decidable (x < 0)} (hdg : decode cc pc = .ok (.ifCond .lt off, 3)) (ht : (pc : Int) + off = (tgt : Int)) (hF : (if x < 0 then f else g) = some o) (kt : x < 0 → f = some o → aT p l e R s m args below meth c Q D A nL k n tgt lv st ws) (kf : ¬ (x < 0) → g = some o → aT p l e R s m args below meth c Q D A nL k n (pc + 3) lv st ws) : aT p l e R s m args below meth c Q D A nL k n pc lv (.int x :: st) ws := fun H locs ls hP hD hS hl => lv_if_lt C.1.1 C.1.2.1 hdg ht (fun h => kt h ((if_pos h).symm.trans hF) H locs ls hP hD hS hl) (fun h => kf h ((if_neg h).symm.trans hF) H locs ls hP hD hS hl)
theorem a_ic_lt (C : aC p s m args meth c cc nL own WW D tys A) {x y : Int32} {off : Int} {tgt : Nat} {α : Type} {o : α} {f g : Option α} {d : Decidable (x < y)} (hdg : decode cc pc = .ok (.if_icmp .lt off, 3)) (ht : (pc : Int) + off = (tgt : Int)) (hF : (if x < y then f else g) = some o) (kt : x < y → f = some o → aT p l e R s m args below meth c Q D A nL k n tgt lv st ws) (kf : ¬ (x < y) → g = some o → aT p l e R s m args below meth c Q D A nL k n (pc + 3) lv st ws) : aT p l e R s m args below meth c Q D A nL k n pc lv (.int y :: .int x :: st) ws := fun H locs ls hP hD hS hl => lv_icmp_lt C.1.1 C.1.2.1 hdg ht (fun h => kt h ((if_pos h).symm.trans hF) H locs ls hP hD hS hl) (fun h => kf h ((if_neg h).symm.trans hF) H locs ls hP hD hS hl)
theorem a_if_ge (C : aC p s m args meth c cc nL own WW D tys A) {x : Int32} {off : Int} {tgt : Nat} {α : Type} {o : α} {f g : Option α} {d : Decidable (0 ≤ x)} (hdg : decode cc pc = .ok (.ifCond .ge off, 3)) (ht : (pc : Int) + off = (tgt : Int)) (hF : (if 0 ≤ x then f else g) = some o) (kt : 0 ≤ x → f = some o → aT p l e R s m args below meth c Q D A nL k n tgt lv st ws) (kf : ¬ (0 ≤ x) → g = some o → aT p l e R s m args below meth c Q D A nL k n (pc + 3) lv st ws) : aT p l e R s m args below meth c Q D A nL k n pc lv (.int x :: st) ws := fun H locs ls hP hD hS hl => lv_if_ge C.1.1 C.1.2.1 hdg ht (fun h => kt h ((if_pos h).symm.trans hF) H locs ls hP hD hS hl) (fun h => kf h ((if_neg h).symm.trans hF) H locs ls hP hD hS hl)
theorem a_ic_ge (C : aC p s m args meth c cc nL own WW D tys A) {x y : Int32} {off : Int} {tgt : Nat} {α : Type} {o : α} {f g : Option α} {d : Decidable (y ≤ x)} (hdg : decode cc pc = .ok (.if_icmp .ge off, 3)) (ht : (pc : Int) + off = (tgt : Int)) (hF : (if y ≤ x then f else g) = some o) (kt : y ≤ x → f = some o → aT p l e R s m args below meth c Q D A nL k n tgt lv st ws) (kf : ¬ (y ≤ x) → g = some o → aT p l e R s m args below meth c Q D A nL k n (pc + 3) lv st ws) : aT p l e R s m args below meth c Q D A nL k n pc lv (.int y :: .int x :: st) ws := fun H locs ls hP hD hS hl => lv_icmp_ge C.1.1 C.1.2.1 hdg ht (fun h => kt h ((if_pos h).symm.trans hF) H locs ls hP hD hS hl) (fun h => kf h ((if_neg h).symm.trans hF) H locs ls hP hD hS hl)
theorem a_if_gt (C : aC p s m args meth c cc nL own WW D tys A) {x : Int32} {off : Int} {tgt : Nat} {α : Type} {o : α} {f g : Option α} {d : Decidable (0 < x)} (hdg : decode cc pc = .ok (.ifCond .gt off, 3)) (ht : (pc : Int) + off = (tgt : Int)) (hF : (if 0 < x then f else g) = some o) (kt : 0 < x → f = some o → aT p l e R s m args below meth c Q D A nL k n tgt lv st ws) (kf : ¬ (0 < x) → g = some o → aT p l e R s m args below meth c Q D A nL k n (pc + 3) lv st ws) : aT p l e R s m args below meth c Q D A nL k n pc lv (.int x :: st) ws := fun H locs ls hP hD hS hl => lv_if_gt C.1.1 C.1.2.1 hdg ht (fun h => kt h ((if_pos h).symm.trans hF) H locs ls hP hD hS hl) (fun h => kf h ((if_neg h).symm.trans hF) H locs ls hP hD hS hl)
theorem a_ic_gt (C : aC p s m args meth c cc nL own WW D tys A) {x y : Int32} {off : Int} {tgt : Nat} {α : Type} {o : α} {f g : Option α} {d : Decidable (y < x)} (hdg : decode cc pc = .ok (.if_icmp .gt off, 3)) (ht : (pc : Int) + off = (tgt : Int)) (hF : (if y < x then f else g) = some o) (kt : y < x → f = some o → aT p l e R s m args below meth c Q D A nL k n tgt lv st ws) (kf : ¬ (y < x) → g = some o → aT p l e R s m args below meth c Q D A nL k n (pc + 3) lv st ws) : aT p l e R s m args below meth c Q D A nL k n pc lv (.int y :: .int x :: st) ws := fun H locs ls hP hD hS hl => lv_icmp_gt C.1.1 C.1.2.1 hdg ht (fun h => kt h ((if_pos h).symm.trans hF) H locs ls hP hD hS hl) (fun h => kf h ((if_neg h).symm.trans hF) H locs ls hP hD hS hl)
theorem a_if_le (C : aC p s m args meth c cc nL own WW D tys A) {x : Int32} {off : Int} {tgt : Nat} {α : Type} {o : α} {f g : Option α} {d : Decidable (x ≤ 0)} (hdg : decode cc pc = .ok (.ifCond .le off, 3)) (ht : (pc : Int) + off = (tgt : Int)) (hF : (if x ≤ 0 then f else g) = some o) (kt : x ≤ 0 → f = some o → aT p l e R s m args below meth c Q D A nL k n tgt lv st ws) (kf : ¬ (x ≤ 0) → g = some o → aT p l e R s m args below meth c Q D A nL k n (pc + 3) lv st ws) : aT p l e R s m args below meth c Q D A nL k n pc lv (.int x :: st) ws := fun H locs ls hP hD hS hl => lv_if_le C.1.1 C.1.2.1 hdg ht (fun h => kt h ((if_pos h).symm.trans hF) H locs ls hP hD hS hl) (fun h => kf h ((if_neg h).symm.trans hF) H locs ls hP hD hS hl)
theorem a_ic_le (C : aC p s m args meth c cc nL own WW D tys A) {x y : Int32} {off : Int} {tgt : Nat} {α : Type} {o : α} {f g : Option α} {d : Decidable (x ≤ y)} (hdg : decode cc pc = .ok (.if_icmp .le off, 3)) (ht : (pc : Int) + off = (tgt : Int)) (hF : (if x ≤ y then f else g) = some o) (kt : x ≤ y → f = some o → aT p l e R s m args below meth c Q D A nL k n tgt lv st ws) (kf : ¬ (x ≤ y) → g = some o → aT p l e R s m args below meth c Q D A nL k n (pc + 3) lv st ws) : aT p l e R s m args below meth c Q D A nL k n pc lv (.int y :: .int x :: st) ws := fun H locs ls hP hD hS hl => lv_icmp_le C.1.1 C.1.2.1 hdg ht (fun h => kt h ((if_pos h).symm.trans hF) H locs ls hP hD hS hl) (fun h => kf h ((if_neg h).symm.trans hF) H locs ls hP hD hS hl)
theorem a_get (C : aC p s m args meth c cc nL own WW D tys A) {idx : Nat} {C1 : String} {T1 : u_T} {N1 ci a : Nat} {fs : List Value} {v : Value} (q0 j : Nat) (hin : ∀ w ∈ u_ws C1 T1 N1, w ∈ WW) (hc : vwCl[ci]? = some (C1, T1, N1)) (he : ws[q0]? = some (a, .inr (ci, fs))) (hk : j < N1) (hlink : Cond.fieldLink own idx (T1 j).1 (T1 j).2.1 (T1 j).2.2.1 ∈ WW) (hv : fs[j]? = some v) (hdg : decode cc pc = .ok (.getfield idx, 3)) (kk : aT p l e R s m args below meth c Q D A nL k n (pc + 3) lv (v :: st) ws) : aT p l e R s m args below meth c Q D A nL k n pc lv (.ref a :: st) ws := fun H locs ls hP hD hS hl => va_get C.1.1 C.1.2.1 C.1.2.2.2.2 hin C.1.2.2.2.1 C.2.1.1 hP q0 he hc j hk (C.1.2.2.2.2 _ hlink) (fun _ h => h) hv hdg (kk H locs ls hP hD hS hl)
theorem a_put (C : aC p s m args meth c cc nL own WW D tys A) {idx : Nat} {C1 : String} {T1 : u_T} {N1 ci a : Nat} {fs : List Value} {v : Value} {ty0 : Nat → FieldType} (q0 j : Nat) (hin : ∀ w ∈ u_ws C1 T1 N1, w ∈ WW) (hty : ∀ k, k < N1 → parseFieldDescriptor (T1 k).2.2.1 = some (ty0 k)) (hnm : ∀ a, a < N1 → ∀ b, b < N1 → a ≠ b → (T1 a).2.1 ≠ (T1 b).2.1) (hc : vwCl[ci]? = some (C1, T1, N1)) (he : ws[q0]? = some (a, .inr (ci, fs))) (hk : j < N1) (hlink : Cond.fieldLink own idx (T1 j).1 (T1 j).2.1 (T1 j).2.2.1 ∈ WW) (hfin : (T1 j).2.2.2 = false) (hn : narrow (ty0 j) v = v) (hfit : fits (ty0 j) v = true) (hl0 : j < fs.length) (hdg : decode cc pc = .ok (.putfield idx, 3)) (kk : aT p l e R s m args below meth c Q D A nL k n (pc + 3) lv st (ws.set q0 (a, .inr (ci, fs.set j v)))) : aT p l e R s m args below meth c Q D A nL k n pc lv (v :: .ref a :: st) ws := fun H locs ls hP hD hS hl => va_put C.1.1 C.1.2.1 C.1.2.2.2.2 hin ty0 hty hnm C.1.2.2.2.1 C.2.1.1 hP hD hS q0 he hc j hk (C.1.2.2.2.2 _ hlink) (fun _ h => h) hfin (hty j hk) hn hfit hl0 hdg (fun H1 locs1 hP hD hS => kk H1 locs1 ls hP hD hS hl)
theorem a_iald (C : aC p s m args meth c cc nL own WW D tys A) {a : Nat} {cA : ClassId} {N : Nat} {f : Nat → Int32} {i : Int32} {α : Type} {o : α} {kf : Int32 → Option α} (q0 t0 : Nat) (ha : ws[q0]? = some (a, .inl (cA, N, .inl f))) (ht : tys[t0]? = some (cA, .int)) (hdg : decode cc pc = .ok (.iaload, 1)) (hF : (ldi f N i).bind kf = some o) (kk : ∀ x, ldi f N i = some x → kf x = some o → aT p l e R s m args below meth c Q D A nL k n (pc + 1) lv (.int x :: st) ws) : aT p l e R s m args below meth c Q D A nL k n pc lv (.int i :: .ref a :: st) ws := by
  obtain ⟨x, h1, hF⟩ := bd hF
  obtain ⟨hi, hx⟩ := chk h1
  intro H locs ls hP hD hS hl
  have h2 := kk x h1 hF H locs ls hP hD hS hl
  rw [hx] at h2
  exact va_iald C.1.1 C.1.2.1 C.2.1.1 hP q0 t0 ha ht hi hdg h2
theorem a_cald (C : aC p s m args meth c cc nL own WW D tys A) {a : Nat} {cA : ClassId} {N : Nat} {f : Nat → Int32} {i : Int32} {α : Type} {o : α} {kf : Int32 → Option α} (q0 t0 : Nat) (ha : ws[q0]? = some (a, .inl (cA, N, .inl f))) (ht : tys[t0]? = some (cA, .char)) (hdg : decode cc pc = .ok (.caload, 1)) (hF : (ldc f N i).bind kf = some o) (kk : ∀ x, ldc f N i = some x → kf x = some o → aT p l e R s m args below meth c Q D A nL k n (pc + 1) lv (.int x :: st) ws) : aT p l e R s m args below meth c Q D A nL k n pc lv (.int i :: .ref a :: st) ws := by
  obtain ⟨x, h1, hF⟩ := bd hF
  obtain ⟨hi, hx⟩ := chk h1
  intro H locs ls hP hD hS hl
  have h2 := kk x h1 hF H locs ls hP hD hS hl
  rw [hx] at h2
  exact va_cald C.1.1 C.1.2.1 C.2.1.1 hP q0 t0 ha ht hi hdg h2
theorem a_iast (C : aC p s m args meth c cc nL own WW D tys A) {a : Nat} {cA : ClassId} {N : Nat} {f : Nat → Int32} {i x : Int32} {α : Type} {o : α} {kf : (Nat → Int32) → Option α} (q0 t0 : Nat) (ha : ws[q0]? = some (a, .inl (cA, N, .inl f))) (ht : tys[t0]? = some (cA, .int)) (hdg : decode cc pc = .ok (.iastore, 1)) (hF : (sti f N i x).bind kf = some o) (kk : ∀ g, sti f N i x = some g → kf g = some o → aT p l e R s m args below meth c Q D A nL k n (pc + 1) lv st (ws.set q0 (a, .inl (cA, N, .inl g)))) : aT p l e R s m args below meth c Q D A nL k n pc lv (.int x :: .int i :: .ref a :: st) ws := by
  obtain ⟨g, h1, hF⟩ := bd hF
  obtain ⟨hi, hx⟩ := chk h1
  intro H locs ls hP hD hS hl
  refine va_iast C.1.1 C.1.2.1 C.2.1.1 hP hD hS q0 t0 ha ht hi hdg (fun H1 locs1 hP hD hS => ?_)
  have h2 := kk g h1 hF H1 locs1 ls
  rw [hx] at h2
  exact h2 hP hD hS hl
theorem a_cast (C : aC p s m args meth c cc nL own WW D tys A) {a : Nat} {cA : ClassId} {N : Nat} {f : Nat → Int32} {i x : Int32} {α : Type} {o : α} {kf : (Nat → Int32) → Option α} (q0 t0 : Nat) (ha : ws[q0]? = some (a, .inl (cA, N, .inl f))) (ht : tys[t0]? = some (cA, .char)) (hdg : decode cc pc = .ok (.castore, 1)) (hF : (stc f N i x).bind kf = some o) (kk : ∀ g, stc f N i x = some g → kf g = some o → aT p l e R s m args below meth c Q D A nL k n (pc + 1) lv st (ws.set q0 (a, .inl (cA, N, .inl g)))) : aT p l e R s m args below meth c Q D A nL k n pc lv (.int x :: .int i :: .ref a :: st) ws := by
  obtain ⟨g, h1, hF⟩ := bd hF
  obtain ⟨hi, hx⟩ := chk h1
  intro H locs ls hP hD hS hl
  refine va_cast C.1.1 C.1.2.1 C.2.1.1 hP hD hS q0 t0 ha ht hi hdg (fun H1 locs1 hP hD hS => ?_)
  have h2 := kk g h1 hF H1 locs1 ls
  rw [hx] at h2
  exact h2 hP hD hS hl
/-- cells of a world put at their places -/
def wset : va_W → List Nat → va_W → va_W
  | ws, i :: is, q :: qs => wset (ws.set i q) is qs
  | ws, _, _ => ws
theorem wset_len : ∀ (is : List Nat) (qs ws : va_W), (wset ws is qs).length = ws.length
  | [], _, _ => by simp [wset]
  | _ :: _, [], _ => by simp [wset]
  | i :: is, q :: qs, ws => by rw [wset, wset_len is qs]; simp
theorem wset_get : ∀ (is : List Nat) (qs ws : va_W) (k : Nat) (x : Nat × va_E), (wset ws is qs)[k]? = some x → (∃ j : Nat, is[j]? = some k ∧ qs[j]? = some x) ∨ ((∀ j : Nat, j < qs.length → is[j]? ≠ some k) ∧ ws[k]? = some x)
  | [], qs, ws, k, x, h => Or.inr ⟨fun _ _ => by simp, by simpa [wset] using h⟩
  | _ :: _, [], ws, k, x, h => Or.inr ⟨fun j hj => by simp at hj, by simpa [wset] using h⟩
  | i :: is, q :: qs, ws, k, x, h => by
    rw [wset] at h
    rcases wset_get is qs (ws.set i q) k x h with ⟨j, h1, h2⟩ | ⟨h1, h2⟩
    · exact Or.inl ⟨j + 1, by simpa using h1, by simpa using h2⟩
    · by_cases hk : i = k
      · subst hk
        have hlt : i < ws.length := by
          have := (List.getElem?_eq_some_iff.mp h2).1
          simpa using this
        rw [List.getElem?_set_self hlt] at h2
        exact Or.inl ⟨0, by simp, by simpa using h2⟩
      · rw [List.getElem?_set_ne hk] at h2
        refine Or.inr ⟨fun j hj => ?_, h2⟩
        cases j with
        | zero => simpa using hk
        | succ j => simpa using h1 j (by simpa using hj)
theorem wset_fst : ∀ (is : List Nat) (w0 w1 ws : va_W), is.map (fun i => ws[i]?) = w0.map some → w1.map Prod.fst = w0.map Prod.fst → va_nd is = true → (wset ws is w1).map Prod.fst = ws.map Prod.fst := by
  intro is w0 w1 ws hC hA hn
  apply List.ext_getElem?
  intro k
  rw [List.getElem?_map, List.getElem?_map]
  cases h : (wset ws is w1)[k]? with
  | none =>
    have : ws.length ≤ k := by
      have := List.getElem?_eq_none_iff.mp h
      rwa [wset_len] at this
    rw [List.getElem?_eq_none_iff.mpr this]
  | some x =>
    rcases wset_get is w1 ws k x h with ⟨j, h1, h2⟩ | ⟨h1, h2⟩
    · have e1 : (is.map (fun i => ws[i]?))[j]? = some ws[k]? := by rw [List.getElem?_map, h1]; rfl
      rw [hC, List.getElem?_map] at e1
      have e2 : (w1.map Prod.fst)[j]? = some x.1 := by rw [List.getElem?_map, h2]; rfl
      rw [hA, List.getElem?_map] at e2
      cases h0 : w0[j]? with
      | none => rw [h0] at e2; cases e2
      | some z =>
        rw [h0] at e1 e2
        have e3 : some z = ws[k]? := Option.some.inj e1
        rw [← e3]
        simpa using e2.symm
    · rw [h2]
theorem va_D_fst {A : Nat → Prop} {ws w1 : va_W} (h : w1.map Prod.fst = ws.map Prod.fst) (hD : va_D A ws) : va_D A w1 := by
  have key : ∀ (k : Nat) (q : Nat × va_E), w1[k]? = some q → ∃ z : Nat × va_E, ws[k]? = some z ∧ z.1 = q.1 := by
    intro k q hq
    have e : (w1.map Prod.fst)[k]? = some q.1 := by rw [List.getElem?_map, hq]; rfl
    rw [h, List.getElem?_map] at e
    cases h0 : ws[k]? with
    | none => rw [h0] at e; cases e
    | some z => rw [h0] at e; exact ⟨z, rfl, by simpa using e⟩
  refine ⟨fun i j p q hp hq hpq => ?_, fun k q hq => ?_⟩
  · obtain ⟨z1, g1, g2⟩ := key i p hp
    obtain ⟨z2, g3, g4⟩ := key j q hq
    exact hD.1 i j z1 z2 g1 g3 (by rw [g2, g4, hpq])
  · obtain ⟨z, g1, g2⟩ := key k q hq
    rw [← g2]
    exact hD.2 k z g1
theorem w_join {A0 : Nat → Prop} {D : va_G} {cl : List vw_C} {ws w0 w1 : va_W} {H H1 : Heap} (isC : List Nat) (hP : va_P D cl ws H) (hD : va_D A0 ws) (hC : isC.map (fun i => ws[i]?) = w0.map some) (hA : w1.map Prod.fst = w0.map Prod.fst) (hn : va_nd isC = true) (hk : ∀ q : Nat, q < H.size → ¬ va_A w0 H.size q → H1[q]? = H[q]?) (hP1 : va_P D cl w1 H1) : va_P D cl (wset ws isC w1) H1 ∧ va_D A0 (wset ws isC w1) := by
  refine ⟨fun k x hx => ?_, va_D_fst (wset_fst isC w0 w1 ws hC hA hn) hD⟩
  rcases wset_get isC w1 ws k x hx with ⟨j, h1, h2⟩ | ⟨h1, h2⟩
  · exact hP1 j x h2
  · have hlt := (hP k x h2).lt
    refine (hP k x h2).kept (hk x.1 hlt ?_)
    rintro (⟨j, e, hj⟩ | hq)
    · have e1 : (isC.map (fun i => ws[i]?))[j]? = some (some (x.1, e)) := by rw [hC, List.getElem?_map, hj]; rfl
      rw [List.getElem?_map] at e1
      cases h0 : isC[j]? with
      | none => rw [h0] at e1; cases e1
      | some i =>
        rw [h0] at e1
        have e2 : ws[i]? = some (x.1, e) := Option.some.inj e1
        have hik : i = k := hD.1 i k (x.1, e) x e2 h2 rfl
        subst hik
        have hj0 : j < w0.length := (List.getElem?_eq_some_iff.mp hj).1
        have hl01 : w1.length = w0.length := by
          have := congrArg List.length hA
          simpa using this
        exact h1 j (by omega) h0
    · omega
theorem w_keep {A0 : Nat → Prop} {D : va_G} {cl : List vw_C} {ws w0 : va_W} {H H1 : Heap} (isC : List Nat) (hP : va_P D cl ws H) (hD : va_D A0 ws) (hC : isC.map (fun i => ws[i]?) = w0.map some) (hk : ∀ q : Nat, q < H.size → ¬ va_A w0 H.size q → H1[q]? = H[q]?) (hP1 : va_P D cl w0 H1) : va_P D cl ws H1 := by
  intro k x h2
  have hlt := (hP k x h2).lt
  by_cases hq : va_A w0 H.size x.1
  · rcases hq with ⟨j, e, hj⟩ | hq
    · have e1 : (isC.map (fun i => ws[i]?))[j]? = some (some (x.1, e)) := by rw [hC, List.getElem?_map, hj]; rfl
      rw [List.getElem?_map] at e1
      cases h0 : isC[j]? with
      | none => rw [h0] at e1; cases e1
      | some i =>
        rw [h0] at e1
        have e2 : ws[i]? = some (x.1, e) := Option.some.inj e1
        have hik : i = k := hD.1 i k (x.1, e) x e2 h2 rfl
        subst hik
        rw [e2] at h2
        have e3 : (x.1, e) = x := Option.some.inj h2
        rw [← e3]
        exact hP1 j _ hj
    · omega
  · exact (hP k x h2).kept (hk x.1 hlt hq)
theorem w_filt {ws w0 : va_W} {isC : List Nat} (h : isC.map (fun i => ws[i]?) = w0.map some) : isC.filterMap (fun i => ws[i]?) = w0 := by
  have e := congrArg (List.filterMap id) h
  rw [List.filterMap_map, List.filterMap_map] at e
  simpa [Function.comp_def] using e
theorem a_callVir (C : aC p s m args meth c cc nL own WW D tys A) {ρ α : Type} {o : α} {fy : Option ρ} {kf : ρ → Option α} {y : MethodName} {b : ByteArray} {mL : Nat} {ret : Option FieldType} {rm : Room} {idx : Nat} {As stk : List Value} {w0 : va_W} {gv : ρ → Int32} {C1 : String} {T1 : u_T} {N1 ci a : Nat} {fs : List Value} (cnt : Nat) (isC : List Nat) (q0 : Nat) (hG : GoodIn WW (wsV own idx C1 y (aW y b mL ret))) (hd : y.cls = C1 ∧ y.cls ≠ "java/lang/invoke/MethodHandle" ∧ y.cls ≠ "java/lang/invoke/VarHandle" ∧ (parseMethodDescriptor y.desc).map (fun d => d.parameters.length) = some cnt) (hrm : rm.cells = 0 ∧ rm.slots = 0) (hR : rm.frames + 1 ≤ R.frames ∧ 8 + (mL + 11) + rm.locals ≤ R.locals) (hM : ∀ r, fy = some r → aKi l y (aW y b mL ret) rm D tys (.ref a :: As) w0 gv (fun _ => w0) r) (hc : vwCl[ci]? = some (C1, T1, N1)) (he : ws[q0]? = some (a, .inr (ci, fs))) (hC : isC.map (fun i => ws[i]?) = w0.map some) (hnd : va_nd isC = true) (hst : stk = As.reverse ++ .ref a :: st) (hn : As.length = cnt) (hcat : (st.map fun v => v.category).sum ≤ 8) (hdg : decode cc pc = .ok (.invokevirtual idx, 3)) (hkn : k ≤ R.cells ∧ n ≤ R.slots) (hF : fy.bind kf = some o) (kk : ∀ r, fy = some r → kf r = some o → aT p l e R s m args below meth c Q D A nL k n (pc + 3) lv (.int (gv r) :: st) ws) : aT p l e R s m args below meth c Q D A nL k n pc lv stk ws := by
  obtain ⟨r, h1, hF⟩ := bd hF
  subst hst
  intro H locs ls hP hD hS hl
  have hPc0 := hP
  have hKc := C.2.1.1
  have hPc : va_P D vwCl w0 H := hP.sub isC (w_filt hC)
  have hDc : va_D A w0 := hD.sub isC hnd hC
  have hFc := va_free (wc := w0) hD hS C.2.2.2 isC hC
  refine va_calli (va_runV (As := As) (rest := st) C.1 (hM r h1 H.size) (cwV cnt C.1.2.2.2.2 hG rfl hrm.1 hrm.2 hd hR) ⟨aPc_blind, va_recv hKc hPc0 hc he, fun U hU hW => ⟨rfl, by rw [hU], by rw [hU]; exact hPc, C.2.1.warm hW, hDc.weaken (fun _ _ _ _ => trivial)⟩⟩ rfl hn hl.1 rfl (lv_room hcat) hdg ⟨by simpa using hkn.1, by simpa using hkn.2⟩) hS (fun q _ h => hFc q h) hFc (fun rv u t H1 locs1 ht hvm hw hB hz1 hk1 hS => ?_)
  obtain ⟨hP1, -⟩ := hB
  rw [ht] at hP1
  rw [show rv = gv r from hw]
  exact kk r h1 hF H1 locs1 ls (w_keep isC hP hD hC hk1 hP1) hD hS hl
theorem a_callVi (C : aC p s m args meth c cc nL own WW D tys A) {ρ α : Type} {o : α} {fy : Option ρ} {kf : ρ → Option α} {y : MethodName} {b : ByteArray} {mL : Nat} {ret : Option FieldType} {rm : Room} {idx : Nat} {As stk : List Value} {w0 : va_W} {gv : ρ → Int32} {gw : ρ → va_W} {C1 : String} {T1 : u_T} {N1 ci a : Nat} {fs : List Value} (cnt : Nat) (isC : List Nat) (q0 : Nat) (hG : GoodIn WW (wsV own idx C1 y (aW y b mL ret))) (hd : y.cls = C1 ∧ y.cls ≠ "java/lang/invoke/MethodHandle" ∧ y.cls ≠ "java/lang/invoke/VarHandle" ∧ (parseMethodDescriptor y.desc).map (fun d => d.parameters.length) = some cnt) (hrm : rm.cells = 0 ∧ rm.slots = 0) (hR : rm.frames + 1 ≤ R.frames ∧ 8 + (mL + 11) + rm.locals ≤ R.locals) (hM : ∀ r, fy = some r → aKi l y (aW y b mL ret) rm D tys (.ref a :: As) w0 gv gw r) (hc : vwCl[ci]? = some (C1, T1, N1)) (he : ws[q0]? = some (a, .inr (ci, fs))) (hC : isC.map (fun i => ws[i]?) = w0.map some) (hA : ∀ r, (gw r).map Prod.fst = w0.map Prod.fst) (hnd : va_nd isC = true) (hst : stk = As.reverse ++ .ref a :: st) (hn : As.length = cnt) (hcat : (st.map fun v => v.category).sum ≤ 8) (hdg : decode cc pc = .ok (.invokevirtual idx, 3)) (hkn : k ≤ R.cells ∧ n ≤ R.slots) (hF : fy.bind kf = some o) (kk : ∀ r, fy = some r → kf r = some o → aT p l e R s m args below meth c Q D A nL k n (pc + 3) lv (.int (gv r) :: st) (wset ws isC (gw r))) : aT p l e R s m args below meth c Q D A nL k n pc lv stk ws := by
  obtain ⟨r, h1, hF⟩ := bd hF
  subst hst
  intro H locs ls hP hD hS hl
  have hPc0 := hP
  have hKc := C.2.1.1
  have hPc : va_P D vwCl w0 H := hP.sub isC (w_filt hC)
  have hDc : va_D A w0 := hD.sub isC hnd hC
  have hFc := va_free (wc := w0) hD hS C.2.2.2 isC hC
  refine va_calli (va_runV (As := As) (rest := st) C.1 (hM r h1 H.size) (cwV cnt C.1.2.2.2.2 hG rfl hrm.1 hrm.2 hd hR) ⟨aPc_blind, va_recv hKc hPc0 hc he, fun U hU hW => ⟨rfl, by rw [hU], by rw [hU]; exact hPc, C.2.1.warm hW, hDc.weaken (fun _ _ _ _ => trivial)⟩⟩ rfl hn hl.1 rfl (lv_room hcat) hdg ⟨by simpa using hkn.1, by simpa using hkn.2⟩) hS (fun q _ h => hFc q h) hFc (fun rv u t H1 locs1 ht hvm hw hB hz1 hk1 hS => ?_)
  obtain ⟨hP1, -⟩ := hB
  rw [ht] at hP1
  rw [show rv = gv r from hw]
  obtain ⟨hP, hD⟩ := w_join isC hP hD hC (hA r) hnd hk1 hP1
  exact kk r h1 hF H1 locs1 ls hP hD hS hl
theorem a_callVvr (C : aC p s m args meth c cc nL own WW D tys A) {ρ α : Type} {o : α} {fy : Option ρ} {kf : ρ → Option α} {y : MethodName} {b : ByteArray} {mL : Nat} {ret : Option FieldType} {rm : Room} {idx : Nat} {As stk : List Value} {w0 : va_W} {C1 : String} {T1 : u_T} {N1 ci a : Nat} {fs : List Value} (cnt : Nat) (isC : List Nat) (q0 : Nat) (hG : GoodIn WW (wsV own idx C1 y (aW y b mL ret))) (hd : y.cls = C1 ∧ y.cls ≠ "java/lang/invoke/MethodHandle" ∧ y.cls ≠ "java/lang/invoke/VarHandle" ∧ (parseMethodDescriptor y.desc).map (fun d => d.parameters.length) = some cnt) (hrm : rm.cells = 0 ∧ rm.slots = 0) (hR : rm.frames + 1 ≤ R.frames ∧ 8 + (mL + 11) + rm.locals ≤ R.locals) (hM : ∀ r, fy = some r → aKv l y (aW y b mL ret) rm D tys (.ref a :: As) w0 (fun _ => w0) r) (hc : vwCl[ci]? = some (C1, T1, N1)) (he : ws[q0]? = some (a, .inr (ci, fs))) (hC : isC.map (fun i => ws[i]?) = w0.map some) (hnd : va_nd isC = true) (hst : stk = As.reverse ++ .ref a :: st) (hn : As.length = cnt) (hcat : (st.map fun v => v.category).sum ≤ 8) (hdg : decode cc pc = .ok (.invokevirtual idx, 3)) (hkn : k ≤ R.cells ∧ n ≤ R.slots) (hF : fy.bind kf = some o) (kk : ∀ r, fy = some r → kf r = some o → aT p l e R s m args below meth c Q D A nL k n (pc + 3) lv (st) ws) : aT p l e R s m args below meth c Q D A nL k n pc lv stk ws := by
  obtain ⟨r, h1, hF⟩ := bd hF
  subst hst
  intro H locs ls hP hD hS hl
  have hPc0 := hP
  have hKc := C.2.1.1
  have hPc : va_P D vwCl w0 H := hP.sub isC (w_filt hC)
  have hDc : va_D A w0 := hD.sub isC hnd hC
  have hFc := va_free (wc := w0) hD hS C.2.2.2 isC hC
  refine va_callv (va_runV (As := As) (rest := st) C.1 (hM r h1 H.size) (cwV cnt C.1.2.2.2.2 hG rfl hrm.1 hrm.2 hd hR) ⟨aPc_blind, va_recv hKc hPc0 hc he, fun U hU hW => ⟨rfl, by rw [hU], by rw [hU]; exact hPc, C.2.1.warm hW, hDc.weaken (fun _ _ _ _ => trivial)⟩⟩ rfl hn hl.1 rfl (lv_room hcat) hdg ⟨by simpa using hkn.1, by simpa using hkn.2⟩) hS (fun q _ h => hFc q h) hFc (fun u t H1 locs1 ht hvm hw hB hz1 hk1 hS => ?_)
  obtain ⟨hP1, -⟩ := hB
  rw [ht] at hP1
  exact kk r h1 hF H1 locs1 ls (w_keep isC hP hD hC hk1 hP1) hD hS hl
theorem a_callVv (C : aC p s m args meth c cc nL own WW D tys A) {ρ α : Type} {o : α} {fy : Option ρ} {kf : ρ → Option α} {y : MethodName} {b : ByteArray} {mL : Nat} {ret : Option FieldType} {rm : Room} {idx : Nat} {As stk : List Value} {w0 : va_W} {gw : ρ → va_W} {C1 : String} {T1 : u_T} {N1 ci a : Nat} {fs : List Value} (cnt : Nat) (isC : List Nat) (q0 : Nat) (hG : GoodIn WW (wsV own idx C1 y (aW y b mL ret))) (hd : y.cls = C1 ∧ y.cls ≠ "java/lang/invoke/MethodHandle" ∧ y.cls ≠ "java/lang/invoke/VarHandle" ∧ (parseMethodDescriptor y.desc).map (fun d => d.parameters.length) = some cnt) (hrm : rm.cells = 0 ∧ rm.slots = 0) (hR : rm.frames + 1 ≤ R.frames ∧ 8 + (mL + 11) + rm.locals ≤ R.locals) (hM : ∀ r, fy = some r → aKv l y (aW y b mL ret) rm D tys (.ref a :: As) w0 gw r) (hc : vwCl[ci]? = some (C1, T1, N1)) (he : ws[q0]? = some (a, .inr (ci, fs))) (hC : isC.map (fun i => ws[i]?) = w0.map some) (hA : ∀ r, (gw r).map Prod.fst = w0.map Prod.fst) (hnd : va_nd isC = true) (hst : stk = As.reverse ++ .ref a :: st) (hn : As.length = cnt) (hcat : (st.map fun v => v.category).sum ≤ 8) (hdg : decode cc pc = .ok (.invokevirtual idx, 3)) (hkn : k ≤ R.cells ∧ n ≤ R.slots) (hF : fy.bind kf = some o) (kk : ∀ r, fy = some r → kf r = some o → aT p l e R s m args below meth c Q D A nL k n (pc + 3) lv (st) (wset ws isC (gw r))) : aT p l e R s m args below meth c Q D A nL k n pc lv stk ws := by
  obtain ⟨r, h1, hF⟩ := bd hF
  subst hst
  intro H locs ls hP hD hS hl
  have hPc0 := hP
  have hKc := C.2.1.1
  have hPc : va_P D vwCl w0 H := hP.sub isC (w_filt hC)
  have hDc : va_D A w0 := hD.sub isC hnd hC
  have hFc := va_free (wc := w0) hD hS C.2.2.2 isC hC
  refine va_callv (va_runV (As := As) (rest := st) C.1 (hM r h1 H.size) (cwV cnt C.1.2.2.2.2 hG rfl hrm.1 hrm.2 hd hR) ⟨aPc_blind, va_recv hKc hPc0 hc he, fun U hU hW => ⟨rfl, by rw [hU], by rw [hU]; exact hPc, C.2.1.warm hW, hDc.weaken (fun _ _ _ _ => trivial)⟩⟩ rfl hn hl.1 rfl (lv_room hcat) hdg ⟨by simpa using hkn.1, by simpa using hkn.2⟩) hS (fun q _ h => hFc q h) hFc (fun u t H1 locs1 ht hvm hw hB hz1 hk1 hS => ?_)
  obtain ⟨hP1, -⟩ := hB
  rw [ht] at hP1
  obtain ⟨hP, hD⟩ := w_join isC hP hD hC (hA r) hnd hk1 hP1
  exact kk r h1 hF H1 locs1 ls hP hD hS hl
theorem a_callSir (C : aC p s m args meth c cc nL own WW D tys A) {ρ α : Type} {o : α} {fy : Option ρ} {kf : ρ → Option α} {y : MethodName} {b : ByteArray} {mL : Nat} {ret : Option FieldType} {rm : Room} {idx : Nat} {As stk : List Value} {w0 : va_W} {gv : ρ → Int32} (cnt : Nat) (isC : List Nat) (hG : GoodIn WW (va_wsS own idx y (aW y b mL ret))) (hd : y.cls ≠ "java/lang/invoke/MethodHandle" ∧ y.cls ≠ "java/lang/invoke/VarHandle" ∧ (parseMethodDescriptor y.desc).map (fun d => d.parameters.length) = some cnt) (hrm : rm.cells = 0 ∧ rm.slots = 0) (hR : rm.frames + 1 ≤ R.frames ∧ 8 + (mL + 11) + rm.locals ≤ R.locals) (hM : ∀ r, fy = some r → aKi l y (aW y b mL ret) rm D tys (As) w0 gv (fun _ => w0) r) (hC : isC.map (fun i => ws[i]?) = w0.map some) (hnd : va_nd isC = true) (hst : stk = As.reverse ++ st) (hn : As.length = cnt) (hcat : (st.map fun v => v.category).sum ≤ 8) (hdg : decode cc pc = .ok (.invokestatic idx, 3)) (hkn : k ≤ R.cells ∧ n ≤ R.slots) (hF : fy.bind kf = some o) (kk : ∀ r, fy = some r → kf r = some o → aT p l e R s m args below meth c Q D A nL k n (pc + 3) lv (.int (gv r) :: st) ws) : aT p l e R s m args below meth c Q D A nL k n pc lv stk ws := by
  obtain ⟨r, h1, hF⟩ := bd hF
  subst hst
  intro H locs ls hP hD hS hl
  have hPc0 := hP
  have hKc := C.2.1.1
  have hPc : va_P D vwCl w0 H := hP.sub isC (w_filt hC)
  have hDc : va_D A w0 := hD.sub isC hnd hC
  have hFc := va_free (wc := w0) hD hS C.2.2.2 isC hC
  refine va_calli (va_runS (As := As) (rest := st) C.1 (hM r h1 H.size) (va_cwS cnt C.1.2.2.2.2 hG rfl hrm.1 hrm.2 hd hR) ⟨aPc_blind, fun U hU hW => ⟨rfl, by rw [hU], by rw [hU]; exact hPc, C.2.1.warm hW, hDc.weaken (fun _ _ _ _ => trivial)⟩⟩ rfl hn hl.1 rfl (lv_room hcat) hdg ⟨by simpa using hkn.1, by simpa using hkn.2⟩) hS (fun q _ h => hFc q h) hFc (fun rv u t H1 locs1 ht hvm hw hB hz1 hk1 hS => ?_)
  obtain ⟨hP1, -⟩ := hB
  rw [ht] at hP1
  rw [show rv = gv r from hw]
  exact kk r h1 hF H1 locs1 ls (w_keep isC hP hD hC hk1 hP1) hD hS hl
theorem a_callSi (C : aC p s m args meth c cc nL own WW D tys A) {ρ α : Type} {o : α} {fy : Option ρ} {kf : ρ → Option α} {y : MethodName} {b : ByteArray} {mL : Nat} {ret : Option FieldType} {rm : Room} {idx : Nat} {As stk : List Value} {w0 : va_W} {gv : ρ → Int32} {gw : ρ → va_W} (cnt : Nat) (isC : List Nat) (hG : GoodIn WW (va_wsS own idx y (aW y b mL ret))) (hd : y.cls ≠ "java/lang/invoke/MethodHandle" ∧ y.cls ≠ "java/lang/invoke/VarHandle" ∧ (parseMethodDescriptor y.desc).map (fun d => d.parameters.length) = some cnt) (hrm : rm.cells = 0 ∧ rm.slots = 0) (hR : rm.frames + 1 ≤ R.frames ∧ 8 + (mL + 11) + rm.locals ≤ R.locals) (hM : ∀ r, fy = some r → aKi l y (aW y b mL ret) rm D tys (As) w0 gv gw r) (hC : isC.map (fun i => ws[i]?) = w0.map some) (hA : ∀ r, (gw r).map Prod.fst = w0.map Prod.fst) (hnd : va_nd isC = true) (hst : stk = As.reverse ++ st) (hn : As.length = cnt) (hcat : (st.map fun v => v.category).sum ≤ 8) (hdg : decode cc pc = .ok (.invokestatic idx, 3)) (hkn : k ≤ R.cells ∧ n ≤ R.slots) (hF : fy.bind kf = some o) (kk : ∀ r, fy = some r → kf r = some o → aT p l e R s m args below meth c Q D A nL k n (pc + 3) lv (.int (gv r) :: st) (wset ws isC (gw r))) : aT p l e R s m args below meth c Q D A nL k n pc lv stk ws := by
  obtain ⟨r, h1, hF⟩ := bd hF
  subst hst
  intro H locs ls hP hD hS hl
  have hPc0 := hP
  have hKc := C.2.1.1
  have hPc : va_P D vwCl w0 H := hP.sub isC (w_filt hC)
  have hDc : va_D A w0 := hD.sub isC hnd hC
  have hFc := va_free (wc := w0) hD hS C.2.2.2 isC hC
  refine va_calli (va_runS (As := As) (rest := st) C.1 (hM r h1 H.size) (va_cwS cnt C.1.2.2.2.2 hG rfl hrm.1 hrm.2 hd hR) ⟨aPc_blind, fun U hU hW => ⟨rfl, by rw [hU], by rw [hU]; exact hPc, C.2.1.warm hW, hDc.weaken (fun _ _ _ _ => trivial)⟩⟩ rfl hn hl.1 rfl (lv_room hcat) hdg ⟨by simpa using hkn.1, by simpa using hkn.2⟩) hS (fun q _ h => hFc q h) hFc (fun rv u t H1 locs1 ht hvm hw hB hz1 hk1 hS => ?_)
  obtain ⟨hP1, -⟩ := hB
  rw [ht] at hP1
  rw [show rv = gv r from hw]
  obtain ⟨hP, hD⟩ := w_join isC hP hD hC (hA r) hnd hk1 hP1
  exact kk r h1 hF H1 locs1 ls hP hD hS hl
theorem a_callSvr (C : aC p s m args meth c cc nL own WW D tys A) {ρ α : Type} {o : α} {fy : Option ρ} {kf : ρ → Option α} {y : MethodName} {b : ByteArray} {mL : Nat} {ret : Option FieldType} {rm : Room} {idx : Nat} {As stk : List Value} {w0 : va_W} (cnt : Nat) (isC : List Nat) (hG : GoodIn WW (va_wsS own idx y (aW y b mL ret))) (hd : y.cls ≠ "java/lang/invoke/MethodHandle" ∧ y.cls ≠ "java/lang/invoke/VarHandle" ∧ (parseMethodDescriptor y.desc).map (fun d => d.parameters.length) = some cnt) (hrm : rm.cells = 0 ∧ rm.slots = 0) (hR : rm.frames + 1 ≤ R.frames ∧ 8 + (mL + 11) + rm.locals ≤ R.locals) (hM : ∀ r, fy = some r → aKv l y (aW y b mL ret) rm D tys (As) w0 (fun _ => w0) r) (hC : isC.map (fun i => ws[i]?) = w0.map some) (hnd : va_nd isC = true) (hst : stk = As.reverse ++ st) (hn : As.length = cnt) (hcat : (st.map fun v => v.category).sum ≤ 8) (hdg : decode cc pc = .ok (.invokestatic idx, 3)) (hkn : k ≤ R.cells ∧ n ≤ R.slots) (hF : fy.bind kf = some o) (kk : ∀ r, fy = some r → kf r = some o → aT p l e R s m args below meth c Q D A nL k n (pc + 3) lv (st) ws) : aT p l e R s m args below meth c Q D A nL k n pc lv stk ws := by
  obtain ⟨r, h1, hF⟩ := bd hF
  subst hst
  intro H locs ls hP hD hS hl
  have hPc0 := hP
  have hKc := C.2.1.1
  have hPc : va_P D vwCl w0 H := hP.sub isC (w_filt hC)
  have hDc : va_D A w0 := hD.sub isC hnd hC
  have hFc := va_free (wc := w0) hD hS C.2.2.2 isC hC
  refine va_callv (va_runS (As := As) (rest := st) C.1 (hM r h1 H.size) (va_cwS cnt C.1.2.2.2.2 hG rfl hrm.1 hrm.2 hd hR) ⟨aPc_blind, fun U hU hW => ⟨rfl, by rw [hU], by rw [hU]; exact hPc, C.2.1.warm hW, hDc.weaken (fun _ _ _ _ => trivial)⟩⟩ rfl hn hl.1 rfl (lv_room hcat) hdg ⟨by simpa using hkn.1, by simpa using hkn.2⟩) hS (fun q _ h => hFc q h) hFc (fun u t H1 locs1 ht hvm hw hB hz1 hk1 hS => ?_)
  obtain ⟨hP1, -⟩ := hB
  rw [ht] at hP1
  exact kk r h1 hF H1 locs1 ls (w_keep isC hP hD hC hk1 hP1) hD hS hl
theorem a_callSv (C : aC p s m args meth c cc nL own WW D tys A) {ρ α : Type} {o : α} {fy : Option ρ} {kf : ρ → Option α} {y : MethodName} {b : ByteArray} {mL : Nat} {ret : Option FieldType} {rm : Room} {idx : Nat} {As stk : List Value} {w0 : va_W} {gw : ρ → va_W} (cnt : Nat) (isC : List Nat) (hG : GoodIn WW (va_wsS own idx y (aW y b mL ret))) (hd : y.cls ≠ "java/lang/invoke/MethodHandle" ∧ y.cls ≠ "java/lang/invoke/VarHandle" ∧ (parseMethodDescriptor y.desc).map (fun d => d.parameters.length) = some cnt) (hrm : rm.cells = 0 ∧ rm.slots = 0) (hR : rm.frames + 1 ≤ R.frames ∧ 8 + (mL + 11) + rm.locals ≤ R.locals) (hM : ∀ r, fy = some r → aKv l y (aW y b mL ret) rm D tys (As) w0 gw r) (hC : isC.map (fun i => ws[i]?) = w0.map some) (hA : ∀ r, (gw r).map Prod.fst = w0.map Prod.fst) (hnd : va_nd isC = true) (hst : stk = As.reverse ++ st) (hn : As.length = cnt) (hcat : (st.map fun v => v.category).sum ≤ 8) (hdg : decode cc pc = .ok (.invokestatic idx, 3)) (hkn : k ≤ R.cells ∧ n ≤ R.slots) (hF : fy.bind kf = some o) (kk : ∀ r, fy = some r → kf r = some o → aT p l e R s m args below meth c Q D A nL k n (pc + 3) lv (st) (wset ws isC (gw r))) : aT p l e R s m args below meth c Q D A nL k n pc lv stk ws := by
  obtain ⟨r, h1, hF⟩ := bd hF
  subst hst
  intro H locs ls hP hD hS hl
  have hPc0 := hP
  have hKc := C.2.1.1
  have hPc : va_P D vwCl w0 H := hP.sub isC (w_filt hC)
  have hDc : va_D A w0 := hD.sub isC hnd hC
  have hFc := va_free (wc := w0) hD hS C.2.2.2 isC hC
  refine va_callv (va_runS (As := As) (rest := st) C.1 (hM r h1 H.size) (va_cwS cnt C.1.2.2.2.2 hG rfl hrm.1 hrm.2 hd hR) ⟨aPc_blind, fun U hU hW => ⟨rfl, by rw [hU], by rw [hU]; exact hPc, C.2.1.warm hW, hDc.weaken (fun _ _ _ _ => trivial)⟩⟩ rfl hn hl.1 rfl (lv_room hcat) hdg ⟨by simpa using hkn.1, by simpa using hkn.2⟩) hS (fun q _ h => hFc q h) hFc (fun u t H1 locs1 ht hvm hw hB hz1 hk1 hS => ?_)
  obtain ⟨hP1, -⟩ := hB
  rw [ht] at hP1
  obtain ⟨hP, hD⟩ := w_join isC hP hD hC (hA r) hnd hk1 hP1
  exact kk r h1 hF H1 locs1 ls hP hD hS hl
theorem a_callN (C : aC p s m args meth c cc nL own WW D tys A) {ρ α : Type} {o : α} {fy : Option ρ} {kf : ρ → Option α} {y : MethodName} {b : ByteArray} {mL : Nat} {ret : Option FieldType} {rm : Room} {idx : Nat} {host : String} {As stk : List Value} {gv : ρ → Int32} (cnt : Nat) (hG : GoodIn WW (aW y b mL ret)) (hs : Cond.static y ∈ WW) (hi : Cond.initialized y.cls ∈ WW) (hl0 : va_Nw (.methodLinkNest own idx y host) s) (hd : y.cls ≠ "java/lang/invoke/MethodHandle" ∧ y.cls ≠ "java/lang/invoke/VarHandle" ∧ (parseMethodDescriptor y.desc).map (fun d => d.parameters.length) = some cnt) (hrm : rm.cells = 0 ∧ rm.slots = 0) (hR : rm.frames + 1 ≤ R.frames ∧ 8 + (mL + 11) + rm.locals ≤ R.locals) (hM : ∀ r, fy = some r → aKi l y (aW y b mL ret) rm D tys As [] gv (fun _ => []) r) (hst : stk = As.reverse ++ st) (hn : As.length = cnt) (hcat : (st.map fun v => v.category).sum ≤ 8) (hdg : decode cc pc = .ok (.invokestatic idx, 3)) (hkn : k ≤ R.cells ∧ n ≤ R.slots) (hF : fy.bind kf = some o) (kk : ∀ r, fy = some r → kf r = some o → aT p l e R s m args below meth c Q D A nL k n (pc + 3) lv (.int (gv r) :: st) ws) : aT p l e R s m args below meth c Q D A nL k n pc lv stk ws := by
  obtain ⟨r, h1, hF⟩ := bd hF
  subst hst
  intro H locs ls hP hD hS hl
  have hPc : va_P D vwCl [] H := hP.sub [] rfl
  have hDc : va_D A [] := hD.sub [] rfl rfl
  have hFc := va_free (wc := []) hD hS C.2.2.2 [] rfl
  refine va_calli (va_runSN (As := As) (rest := st) C.1 (hM r h1 H.size) ⟨va_cnB cnt C.1.2.2.2.2 hG rfl hrm.1 hrm.2 hl0 (C.1.2.2.2.2 _ hi) hd hR, C.1.2.2.2.2 _ hs, trivial⟩ ⟨aPc_blind, fun U hU hW => ⟨rfl, by rw [hU], by rw [hU]; exact hPc, C.2.1.warm hW, hDc.weaken (fun _ _ _ _ => trivial)⟩⟩ rfl hn hl.1 rfl (lv_room hcat) hdg ⟨by simpa using hkn.1, by simpa using hkn.2⟩) hS (fun q _ h => hFc q h) hFc (fun rv u t H1 locs1 ht hvm hw hB hz1 hk1 hS => ?_)
  obtain ⟨hP1, -⟩ := hB
  rw [ht] at hP1
  rw [show rv = gv r from hw]
  exact kk r h1 hF H1 locs1 ls (w_keep (w0 := []) [] hP hD rfl hk1 hP1) hD hS hl
theorem a_mmax (C : aC p s m args meth c cc nL own WW D tys A) {idx : Nat} {x y : Int32} (hlink : Cond.methodLink own idx Lib.Math.max.name ∈ WW) (hstat : Cond.static Lib.Math.max.name ∈ WW) (hini : Cond.initialized "java/lang/Math" ∈ WW) (hcode : Cond.code Lib.Math.max.name Lib.Math.max.code 2 (some .int) ∈ WW) (hR : 1 ≤ R.frames ∧ (st.map fun v => v.category).sum + 13 ≤ R.locals) (hkn : k ≤ R.cells ∧ n ≤ R.slots) (hdg : decode cc pc = .ok (.invokestatic idx, 3)) (kk : aT p l e R s m args below meth c Q D A nL k n (pc + 3) lv (.int (if x < y then y else x) :: st) ws) : aT p l e R s m args below meth c Q D A nL k n pc lv (.int y :: .int x :: st) ws := fun H locs ls hP hD hS hl => va_mmax C.1.1 C.1.2.1 (C.1.2.2.1.trans hl.1.symm) C.1.2.2.2.1 (C.1.2.2.2.2 _ hlink) (C.1.2.2.2.2 _ hstat) (C.1.2.2.2.2 _ hini) (C.1.2.2.2.2 _ hcode) hR.1 hR.2 hkn.1 hkn.2 hdg (kk H locs ls hP hD hS hl)
theorem a_mmin (C : aC p s m args meth c cc nL own WW D tys A) {idx : Nat} {x y : Int32} (hlink : Cond.methodLink own idx Lib.Math.min.name ∈ WW) (hstat : Cond.static Lib.Math.min.name ∈ WW) (hini : Cond.initialized "java/lang/Math" ∈ WW) (hcode : Cond.code Lib.Math.min.name Lib.Math.min.code 2 (some .int) ∈ WW) (hR : 1 ≤ R.frames ∧ (st.map fun v => v.category).sum + 13 ≤ R.locals) (hkn : k ≤ R.cells ∧ n ≤ R.slots) (hdg : decode cc pc = .ok (.invokestatic idx, 3)) (kk : aT p l e R s m args below meth c Q D A nL k n (pc + 3) lv (.int (if y < x then y else x) :: st) ws) : aT p l e R s m args below meth c Q D A nL k n pc lv (.int y :: .int x :: st) ws := fun H locs ls hP hD hS hl => va_mmin C.1.1 C.1.2.1 (C.1.2.2.1.trans hl.1.symm) C.1.2.2.2.1 (C.1.2.2.2.2 _ hlink) (C.1.2.2.2.2 _ hstat) (C.1.2.2.2.2 _ hini) (C.1.2.2.2.2 _ hcode) hR.1 hR.2 hkn.1 hkn.2 hdg (kk H locs ls hP hD hS hl)
/-- switches -/
theorem a_tsout (C : aC p s m args meth c cc nL own WW D tys A) {x : Int32} {dflt lo1 hi1 : Int} {offs : Array Int} {len : Nat} {lo hi : Int32} {tgt : Nat} {α : Type} {o : α} {f g : Option α} {d : Decidable (x < lo ∨ hi < x)} (hdg : decode cc pc = .ok (.tableswitch dflt lo1 hi1 offs, len)) (hlo : lo.toInt = lo1) (hhi : hi.toInt = hi1) (ht : (pc : Int) + dflt = (tgt : Int)) (hF : (if x < lo ∨ hi < x then f else g) = some o) (kt : x < lo ∨ hi < x → f = some o → aT p l e R s m args below meth c Q D A nL k n tgt lv st ws) (kf : ¬ (x < lo ∨ hi < x) → g = some o → aT p l e R s m args below meth c Q D A nL k n pc lv (.int x :: st) ws) : aT p l e R s m args below meth c Q D A nL k n pc lv (.int x :: st) ws := by
  by_cases h : x < lo ∨ hi < x
  · intro H locs ls hP hD hS hl
    refine lv_tableOut C.1.1 C.1.2.1 hdg ?_ ht (kt h ((if_pos h).symm.trans hF) H locs ls hP hD hS hl)
    rw [← hlo, ← hhi]
    exact h.imp Int32.lt_iff_toInt_lt.mp Int32.lt_iff_toInt_lt.mp
  · exact kf h ((if_neg h).symm.trans hF)
theorem a_tscase (C : aC p s m args meth c cc nL own WW D tys A) {x v : Int32} {dflt lo1 hi1 off : Int} {offs : Array Int} {len tgt : Nat} {α : Type} {o : α} {f g : Option α} {d : Decidable (x = v)} (hdg : decode cc pc = .ok (.tableswitch dflt lo1 hi1 offs, len)) (h1 : ¬ v.toInt < lo1) (h2 : ¬ hi1 < v.toInt) (ho : offs[(v.toInt - lo1).toNat]? = some off) (ht : (pc : Int) + off = (tgt : Int)) (hF : (if x = v then f else g) = some o) (kt : x = v → f = some o → aT p l e R s m args below meth c Q D A nL k n tgt lv st ws) (kf : ¬ x = v → g = some o → aT p l e R s m args below meth c Q D A nL k n pc lv (.int x :: st) ws) : aT p l e R s m args below meth c Q D A nL k n pc lv (.int x :: st) ws := by
  by_cases h : x = v
  · intro H locs ls hP hD hS hl
    have h3 := kt h ((if_pos h).symm.trans hF) H locs ls hP hD hS hl
    subst h
    exact lv_tableIn C.1.1 C.1.2.1 hdg h1 h2 ho ht h3
  · exact kf h ((if_neg h).symm.trans hF)
theorem a_lkcase (C : aC p s m args meth c cc nL own WW D tys A) {x v : Int32} {dflt off : Int} {ps : Array (Int × Int)} {len tgt : Nat} {α : Type} {o : α} {f g : Option α} {d : Decidable (x = v)} (hdg : decode cc pc = .ok (.lookupswitch dflt ps, len)) (hp : (ps.toList.zip (ps.toList.drop 1)).all (fun (a, next) => a.1 < next.1) = true) (ho : Op.lookupswitch.offset ps.toList dflt v.toInt = off) (ht : (pc : Int) + off = (tgt : Int)) (hF : (if x = v then f else g) = some o) (kt : x = v → f = some o → aT p l e R s m args below meth c Q D A nL k n tgt lv st ws) (kf : ¬ x = v → g = some o → aT p l e R s m args below meth c Q D A nL k n pc lv (.int x :: st) ws) : aT p l e R s m args below meth c Q D A nL k n pc lv (.int x :: st) ws := by
  by_cases h : x = v
  · intro H locs ls hP hD hS hl
    have h3 := kt h ((if_pos h).symm.trans hF) H locs ls hP hD hS hl
    subst h
    exact lv_lookup C.1.1 C.1.2.1 hdg hp ho ht h3
  · exact kf h ((if_neg h).symm.trans hF)
theorem a_lkdef (C : aC p s m args meth c cc nL own WW D tys A) {x : Int32} {dflt off : Int} {ps : Array (Int × Int)} {len tgt : Nat} (hdg : decode cc pc = .ok (.lookupswitch dflt ps, len)) (hp : (ps.toList.zip (ps.toList.drop 1)).all (fun (a, next) => a.1 < next.1) = true) (ho : Op.lookupswitch.offset ps.toList dflt x.toInt = off) (ht : (pc : Int) + off = (tgt : Int)) (kk : aT p l e R s m args below meth c Q D A nL k n tgt lv st ws) : aT p l e R s m args below meth c Q D A nL k n pc lv (.int x :: st) ws := fun H locs ls hP hD hS hl => lv_lookup C.1.1 C.1.2.1 hdg hp ho ht (kk H locs ls hP hD hS hl)
theorem a_rz {α : Type} {o : α} {kf : Int32 → Option α} {x : Int32} {G : Prop} (hF : (rz x).bind kf = some o) (kk : narrow .boolean (.int x) = .int x → kf x = some o → G) : G := by
  obtain ⟨v, h1, h3⟩ := bd hF
  obtain ⟨hi, e⟩ := chk2 h1
  rw [e] at h3
  refine kk ?_ h3
  rcases hi with rfl | rfl <;> rfl
theorem a_rc {α : Type} {o : α} {kf : Int32 → Option α} {x : Int32} {G : Prop} (hF : (rc x).bind kf = some o) (kk : narrow .char (.int x) = .int x → kf x = some o → G) : G := by
  obtain ⟨v, h1, h3⟩ := bd hF
  obtain ⟨hi, e⟩ := chk2 h1
  rw [e] at h3
  refine kk ?_ h3
  unfold vp_nar at hi
  exact congrArg Value.int hi
theorem a_iret {ρ : Type} {gv : ρ → Int32} {gw : ρ → va_W} {rv res : ρ} {w0 : va_W} {ty : FieldType} {v : Int32} (C : aC p s m args meth c cc nL own WW D tys (va_A w0 s.heap.size)) (hr : meth.sig.returnType = some ty) (hn : narrow ty (.int v) = .int v) (hdg : decode cc pc = .ok (.ireturn, 1)) (hF : some rv = some res) (hv : gv rv = v) (hw : gw rv = ws) : aT p l e R s m args below meth c (MQ below (aQi D w0 s.heap.size gv gw res) args s k n (va_A w0 s.heap.size)) D (va_A w0 s.heap.size) nL k n pc lv [.int v] ws := by
  cases hF
  subst hv
  subst hw
  exact fun H locs ls hP hD hS hl => W.zret C.1.1 C.1.2.1 hr hn (fun t ht hW => ⟨⟨_, (), rfl, rfl, by rw [ht]; exact hP, hD⟩, hS.F ht⟩) hS.2.2 hdg C.2.2.1
theorem a_vret {ρ : Type} {gw : ρ → va_W} {rv res : ρ} {w0 : va_W} (C : aC p s m args meth c cc nL own WW D tys (va_A w0 s.heap.size)) (hr : meth.sig.returnType = none) (hdg : decode cc pc = .ok (.return_, 1)) (hF : some rv = some res) (hw : gw rv = ws) : aT p l e R s m args below meth c (MQ below (aQv D w0 s.heap.size gw res) args s k n (va_A w0 s.heap.size)) D (va_A w0 s.heap.size) nL k n pc lv [] ws := by
  cases hF
  subst hw
  exact fun H locs ls hP hD hS hl => W.vret C.1.1 C.1.2.1 hr (fun t ht hW => ⟨⟨(), rfl, trivial, by rw [ht]; exact hP, hD⟩, hS.F ht⟩) hS.2.2 hdg C.2.2.1
/-- a world's cells, said in another way -/
theorem a_ws (C : aC p s m args meth c cc nL own WW D tys A) {ws' : va_W} (h : ws = ws') (kk : aT p l e R s m args below meth c Q D A nL k n pc lv st ws') : aT p l e R s m args below meth c Q D A nL k n pc lv st ws := h ▸ kk
end AR
theorem aKi_of {ρ : Type} {l : Launch} {y : MethodName} {rm : Room} {cc : ByteArray} {maxL : Nat} {ret : Option FieldType} {D : va_G} {tys : List (ClassId × FieldType)} {av : List Value} {w0 : va_W} {gv : ρ → Int32} {gw : ρ → va_W} {res : ρ} {lv : List (Nat × Value)} {own : String} (hy : plainName y.cls = true) (hown : y.cls = own) (hlen : (lg_sl av).length ≤ maxL) (hlv : lv_args 0 av = lv) (body : ∀ (p : Program) (e : Env) (s : State) (m : MethodId) (args : Array Value) (below : List Frame) (meth : Method) (c : Code), aC p s m args meth c cc maxL own WW D tys (va_A w0 s.heap.size) → meth.sig.returnType = ret → aT p l e rm s m args below meth c (MQ below (aQi D w0 s.heap.size gv gw res) args s 0 0 (va_A w0 s.heap.size)) D (va_A w0 s.heap.size) maxL 0 0 0 lv [] w0) : aKi l y (aW y cc maxL ret) rm D tys av w0 gv gw res := by
  intro sz
  refine Met.ofW hy rfl ?_
  intro p e s m args below meth c s₁ B hml hv
  obtain ⟨rfl, hsz, hP, hU, hD0⟩ := hv
  subst hsz
  have hl := lv_entry av hlen
  rw [lg_entry_eq]
  have hts := atoms_spec (ws := aW y cc maxL ret) B.pre
  have hfc := findClass_of_methodNamed B.named
  rw [hown] at hfc
  rw [hlv] at hl
  exact body p e s m _ below meth c ⟨⟨B.exec, B.bytes, hml, hfc, fun w hw => hts w (List.mem_cons_of_mem _ hw)⟩, hU, B.notSynchronized, fun q h => Or.inr h⟩ B.returns s.heap [] _ hP hD0.self va_S.rf hl
theorem aKv_of {ρ : Type} {l : Launch} {y : MethodName} {rm : Room} {cc : ByteArray} {maxL : Nat} {ret : Option FieldType} {D : va_G} {tys : List (ClassId × FieldType)} {av : List Value} {w0 : va_W} {gw : ρ → va_W} {res : ρ} {lv : List (Nat × Value)} {own : String} (hy : plainName y.cls = true) (hown : y.cls = own) (hlen : (lg_sl av).length ≤ maxL) (hlv : lv_args 0 av = lv) (body : ∀ (p : Program) (e : Env) (s : State) (m : MethodId) (args : Array Value) (below : List Frame) (meth : Method) (c : Code), aC p s m args meth c cc maxL own WW D tys (va_A w0 s.heap.size) → meth.sig.returnType = ret → aT p l e rm s m args below meth c (MQ below (aQv D w0 s.heap.size gw res) args s 0 0 (va_A w0 s.heap.size)) D (va_A w0 s.heap.size) maxL 0 0 0 lv [] w0) : aKv l y (aW y cc maxL ret) rm D tys av w0 gw res := by
  intro sz
  refine Met.ofW hy rfl ?_
  intro p e s m args below meth c s₁ B hml hv
  obtain ⟨rfl, hsz, hP, hU, hD0⟩ := hv
  subst hsz
  have hl := lv_entry av hlen
  rw [lg_entry_eq]
  have hts := atoms_spec (ws := aW y cc maxL ret) B.pre
  have hfc := findClass_of_methodNamed B.named
  rw [hown] at hfc
  rw [hlv] at hl
  exact body p e s m _ below meth c ⟨⟨B.exec, B.bytes, hml, hfc, fun w hw => hts w (List.mem_cons_of_mem _ hw)⟩, hU, B.notSynchronized, fun q h => Or.inr h⟩ B.returns s.heap [] _ hP hD0.self va_S.rf hl
def aTy (kc ki kb kl kd : ClassId) : List (ClassId × FieldType) := [(kc, .char), (ki, .int), (kb, .object RX0), (kl, .long), (kd, .double)]
abbrev wX0 (kc ki : ClassId) (t t_letters t_sizes : Nat) (t_lettersF t_sizesF : Nat → Int32) (t_lines : Int32) : va_W := [(t, .inr (0, [.ref t_letters, .ref t_sizes, .int t_lines])), (t_letters, .inl (kc, 80, .inl t_lettersF)), (t_sizes, .inl (ki, 8, .inl t_sizesF))]
abbrev wX3 (ki : ClassId) (t t_lines t_places t_commons : Nat) (t_linesF t_placesF t_commonsF : Nat → Int32) (t_endings : Int32) : va_W := [(t, .inr (2, [.ref t_lines, .ref t_places, .ref t_commons, .int t_endings])), (t_lines, .inl (ki, 80, .inl t_linesF)), (t_places, .inl (ki, 80, .inl t_placesF)), (t_commons, .inl (ki, 80, .inl t_commonsF))]
abbrev wX6 (ki : ClassId) (t t_reasons t_details : Nat) (t_reasonsF t_detailsF : Nat → Int32) (t_count : Int32) : va_W := [(t, .inr (4, [.ref t_reasons, .ref t_details, .int t_count])), (t_reasons, .inl (ki, 3, .inl t_reasonsF)), (t_details, .inl (ki, 3, .inl t_detailsF))]
abbrev wX7 (kc : ClassId) (t t_characters : Nat) (t_charactersF : Nat → Int32) (t_length : Int32) : va_W := [(t, .inr (5, [.ref t_characters, .int t_length])), (t_characters, .inl (kc, 60, .inl t_charactersF))]
abbrev wX9 (kc ki : ClassId) (t t_all t_reasons t_text t_word t_order t_rows t_written : Nat) (t_allF t_reasonsF t_textF t_wordF t_orderF t_rowsF t_writtenF : Nat → Int32) (t_thrown t_changes t_isSaved t_result t_texted t_wordSize t_orderMany t_here t_fault t_faultAt t_commandMany t_writtenSize : Int32) : va_W := [(t, .inr (7, [.int t_thrown, .ref t_all, .int t_changes, .int t_isSaved, .int t_result, .ref t_reasons, .ref t_text, .int t_texted, .ref t_word, .int t_wordSize, .ref t_order, .int t_orderMany, .int t_here, .int t_fault, .int t_faultAt, .ref t_rows, .int t_commandMany, .ref t_written, .int t_writtenSize])), (t_all, .inl (ki, 979, .inl t_allF)), (t_reasons, .inl (ki, 6, .inl t_reasonsF)), (t_text, .inl (kc, 60, .inl t_textF)), (t_word, .inl (ki, 10, .inl t_wordF)), (t_order, .inl (ki, 80, .inl t_orderF)), (t_rows, .inl (ki, 244, .inl t_rowsF)), (t_written, .inl (kc, 20, .inl t_writtenF))]
