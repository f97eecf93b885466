/-! ROWS OF A WALK: the kit's rows with heap, frame and tables out of sight. aT: at this place of the code, with these locals, this stack and this world of cells, the walk comes to Q; aC: what stays through a method; aKi, aKv: a method's contract, by a result 'res' whose answer is gv res and whose cells are gw res. A pure function stands beside each method: a row takes the hypothesis 'hF : <the function at this place> = some o' and hands on what is left of it. -/
/-- a text: its address, the address of its letters, the letters; few and small -/
abbrev TX : Type := {q : Nat × Nat × List Int32 // q.2.2.length ≤ 10 ∧ ∀ x ∈ q.2.2, 0 ≤ x ∧ x < 128}
abbrev JT : Type := (Nat × Nat × (Nat → Int32)) × List TX
def aE (U : State) : Prop := va_Nw (.methodLinkNest RX1 59 yX8_isSmallLetter RX8) U ∧ va_Nw (.methodLinkNest RX7 33 yX8_isSmallLetter RX8) U
def aU (D : va_G) (tys : List (ClassId × FieldType)) (U : State) : Prop := va_K D vwCl tys U ∧ aE U
theorem aU.warm {D : va_G} {tys : List (ClassId × FieldType)} {s U : State} (hW : s.WarmedH U.vm) (h : aU D tys s) : aU D tys U := ⟨va_K.moved hW.alike h.1, va_Nw.warmM hW h.2.1, va_Nw.warmM hW h.2.2⟩
theorem aU.same {D : va_G} {tys : List (ClassId × FieldType)} {U : State} {g : JFrame} {mk : MethodId} {a : Array Value} (h : aU D tys U) : aU D tys (U.calling g mk a) := ⟨va_K.moved (u := U) (U := U.calling g mk a) (Vm.Alike.refl U.vm) h.1, va_Nw.same rfl rfl h.2.1, va_Nw.same rfl rfl h.2.2⟩
/-- what a method's start says beside its cells: the script (J.1), the known texts (J.2: address, address of the letters, the letters; the first three are constants), the texts' constants, what a throw reads -/
def aSt8 : List (Nat × String) := [(74, "the text buffer is full"), (330, "the change is refused"), (340, "no such line"), (164, "a line has no such number"), (345, "no such line or place"), (350, "no such rank"), (189, "no ending comes before the first one"), (352, "no piece stands at two places"), (357, "the buffer holds no word"), (231, "no line has the word"), (364, "other lines have all pieces of the line"), (267, "reasons are not that deep"), (272, "no such reason is kept"), (289, "no such character is written"), (361, "there are no lines"), (315, "there is no such account")]
def aX7 : List String := ["java/lang/IllegalStateException", "java/lang/UnsupportedOperationException", "java/lang/IndexOutOfBoundsException", "java/lang/IllegalArgumentException", "java/util/NoSuchElementException", "java/lang/ArithmeticException"]
def aD3 : List MethodName := [⟨"java/lang/RuntimeException", "<init>", "(Ljava/lang/String;)V"⟩, ⟨"java/lang/Exception", "<init>", "(Ljava/lang/String;)V"⟩, ⟨"java/lang/Throwable", "<init>", "(Ljava/lang/String;)V"⟩]
def aN4 : List (String × String) := [("java/util/NoSuchElementException", "java/lang/IllegalArgumentException")]
def aSt2 : List (String × Nat × String × List Int32) := [(RL, 100, "", []), (RL, 126, "abyz", [97, 98, 121, 122]), (RX2, 19, "", [])]
/-- a text that stands outside A and is never written -/
def aJ (A : Nat → Prop) (U : State) (H : Heap) (q : TX) : Prop := va_O "java/lang/String" q.val.1 A U H ∧ va_OF "java/lang/String" "coder" "B" (.int 0) q.val.1 A U H ∧ va_OF "java/lang/String" "value" "[B" (.ref q.val.2.1) q.val.1 A U H ∧ va_T .byte q.val.2.1 q.val.2.2.length (fun j => .int (q.val.2.2.getD j 0)) A U H
theorem aJ.moved {A : Nat → Prop} {u U : State} {H : Heap} {q : TX} (hvm : u.vm.Alike U.vm) (h : aJ A u H q) : aJ A U H q := ⟨h.1.moved hvm, h.2.1.moved hvm, h.2.2.1.moved hvm, h.2.2.2.moved hvm⟩
theorem aJ.kept {A : Nat → Prop} {U : State} {H H1 : Heap} {q : TX} (h : aJ A U H q) (hq : ∀ a : Nat, a < H.size → ¬ A a → H1[a]? = H[a]?) : aJ A U H1 q := ⟨h.1.kept hq, h.2.1.kept hq, h.2.2.1.kept hq, h.2.2.2.kept hq⟩
theorem aJ.narrow {A B : Nat → Prop} {U : State} {H : Heap} {q : TX} (h : aJ A U H q) (hAB : ∀ q, B q → A q) : aJ B U H q := ⟨h.1.narrow hAB, h.2.1.narrow hAB, h.2.2.1.narrow hAB, h.2.2.2.narrow hAB⟩
/-- the builder's own methods that are called by their private names -/
def aP3 : List MethodName := [yJ5_ensureCapacityInternal_d00df, yJ5_putStringAt_47b60, yJ5_inflateIfNeededFor_a7421]
/-- the script: outside A, never written -/
def aX (J : JT) (A : Nat → Prop) (U : State) (H : Heap) : Prop := va_X J.1.1 J.1.2.1 J.1.2.2 U H ∧ J.1.1 < H.size ∧ ¬ A J.1.1
def aG (J : JT) (A : Nat → Prop) (U : State) (H : Heap) : Prop :=
  (vx_Zq Bundle.tN "UNASSIGNED_STACK" Bundle.steD A U H ∧ vx_Zq Bundle.tN "SUPPRESSED_SENTINEL" Bundle.listD A U H) ∧ (∀ q ∈ aSt8, ∃ sa : Nat, vk_R RX8 q.1 q.2 sa U) ∧ (∀ x ∈ aX7, va_Nw (.castable x x) U) ∧ (∀ x ∈ aD3, va_Nw (.declares x) U) ∧ (∀ q ∈ aN4, va_Nc q.1 q.2 U) ∧ (∀ (i : Nat) (q : String × Nat × String × List Int32), aSt2[i]? = some q → ∃ x : TX, J.2[i]? = some x ∧ x.val.2.2 = q.2.2.2 ∧ vk_R q.1 q.2.1 q.2.2.1 x.val.1 U) ∧ (∀ q ∈ J.2, aJ A U H q) ∧ va_Z "java/lang/String" "COMPACT_STRINGS" "Z" (.int 1) A U H ∧ va_Zq "jdk/internal/util/Preconditions" "SIOOBE_FORMATTER" "Ljava/util/function/BiFunction;" A U H ∧ va_AO RX0 U ∧ va_AO "java/lang/String" U ∧ aX J A U H ∧ ∀ y ∈ aP3, va_Nw (.selects RJ4 y y) U
theorem aG.moved0 {J : JT} {A : Nat → Prop} {s U : State} {H : Heap} (hvm : s.vm.Alike U.vm) (h1 : ∀ (k : Nat) (tx : String) (a : Nat) (own : String), vk_R own k tx a s → vk_R own k tx a U) (h2 : ∀ x, va_Nw (.castable x x) s → va_Nw (.castable x x) U) (h3 : ∀ x, va_Nw (.declares x) s → va_Nw (.declares x) U) (h4 : ∀ y, va_Nw (.selects RJ4 y y) s → va_Nw (.selects RJ4 y y) U) (h : aG J A s H) : aG J A U H :=
  ⟨⟨h.1.1.moved hvm, h.1.2.moved hvm⟩, fun q hq => (h.2.1 q hq).elim fun sa ha => ⟨sa, h1 _ _ _ _ ha⟩, fun x hx => h2 x (h.2.2.1 x hx), fun x hx => h3 x (h.2.2.2.1 x hx), fun q hq => (h.2.2.2.2.1 q hq).moved hvm, fun i q hq => (h.2.2.2.2.2.1 i q hq).elim fun a hb => ⟨a, hb.1, hb.2.1, h1 _ _ _ _ hb.2.2⟩, fun q hq => (h.2.2.2.2.2.2.1 q hq).moved hvm, h.2.2.2.2.2.2.2.1.moved hvm, h.2.2.2.2.2.2.2.2.1.moved hvm, h.2.2.2.2.2.2.2.2.2.1.moved hvm, h.2.2.2.2.2.2.2.2.2.2.1.moved hvm, ⟨h.2.2.2.2.2.2.2.2.2.2.2.1.1.moved hvm, h.2.2.2.2.2.2.2.2.2.2.2.1.2⟩, fun y hy => h4 y (h.2.2.2.2.2.2.2.2.2.2.2.2 y hy)⟩
theorem aG.warm {J : JT} {A : Nat → Prop} {s U : State} {H : Heap} (hW : s.WarmedH U.vm) (h : aG J A s H) : aG J A U H := h.moved0 hW.alike (fun _ _ _ _ => vk_R.warm hW) (fun _ => va_Nw.warmC hW) (fun _ => va_Nw.warmD hW) (fun _ h => word_at hW (Or.inl rfl) h)
theorem aG.same {J : JT} {A : Nat → Prop} {U : State} {H : Heap} {g : JFrame} {mk : MethodId} {a : Array Value} (h : aG J A U H) : aG J A (U.calling g mk a) H := h.moved0 (U := U.calling g mk a) (Vm.Alike.refl U.vm) (fun _ _ _ _ => vk_R.same rfl) (fun _ => va_Nw.same rfl rfl) (fun _ => va_Nw.same rfl rfl) (fun _ => va_Nw.same rfl rfl)
theorem aX.kept {J : JT} {A : Nat → Prop} {U : State} {H H1 : Heap} (h : aX J A U H) (hq : ∀ a : Nat, a < H.size → ¬ A a → H1[a]? = H[a]?) : aX J A U H1 := by
  have e := hq J.1.1 h.2.1 h.2.2
  refine ⟨h.1.kept e, ?_, h.2.2⟩
  obtain ⟨scr, h1, -⟩ := h.1
  rw [h1] at e
  exact (Array.getElem?_eq_some_iff.mp e).1
theorem aG.kept {J : JT} {A : Nat → Prop} {U : State} {H H1 : Heap} (h : aG J A U H) (hq : ∀ a : Nat, a < H.size → ¬ A a → H1[a]? = H[a]?) : aG J A U H1 :=
  ⟨⟨h.1.1.kept hq, h.1.2.kept hq⟩, h.2.1, h.2.2.1, h.2.2.2.1, h.2.2.2.2.1, h.2.2.2.2.2.1, fun q hx => (h.2.2.2.2.2.2.1 q hx).kept hq, h.2.2.2.2.2.2.2.1.kept hq, h.2.2.2.2.2.2.2.2.1.kept hq, h.2.2.2.2.2.2.2.2.2.1, h.2.2.2.2.2.2.2.2.2.2.1, h.2.2.2.2.2.2.2.2.2.2.2.1.kept hq, h.2.2.2.2.2.2.2.2.2.2.2.2⟩
theorem aG.narrow {J : JT} {A B : Nat → Prop} {U : State} {H : Heap} (h : aG J A U H) (hAB : ∀ q, B q → A q) : aG J B U H :=
  ⟨⟨h.1.1.narrow hAB, h.1.2.narrow hAB⟩, h.2.1, h.2.2.1, h.2.2.2.1, h.2.2.2.2.1, h.2.2.2.2.2.1, fun q hx => (h.2.2.2.2.2.2.1 q hx).narrow hAB, h.2.2.2.2.2.2.2.1.narrow hAB, h.2.2.2.2.2.2.2.2.1.narrow hAB, h.2.2.2.2.2.2.2.2.2.1, h.2.2.2.2.2.2.2.2.2.2.1, ⟨h.2.2.2.2.2.2.2.2.2.2.2.1.1, h.2.2.2.2.2.2.2.2.2.2.2.1.2.1, fun z => h.2.2.2.2.2.2.2.2.2.2.2.1.2.2 (hAB _ z)⟩, h.2.2.2.2.2.2.2.2.2.2.2.2⟩
def aPc (D : va_G) (J : JT) (tys : List (ClassId × FieldType)) (av : List Value) (w0 : va_W) (sz : Nat) : Array Value → State → Prop := va_Pc av (fun U => U.heap.size = sz ∧ va_P D vwCl w0 U.heap ∧ aU D tys U ∧ va_D (fun _ => True) w0 ∧ aG J (va_A w0 sz) U U.heap)
theorem aPc_blind {D : va_G} {J : JT} {tys : List (ClassId × FieldType)} {av : List Value} {w0 : va_W} {sz : Nat} : FrameBlind (aPc D J tys av w0 sz) := fun a U g mk q => by
  obtain ⟨q0, q1, qP, qU, qD, qG⟩ := q
  exact ⟨q0, q1, qP, qU.same, qD, qG.same⟩
def aB (D : va_G) (w0 w1 : va_W) (sz : Nat) (t : State) : Prop := va_P D vwCl w1 t.heap ∧ va_D (va_A w0 sz) w1
def aQi {ρ : Type} (D : va_G) (w0 : va_W) (sz : Nat) (gv : ρ → Int32) (gw : ρ → va_W) (res : ρ) : Array Value → State → Outcome → State → Prop := va_Qi (fun r (_ : Unit) => r = gv res) (fun _ t => aB D w0 (gw res) sz t) (va_A w0 sz)
def aQv {ρ : Type} (D : va_G) (w0 : va_W) (sz : Nat) (gw : ρ → va_W) (res : ρ) : Array Value → State → Outcome → State → Prop := va_Qv (fun (_ : Unit) => True) (fun _ t => aB D w0 (gw res) sz t) (va_A w0 sz)
def aKi {ρ : Type} (l : Launch) (y : MethodName) (wy : List Cond) (rm : Room) (D : va_G) (J : JT) (tys : List (ClassId × FieldType)) (av : List Value) (w0 : va_W) (gv : ρ → Int32) (gw : ρ → va_W) (res : ρ) : Prop := ∀ sz : Nat, Met l y wy rm (aPc D J tys av w0 sz) (aQi D w0 sz gv gw res) 0 0 (va_A w0 sz)
def aKv {ρ : Type} (l : Launch) (y : MethodName) (wy : List Cond) (rm : Room) (D : va_G) (J : JT) (tys : List (ClassId × FieldType)) (av : List Value) (w0 : va_W) (gw : ρ → va_W) (res : ρ) : Prop := ∀ sz : Nat, Met l y wy rm (aPc D J tys av w0 sz) (aQv D w0 sz gw res) 0 0 (va_A w0 sz)
def aC (p : Program) (s : State) (m : MethodId) (args : Array Value) (meth : Method) (c : Code) (cc : ByteArray) (nL : Nat) (own : String) (Ts : List Cond) (D : va_G) (J : JT) (tys : List (ClassId × FieldType)) (A : Nat → Prop) : Prop := CallFix p m c cc nL s args Ts own ∧ aU D tys s ∧ meth.locks = false ∧ (∀ q : Nat, s.heap.size ≤ q → A q) ∧ aG J A s s.heap
def aT (p : Program) (l : Launch) (e : Env) (R : Room) (s : State) (m : MethodId) (args : Array Value) (below : List Frame) (meth : Method) (c : Code) (Q : State → Prop) (D : va_G) (A : Nat → Prop) (nL k n pc : Nat) (lv : List (Nat × Value)) (st : List Value) (ws : va_W) : Prop := ∀ (H : Heap) (locs : List Loc) (ls : Array Slot), va_P D vwCl ws H → va_D A ws → va_S A s.heap H locs → lv_has ls nL lv → W p l e R s m args below meth c H locs k n Q (F0 m pc ls st)
/-! partial steps: a load or store at an index in its row, a char that fits -/
def ldi (f : Nat → Int32) (N : Nat) (i : Int32) : Option Int32 := if i < 0 ∨ N ≤ i.toNatClampNeg then none else some (f i.toNatClampNeg)
def ldc (f : Nat → Int32) (N : Nat) (i : Int32) : Option Int32 := if i < 0 ∨ N ≤ i.toNatClampNeg then none else some (f i.toNatClampNeg)
def sti (f : Nat → Int32) (N : Nat) (i x : Int32) : Option (Nat → Int32) := if i < 0 ∨ N ≤ i.toNatClampNeg then none else some (upd f i.toNatClampNeg x)
def stc (f : Nat → Int32) (N : Nat) (i x : Int32) : Option (Nat → Int32) := if i < 0 ∨ N ≤ i.toNatClampNeg then none else some (upd f i.toNatClampNeg (vp_nar .char x))
def rz (x : Int32) : Option Int32 := if x = 0 ∨ x = 1 then some x else none
def rc (x : Int32) : Option Int32 := if vp_nar .char x = x then some x else none
theorem bd {α β : Type} {x : Option α} {f : α → Option β} {o : β} (h : x.bind f = some o) : ∃ a, x = some a ∧ f a = some o := by
  cases x with
  | none => cases h
  | some a => exact ⟨a, rfl, h⟩
theorem chk {α : Type} {q : Prop} {d : Decidable q} {a x : α} (h : (if q then none else some a) = some x) : ¬ q ∧ x = a := by
  by_cases hq : q
  · rw [if_pos hq] at h; cases h
  · rw [if_neg hq] at h; exact ⟨hq, (Option.some.inj h).symm⟩
theorem chk2 {α : Type} {q : Prop} {d : Decidable q} {a x : α} (h : (if q then some a else none) = some x) : q ∧ x = a := by
  by_cases hq : q
  · rw [if_pos hq] at h; exact ⟨hq, (Option.some.inj h).symm⟩
  · rw [if_neg hq] at h; cases h
def ush (x y : Int32) : Int32 := (x.toUInt32 >>> (y.toUInt32 &&& Int32.toUInt32 31)).toInt32
section AR
variable {p : Program} {l : Launch} {e : Env} {R : Room} {s : State} {m : MethodId} {args : Array Value} {below : List Frame} {meth : Method} {c : Code} {Q : State → Prop} {D : va_G} {J : JT} {tys : List (ClassId × FieldType)} {A : Nat → Prop} {nL k n : Nat} {cc : ByteArray} {own : String} {pc : Nat} {lv : List (Nat × Value)} {st : List Value} {ws : va_W}
theorem a_iconst (C : aC p s m args meth c cc nL own WW D J tys A) {z : Int} {v : Int32} (hdg : decode cc pc = .ok (.iconst z, 1)) (hv : Int32.ofInt z = v) (kk : aT p l e R s m args below meth c Q D A nL k n (pc + 1) lv (.int v :: st) ws) : aT p l e R s m args below meth c Q D A nL k n pc lv (st) ws := fun H locs ls hP hD hS hl => lv_iconst C.1.1 C.1.2.1 hdg hv (kk H locs ls hP hD hS hl)
theorem a_bipush (C : aC p s m args meth c cc nL own WW D J tys A) {z : Int} {v : Int32} (hdg : decode cc pc = .ok (.bipush z, 2)) (hv : (Int8.ofInt z).toInt32 = v) (kk : aT p l e R s m args below meth c Q D A nL k n (pc + 2) lv (.int v :: st) ws) : aT p l e R s m args below meth c Q D A nL k n pc lv (st) ws := fun H locs ls hP hD hS hl => lv_bipush C.1.1 C.1.2.1 hdg hv (kk H locs ls hP hD hS hl)
theorem a_sipush (C : aC p s m args meth c cc nL own WW D J tys A) {z : Int} {v : Int32} (hdg : decode cc pc = .ok (.sipush z, 3)) (hv : (Int16.ofInt z).toInt32 = v) (kk : aT p l e R s m args below meth c Q D A nL k n (pc + 3) lv (.int v :: st) ws) : aT p l e R s m args below meth c Q D A nL k n pc lv (st) ws := fun H locs ls hP hD hS hl => lv_sipush C.1.1 C.1.2.1 hdg hv (kk H locs ls hP hD hS hl)
theorem a_iadd (C : aC p s m args meth c cc nL own WW D J tys A) {x y : Int32} (hdg : decode cc pc = .ok (.iadd, 1))  (kk : aT p l e R s m args below meth c Q D A nL k n (pc + 1) lv (.int (x + y) :: st) ws) : aT p l e R s m args below meth c Q D A nL k n pc lv (.int y :: .int x :: st) ws := fun H locs ls hP hD hS hl => lv_iadd C.1.1 C.1.2.1 hdg  (kk H locs ls hP hD hS hl)
theorem a_isub (C : aC p s m args meth c cc nL own WW D J tys A) {x y : Int32} (hdg : decode cc pc = .ok (.isub, 1))  (kk : aT p l e R s m args below meth c Q D A nL k n (pc + 1) lv (.int (x - y) :: st) ws) : aT p l e R s m args below meth c Q D A nL k n pc lv (.int y :: .int x :: st) ws := fun H locs ls hP hD hS hl => lv_isub C.1.1 C.1.2.1 hdg  (kk H locs ls hP hD hS hl)
theorem a_imul (C : aC p s m args meth c cc nL own WW D J tys A) {x y : Int32} (hdg : decode cc pc = .ok (.imul, 1))  (kk : aT p l e R s m args below meth c Q D A nL k n (pc + 1) lv (.int (x * y) :: st) ws) : aT p l e R s m args below meth c Q D A nL k n pc lv (.int y :: .int x :: st) ws := fun H locs ls hP hD hS hl => lv_imul C.1.1 C.1.2.1 hdg  (kk H locs ls hP hD hS hl)
theorem a_iand (C : aC p s m args meth c cc nL own WW D J tys A) {x y : Int32} (hdg : decode cc pc = .ok (.iand, 1))  (kk : aT p l e R s m args below meth c Q D A nL k n (pc + 1) lv (.int (x &&& y) :: st) ws) : aT p l e R s m args below meth c Q D A nL k n pc lv (.int y :: .int x :: st) ws := fun H locs ls hP hD hS hl => lv_iand C.1.1 C.1.2.1 hdg  (kk H locs ls hP hD hS hl)
theorem a_ior (C : aC p s m args meth c cc nL own WW D J tys A) {x y : Int32} (hdg : decode cc pc = .ok (.ior, 1))  (kk : aT p l e R s m args below meth c Q D A nL k n (pc + 1) lv (.int (x ||| y) :: st) ws) : aT p l e R s m args below meth c Q D A nL k n pc lv (.int y :: .int x :: st) ws := fun H locs ls hP hD hS hl => lv_ior C.1.1 C.1.2.1 hdg  (kk H locs ls hP hD hS hl)
theorem a_ixor (C : aC p s m args meth c cc nL own WW D J tys A) {x y : Int32} (hdg : decode cc pc = .ok (.ixor, 1))  (kk : aT p l e R s m args below meth c Q D A nL k n (pc + 1) lv (.int (x ^^^ y) :: st) ws) : aT p l e R s m args below meth c Q D A nL k n pc lv (.int y :: .int x :: st) ws := fun H locs ls hP hD hS hl => lv_ixor C.1.1 C.1.2.1 hdg  (kk H locs ls hP hD hS hl)
theorem a_idiv (C : aC p s m args meth c cc nL own WW D J tys A) {x y : Int32} (hdg : decode cc pc = .ok (.idiv, 1)) (hne : ¬ y = 0) (kk : aT p l e R s m args below meth c Q D A nL k n (pc + 1) lv (.int (x / y) :: st) ws) : aT p l e R s m args below meth c Q D A nL k n pc lv (.int y :: .int x :: st) ws := fun H locs ls hP hD hS hl => lv_idiv C.1.1 C.1.2.1 hdg hne (kk H locs ls hP hD hS hl)
theorem a_irem (C : aC p s m args meth c cc nL own WW D J tys A) {x y : Int32} (hdg : decode cc pc = .ok (.irem, 1)) (hne : ¬ y = 0) (kk : aT p l e R s m args below meth c Q D A nL k n (pc + 1) lv (.int (x - x / y * y) :: st) ws) : aT p l e R s m args below meth c Q D A nL k n pc lv (.int y :: .int x :: st) ws := fun H locs ls hP hD hS hl => lv_irem C.1.1 C.1.2.1 hdg hne (kk H locs ls hP hD hS hl)
theorem a_ineg (C : aC p s m args meth c cc nL own WW D J tys A) {x : Int32} (hdg : decode cc pc = .ok (.ineg, 1))  (kk : aT p l e R s m args below meth c Q D A nL k n (pc + 1) lv (.int (-x) :: st) ws) : aT p l e R s m args below meth c Q D A nL k n pc lv (.int x :: st) ws := fun H locs ls hP hD hS hl => lv_ineg C.1.1 C.1.2.1 hdg  (kk H locs ls hP hD hS hl)
theorem a_ishl (C : aC p s m args meth c cc nL own WW D J tys A) {x y : Int32} (hdg : decode cc pc = .ok (.ishl, 1))  (kk : aT p l e R s m args below meth c Q D A nL k n (pc + 1) lv (.int (x <<< (y &&& 31)) :: st) ws) : aT p l e R s m args below meth c Q D A nL k n pc lv (.int y :: .int x :: st) ws := fun H locs ls hP hD hS hl => lv_ishl C.1.1 C.1.2.1 hdg  (kk H locs ls hP hD hS hl)
theorem a_iushr (C : aC p s m args meth c cc nL own WW D J tys A) {x y : Int32} (hdg : decode cc pc = .ok (.iushr, 1))  (kk : aT p l e R s m args below meth c Q D A nL k n (pc + 1) lv (.int (ush x y) :: st) ws) : aT p l e R s m args below meth c Q D A nL k n pc lv (.int y :: .int x :: st) ws := fun H locs ls hP hD hS hl => lv_iushr C.1.1 C.1.2.1 hdg rfl (kk H locs ls hP hD hS hl)
theorem a_i2c (C : aC p s m args meth c cc nL own WW D J tys A) {x : Int32} (hdg : decode cc pc = .ok (.i2c, 1))  (kk : aT p l e R s m args below meth c Q D A nL k n (pc + 1) lv (.int (x.toUInt32 % 65536).toInt32 :: st) ws) : aT p l e R s m args below meth c Q D A nL k n pc lv (.int x :: st) ws := fun H locs ls hP hD hS hl => lv_i2c C.1.1 C.1.2.1 hdg rfl (kk H locs ls hP hD hS hl)
theorem a_dup (C : aC p s m args meth c cc nL own WW D J tys A) {va : Value} (hdg : decode cc pc = .ok (.dup, 1)) (hva : va.category = 1) (kk : aT p l e R s m args below meth c Q D A nL k n (pc + 1) lv (va :: va :: st) ws) : aT p l e R s m args below meth c Q D A nL k n pc lv (va :: st) ws := fun H locs ls hP hD hS hl => lv_dup C.1.1 C.1.2.1 hdg hva (kk H locs ls hP hD hS hl)
theorem a_pop (C : aC p s m args meth c cc nL own WW D J tys A) {va : Value} (hdg : decode cc pc = .ok (.pop, 1)) (hva : va.category = 1) (kk : aT p l e R s m args below meth c Q D A nL k n (pc + 1) lv (st) ws) : aT p l e R s m args below meth c Q D A nL k n pc lv (va :: st) ws := fun H locs ls hP hD hS hl => lv_pop C.1.1 C.1.2.1 hdg hva (kk H locs ls hP hD hS hl)
theorem a_dup2 (C : aC p s m args meth c cc nL own WW D J tys A) {va vb : Value} (hdg : decode cc pc = .ok (.dup2, 1)) (hva : va.category = 1) (hvb : vb.category = 1) (kk : aT p l e R s m args below meth c Q D A nL k n (pc + 1) lv (va :: vb :: va :: vb :: st) ws) : aT p l e R s m args below meth c Q D A nL k n pc lv (va :: vb :: st) ws := fun H locs ls hP hD hS hl => lv_dup2_11 C.1.1 C.1.2.1 hdg hva hvb (kk H locs ls hP hD hS hl)
theorem a_iload_n (C : aC p s m args meth c cc nL own WW D J tys A) {j : Fin 4} {i : Nat} {x : Int32} (q : Nat) (hdg : decode cc pc = .ok (.iload_n j, 1)) (hi : (j : Nat) = i) (hk : lv[q]? = some (i, .int x)) (kk : aT p l e R s m args below meth c Q D A nL k n (pc + 1) lv (.int x :: st) ws) : aT p l e R s m args below meth c Q D A nL k n pc lv st ws := fun H locs ls hP hD hS hl => lv_iload_n C.1.1 C.1.2.1 hdg hi (lv_at hl q hk) (kk H locs ls hP hD hS hl)
theorem a_iload (C : aC p s m args meth c cc nL own WW D J tys A) {i : Nat} {x : Int32} (q : Nat) (hdg : decode cc pc = .ok (.iload i, 2)) (hk : lv[q]? = some (i, .int x)) (kk : aT p l e R s m args below meth c Q D A nL k n (pc + 2) lv (.int x :: st) ws) : aT p l e R s m args below meth c Q D A nL k n pc lv st ws := fun H locs ls hP hD hS hl => lv_iload C.1.1 C.1.2.1 hdg (lv_at hl q hk) (kk H locs ls hP hD hS hl)
theorem a_istore_n (C : aC p s m args meth c cc nL own WW D J tys A) {j : Fin 4} {i : Nat} {x : Int32} (lv' : List (Nat × Value)) (hdg : decode cc pc = .ok (.istore_n j, 1)) (hi : (j : Nat) = i) (hn : i < nL) (hl0 : (i, Value.int x) :: lv.filter (fun q => !(q.1 == i) && !(q.1 + 1 == i && q.2.category == 2)) = lv') (kk : aT p l e R s m args below meth c Q D A nL k n (pc + 1) lv' st ws) : aT p l e R s m args below meth c Q D A nL k n pc lv (.int x :: st) ws := fun H locs ls hP hD hS hl => lv_istore_n C.1.1 C.1.2.1 hdg hi hl hn hl0 (fun ls hl => kk H locs ls hP hD hS hl)
theorem a_istore (C : aC p s m args meth c cc nL own WW D J tys A) {i : Nat} {x : Int32} (lv' : List (Nat × Value)) (hdg : decode cc pc = .ok (.istore i, 2)) (hn : i < nL) (hl0 : (i, Value.int x) :: lv.filter (fun q => !(q.1 == i) && !(q.1 + 1 == i && q.2.category == 2)) = lv') (kk : aT p l e R s m args below meth c Q D A nL k n (pc + 2) lv' st ws) : aT p l e R s m args below meth c Q D A nL k n pc lv (.int x :: st) ws := fun H locs ls hP hD hS hl => lv_istore C.1.1 C.1.2.1 hdg hl hn hl0 (fun ls hl => kk H locs ls hP hD hS hl)
theorem a_aload_n (C : aC p s m args meth c cc nL own WW D J tys A) {j : Fin 4} {i : Nat} {x : Nat} (q : Nat) (hdg : decode cc pc = .ok (.aload_n j, 1)) (hi : (j : Nat) = i) (hk : lv[q]? = some (i, .ref x)) (kk : aT p l e R s m args below meth c Q D A nL k n (pc + 1) lv (.ref x :: st) ws) : aT p l e R s m args below meth c Q D A nL k n pc lv st ws := fun H locs ls hP hD hS hl => lv_aload_n C.1.1 C.1.2.1 hdg hi (lv_at hl q hk) (kk H locs ls hP hD hS hl)
theorem a_aload (C : aC p s m args meth c cc nL own WW D J tys A) {i : Nat} {x : Nat} (q : Nat) (hdg : decode cc pc = .ok (.aload i, 2)) (hk : lv[q]? = some (i, .ref x)) (kk : aT p l e R s m args below meth c Q D A nL k n (pc + 2) lv (.ref x :: st) ws) : aT p l e R s m args below meth c Q D A nL k n pc lv st ws := fun H locs ls hP hD hS hl => lv_aload C.1.1 C.1.2.1 hdg (lv_at hl q hk) (kk H locs ls hP hD hS hl)
theorem a_astore_n (C : aC p s m args meth c cc nL own WW D J tys A) {j : Fin 4} {i : Nat} {x : Nat} (lv' : List (Nat × Value)) (hdg : decode cc pc = .ok (.astore_n j, 1)) (hi : (j : Nat) = i) (hn : i < nL) (hl0 : (i, Value.ref x) :: lv.filter (fun q => !(q.1 == i) && !(q.1 + 1 == i && q.2.category == 2)) = lv') (kk : aT p l e R s m args below meth c Q D A nL k n (pc + 1) lv' st ws) : aT p l e R s m args below meth c Q D A nL k n pc lv (.ref x :: st) ws := fun H locs ls hP hD hS hl => lv_astore_n C.1.1 C.1.2.1 hdg hi hl hn hl0 (fun ls hl => kk H locs ls hP hD hS hl)
theorem a_astore (C : aC p s m args meth c cc nL own WW D J tys A) {i : Nat} {x : Nat} (lv' : List (Nat × Value)) (hdg : decode cc pc = .ok (.astore i, 2)) (hn : i < nL) (hl0 : (i, Value.ref x) :: lv.filter (fun q => !(q.1 == i) && !(q.1 + 1 == i && q.2.category == 2)) = lv') (kk : aT p l e R s m args below meth c Q D A nL k n (pc + 2) lv' st ws) : aT p l e R s m args below meth c Q D A nL k n pc lv (.ref x :: st) ws := fun H locs ls hP hD hS hl => lv_astore C.1.1 C.1.2.1 hdg hl hn hl0 (fun ls hl => kk H locs ls hP hD hS hl)
theorem a_iinc (C : aC p s m args meth c cc nL own WW D J tys A) {i : Nat} {z : Int} {x v : Int32} (q : Nat) (lv' : List (Nat × Value)) (hdg : decode cc pc = .ok (.iinc i z, 3)) (hk : lv[q]? = some (i, .int x)) (hv : x + Int32.ofInt z = v) (hn : i < nL) (hl0 : (i, Value.int v) :: lv.filter (fun q => !(q.1 == i) && !(q.1 + 1 == i && q.2.category == 2)) = lv') (kk : aT p l e R s m args below meth c Q D A nL k n (pc + 3) lv' st ws) : aT p l e R s m args below meth c Q D A nL k n pc lv st ws := fun H locs ls hP hD hS hl => lv_iinc C.1.1 C.1.2.1 hdg hl hk hv hn hl0 (fun ls hl => kk H locs ls hP hD hS hl)
theorem a_goto (C : aC p s m args meth c cc nL own WW D J tys A) {off : Int} {tgt : Nat} (hdg : decode cc pc = .ok (.goto off, 3)) (ht : (pc : Int) + off = (tgt : Int)) (kk : aT p l e R s m args below meth c Q D A nL k n tgt lv st ws) : aT p l e R s m args below meth c Q D A nL k n pc lv st ws := fun H locs ls hP hD hS hl => lv_goto C.1.1 C.1.2.1 hdg ht (kk H locs ls hP hD hS hl)
theorem a_sub (C : aC p s m args meth c cc nL own WW D J tys A) (qs : List Nat) (lv' : List (Nat × Value)) (hl0 : lv_pick lv qs = lv') (kk : aT p l e R s m args below meth c Q D A nL k n pc lv' st ws) : aT p l e R s m args below meth c Q D A nL k n pc lv st ws := fun H locs ls hP hD hS hl => kk H locs ls hP hD hS (lv_sub hl qs hl0)
theorem a_if_eq (C : aC p s m args meth c cc nL own WW D J tys A) {x : Int32} {off : Int} {tgt : Nat} {α : Type} {o : α} {f g : Option α} {d : Decidable (x = 0)} (hdg : decode cc pc = .ok (.ifCond .eq off, 3)) (ht : (pc : Int) + off = (tgt : Int)) (hF : (if x = 0 then f else g) = some o) (kt : x = 0 → f = some o → aT p l e R s m args below meth c Q D A nL k n tgt lv st ws) (kf : ¬ (x = 0) → g = some o → aT p l e R s m args below meth c Q D A nL k n (pc + 3) lv st ws) : aT p l e R s m args below meth c Q D A nL k n pc lv (.int x :: st) ws := fun H locs ls hP hD hS hl => lv_if_eq C.1.1 C.1.2.1 hdg ht (fun h => kt h ((if_pos h).symm.trans hF) H locs ls hP hD hS hl) (fun h => kf h ((if_neg h).symm.trans hF) H locs ls hP hD hS hl)
theorem a_ic_eq (C : aC p s m args meth c cc nL own WW D J tys A) {x y : Int32} {off : Int} {tgt : Nat} {α : Type} {o : α} {f g : Option α} {d : Decidable (x = y)} (hdg : decode cc pc = .ok (.if_icmp .eq off, 3)) (ht : (pc : Int) + off = (tgt : Int)) (hF : (if x = y then f else g) = some o) (kt : x = y → f = some o → aT p l e R s m args below meth c Q D A nL k n tgt lv st ws) (kf : ¬ (x = y) → g = some o → aT p l e R s m args below meth c Q D A nL k n (pc + 3) lv st ws) : aT p l e R s m args below meth c Q D A nL k n pc lv (.int y :: .int x :: st) ws := fun H locs ls hP hD hS hl => lv_icmp_eq C.1.1 C.1.2.1 hdg ht (fun h => kt h ((if_pos h).symm.trans hF) H locs ls hP hD hS hl) (fun h => kf h ((if_neg h).symm.trans hF) H locs ls hP hD hS hl)
theorem a_if_ne (C : aC p s m args meth c cc nL own WW D J tys A) {x : Int32} {off : Int} {tgt : Nat} {α : Type} {o : α} {f g : Option α} {d : Decidable (¬ x = 0)} (hdg : decode cc pc = .ok (.ifCond .ne off, 3)) (ht : (pc : Int) + off = (tgt : Int)) (hF : (if ¬ x = 0 then f else g) = some o) (kt : ¬ x = 0 → f = some o → aT p l e R s m args below meth c Q D A nL k n tgt lv st ws) (kf : ¬ (¬ x = 0) → g = some o → aT p l e R s m args below meth c Q D A nL k n (pc + 3) lv st ws) : aT p l e R s m args below meth c Q D A nL k n pc lv (.int x :: st) ws := fun H locs ls hP hD hS hl => lv_if_ne C.1.1 C.1.2.1 hdg ht (fun h => kt h ((if_pos h).symm.trans hF) H locs ls hP hD hS hl) (fun h => kf (fun h9 => h9 h) ((if_neg (fun h9 => h9 h)).symm.trans hF) H locs ls hP hD hS hl)
theorem a_ic_ne (C : aC p s m args meth c cc nL own WW D J tys A) {x y : Int32} {off : Int} {tgt : Nat} {α : Type} {o : α} {f g : Option α} {d : Decidable (¬ x = y)} (hdg : decode cc pc = .ok (.if_icmp .ne off, 3)) (ht : (pc : Int) + off = (tgt : Int)) (hF : (if ¬ x = y then f else g) = some o) (kt : ¬ x = y → f = some o → aT p l e R s m args below meth c Q D A nL k n tgt lv st ws) (kf : ¬ (¬ x = y) → g = some o → aT p l e R s m args below meth c Q D A nL k n (pc + 3) lv st ws) : aT p l e R s m args below meth c Q D A nL k n pc lv (.int y :: .int x :: st) ws := fun H locs ls hP hD hS hl => lv_icmp_ne C.1.1 C.1.2.1 hdg ht (fun h => kt h ((if_pos h).symm.trans hF) H locs ls hP hD hS hl) (fun h => kf (fun h9 => h9 h) ((if_neg (fun h9 => h9 h)).symm.trans hF) H locs ls hP hD hS hl)
theorem a_if_lt (C : aC p s m args meth c cc nL own WW D J tys A) {x : Int32} {off : Int} {tgt : Nat} {α : Type} {o : α} {f g : Option α} {d : Decidable (x < 0)} (hdg : decode cc pc = .ok (.ifCond .lt off, 3)) (ht : (pc : Int) + off = (tgt : Int)) (hF : (if x < 0 then f else g) = some o) (kt : x < 0 → f = some o → aT p l e R s m args below meth c Q D A nL k n tgt lv st ws) (kf : ¬ (x < 0) → g = some o → aT p l e R s m args below meth c Q D A nL k n (pc + 3) lv st ws) : aT p l e R s m args below meth c Q D A nL k n pc lv (.int x :: st) ws := fun H locs ls hP hD hS hl => lv_if_lt C.1.1 C.1.2.1 hdg ht (fun h => kt h ((if_pos h).symm.trans hF) H locs ls hP hD hS hl) (fun h => kf h ((if_neg h).symm.trans hF) H locs ls hP hD hS hl)
theorem a_ic_lt (C : aC p s m args meth c cc nL own WW D J tys A) {x y : Int32} {off : Int} {tgt : Nat} {α : Type} {o : α} {f g : Option α} {d : Decidable (x < y)} (hdg : decode cc pc = .ok (.if_icmp .lt off, 3)) (ht : (pc : Int) + off = (tgt : Int)) (hF : (if x < y then f else g) = some o) (kt : x < y → f = some o → aT p l e R s m args below meth c Q D A nL k n tgt lv st ws) (kf : ¬ (x < y) → g = some o → aT p l e R s m args below meth c Q D A nL k n (pc + 3) lv st ws) : aT p l e R s m args below meth c Q D A nL k n pc lv (.int y :: .int x :: st) ws := fun H locs ls hP hD hS hl => lv_icmp_lt C.1.1 C.1.2.1 hdg ht (fun h => kt h ((if_pos h).symm.trans hF) H locs ls hP hD hS hl) (fun h => kf h ((if_neg h).symm.trans hF) H locs ls hP hD hS hl)
theorem a_if_ge (C : aC p s m args meth c cc nL own WW D J tys A) {x : Int32} {off : Int} {tgt : Nat} {α : Type} {o : α} {f g : Option α} {d : Decidable (0 ≤ x)} (hdg : decode cc pc = .ok (.ifCond .ge off, 3)) (ht : (pc : Int) + off = (tgt : Int)) (hF : (if 0 ≤ x then f else g) = some o) (kt : 0 ≤ x → f = some o → aT p l e R s m args below meth c Q D A nL k n tgt lv st ws) (kf : ¬ (0 ≤ x) → g = some o → aT p l e R s m args below meth c Q D A nL k n (pc + 3) lv st ws) : aT p l e R s m args below meth c Q D A nL k n pc lv (.int x :: st) ws := fun H locs ls hP hD hS hl => lv_if_ge C.1.1 C.1.2.1 hdg ht (fun h => kt h ((if_pos h).symm.trans hF) H locs ls hP hD hS hl) (fun h => kf h ((if_neg h).symm.trans hF) H locs ls hP hD hS hl)
theorem a_ic_ge (C : aC p s m args meth c cc nL own WW D J tys A) {x y : Int32} {off : Int} {tgt : Nat} {α : Type} {o : α} {f g : Option α} {d : Decidable (y ≤ x)} (hdg : decode cc pc = .ok (.if_icmp .ge off, 3)) (ht : (pc : Int) + off = (tgt : Int)) (hF : (if y ≤ x then f else g) = some o) (kt : y ≤ x → f = some o → aT p l e R s m args below meth c Q D A nL k n tgt lv st ws) (kf : ¬ (y ≤ x) → g = some o → aT p l e R s m args below meth c Q D A nL k n (pc + 3) lv st ws) : aT p l e R s m args below meth c Q D A nL k n pc lv (.int y :: .int x :: st) ws := fun H locs ls hP hD hS hl => lv_icmp_ge C.1.1 C.1.2.1 hdg ht (fun h => kt h ((if_pos h).symm.trans hF) H locs ls hP hD hS hl) (fun h => kf h ((if_neg h).symm.trans hF) H locs ls hP hD hS hl)
theorem a_if_gt (C : aC p s m args meth c cc nL own WW D J tys A) {x : Int32} {off : Int} {tgt : Nat} {α : Type} {o : α} {f g : Option α} {d : Decidable (0 < x)} (hdg : decode cc pc = .ok (.ifCond .gt off, 3)) (ht : (pc : Int) + off = (tgt : Int)) (hF : (if 0 < x then f else g) = some o) (kt : 0 < x → f = some o → aT p l e R s m args below meth c Q D A nL k n tgt lv st ws) (kf : ¬ (0 < x) → g = some o → aT p l e R s m args below meth c Q D A nL k n (pc + 3) lv st ws) : aT p l e R s m args below meth c Q D A nL k n pc lv (.int x :: st) ws := fun H locs ls hP hD hS hl => lv_if_gt C.1.1 C.1.2.1 hdg ht (fun h => kt h ((if_pos h).symm.trans hF) H locs ls hP hD hS hl) (fun h => kf h ((if_neg h).symm.trans hF) H locs ls hP hD hS hl)
theorem a_ic_gt (C : aC p s m args meth c cc nL own WW D J tys A) {x y : Int32} {off : Int} {tgt : Nat} {α : Type} {o : α} {f g : Option α} {d : Decidable (y < x)} (hdg : decode cc pc = .ok (.if_icmp .gt off, 3)) (ht : (pc : Int) + off = (tgt : Int)) (hF : (if y < x then f else g) = some o) (kt : y < x → f = some o → aT p l e R s m args below meth c Q D A nL k n tgt lv st ws) (kf : ¬ (y < x) → g = some o → aT p l e R s m args below meth c Q D A nL k n (pc + 3) lv st ws) : aT p l e R s m args below meth c Q D A nL k n pc lv (.int y :: .int x :: st) ws := fun H locs ls hP hD hS hl => lv_icmp_gt C.1.1 C.1.2.1 hdg ht (fun h => kt h ((if_pos h).symm.trans hF) H locs ls hP hD hS hl) (fun h => kf h ((if_neg h).symm.trans hF) H locs ls hP hD hS hl)
theorem a_if_le (C : aC p s m args meth c cc nL own WW D J tys A) {x : Int32} {off : Int} {tgt : Nat} {α : Type} {o : α} {f g : Option α} {d : Decidable (x ≤ 0)} (hdg : decode cc pc = .ok (.ifCond .le off, 3)) (ht : (pc : Int) + off = (tgt : Int)) (hF : (if x ≤ 0 then f else g) = some o) (kt : x ≤ 0 → f = some o → aT p l e R s m args below meth c Q D A nL k n tgt lv st ws) (kf : ¬ (x ≤ 0) → g = some o → aT p l e R s m args below meth c Q D A nL k n (pc + 3) lv st ws) : aT p l e R s m args below meth c Q D A nL k n pc lv (.int x :: st) ws := fun H locs ls hP hD hS hl => lv_if_le C.1.1 C.1.2.1 hdg ht (fun h => kt h ((if_pos h).symm.trans hF) H locs ls hP hD hS hl) (fun h => kf h ((if_neg h).symm.trans hF) H locs ls hP hD hS hl)
theorem a_ic_le (C : aC p s m args meth c cc nL own WW D J tys A) {x y : Int32} {off : Int} {tgt : Nat} {α : Type} {o : α} {f g : Option α} {d : Decidable (x ≤ y)} (hdg : decode cc pc = .ok (.if_icmp .le off, 3)) (ht : (pc : Int) + off = (tgt : Int)) (hF : (if x ≤ y then f else g) = some o) (kt : x ≤ y → f = some o → aT p l e R s m args below meth c Q D A nL k n tgt lv st ws) (kf : ¬ (x ≤ y) → g = some o → aT p l e R s m args below meth c Q D A nL k n (pc + 3) lv st ws) : aT p l e R s m args below meth c Q D A nL k n pc lv (.int y :: .int x :: st) ws := fun H locs ls hP hD hS hl => lv_icmp_le C.1.1 C.1.2.1 hdg ht (fun h => kt h ((if_pos h).symm.trans hF) H locs ls hP hD hS hl) (fun h => kf h ((if_neg h).symm.trans hF) H locs ls hP hD hS hl)
theorem a_get (C : aC p s m args meth c cc nL own WW D J tys A) {idx : Nat} {C1 : String} {T1 : u_T} {N1 ci a : Nat} {fs : List Value} {v : Value} (q0 j : Nat) (hin : ∀ w ∈ u_ws C1 T1 N1, w ∈ WW) (hc : vwCl[ci]? = some (C1, T1, N1)) (he : ws[q0]? = some (a, .inr (ci, fs))) (hk : j < N1) (hlink : Cond.fieldLink own idx (T1 j).1 (T1 j).2.1 (T1 j).2.2.1 ∈ WW) (hv : fs[j]? = some v) (hdg : decode cc pc = .ok (.getfield idx, 3)) (kk : aT p l e R s m args below meth c Q D A nL k n (pc + 3) lv (v :: st) ws) : aT p l e R s m args below meth c Q D A nL k n pc lv (.ref a :: st) ws := fun H locs ls hP hD hS hl => va_get C.1.1 C.1.2.1 C.1.2.2.2.2 hin C.1.2.2.2.1 C.2.1.1 hP q0 he hc j hk (C.1.2.2.2.2 _ hlink) (fun _ h => h) hv hdg (kk H locs ls hP hD hS hl)
theorem a_put (C : aC p s m args meth c cc nL own WW D J tys A) {idx : Nat} {C1 : String} {T1 : u_T} {N1 ci a : Nat} {fs : List Value} {v : Value} {ty0 : Nat → FieldType} (q0 j : Nat) (hin : ∀ w ∈ u_ws C1 T1 N1, w ∈ WW) (hty : ∀ k, k < N1 → parseFieldDescriptor (T1 k).2.2.1 = some (ty0 k)) (hnm : ∀ a, a < N1 → ∀ b, b < N1 → a ≠ b → (T1 a).2.1 ≠ (T1 b).2.1) (hc : vwCl[ci]? = some (C1, T1, N1)) (he : ws[q0]? = some (a, .inr (ci, fs))) (hk : j < N1) (hlink : Cond.fieldLink own idx (T1 j).1 (T1 j).2.1 (T1 j).2.2.1 ∈ WW) (hfin : (T1 j).2.2.2 = false) (hn : narrow (ty0 j) v = v) (hfit : fits (ty0 j) v = true) (hl0 : j < fs.length) (hdg : decode cc pc = .ok (.putfield idx, 3)) (kk : aT p l e R s m args below meth c Q D A nL k n (pc + 3) lv st (ws.set q0 (a, .inr (ci, fs.set j v)))) : aT p l e R s m args below meth c Q D A nL k n pc lv (v :: .ref a :: st) ws := fun H locs ls hP hD hS hl => va_put C.1.1 C.1.2.1 C.1.2.2.2.2 hin ty0 hty hnm C.1.2.2.2.1 C.2.1.1 hP hD hS q0 he hc j hk (C.1.2.2.2.2 _ hlink) (fun _ h => h) hfin (hty j hk) hn hfit hl0 hdg (fun H1 locs1 hP hD hS => kk H1 locs1 ls hP hD hS hl)
theorem a_iald (C : aC p s m args meth c cc nL own WW D J tys A) {a : Nat} {cA : ClassId} {N : Nat} {f : Nat → Int32} {i : Int32} {α : Type} {o : α} {kf : Int32 → Option α} (q0 t0 : Nat) (ha : ws[q0]? = some (a, .inl (cA, N, .inl f))) (ht : tys[t0]? = some (cA, .int)) (hdg : decode cc pc = .ok (.iaload, 1)) (hF : (ldi f N i).bind kf = some o) (kk : ∀ x, ldi f N i = some x → kf x = some o → aT p l e R s m args below meth c Q D A nL k n (pc + 1) lv (.int x :: st) ws) : aT p l e R s m args below meth c Q D A nL k n pc lv (.int i :: .ref a :: st) ws := by
  obtain ⟨x, h1, hF⟩ := bd hF
  obtain ⟨hi, hx⟩ := chk h1
  intro H locs ls hP hD hS hl
  have h2 := kk x h1 hF H locs ls hP hD hS hl
  rw [hx] at h2
  exact va_iald C.1.1 C.1.2.1 C.2.1.1 hP q0 t0 ha ht hi hdg h2
theorem a_cald (C : aC p s m args meth c cc nL own WW D J tys A) {a : Nat} {cA : ClassId} {N : Nat} {f : Nat → Int32} {i : Int32} {α : Type} {o : α} {kf : Int32 → Option α} (q0 t0 : Nat) (ha : ws[q0]? = some (a, .inl (cA, N, .inl f))) (ht : tys[t0]? = some (cA, .char)) (hdg : decode cc pc = .ok (.caload, 1)) (hF : (ldc f N i).bind kf = some o) (kk : ∀ x, ldc f N i = some x → kf x = some o → aT p l e R s m args below meth c Q D A nL k n (pc + 1) lv (.int x :: st) ws) : aT p l e R s m args below meth c Q D A nL k n pc lv (.int i :: .ref a :: st) ws := by
  obtain ⟨x, h1, hF⟩ := bd hF
  obtain ⟨hi, hx⟩ := chk h1
  intro H locs ls hP hD hS hl
  have h2 := kk x h1 hF H locs ls hP hD hS hl
  rw [hx] at h2
  exact va_cald C.1.1 C.1.2.1 C.2.1.1 hP q0 t0 ha ht hi hdg h2
theorem a_iast (C : aC p s m args meth c cc nL own WW D J tys A) {a : Nat} {cA : ClassId} {N : Nat} {f : Nat → Int32} {i x : Int32} {α : Type} {o : α} {kf : (Nat → Int32) → Option α} (q0 t0 : Nat) (ha : ws[q0]? = some (a, .inl (cA, N, .inl f))) (ht : tys[t0]? = some (cA, .int)) (hdg : decode cc pc = .ok (.iastore, 1)) (hF : (sti f N i x).bind kf = some o) (kk : ∀ g, sti f N i x = some g → kf g = some o → aT p l e R s m args below meth c Q D A nL k n (pc + 1) lv st (ws.set q0 (a, .inl (cA, N, .inl g)))) : aT p l e R s m args below meth c Q D A nL k n pc lv (.int x :: .int i :: .ref a :: st) ws := by
  obtain ⟨g, h1, hF⟩ := bd hF
  obtain ⟨hi, hx⟩ := chk h1
  intro H locs ls hP hD hS hl
  refine va_iast C.1.1 C.1.2.1 C.2.1.1 hP hD hS q0 t0 ha ht hi hdg (fun H1 locs1 hP hD hS => ?_)
  have h2 := kk g h1 hF H1 locs1 ls
  rw [hx] at h2
  exact h2 hP hD hS hl
theorem a_cast (C : aC p s m args meth c cc nL own WW D J tys A) {a : Nat} {cA : ClassId} {N : Nat} {f : Nat → Int32} {i x : Int32} {α : Type} {o : α} {kf : (Nat → Int32) → Option α} (q0 t0 : Nat) (ha : ws[q0]? = some (a, .inl (cA, N, .inl f))) (ht : tys[t0]? = some (cA, .char)) (hdg : decode cc pc = .ok (.castore, 1)) (hF : (stc f N i x).bind kf = some o) (kk : ∀ g, stc f N i x = some g → kf g = some o → aT p l e R s m args below meth c Q D A nL k n (pc + 1) lv st (ws.set q0 (a, .inl (cA, N, .inl g)))) : aT p l e R s m args below meth c Q D A nL k n pc lv (.int x :: .int i :: .ref a :: st) ws := by
  obtain ⟨g, h1, hF⟩ := bd hF
  obtain ⟨hi, hx⟩ := chk h1
  intro H locs ls hP hD hS hl
  refine va_cast C.1.1 C.1.2.1 C.2.1.1 hP hD hS q0 t0 ha ht hi hdg (fun H1 locs1 hP hD hS => ?_)
  have h2 := kk g h1 hF H1 locs1 ls
  rw [hx] at h2
  exact h2 hP hD hS hl
/-- cells of a world put at their places -/
def wset : va_W → List Nat → va_W → va_W
  | ws, i :: is, q :: qs => wset (ws.set i q) is qs
  | ws, _, _ => ws
theorem wset_len : ∀ (is : List Nat) (qs ws : va_W), (wset ws is qs).length = ws.length
  | [], _, _ => by simp [wset]
  | _ :: _, [], _ => by simp [wset]
  | i :: is, q :: qs, ws => by rw [wset, wset_len is qs]; simp
theorem wset_get : ∀ (is : List Nat) (qs ws : va_W) (k : Nat) (x : Nat × va_E), (wset ws is qs)[k]? = some x → (∃ j : Nat, is[j]? = some k ∧ qs[j]? = some x) ∨ ((∀ j : Nat, j < qs.length → is[j]? ≠ some k) ∧ ws[k]? = some x)
  | [], qs, ws, k, x, h => Or.inr ⟨fun _ _ => by simp, by simpa [wset] using h⟩
  | _ :: _, [], ws, k, x, h => Or.inr ⟨fun j hj => by simp at hj, by simpa [wset] using h⟩
  | i :: is, q :: qs, ws, k, x, h => by
    rw [wset] at h
    rcases wset_get is qs (ws.set i q) k x h with ⟨j, h1, h2⟩ | ⟨h1, h2⟩
    · exact Or.inl ⟨j + 1, by simpa using h1, by simpa using h2⟩
    · by_cases hk : i = k
      · subst hk
        have hlt : i < ws.length := by
          have := (List.getElem?_eq_some_iff.mp h2).1
          simpa using this
        rw [List.getElem?_set_self hlt] at h2
        exact Or.inl ⟨0, by simp, by simpa using h2⟩
      · rw [List.getElem?_set_ne hk] at h2
        refine Or.inr ⟨fun j hj => ?_, h2⟩
        cases j with
        | zero => simpa using hk
        | succ j => simpa using h1 j (by simpa using hj)
theorem wset_fst : ∀ (is : List Nat) (w0 w1 ws : va_W), is.map (fun i => ws[i]?) = w0.map some → w1.map Prod.fst = w0.map Prod.fst → va_nd is = true → (wset ws is w1).map Prod.fst = ws.map Prod.fst := by
  intro is w0 w1 ws hC hA hn
  apply List.ext_getElem?
  intro k
  rw [List.getElem?_map, List.getElem?_map]
  cases h : (wset ws is w1)[k]? with
  | none =>
    have : ws.length ≤ k := by
      have := List.getElem?_eq_none_iff.mp h
      rwa [wset_len] at this
    rw [List.getElem?_eq_none_iff.mpr this]
  | some x =>
    rcases wset_get is w1 ws k x h with ⟨j, h1, h2⟩ | ⟨h1, h2⟩
    · have e1 : (is.map (fun i => ws[i]?))[j]? = some ws[k]? := by rw [List.getElem?_map, h1]; rfl
      rw [hC, List.getElem?_map] at e1
      have e2 : (w1.map Prod.fst)[j]? = some x.1 := by rw [List.getElem?_map, h2]; rfl
      rw [hA, List.getElem?_map] at e2
      cases h0 : w0[j]? with
      | none => rw [h0] at e2; cases e2
      | some z =>
        rw [h0] at e1 e2
        have e3 : some z = ws[k]? := Option.some.inj e1
        rw [← e3]
        simpa using e2.symm
    · rw [h2]
theorem va_D_fst {A : Nat → Prop} {ws w1 : va_W} (h : w1.map Prod.fst = ws.map Prod.fst) (hD : va_D A ws) : va_D A w1 := by
  have key : ∀ (k : Nat) (q : Nat × va_E), w1[k]? = some q → ∃ z : Nat × va_E, ws[k]? = some z ∧ z.1 = q.1 := by
    intro k q hq
    have e : (w1.map Prod.fst)[k]? = some q.1 := by rw [List.getElem?_map, hq]; rfl
    rw [h, List.getElem?_map] at e
    cases h0 : ws[k]? with
    | none => rw [h0] at e; cases e
    | some z => rw [h0] at e; exact ⟨z, rfl, by simpa using e⟩
  refine ⟨fun i j p q hp hq hpq => ?_, fun k q hq => ?_⟩
  · obtain ⟨z1, g1, g2⟩ := key i p hp
    obtain ⟨z2, g3, g4⟩ := key j q hq
    exact hD.1 i j z1 z2 g1 g3 (by rw [g2, g4, hpq])
  · obtain ⟨z, g1, g2⟩ := key k q hq
    rw [← g2]
    exact hD.2 k z g1
theorem w_join {A0 : Nat → Prop} {D : va_G} {cl : List vw_C} {ws w0 w1 : va_W} {H H1 : Heap} (isC : List Nat) (hP : va_P D cl ws H) (hD : va_D A0 ws) (hC : isC.map (fun i => ws[i]?) = w0.map some) (hA : w1.map Prod.fst = w0.map Prod.fst) (hn : va_nd isC = true) (hk : ∀ q : Nat, q < H.size → ¬ va_A w0 H.size q → H1[q]? = H[q]?) (hP1 : va_P D cl w1 H1) : va_P D cl (wset ws isC w1) H1 ∧ va_D A0 (wset ws isC w1) := by
  refine ⟨fun k x hx => ?_, va_D_fst (wset_fst isC w0 w1 ws hC hA hn) hD⟩
  rcases wset_get isC w1 ws k x hx with ⟨j, h1, h2⟩ | ⟨h1, h2⟩
  · exact hP1 j x h2
  · have hlt := (hP k x h2).lt
    refine (hP k x h2).kept (hk x.1 hlt ?_)
    rintro (⟨j, e, hj⟩ | hq)
    · have e1 : (isC.map (fun i => ws[i]?))[j]? = some (some (x.1, e)) := by rw [hC, List.getElem?_map, hj]; rfl
      rw [List.getElem?_map] at e1
      cases h0 : isC[j]? with
      | none => rw [h0] at e1; cases e1
      | some i =>
        rw [h0] at e1
        have e2 : ws[i]? = some (x.1, e) := Option.some.inj e1
        have hik : i = k := hD.1 i k (x.1, e) x e2 h2 rfl
        subst hik
        have hj0 : j < w0.length := (List.getElem?_eq_some_iff.mp hj).1
        have hl01 : w1.length = w0.length := by
          have := congrArg List.length hA
          simpa using this
        exact h1 j (by omega) h0
    · omega
theorem w_keep {A0 : Nat → Prop} {D : va_G} {cl : List vw_C} {ws w0 : va_W} {H H1 : Heap} (isC : List Nat) (hP : va_P D cl ws H) (hD : va_D A0 ws) (hC : isC.map (fun i => ws[i]?) = w0.map some) (hk : ∀ q : Nat, q < H.size → ¬ va_A w0 H.size q → H1[q]? = H[q]?) (hP1 : va_P D cl w0 H1) : va_P D cl ws H1 := by
  intro k x h2
  have hlt := (hP k x h2).lt
  by_cases hq : va_A w0 H.size x.1
  · rcases hq with ⟨j, e, hj⟩ | hq
    · have e1 : (isC.map (fun i => ws[i]?))[j]? = some (some (x.1, e)) := by rw [hC, List.getElem?_map, hj]; rfl
      rw [List.getElem?_map] at e1
      cases h0 : isC[j]? with
      | none => rw [h0] at e1; cases e1
      | some i =>
        rw [h0] at e1
        have e2 : ws[i]? = some (x.1, e) := Option.some.inj e1
        have hik : i = k := hD.1 i k (x.1, e) x e2 h2 rfl
        subst hik
        rw [e2] at h2
        have e3 : (x.1, e) = x := Option.some.inj h2
        rw [← e3]
        exact hP1 j _ hj
    · omega
  · exact (hP k x h2).kept (hk x.1 hlt hq)
theorem w_filt {ws w0 : va_W} {isC : List Nat} (h : isC.map (fun i => ws[i]?) = w0.map some) : isC.filterMap (fun i => ws[i]?) = w0 := by
  have e := congrArg (List.filterMap id) h
  rw [List.filterMap_map, List.filterMap_map] at e
  simpa [Function.comp_def] using e
theorem a_callVir (C : aC p s m args meth c cc nL own WW D J tys A) {ρ α : Type} {o : α} {fy : Option ρ} {kf : ρ → Option α} {y : MethodName} {b : ByteArray} {mL : Nat} {ret : Option FieldType} {rm : Room} {idx : Nat} {As stk : List Value} {w0 : va_W} {gv : ρ → Int32} {C1 : String} {T1 : u_T} {N1 ci a : Nat} {fs : List Value} (cnt : Nat) (isC : List Nat) (q0 : Nat) (hG : GoodIn WW (wsV own idx C1 y (aW y b mL ret))) (hd : y.cls = C1 ∧ y.cls ≠ "java/lang/invoke/MethodHandle" ∧ y.cls ≠ "java/lang/invoke/VarHandle" ∧ (parseMethodDescriptor y.desc).map (fun d => d.parameters.length) = some cnt) (hrm : rm.cells = 0 ∧ rm.slots = 0) (hR : rm.frames + 1 ≤ R.frames ∧ 8 + (mL + 11) + rm.locals ≤ R.locals) (hM : ∀ r, fy = some r → aKi l y (aW y b mL ret) rm D J tys (.ref a :: As) w0 gv (fun _ => w0) r) (hc : vwCl[ci]? = some (C1, T1, N1)) (he : ws[q0]? = some (a, .inr (ci, fs))) (hC : isC.map (fun i => ws[i]?) = w0.map some) (hnd : va_nd isC = true) (hst : stk = As.reverse ++ .ref a :: st) (hn : As.length = cnt) (hcat : (st.map fun v => v.category).sum ≤ 8) (hdg : decode cc pc = .ok (.invokevirtual idx, 3)) (hkn : k ≤ R.cells ∧ n ≤ R.slots) (hF : fy.bind kf = some o) (kk : ∀ r, fy = some r → kf r = some o → aT p l e R s m args below meth c Q D A nL k n (pc + 3) lv (.int (gv r) :: st) ws) : aT p l e R s m args below meth c Q D A nL k n pc lv stk ws := by
  obtain ⟨r, h1, hF⟩ := bd hF
  subst hst
  intro H locs ls hP hD hS hl
  have hPc0 := hP
  have hKc := C.2.1.1
  have hPc : va_P D vwCl w0 H := hP.sub isC (w_filt hC)
  have hDc : va_D A w0 := hD.sub isC hnd hC
  have hFc := va_free (wc := w0) hD hS C.2.2.2.1 isC hC
  refine va_calli (va_runV (As := As) (rest := st) C.1 (hM r h1 H.size) (cwV cnt C.1.2.2.2.2 hG rfl hrm.1 hrm.2 hd hR) ⟨aPc_blind, va_recv hKc hPc0 hc he, fun U hU hW => ⟨rfl, by rw [hU], by rw [hU]; exact hPc, C.2.1.warm hW, hDc.weaken (fun _ _ _ _ => trivial), by rw [hU]; exact ((C.2.2.2.2.kept hS.2.1).warm hW).narrow hFc⟩⟩ rfl hn hl.1 rfl (lv_room hcat) hdg ⟨by simpa using hkn.1, by simpa using hkn.2⟩) hS (fun q _ h => hFc q h) hFc (fun rv u t H1 locs1 ht hvm hw hB hz1 hk1 hS => ?_)
  obtain ⟨hP1, -⟩ := hB
  rw [ht] at hP1
  rw [show rv = gv r from hw]
  exact kk r h1 hF H1 locs1 ls (w_keep isC hP hD hC hk1 hP1) hD hS hl
theorem a_callVi (C : aC p s m args meth c cc nL own WW D J tys A) {ρ α : Type} {o : α} {fy : Option ρ} {kf : ρ → Option α} {y : MethodName} {b : ByteArray} {mL : Nat} {ret : Option FieldType} {rm : Room} {idx : Nat} {As stk : List Value} {w0 : va_W} {gv : ρ → Int32} {gw : ρ → va_W} {C1 : String} {T1 : u_T} {N1 ci a : Nat} {fs : List Value} (cnt : Nat) (isC : List Nat) (q0 : Nat) (hG : GoodIn WW (wsV own idx C1 y (aW y b mL ret))) (hd : y.cls = C1 ∧ y.cls ≠ "java/lang/invoke/MethodHandle" ∧ y.cls ≠ "java/lang/invoke/VarHandle" ∧ (parseMethodDescriptor y.desc).map (fun d => d.parameters.length) = some cnt) (hrm : rm.cells = 0 ∧ rm.slots = 0) (hR : rm.frames + 1 ≤ R.frames ∧ 8 + (mL + 11) + rm.locals ≤ R.locals) (hM : ∀ r, fy = some r → aKi l y (aW y b mL ret) rm D J tys (.ref a :: As) w0 gv gw r) (hc : vwCl[ci]? = some (C1, T1, N1)) (he : ws[q0]? = some (a, .inr (ci, fs))) (hC : isC.map (fun i => ws[i]?) = w0.map some) (hA : ∀ r, (gw r).map Prod.fst = w0.map Prod.fst) (hnd : va_nd isC = true) (hst : stk = As.reverse ++ .ref a :: st) (hn : As.length = cnt) (hcat : (st.map fun v => v.category).sum ≤ 8) (hdg : decode cc pc = .ok (.invokevirtual idx, 3)) (hkn : k ≤ R.cells ∧ n ≤ R.slots) (hF : fy.bind kf = some o) (kk : ∀ r, fy = some r → kf r = some o → aT p l e R s m args below meth c Q D A nL k n (pc + 3) lv (.int (gv r) :: st) (wset ws isC (gw r))) : aT p l e R s m args below meth c Q D A nL k n pc lv stk ws := by
  obtain ⟨r, h1, hF⟩ := bd hF
  subst hst
  intro H locs ls hP hD hS hl
  have hPc0 := hP
  have hKc := C.2.1.1
  have hPc : va_P D vwCl w0 H := hP.sub isC (w_filt hC)
  have hDc : va_D A w0 := hD.sub isC hnd hC
  have hFc := va_free (wc := w0) hD hS C.2.2.2.1 isC hC
  refine va_calli (va_runV (As := As) (rest := st) C.1 (hM r h1 H.size) (cwV cnt C.1.2.2.2.2 hG rfl hrm.1 hrm.2 hd hR) ⟨aPc_blind, va_recv hKc hPc0 hc he, fun U hU hW => ⟨rfl, by rw [hU], by rw [hU]; exact hPc, C.2.1.warm hW, hDc.weaken (fun _ _ _ _ => trivial), by rw [hU]; exact ((C.2.2.2.2.kept hS.2.1).warm hW).narrow hFc⟩⟩ rfl hn hl.1 rfl (lv_room hcat) hdg ⟨by simpa using hkn.1, by simpa using hkn.2⟩) hS (fun q _ h => hFc q h) hFc (fun rv u t H1 locs1 ht hvm hw hB hz1 hk1 hS => ?_)
  obtain ⟨hP1, -⟩ := hB
  rw [ht] at hP1
  rw [show rv = gv r from hw]
  obtain ⟨hP, hD⟩ := w_join isC hP hD hC (hA r) hnd hk1 hP1
  exact kk r h1 hF H1 locs1 ls hP hD hS hl
theorem a_callVvr (C : aC p s m args meth c cc nL own WW D J tys A) {ρ α : Type} {o : α} {fy : Option ρ} {kf : ρ → Option α} {y : MethodName} {b : ByteArray} {mL : Nat} {ret : Option FieldType} {rm : Room} {idx : Nat} {As stk : List Value} {w0 : va_W} {C1 : String} {T1 : u_T} {N1 ci a : Nat} {fs : List Value} (cnt : Nat) (isC : List Nat) (q0 : Nat) (hG : GoodIn WW (wsV own idx C1 y (aW y b mL ret))) (hd : y.cls = C1 ∧ y.cls ≠ "java/lang/invoke/MethodHandle" ∧ y.cls ≠ "java/lang/invoke/VarHandle" ∧ (parseMethodDescriptor y.desc).map (fun d => d.parameters.length) = some cnt) (hrm : rm.cells = 0 ∧ rm.slots = 0) (hR : rm.frames + 1 ≤ R.frames ∧ 8 + (mL + 11) + rm.locals ≤ R.locals) (hM : ∀ r, fy = some r → aKv l y (aW y b mL ret) rm D J tys (.ref a :: As) w0 (fun _ => w0) r) (hc : vwCl[ci]? = some (C1, T1, N1)) (he : ws[q0]? = some (a, .inr (ci, fs))) (hC : isC.map (fun i => ws[i]?) = w0.map some) (hnd : va_nd isC = true) (hst : stk = As.reverse ++ .ref a :: st) (hn : As.length = cnt) (hcat : (st.map fun v => v.category).sum ≤ 8) (hdg : decode cc pc = .ok (.invokevirtual idx, 3)) (hkn : k ≤ R.cells ∧ n ≤ R.slots) (hF : fy.bind kf = some o) (kk : ∀ r, fy = some r → kf r = some o → aT p l e R s m args below meth c Q D A nL k n (pc + 3) lv (st) ws) : aT p l e R s m args below meth c Q D A nL k n pc lv stk ws := by
  obtain ⟨r, h1, hF⟩ := bd hF
  subst hst
  intro H locs ls hP hD hS hl
  have hPc0 := hP
  have hKc := C.2.1.1
  have hPc : va_P D vwCl w0 H := hP.sub isC (w_filt hC)
  have hDc : va_D A w0 := hD.sub isC hnd hC
  have hFc := va_free (wc := w0) hD hS C.2.2.2.1 isC hC
  refine va_callv (va_runV (As := As) (rest := st) C.1 (hM r h1 H.size) (cwV cnt C.1.2.2.2.2 hG rfl hrm.1 hrm.2 hd hR) ⟨aPc_blind, va_recv hKc hPc0 hc he, fun U hU hW => ⟨rfl, by rw [hU], by rw [hU]; exact hPc, C.2.1.warm hW, hDc.weaken (fun _ _ _ _ => trivial), by rw [hU]; exact ((C.2.2.2.2.kept hS.2.1).warm hW).narrow hFc⟩⟩ rfl hn hl.1 rfl (lv_room hcat) hdg ⟨by simpa using hkn.1, by simpa using hkn.2⟩) hS (fun q _ h => hFc q h) hFc (fun u t H1 locs1 ht hvm hw hB hz1 hk1 hS => ?_)
  obtain ⟨hP1, -⟩ := hB
  rw [ht] at hP1
  exact kk r h1 hF H1 locs1 ls (w_keep isC hP hD hC hk1 hP1) hD hS hl
theorem a_callVv (C : aC p s m args meth c cc nL own WW D J tys A) {ρ α : Type} {o : α} {fy : Option ρ} {kf : ρ → Option α} {y : MethodName} {b : ByteArray} {mL : Nat} {ret : Option FieldType} {rm : Room} {idx : Nat} {As stk : List Value} {w0 : va_W} {gw : ρ → va_W} {C1 : String} {T1 : u_T} {N1 ci a : Nat} {fs : List Value} (cnt : Nat) (isC : List Nat) (q0 : Nat) (hG : GoodIn WW (wsV own idx C1 y (aW y b mL ret))) (hd : y.cls = C1 ∧ y.cls ≠ "java/lang/invoke/MethodHandle" ∧ y.cls ≠ "java/lang/invoke/VarHandle" ∧ (parseMethodDescriptor y.desc).map (fun d => d.parameters.length) = some cnt) (hrm : rm.cells = 0 ∧ rm.slots = 0) (hR : rm.frames + 1 ≤ R.frames ∧ 8 + (mL + 11) + rm.locals ≤ R.locals) (hM : ∀ r, fy = some r → aKv l y (aW y b mL ret) rm D J tys (.ref a :: As) w0 gw r) (hc : vwCl[ci]? = some (C1, T1, N1)) (he : ws[q0]? = some (a, .inr (ci, fs))) (hC : isC.map (fun i => ws[i]?) = w0.map some) (hA : ∀ r, (gw r).map Prod.fst = w0.map Prod.fst) (hnd : va_nd isC = true) (hst : stk = As.reverse ++ .ref a :: st) (hn : As.length = cnt) (hcat : (st.map fun v => v.category).sum ≤ 8) (hdg : decode cc pc = .ok (.invokevirtual idx, 3)) (hkn : k ≤ R.cells ∧ n ≤ R.slots) (hF : fy.bind kf = some o) (kk : ∀ r, fy = some r → kf r = some o → aT p l e R s m args below meth c Q D A nL k n (pc + 3) lv (st) (wset ws isC (gw r))) : aT p l e R s m args below meth c Q D A nL k n pc lv stk ws := by
  obtain ⟨r, h1, hF⟩ := bd hF
  subst hst
  intro H locs ls hP hD hS hl
  have hPc0 := hP
  have hKc := C.2.1.1
  have hPc : va_P D vwCl w0 H := hP.sub isC (w_filt hC)
  have hDc : va_D A w0 := hD.sub isC hnd hC
  have hFc := va_free (wc := w0) hD hS C.2.2.2.1 isC hC
  refine va_callv (va_runV (As := As) (rest := st) C.1 (hM r h1 H.size) (cwV cnt C.1.2.2.2.2 hG rfl hrm.1 hrm.2 hd hR) ⟨aPc_blind, va_recv hKc hPc0 hc he, fun U hU hW => ⟨rfl, by rw [hU], by rw [hU]; exact hPc, C.2.1.warm hW, hDc.weaken (fun _ _ _ _ => trivial), by rw [hU]; exact ((C.2.2.2.2.kept hS.2.1).warm hW).narrow hFc⟩⟩ rfl hn hl.1 rfl (lv_room hcat) hdg ⟨by simpa using hkn.1, by simpa using hkn.2⟩) hS (fun q _ h => hFc q h) hFc (fun u t H1 locs1 ht hvm hw hB hz1 hk1 hS => ?_)
  obtain ⟨hP1, -⟩ := hB
  rw [ht] at hP1
  obtain ⟨hP, hD⟩ := w_join isC hP hD hC (hA r) hnd hk1 hP1
  exact kk r h1 hF H1 locs1 ls hP hD hS hl
theorem a_callSir (C : aC p s m args meth c cc nL own WW D J tys A) {ρ α : Type} {o : α} {fy : Option ρ} {kf : ρ → Option α} {y : MethodName} {b : ByteArray} {mL : Nat} {ret : Option FieldType} {rm : Room} {idx : Nat} {As stk : List Value} {w0 : va_W} {gv : ρ → Int32} (cnt : Nat) (isC : List Nat) (hG : GoodIn WW (va_wsS own idx y (aW y b mL ret))) (hd : y.cls ≠ "java/lang/invoke/MethodHandle" ∧ y.cls ≠ "java/lang/invoke/VarHandle" ∧ (parseMethodDescriptor y.desc).map (fun d => d.parameters.length) = some cnt) (hrm : rm.cells = 0 ∧ rm.slots = 0) (hR : rm.frames + 1 ≤ R.frames ∧ 8 + (mL + 11) + rm.locals ≤ R.locals) (hM : ∀ r, fy = some r → aKi l y (aW y b mL ret) rm D J tys (As) w0 gv (fun _ => w0) r) (hC : isC.map (fun i => ws[i]?) = w0.map some) (hnd : va_nd isC = true) (hst : stk = As.reverse ++ st) (hn : As.length = cnt) (hcat : (st.map fun v => v.category).sum ≤ 8) (hdg : decode cc pc = .ok (.invokestatic idx, 3)) (hkn : k ≤ R.cells ∧ n ≤ R.slots) (hF : fy.bind kf = some o) (kk : ∀ r, fy = some r → kf r = some o → aT p l e R s m args below meth c Q D A nL k n (pc + 3) lv (.int (gv r) :: st) ws) : aT p l e R s m args below meth c Q D A nL k n pc lv stk ws := by
  obtain ⟨r, h1, hF⟩ := bd hF
  subst hst
  intro H locs ls hP hD hS hl
  have hPc0 := hP
  have hKc := C.2.1.1
  have hPc : va_P D vwCl w0 H := hP.sub isC (w_filt hC)
  have hDc : va_D A w0 := hD.sub isC hnd hC
  have hFc := va_free (wc := w0) hD hS C.2.2.2.1 isC hC
  refine va_calli (va_runS (As := As) (rest := st) C.1 (hM r h1 H.size) (va_cwS cnt C.1.2.2.2.2 hG rfl hrm.1 hrm.2 hd hR) ⟨aPc_blind, fun U hU hW => ⟨rfl, by rw [hU], by rw [hU]; exact hPc, C.2.1.warm hW, hDc.weaken (fun _ _ _ _ => trivial), by rw [hU]; exact ((C.2.2.2.2.kept hS.2.1).warm hW).narrow hFc⟩⟩ rfl hn hl.1 rfl (lv_room hcat) hdg ⟨by simpa using hkn.1, by simpa using hkn.2⟩) hS (fun q _ h => hFc q h) hFc (fun rv u t H1 locs1 ht hvm hw hB hz1 hk1 hS => ?_)
  obtain ⟨hP1, -⟩ := hB
  rw [ht] at hP1
  rw [show rv = gv r from hw]
  exact kk r h1 hF H1 locs1 ls (w_keep isC hP hD hC hk1 hP1) hD hS hl
theorem a_callSi (C : aC p s m args meth c cc nL own WW D J tys A) {ρ α : Type} {o : α} {fy : Option ρ} {kf : ρ → Option α} {y : MethodName} {b : ByteArray} {mL : Nat} {ret : Option FieldType} {rm : Room} {idx : Nat} {As stk : List Value} {w0 : va_W} {gv : ρ → Int32} {gw : ρ → va_W} (cnt : Nat) (isC : List Nat) (hG : GoodIn WW (va_wsS own idx y (aW y b mL ret))) (hd : y.cls ≠ "java/lang/invoke/MethodHandle" ∧ y.cls ≠ "java/lang/invoke/VarHandle" ∧ (parseMethodDescriptor y.desc).map (fun d => d.parameters.length) = some cnt) (hrm : rm.cells = 0 ∧ rm.slots = 0) (hR : rm.frames + 1 ≤ R.frames ∧ 8 + (mL + 11) + rm.locals ≤ R.locals) (hM : ∀ r, fy = some r → aKi l y (aW y b mL ret) rm D J tys (As) w0 gv gw r) (hC : isC.map (fun i => ws[i]?) = w0.map some) (hA : ∀ r, (gw r).map Prod.fst = w0.map Prod.fst) (hnd : va_nd isC = true) (hst : stk = As.reverse ++ st) (hn : As.length = cnt) (hcat : (st.map fun v => v.category).sum ≤ 8) (hdg : decode cc pc = .ok (.invokestatic idx, 3)) (hkn : k ≤ R.cells ∧ n ≤ R.slots) (hF : fy.bind kf = some o) (kk : ∀ r, fy = some r → kf r = some o → aT p l e R s m args below meth c Q D A nL k n (pc + 3) lv (.int (gv r) :: st) (wset ws isC (gw r))) : aT p l e R s m args below meth c Q D A nL k n pc lv stk ws := by
  obtain ⟨r, h1, hF⟩ := bd hF
  subst hst
  intro H locs ls hP hD hS hl
  have hPc0 := hP
  have hKc := C.2.1.1
  have hPc : va_P D vwCl w0 H := hP.sub isC (w_filt hC)
  have hDc : va_D A w0 := hD.sub isC hnd hC
  have hFc := va_free (wc := w0) hD hS C.2.2.2.1 isC hC
  refine va_calli (va_runS (As := As) (rest := st) C.1 (hM r h1 H.size) (va_cwS cnt C.1.2.2.2.2 hG rfl hrm.1 hrm.2 hd hR) ⟨aPc_blind, fun U hU hW => ⟨rfl, by rw [hU], by rw [hU]; exact hPc, C.2.1.warm hW, hDc.weaken (fun _ _ _ _ => trivial), by rw [hU]; exact ((C.2.2.2.2.kept hS.2.1).warm hW).narrow hFc⟩⟩ rfl hn hl.1 rfl (lv_room hcat) hdg ⟨by simpa using hkn.1, by simpa using hkn.2⟩) hS (fun q _ h => hFc q h) hFc (fun rv u t H1 locs1 ht hvm hw hB hz1 hk1 hS => ?_)
  obtain ⟨hP1, -⟩ := hB
  rw [ht] at hP1
  rw [show rv = gv r from hw]
  obtain ⟨hP, hD⟩ := w_join isC hP hD hC (hA r) hnd hk1 hP1
  exact kk r h1 hF H1 locs1 ls hP hD hS hl
theorem a_callSvr (C : aC p s m args meth c cc nL own WW D J tys A) {ρ α : Type} {o : α} {fy : Option ρ} {kf : ρ → Option α} {y : MethodName} {b : ByteArray} {mL : Nat} {ret : Option FieldType} {rm : Room} {idx : Nat} {As stk : List Value} {w0 : va_W} (cnt : Nat) (isC : List Nat) (hG : GoodIn WW (va_wsS own idx y (aW y b mL ret))) (hd : y.cls ≠ "java/lang/invoke/MethodHandle" ∧ y.cls ≠ "java/lang/invoke/VarHandle" ∧ (parseMethodDescriptor y.desc).map (fun d => d.parameters.length) = some cnt) (hrm : rm.cells = 0 ∧ rm.slots = 0) (hR : rm.frames + 1 ≤ R.frames ∧ 8 + (mL + 11) + rm.locals ≤ R.locals) (hM : ∀ r, fy = some r → aKv l y (aW y b mL ret) rm D J tys (As) w0 (fun _ => w0) r) (hC : isC.map (fun i => ws[i]?) = w0.map some) (hnd : va_nd isC = true) (hst : stk = As.reverse ++ st) (hn : As.length = cnt) (hcat : (st.map fun v => v.category).sum ≤ 8) (hdg : decode cc pc = .ok (.invokestatic idx, 3)) (hkn : k ≤ R.cells ∧ n ≤ R.slots) (hF : fy.bind kf = some o) (kk : ∀ r, fy = some r → kf r = some o → aT p l e R s m args below meth c Q D A nL k n (pc + 3) lv (st) ws) : aT p l e R s m args below meth c Q D A nL k n pc lv stk ws := by
  obtain ⟨r, h1, hF⟩ := bd hF
  subst hst
  intro H locs ls hP hD hS hl
  have hPc0 := hP
  have hKc := C.2.1.1
  have hPc : va_P D vwCl w0 H := hP.sub isC (w_filt hC)
  have hDc : va_D A w0 := hD.sub isC hnd hC
  have hFc := va_free (wc := w0) hD hS C.2.2.2.1 isC hC
  refine va_callv (va_runS (As := As) (rest := st) C.1 (hM r h1 H.size) (va_cwS cnt C.1.2.2.2.2 hG rfl hrm.1 hrm.2 hd hR) ⟨aPc_blind, fun U hU hW => ⟨rfl, by rw [hU], by rw [hU]; exact hPc, C.2.1.warm hW, hDc.weaken (fun _ _ _ _ => trivial), by rw [hU]; exact ((C.2.2.2.2.kept hS.2.1).warm hW).narrow hFc⟩⟩ rfl hn hl.1 rfl (lv_room hcat) hdg ⟨by simpa using hkn.1, by simpa using hkn.2⟩) hS (fun q _ h => hFc q h) hFc (fun u t H1 locs1 ht hvm hw hB hz1 hk1 hS => ?_)
  obtain ⟨hP1, -⟩ := hB
  rw [ht] at hP1
  exact kk r h1 hF H1 locs1 ls (w_keep isC hP hD hC hk1 hP1) hD hS hl
theorem a_callSv (C : aC p s m args meth c cc nL own WW D J tys A) {ρ α : Type} {o : α} {fy : Option ρ} {kf : ρ → Option α} {y : MethodName} {b : ByteArray} {mL : Nat} {ret : Option FieldType} {rm : Room} {idx : Nat} {As stk : List Value} {w0 : va_W} {gw : ρ → va_W} (cnt : Nat) (isC : List Nat) (hG : GoodIn WW (va_wsS own idx y (aW y b mL ret))) (hd : y.cls ≠ "java/lang/invoke/MethodHandle" ∧ y.cls ≠ "java/lang/invoke/VarHandle" ∧ (parseMethodDescriptor y.desc).map (fun d => d.parameters.length) = some cnt) (hrm : rm.cells = 0 ∧ rm.slots = 0) (hR : rm.frames + 1 ≤ R.frames ∧ 8 + (mL + 11) + rm.locals ≤ R.locals) (hM : ∀ r, fy = some r → aKv l y (aW y b mL ret) rm D J tys (As) w0 gw r) (hC : isC.map (fun i => ws[i]?) = w0.map some) (hA : ∀ r, (gw r).map Prod.fst = w0.map Prod.fst) (hnd : va_nd isC = true) (hst : stk = As.reverse ++ st) (hn : As.length = cnt) (hcat : (st.map fun v => v.category).sum ≤ 8) (hdg : decode cc pc = .ok (.invokestatic idx, 3)) (hkn : k ≤ R.cells ∧ n ≤ R.slots) (hF : fy.bind kf = some o) (kk : ∀ r, fy = some r → kf r = some o → aT p l e R s m args below meth c Q D A nL k n (pc + 3) lv (st) (wset ws isC (gw r))) : aT p l e R s m args below meth c Q D A nL k n pc lv stk ws := by
  obtain ⟨r, h1, hF⟩ := bd hF
  subst hst
  intro H locs ls hP hD hS hl
  have hPc0 := hP
  have hKc := C.2.1.1
  have hPc : va_P D vwCl w0 H := hP.sub isC (w_filt hC)
  have hDc : va_D A w0 := hD.sub isC hnd hC
  have hFc := va_free (wc := w0) hD hS C.2.2.2.1 isC hC
  refine va_callv (va_runS (As := As) (rest := st) C.1 (hM r h1 H.size) (va_cwS cnt C.1.2.2.2.2 hG rfl hrm.1 hrm.2 hd hR) ⟨aPc_blind, fun U hU hW => ⟨rfl, by rw [hU], by rw [hU]; exact hPc, C.2.1.warm hW, hDc.weaken (fun _ _ _ _ => trivial), by rw [hU]; exact ((C.2.2.2.2.kept hS.2.1).warm hW).narrow hFc⟩⟩ rfl hn hl.1 rfl (lv_room hcat) hdg ⟨by simpa using hkn.1, by simpa using hkn.2⟩) hS (fun q _ h => hFc q h) hFc (fun u t H1 locs1 ht hvm hw hB hz1 hk1 hS => ?_)
  obtain ⟨hP1, -⟩ := hB
  rw [ht] at hP1
  obtain ⟨hP, hD⟩ := w_join isC hP hD hC (hA r) hnd hk1 hP1
  exact kk r h1 hF H1 locs1 ls hP hD hS hl
theorem a_callN (C : aC p s m args meth c cc nL own WW D J tys A) {ρ α : Type} {o : α} {fy : Option ρ} {kf : ρ → Option α} {y : MethodName} {b : ByteArray} {mL : Nat} {ret : Option FieldType} {rm : Room} {idx : Nat} {host : String} {As stk : List Value} {gv : ρ → Int32} (cnt : Nat) (hG : GoodIn WW (aW y b mL ret)) (hs : Cond.static y ∈ WW) (hi : Cond.initialized y.cls ∈ WW) (hl0 : va_Nw (.methodLinkNest own idx y host) s) (hd : y.cls ≠ "java/lang/invoke/MethodHandle" ∧ y.cls ≠ "java/lang/invoke/VarHandle" ∧ (parseMethodDescriptor y.desc).map (fun d => d.parameters.length) = some cnt) (hrm : rm.cells = 0 ∧ rm.slots = 0) (hR : rm.frames + 1 ≤ R.frames ∧ 8 + (mL + 11) + rm.locals ≤ R.locals) (hM : ∀ r, fy = some r → aKi l y (aW y b mL ret) rm D J tys As [] gv (fun _ => []) r) (hst : stk = As.reverse ++ st) (hn : As.length = cnt) (hcat : (st.map fun v => v.category).sum ≤ 8) (hdg : decode cc pc = .ok (.invokestatic idx, 3)) (hkn : k ≤ R.cells ∧ n ≤ R.slots) (hF : fy.bind kf = some o) (kk : ∀ r, fy = some r → kf r = some o → aT p l e R s m args below meth c Q D A nL k n (pc + 3) lv (.int (gv r) :: st) ws) : aT p l e R s m args below meth c Q D A nL k n pc lv stk ws := by
  obtain ⟨r, h1, hF⟩ := bd hF
  subst hst
  intro H locs ls hP hD hS hl
  have hPc : va_P D vwCl [] H := hP.sub [] rfl
  have hDc : va_D A [] := hD.sub [] rfl rfl
  have hFc := va_free (wc := []) hD hS C.2.2.2.1 [] rfl
  refine va_calli (va_runSN (As := As) (rest := st) C.1 (hM r h1 H.size) ⟨va_cnB cnt C.1.2.2.2.2 hG rfl hrm.1 hrm.2 hl0 (C.1.2.2.2.2 _ hi) hd hR, C.1.2.2.2.2 _ hs, trivial⟩ ⟨aPc_blind, fun U hU hW => ⟨rfl, by rw [hU], by rw [hU]; exact hPc, C.2.1.warm hW, hDc.weaken (fun _ _ _ _ => trivial), by rw [hU]; exact ((C.2.2.2.2.kept hS.2.1).warm hW).narrow hFc⟩⟩ rfl hn hl.1 rfl (lv_room hcat) hdg ⟨by simpa using hkn.1, by simpa using hkn.2⟩) hS (fun q _ h => hFc q h) hFc (fun rv u t H1 locs1 ht hvm hw hB hz1 hk1 hS => ?_)
  obtain ⟨hP1, -⟩ := hB
  rw [ht] at hP1
  rw [show rv = gv r from hw]
  exact kk r h1 hF H1 locs1 ls (w_keep (w0 := []) [] hP hD rfl hk1 hP1) hD hS hl
theorem a_mmax (C : aC p s m args meth c cc nL own WW D J tys A) {idx : Nat} {x y : Int32} (hlink : Cond.methodLink own idx Lib.Math.max.name ∈ WW) (hstat : Cond.static Lib.Math.max.name ∈ WW) (hini : Cond.initialized "java/lang/Math" ∈ WW) (hcode : Cond.code Lib.Math.max.name Lib.Math.max.code 2 (some .int) ∈ WW) (hR : 1 ≤ R.frames ∧ (st.map fun v => v.category).sum + 13 ≤ R.locals) (hkn : k ≤ R.cells ∧ n ≤ R.slots) (hdg : decode cc pc = .ok (.invokestatic idx, 3)) (kk : aT p l e R s m args below meth c Q D A nL k n (pc + 3) lv (.int (if x < y then y else x) :: st) ws) : aT p l e R s m args below meth c Q D A nL k n pc lv (.int y :: .int x :: st) ws := fun H locs ls hP hD hS hl => va_mmax C.1.1 C.1.2.1 (C.1.2.2.1.trans hl.1.symm) C.1.2.2.2.1 (C.1.2.2.2.2 _ hlink) (C.1.2.2.2.2 _ hstat) (C.1.2.2.2.2 _ hini) (C.1.2.2.2.2 _ hcode) hR.1 hR.2 hkn.1 hkn.2 hdg (kk H locs ls hP hD hS hl)
theorem a_mmin (C : aC p s m args meth c cc nL own WW D J tys A) {idx : Nat} {x y : Int32} (hlink : Cond.methodLink own idx Lib.Math.min.name ∈ WW) (hstat : Cond.static Lib.Math.min.name ∈ WW) (hini : Cond.initialized "java/lang/Math" ∈ WW) (hcode : Cond.code Lib.Math.min.name Lib.Math.min.code 2 (some .int) ∈ WW) (hR : 1 ≤ R.frames ∧ (st.map fun v => v.category).sum + 13 ≤ R.locals) (hkn : k ≤ R.cells ∧ n ≤ R.slots) (hdg : decode cc pc = .ok (.invokestatic idx, 3)) (kk : aT p l e R s m args below meth c Q D A nL k n (pc + 3) lv (.int (if y < x then y else x) :: st) ws) : aT p l e R s m args below meth c Q D A nL k n pc lv (.int y :: .int x :: st) ws := fun H locs ls hP hD hS hl => va_mmin C.1.1 C.1.2.1 (C.1.2.2.1.trans hl.1.symm) C.1.2.2.2.1 (C.1.2.2.2.2 _ hlink) (C.1.2.2.2.2 _ hstat) (C.1.2.2.2.2 _ hini) (C.1.2.2.2.2 _ hcode) hR.1 hR.2 hkn.1 hkn.2 hdg (kk H locs ls hP hD hS hl)
/-- switches -/
theorem a_tsout (C : aC p s m args meth c cc nL own WW D J tys A) {x : Int32} {dflt lo1 hi1 : Int} {offs : Array Int} {len : Nat} {lo hi : Int32} {tgt : Nat} {α : Type} {o : α} {f g : Option α} {d : Decidable (x < lo ∨ hi < x)} (hdg : decode cc pc = .ok (.tableswitch dflt lo1 hi1 offs, len)) (hlo : lo.toInt = lo1) (hhi : hi.toInt = hi1) (ht : (pc : Int) + dflt = (tgt : Int)) (hF : (if x < lo ∨ hi < x then f else g) = some o) (kt : x < lo ∨ hi < x → f = some o → aT p l e R s m args below meth c Q D A nL k n tgt lv st ws) (kf : ¬ (x < lo ∨ hi < x) → g = some o → aT p l e R s m args below meth c Q D A nL k n pc lv (.int x :: st) ws) : aT p l e R s m args below meth c Q D A nL k n pc lv (.int x :: st) ws := by
  by_cases h : x < lo ∨ hi < x
  · intro H locs ls hP hD hS hl
    refine lv_tableOut C.1.1 C.1.2.1 hdg ?_ ht (kt h ((if_pos h).symm.trans hF) H locs ls hP hD hS hl)
    rw [← hlo, ← hhi]
    exact h.imp Int32.lt_iff_toInt_lt.mp Int32.lt_iff_toInt_lt.mp
  · exact kf h ((if_neg h).symm.trans hF)
theorem a_tscase (C : aC p s m args meth c cc nL own WW D J tys A) {x v : Int32} {dflt lo1 hi1 off : Int} {offs : Array Int} {len tgt : Nat} {α : Type} {o : α} {f g : Option α} {d : Decidable (x = v)} (hdg : decode cc pc = .ok (.tableswitch dflt lo1 hi1 offs, len)) (h1 : ¬ v.toInt < lo1) (h2 : ¬ hi1 < v.toInt) (ho : offs[(v.toInt - lo1).toNat]? = some off) (ht : (pc : Int) + off = (tgt : Int)) (hF : (if x = v then f else g) = some o) (kt : x = v → f = some o → aT p l e R s m args below meth c Q D A nL k n tgt lv st ws) (kf : ¬ x = v → g = some o → aT p l e R s m args below meth c Q D A nL k n pc lv (.int x :: st) ws) : aT p l e R s m args below meth c Q D A nL k n pc lv (.int x :: st) ws := by
  by_cases h : x = v
  · intro H locs ls hP hD hS hl
    have h3 := kt h ((if_pos h).symm.trans hF) H locs ls hP hD hS hl
    subst h
    exact lv_tableIn C.1.1 C.1.2.1 hdg h1 h2 ho ht h3
  · exact kf h ((if_neg h).symm.trans hF)
theorem a_lkcase (C : aC p s m args meth c cc nL own WW D J tys A) {x v : Int32} {dflt off : Int} {ps : Array (Int × Int)} {len tgt : Nat} {α : Type} {o : α} {f g : Option α} {d : Decidable (x = v)} (hdg : decode cc pc = .ok (.lookupswitch dflt ps, len)) (hp : (ps.toList.zip (ps.toList.drop 1)).all (fun (a, next) => a.1 < next.1) = true) (ho : Op.lookupswitch.offset ps.toList dflt v.toInt = off) (ht : (pc : Int) + off = (tgt : Int)) (hF : (if x = v then f else g) = some o) (kt : x = v → f = some o → aT p l e R s m args below meth c Q D A nL k n tgt lv st ws) (kf : ¬ x = v → g = some o → aT p l e R s m args below meth c Q D A nL k n pc lv (.int x :: st) ws) : aT p l e R s m args below meth c Q D A nL k n pc lv (.int x :: st) ws := by
  by_cases h : x = v
  · intro H locs ls hP hD hS hl
    have h3 := kt h ((if_pos h).symm.trans hF) H locs ls hP hD hS hl
    subst h
    exact lv_lookup C.1.1 C.1.2.1 hdg hp ho ht h3
  · exact kf h ((if_neg h).symm.trans hF)
theorem a_lkdef (C : aC p s m args meth c cc nL own WW D J tys A) {x : Int32} {dflt off : Int} {ps : Array (Int × Int)} {len tgt : Nat} (hdg : decode cc pc = .ok (.lookupswitch dflt ps, len)) (hp : (ps.toList.zip (ps.toList.drop 1)).all (fun (a, next) => a.1 < next.1) = true) (ho : Op.lookupswitch.offset ps.toList dflt x.toInt = off) (ht : (pc : Int) + off = (tgt : Int)) (kk : aT p l e R s m args below meth c Q D A nL k n tgt lv st ws) : aT p l e R s m args below meth c Q D A nL k n pc lv (.int x :: st) ws := fun H locs ls hP hD hS hl => lv_lookup C.1.1 C.1.2.1 hdg hp ho ht (kk H locs ls hP hD hS hl)
theorem a_ldcw (C : aC p s m args meth c cc nL own WW D J tys A) {idx : Nat} {v : Int32} (hc : Cond.constant own idx v ∈ WW) (hdg : decode cc pc = .ok (.ldc_w idx, 3)) (kk : aT p l e R s m args below meth c Q D A nL k n (pc + 3) lv (.int v :: st) ws) : aT p l e R s m args below meth c Q D A nL k n pc lv st ws := fun H locs ls hP hD hS hl => lv_ldcw C.1.1 C.1.2.1 C.1.2.2.2.1 (C.1.2.2.2.2 _ hc) hdg (kk H locs ls hP hD hS hl)
def cpi (f g : Nat → Int32) (N : Nat) : Option (Nat → Int32) := some (va_cpy f g 0 0 N)
def cpc (f g : Nat → Int32) (N : Nat) : Option (Nat → Int32) := if ∀ i, i < N → fits .char (.int (f i)) = true then some (va_cpy f g 0 0 N) else none
def hix (i : Int32) : Option Nat := if i < 0 ∨ 8 ≤ i.toNatClampNeg then none else some i.toNatClampNeg
theorem a_cpi (C : aC p s m args meth c cc nL own WW D J tys A) {idx a0 a N : Nat} {c0 : ClassId} {f g : Nat → Int32} {nn : Int32} {α : Type} {o : α} {kf : (Nat → Int32) → Option α} (q0 q1 t0 : Nat) (ha0 : ws[q0]? = some (a0, .inl (c0, N, .inl f))) (ha1 : ws[q1]? = some (a, .inl (c0, N, .inl g))) (ht0 : tys[t0]? = some (c0, .int)) (hn : ¬ nn < 0 ∧ nn.toNatClampNeg = N) (hlink : Cond.methodLink own idx arraycopyName ∈ WW) (hR : 1 ≤ R.frames ∧ (st.map fun v => v.category).sum + (nativeFrameWords "java/lang/System" "arraycopy" 5 + 11) ≤ R.locals) (hdg : decode cc pc = .ok (.invokestatic idx, 3)) (hF : (cpi f g N).bind kf = some o) (kk : ∀ x, cpi f g N = some x → kf x = some o → aT p l e R s m args below meth c Q D A nL k n (pc + 3) lv st (ws.set q1 (a, .inl (c0, N, .inl x)))) : aT p l e R s m args below meth c Q D A nL k n pc lv (.int nn :: .int 0 :: .ref a :: .int 0 :: .ref a0 :: st) ws := by
  obtain ⟨x, h1, hF⟩ := bd hF
  have hx : va_cpy f g 0 0 N = x := Option.some.inj h1
  intro H locs ls hP hD hS hl
  obtain ⟨hn0, hn1⟩ := hn
  refine va_copyi C.1.1 C.1.2.1 (C.1.2.2.1.trans hl.1.symm) C.1.2.2.2.1 (C.1.2.2.2.2 _ hlink) (C.1.2.2.2.2 _ kt_arraycopy) (C.1.2.2.2.2 _ ks_arraycopy) (C.1.2.2.2.2 _ kn_J10) C.2.1.1 hP hD hS q0 q1 t0 t0 ha0 ha1 ht0 ht0 rfl (by decide) (by decide) hn0 (by rw [hn1]; exact Nat.le_of_eq (Nat.zero_add N)) (by rw [hn1]; exact Nat.le_of_eq (Nat.zero_add N)) (fun _ _ => rfl) hR.1 hR.2 hdg (fun H1 locs1 hP hD hS => ?_)
  have h2 := kk x h1 hF H1 locs1 ls
  rw [← hx] at h2
  rw [hn1] at hP hD
  exact h2 hP hD hS hl
theorem a_cpc (C : aC p s m args meth c cc nL own WW D J tys A) {idx a0 a N : Nat} {c0 : ClassId} {f g : Nat → Int32} {nn : Int32} {α : Type} {o : α} {kf : (Nat → Int32) → Option α} (q0 q1 t0 : Nat) (ha0 : ws[q0]? = some (a0, .inl (c0, N, .inl f))) (ha1 : ws[q1]? = some (a, .inl (c0, N, .inl g))) (ht0 : tys[t0]? = some (c0, .char)) (hn : ¬ nn < 0 ∧ nn.toNatClampNeg = N) (hlink : Cond.methodLink own idx arraycopyName ∈ WW) (hR : 1 ≤ R.frames ∧ (st.map fun v => v.category).sum + (nativeFrameWords "java/lang/System" "arraycopy" 5 + 11) ≤ R.locals) (hdg : decode cc pc = .ok (.invokestatic idx, 3)) (hF : (cpc f g N).bind kf = some o) (kk : ∀ x, cpc f g N = some x → kf x = some o → aT p l e R s m args below meth c Q D A nL k n (pc + 3) lv st (ws.set q1 (a, .inl (c0, N, .inl x)))) : aT p l e R s m args below meth c Q D A nL k n pc lv (.int nn :: .int 0 :: .ref a :: .int 0 :: .ref a0 :: st) ws := by
  obtain ⟨x, h1, hF⟩ := bd hF
  obtain ⟨hfit, hx⟩ := chk2 h1
  intro H locs ls hP hD hS hl
  obtain ⟨hn0, hn1⟩ := hn
  refine va_copyi C.1.1 C.1.2.1 (C.1.2.2.1.trans hl.1.symm) C.1.2.2.2.1 (C.1.2.2.2.2 _ hlink) (C.1.2.2.2.2 _ kt_arraycopy) (C.1.2.2.2.2 _ ks_arraycopy) (C.1.2.2.2.2 _ kn_J10) C.2.1.1 hP hD hS q0 q1 t0 t0 ha0 ha1 ht0 ht0 rfl (by decide) (by decide) hn0 (by rw [hn1]; exact Nat.le_of_eq (Nat.zero_add N)) (by rw [hn1]; exact Nat.le_of_eq (Nat.zero_add N)) (fun i hi => by rw [hn1] at hi; rw [show (0 : Int32).toNatClampNeg + i = i from Nat.zero_add i]; exact hfit i hi) hR.1 hR.2 hdg (fun H1 locs1 hP hD hS => ?_)
  have h2 := kk x h1 hF H1 locs1 ls
  rw [hx] at h2
  rw [hn1] at hP hD
  exact h2 hP hD hS hl
theorem a_aald (C : aC p s m args meth c cc nL own WW D J tys A) {a : Nat} {cA : ClassId} {B : Nat → Nat} {i : Int32} {α : Type} {o : α} {kf : Nat → Option α} (q0 t0 : Nat) (ha : ws[q0]? = some (a, .inl (cA, 8, .inr (.inr (.inr (.inr (fun i => if i < 8 then some (B i) else none))))))) (ht : tys[t0]? = some (cA, .object RX0)) (hdg : decode cc pc = .ok (.aaload, 1)) (hF : (hix i).bind kf = some o) (kk : ∀ j, j < 8 → hix i = some j → kf j = some o → aT p l e R s m args below meth c Q D A nL k n (pc + 1) lv (.ref (B j) :: st) ws) : aT p l e R s m args below meth c Q D A nL k n pc lv (.int i :: .ref a :: st) ws := by
  obtain ⟨j, h1, hF⟩ := bd hF
  obtain ⟨hi, hj⟩ := chk h1
  have hlt : j < 8 := by
    rw [hj]
    exact Nat.not_le.mp fun q => hi (Or.inr q)
  intro H locs ls hP hD hS hl
  have h2 := kk j hlt h1 hF H locs ls hP hD hS hl
  refine va_aldq C.1.1 C.1.2.1 C.2.1.1 hP q0 t0 ha ht hi hdg ?_
  rw [← hj]
  show W p l e R s m args below meth c H locs k n Q (F0 m (pc + 1) ls (va_rf (if j < 8 then some (B j) else none) :: st))
  rw [if_pos hlt]
  exact h2
theorem a_rz {α : Type} {o : α} {kf : Int32 → Option α} {x : Int32} {G : Prop} (hF : (rz x).bind kf = some o) (kk : narrow .boolean (.int x) = .int x → kf x = some o → G) : G := by
  obtain ⟨v, h1, h3⟩ := bd hF
  obtain ⟨hi, e⟩ := chk2 h1
  rw [e] at h3
  refine kk ?_ h3
  rcases hi with rfl | rfl <;> rfl
theorem a_rc {α : Type} {o : α} {kf : Int32 → Option α} {x : Int32} {G : Prop} (hF : (rc x).bind kf = some o) (kk : narrow .char (.int x) = .int x → kf x = some o → G) : G := by
  obtain ⟨v, h1, h3⟩ := bd hF
  obtain ⟨hi, e⟩ := chk2 h1
  rw [e] at h3
  refine kk ?_ h3
  unfold vp_nar at hi
  exact congrArg Value.int hi
theorem a_iret {ρ : Type} {gv : ρ → Int32} {gw : ρ → va_W} {rv res : ρ} {w0 : va_W} {ty : FieldType} {v : Int32} (C : aC p s m args meth c cc nL own WW D J tys (va_A w0 s.heap.size)) (hr : meth.sig.returnType = some ty) (hn : narrow ty (.int v) = .int v) (hdg : decode cc pc = .ok (.ireturn, 1)) (hF : some rv = some res) (hv : gv rv = v) (hw : gw rv = ws) : aT p l e R s m args below meth c (MQ below (aQi D w0 s.heap.size gv gw res) args s k n (va_A w0 s.heap.size)) D (va_A w0 s.heap.size) nL k n pc lv [.int v] ws := by
  cases hF
  subst hv
  subst hw
  exact fun H locs ls hP hD hS hl => W.zret C.1.1 C.1.2.1 hr hn (fun t ht hW => ⟨⟨_, (), rfl, rfl, by rw [ht]; exact hP, hD⟩, hS.F ht⟩) hS.2.2 hdg C.2.2.1
theorem a_vret {ρ : Type} {gw : ρ → va_W} {rv res : ρ} {w0 : va_W} (C : aC p s m args meth c cc nL own WW D J tys (va_A w0 s.heap.size)) (hr : meth.sig.returnType = none) (hdg : decode cc pc = .ok (.return_, 1)) (hF : some rv = some res) (hw : gw rv = ws) : aT p l e R s m args below meth c (MQ below (aQv D w0 s.heap.size gw res) args s k n (va_A w0 s.heap.size)) D (va_A w0 s.heap.size) nL k n pc lv [] ws := by
  cases hF
  subst hw
  exact fun H locs ls hP hD hS hl => W.vret C.1.1 C.1.2.1 hr (fun t ht hW => ⟨⟨(), rfl, trivial, by rw [ht]; exact hP, hD⟩, hS.F ht⟩) hS.2.2 hdg C.2.2.1
/-- a world's cells, said in another way -/
theorem a_ws (C : aC p s m args meth c cc nL own WW D J tys A) {ws' : va_W} (h : ws = ws') (kk : aT p l e R s m args below meth c Q D A nL k n pc lv st ws') : aT p l e R s m args below meth c Q D A nL k n pc lv st ws := h ▸ kk
end AR
theorem aKi_of {ρ : Type} {l : Launch} {y : MethodName} {rm : Room} {cc : ByteArray} {maxL : Nat} {ret : Option FieldType} {D : va_G} {J : JT} {tys : List (ClassId × FieldType)} {av : List Value} {w0 : va_W} {gv : ρ → Int32} {gw : ρ → va_W} {res : ρ} {lv : List (Nat × Value)} {own : String} (hy : plainName y.cls = true) (hown : y.cls = own) (hlen : (lg_sl av).length ≤ maxL) (hlv : lv_args 0 av = lv) (body : ∀ (p : Program) (e : Env) (s : State) (m : MethodId) (args : Array Value) (below : List Frame) (meth : Method) (c : Code), aC p s m args meth c cc maxL own WW D J tys (va_A w0 s.heap.size) → meth.sig.returnType = ret → aT p l e rm s m args below meth c (MQ below (aQi D w0 s.heap.size gv gw res) args s 0 0 (va_A w0 s.heap.size)) D (va_A w0 s.heap.size) maxL 0 0 0 lv [] w0) : aKi l y (aW y cc maxL ret) rm D J tys av w0 gv gw res := by
  intro sz
  refine Met.ofW hy rfl ?_
  intro p e s m args below meth c s₁ B hml hv
  obtain ⟨rfl, hsz, hP, hU, hD0, hG0⟩ := hv
  subst hsz
  have hl := lv_entry av hlen
  rw [lg_entry_eq]
  have hts := atoms_spec (ws := aW y cc maxL ret) B.pre
  have hfc := findClass_of_methodNamed B.named
  rw [hown] at hfc
  rw [hlv] at hl
  exact body p e s m _ below meth c ⟨⟨B.exec, B.bytes, hml, hfc, fun w hw => hts w (List.mem_cons_of_mem _ hw)⟩, hU, B.notSynchronized, fun q h => Or.inr h, hG0⟩ B.returns s.heap [] _ hP hD0.self va_S.rf hl
theorem aKv_of {ρ : Type} {l : Launch} {y : MethodName} {rm : Room} {cc : ByteArray} {maxL : Nat} {ret : Option FieldType} {D : va_G} {J : JT} {tys : List (ClassId × FieldType)} {av : List Value} {w0 : va_W} {gw : ρ → va_W} {res : ρ} {lv : List (Nat × Value)} {own : String} (hy : plainName y.cls = true) (hown : y.cls = own) (hlen : (lg_sl av).length ≤ maxL) (hlv : lv_args 0 av = lv) (body : ∀ (p : Program) (e : Env) (s : State) (m : MethodId) (args : Array Value) (below : List Frame) (meth : Method) (c : Code), aC p s m args meth c cc maxL own WW D J tys (va_A w0 s.heap.size) → meth.sig.returnType = ret → aT p l e rm s m args below meth c (MQ below (aQv D w0 s.heap.size gw res) args s 0 0 (va_A w0 s.heap.size)) D (va_A w0 s.heap.size) maxL 0 0 0 lv [] w0) : aKv l y (aW y cc maxL ret) rm D J tys av w0 gw res := by
  intro sz
  refine Met.ofW hy rfl ?_
  intro p e s m args below meth c s₁ B hml hv
  obtain ⟨rfl, hsz, hP, hU, hD0, hG0⟩ := hv
  subst hsz
  have hl := lv_entry av hlen
  rw [lg_entry_eq]
  have hts := atoms_spec (ws := aW y cc maxL ret) B.pre
  have hfc := findClass_of_methodNamed B.named
  rw [hown] at hfc
  rw [hlv] at hl
  exact body p e s m _ below meth c ⟨⟨B.exec, B.bytes, hml, hfc, fun w hw => hts w (List.mem_cons_of_mem _ hw)⟩, hU, B.notSynchronized, fun q h => Or.inr h, hG0⟩ B.returns s.heap [] _ hP hD0.self va_S.rf hl
def aTy (kc ki kb kl kd : ClassId) : List (ClassId × FieldType) := [(kc, .char), (ki, .int), (kb, .object RX0), (kl, .byte), (kd, .object RJ0)]
abbrev wX0 (kc ki : ClassId) (t t_letters t_sizes : Nat) (t_lettersF t_sizesF : Nat → Int32) (t_lines : Int32) : va_W := [(t, .inr (0, [.ref t_letters, .ref t_sizes, .int t_lines])), (t_letters, .inl (kc, 80, .inl t_lettersF)), (t_sizes, .inl (ki, 8, .inl t_sizesF))]
abbrev wX2 (ki : ClassId) (t t_starts : Nat) (t_startsF : Nat → Int32) (t_count : Int32) (t_shape : Nat) (t_step : Int32) : va_W := [(t, .inr (1, [.ref t_starts, .int t_count, .ref t_shape, .int t_step])), (t_starts, .inl (ki, 60, .inl t_startsF))]
abbrev wX3 (ki : ClassId) (t t_lines t_places t_commons : Nat) (t_linesF t_placesF t_commonsF : Nat → Int32) (t_endings : Int32) : va_W := [(t, .inr (2, [.ref t_lines, .ref t_places, .ref t_commons, .int t_endings])), (t_lines, .inl (ki, 80, .inl t_linesF)), (t_places, .inl (ki, 80, .inl t_placesF)), (t_commons, .inl (ki, 80, .inl t_commonsF))]
abbrev wX4 (kc ki kb : ClassId) (t t_books : Nat) (B BL BZ : Nat → Nat) (HL HZ : Nat → Nat → Int32) (HN : Nat → Int32) (oldest size : Int32) : va_W := [(t, .inr (3, [.ref t_books, .int oldest, .int size])), (t_books, .inl (kb, 8, .inr (.inr (.inr (.inr (fun i => if i < 8 then some (B i) else none))))))] ++ wX0 kc ki (B 0) (BL 0) (BZ 0) (HL 0) (HZ 0) (HN 0) ++ wX0 kc ki (B 1) (BL 1) (BZ 1) (HL 1) (HZ 1) (HN 1) ++ wX0 kc ki (B 2) (BL 2) (BZ 2) (HL 2) (HZ 2) (HN 2) ++ wX0 kc ki (B 3) (BL 3) (BZ 3) (HL 3) (HZ 3) (HN 3) ++ wX0 kc ki (B 4) (BL 4) (BZ 4) (HL 4) (HZ 4) (HN 4) ++ wX0 kc ki (B 5) (BL 5) (BZ 5) (HL 5) (HZ 5) (HN 5) ++ wX0 kc ki (B 6) (BL 6) (BZ 6) (HL 6) (HZ 6) (HN 6) ++ wX0 kc ki (B 7) (BL 7) (BZ 7) (HL 7) (HZ 7) (HN 7)
abbrev wX6 (ki : ClassId) (t t_reasons t_details : Nat) (t_reasonsF t_detailsF : Nat → Int32) (t_count : Int32) : va_W := [(t, .inr (4, [.ref t_reasons, .ref t_details, .int t_count])), (t_reasons, .inl (ki, 3, .inl t_reasonsF)), (t_details, .inl (ki, 3, .inl t_detailsF))]
abbrev wX7 (kc : ClassId) (t t_characters : Nat) (t_charactersF : Nat → Int32) (t_length : Int32) : va_W := [(t, .inr (5, [.ref t_characters, .int t_length])), (t_characters, .inl (kc, 60, .inl t_charactersF))]
abbrev wX8o (t t_book t_before t_snapshot t_text t_reader t_refusal t_history t_order t_written : Nat) (t_fault t_isSaved : Int32) : va_W := [(t, .inr (6, [.ref t_book, .ref t_before, .ref t_snapshot, .ref t_text, .ref t_reader, .ref t_refusal, .ref t_history, .ref t_order, .ref t_written, .int t_fault, .int t_isSaved]))]
