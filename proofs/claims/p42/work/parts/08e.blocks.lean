/-! WORLDS AS LISTS OF BLOCKS: fl puts blocks together; a call works on some of them, the others stay (up to the order of the cells, which no world's sense depends on). -/
def fl : List va_W → va_W
  | [] => []
  | b :: bs => bs.foldl (· ++ ·) b
theorem fl_flat (bs : List va_W) : fl bs = bs.flatten := by
  cases bs with
  | nil => rfl
  | cons b bs =>
    show bs.foldl (· ++ ·) b = _
    induction bs generalizing b with
    | nil => simp
    | cons c bs ih => rw [List.foldl_cons, ih]; simp
theorem fl_set0 (c c' : Nat × va_E) (bs : List va_W) : (fl ([c] :: bs)).set 0 c' = fl ([c'] :: bs) := by rw [fl_flat, fl_flat]; simp
def pick : List Nat → List va_W → Option (List va_W × List va_W)
  | [], bs => some ([], bs)
  | j :: js, bs => match bs[j]? with
    | none => none
    | some b => match pick js (bs.eraseIdx j) with
      | none => none
      | some q => some (b :: q.1, q.2)
theorem er_perm : ∀ (bs : List va_W) (j : Nat) (b : va_W), bs[j]? = some b → bs.Perm (b :: bs.eraseIdx j)
  | [], j, b, h => by simp at h
  | c :: bs, 0, b, h => by
    have e : c = b := by simpa using h
    rw [e]
    exact List.Perm.refl _
  | c :: bs, j + 1, b, h => by
    have e : bs[j]? = some b := by simpa using h
    exact ((er_perm bs j b e).cons c).trans (List.Perm.swap b c _)
theorem pick_perm : ∀ (js : List Nat) (bs cs rs : List va_W), pick js bs = some (cs, rs) → bs.Perm (cs ++ rs)
  | [], bs, cs, rs, h => by
    have e : ([], bs) = (cs, rs) := Option.some.inj h
    cases e
    exact List.Perm.refl _
  | j :: js, bs, cs, rs, h => by
    rw [pick] at h
    cases hb : bs[j]? with
    | none => rw [hb] at h; cases h
    | some b =>
      rw [hb] at h
      cases hq : pick js (bs.eraseIdx j) with
      | none => simp only [hq] at h; cases h
      | some q =>
        simp only [hq] at h
        have e := Option.some.inj h
        cases e
        exact (er_perm bs j b hb).trans ((pick_perm js _ q.1 q.2 hq).cons b)
theorem fl1 (a : va_W) : fl [a] = a := rfl
theorem fl2 (a b : va_W) : fl [a, b] = a ++ b := rfl
theorem fl3 (a b c : va_W) : fl [a, b, c] = a ++ b ++ c := rfl
theorem fl4 (a b c d : va_W) : fl [a, b, c, d] = a ++ b ++ c ++ d := rfl
theorem pk {bs cs rs : List va_W} {w0 : va_W} (js : List Nat) (hw : fl cs = w0) (h : pick js bs = some (cs, rs)) : (fl bs).Perm (w0 ++ fl rs) := by
  subst hw
  rw [fl_flat, fl_flat, fl_flat, ← List.flatten_append]
  exact (pick_perm js bs cs rs h).flatten
theorem d_nd {A : Nat → Prop} {ws : va_W} (h : va_D A ws) : (ws.map Prod.fst).Nodup := by
  rw [List.Nodup, List.pairwise_iff_getElem]
  intro i j hi hj hij e
  have hi' : i < ws.length := by simpa using hi
  have hj' : j < ws.length := by simpa using hj
  have := h.1 i j ws[i] ws[j] (List.getElem?_eq_getElem _) (List.getElem?_eq_getElem _) (by simpa using e)
  omega
theorem nd_d {A : Nat → Prop} {ws : va_W} (hn : (ws.map Prod.fst).Nodup) (ha : ∀ x ∈ ws, A x.1) : va_D A ws := by
  rw [List.Nodup, List.pairwise_iff_getElem] at hn
  refine ⟨fun i j p q hp hq e => ?_, fun k q h => ha q (List.mem_of_getElem? h)⟩
  obtain ⟨hi, rfl⟩ := List.getElem?_eq_some_iff.mp hp
  obtain ⟨hj, rfl⟩ := List.getElem?_eq_some_iff.mp hq
  rcases Nat.lt_trichotomy i j with h | h | h
  · exact (hn i j (by simpa using hi) (by simpa using hj) h (by simpa using e)).elim
  · exact h
  · exact (hn j i (by simpa using hj) (by simpa using hi) h (by simpa using e.symm)).elim
theorem d_in {A : Nat → Prop} {ws : va_W} (h : va_D A ws) : ∀ x ∈ ws, A x.1 := fun x hx => by
  obtain ⟨k, hk⟩ := List.getElem?_of_mem hx
  exact h.2 k x hk
theorem p_in {D : va_G} {cl : List vw_C} {ws : va_W} {H : Heap} (h : va_P D cl ws H) : ∀ x ∈ ws, va_at D cl x H := fun x hx => by
  obtain ⟨k, hk⟩ := List.getElem?_of_mem hx
  exact h k x hk
theorem p_of {D : va_G} {cl : List vw_C} {ws : va_W} {H : Heap} (h : ∀ x ∈ ws, va_at D cl x H) : va_P D cl ws H := fun k x hk => h x (List.mem_of_getElem? hk)
theorem p_sub {D : va_G} {cl : List vw_C} {ws w0 rest : va_W} {H : Heap} (hP : va_P D cl ws H) (hC : ws.Perm (w0 ++ rest)) : va_P D cl w0 H := p_of fun x hx => p_in hP x (hC.mem_iff.mpr (List.mem_append_left _ hx))
theorem d_sub {A : Nat → Prop} {ws w0 rest : va_W} (hD : va_D A ws) (hC : ws.Perm (w0 ++ rest)) : va_D A w0 := by
  refine nd_d ?_ (fun x hx => d_in hD x (hC.mem_iff.mpr (List.mem_append_left _ hx)))
  have h := (hC.map Prod.fst).nodup_iff.mp (d_nd hD)
  rw [List.map_append] at h
  exact (List.nodup_append.mp h).1
theorem a_of {w0 : va_W} {sz q : Nat} (h : va_A w0 sz q) : (∃ e, (q, e) ∈ w0) ∨ sz ≤ q := by
  rcases h with ⟨k, e, hk⟩ | h
  · exact Or.inl ⟨e, List.mem_of_getElem? hk⟩
  · exact Or.inr h
theorem p_free {A0 : Nat → Prop} {ws wc rest : va_W} {H0 H : Heap} {locs : List Loc} (hD : va_D A0 ws) (hS : va_S A0 H0 H locs) (hA : ∀ q, H0.size ≤ q → A0 q) (hC : ws.Perm (wc ++ rest)) : ∀ q, va_A wc H.size q → A0 q := fun q h => by
  rcases a_of h with ⟨e, he⟩ | h
  · exact d_in hD (q, e) (hC.mem_iff.mpr (List.mem_append_left _ he))
  · exact hA q (Nat.le_trans hS.1 h)
theorem d_rest {A : Nat → Prop} {D : va_G} {cl : List vw_C} {ws w0 rest : va_W} {H : Heap} (hP : va_P D cl ws H) (hD : va_D A ws) (hC : ws.Perm (w0 ++ rest)) : ∀ x ∈ rest, x.1 < H.size ∧ ¬ va_A w0 H.size x.1 := by
  intro x hx
  have hlt : x.1 < H.size := (p_in hP x (hC.mem_iff.mpr (List.mem_append_right _ hx))).lt
  refine ⟨hlt, fun h => ?_⟩
  rcases a_of h with ⟨e, he⟩ | h
  · have h := (hC.map Prod.fst).nodup_iff.mp (d_nd hD)
    rw [List.map_append] at h
    exact (List.nodup_append.mp h).2.2 x.1 (List.mem_map.mpr ⟨(x.1, e), he, rfl⟩) x.1 (List.mem_map.mpr ⟨x, hx, rfl⟩) rfl
  · omega
theorem p_keep {A0 : Nat → Prop} {D : va_G} {cl : List vw_C} {ws w0 rest : va_W} {H H1 : Heap} (hP : va_P D cl ws H) (hD : va_D A0 ws) (hC : ws.Perm (w0 ++ rest)) (hk : ∀ q : Nat, q < H.size → ¬ va_A w0 H.size q → H1[q]? = H[q]?) (hP1 : va_P D cl w0 H1) : va_P D cl ws H1 := by
  refine p_of fun x hx => ?_
  rcases List.mem_append.mp (hC.mem_iff.mp hx) with h | h
  · exact p_in hP1 x h
  · obtain ⟨h1, h2⟩ := d_rest hP hD hC x h
    exact (p_in hP x hx).kept (hk x.1 h1 h2)
theorem p_join {A0 : Nat → Prop} {D : va_G} {cl : List vw_C} {ws w0 w1 rest ws' : va_W} {H H1 : Heap} (hP : va_P D cl ws H) (hD : va_D A0 ws) (hC : ws.Perm (w0 ++ rest)) (hN : ws'.Perm (w1 ++ rest)) (hFc : ∀ q, va_A w0 H.size q → A0 q) (hk : ∀ q : Nat, q < H.size → ¬ va_A w0 H.size q → H1[q]? = H[q]?) (hP1 : va_P D cl w1 H1) (hD1 : va_D (va_A w0 H.size) w1) : va_P D cl ws' H1 ∧ va_D A0 ws' := by
  refine ⟨p_of fun x hx => ?_, nd_d ((hN.map Prod.fst).nodup_iff.mpr ?_) fun x hx => ?_⟩
  · rcases List.mem_append.mp (hN.mem_iff.mp hx) with h | h
    · exact p_in hP1 x h
    · obtain ⟨h1, h2⟩ := d_rest hP hD hC x h
      exact (p_in hP x (hC.mem_iff.mpr (List.mem_append_right _ h))).kept (hk x.1 h1 h2)
  · have h := (hC.map Prod.fst).nodup_iff.mp (d_nd hD)
    rw [List.map_append] at h ⊢
    refine List.nodup_append.mpr ⟨d_nd hD1, (List.nodup_append.mp h).2.1, fun a ha b hb e => ?_⟩
    obtain ⟨x, hx, rfl⟩ := List.mem_map.mp ha
    obtain ⟨z, hz, rfl⟩ := List.mem_map.mp hb
    have := d_in hD1 x hx
    rw [e] at this
    exact (d_rest hP hD hC z hz).2 this
  · rcases List.mem_append.mp (hN.mem_iff.mp hx) with h | h
    · exact hFc x.1 (d_in hD1 x h)
    · exact d_in hD x (hC.mem_iff.mpr (List.mem_append_right _ h))
section BR
variable {p : Program} {l : Launch} {e : Env} {R : Room} {s : State} {m : MethodId} {args : Array Value} {below : List Frame} {meth : Method} {c : Code} {Q : State → Prop} {D : va_G} {J : JT} {tys : List (ClassId × FieldType)} {A : Nat → Prop} {nL k n : Nat} {cc : ByteArray} {own : String} {pc : Nat} {lv : List (Nat × Value)} {st : List Value} {ws : va_W}
theorem b_callVir (C : aC p s m args meth c cc nL own WW D J tys A) {ρ α : Type} {o : α} {fy : Option ρ} {kf : ρ → Option α} {y : MethodName} {b : ByteArray} {mL : Nat} {ret : Option FieldType} {rm : Room} {idx : Nat} {As stk : List Value} {w0 : va_W} {gv : ρ → Int32} {C1 : String} {T1 : u_T} {N1 ci a : Nat} {fs : List Value} (cnt : Nat) {rest : va_W} (hG : GoodIn WW (wsV own idx C1 y (aW y b mL ret))) (hd : y.cls = C1 ∧ y.cls ≠ "java/lang/invoke/MethodHandle" ∧ y.cls ≠ "java/lang/invoke/VarHandle" ∧ (parseMethodDescriptor y.desc).map (fun d => d.parameters.length) = some cnt) (hrm : rm.cells = 0 ∧ rm.slots = 0) (hR : rm.frames + 1 ≤ R.frames ∧ 8 + (mL + 11) + rm.locals ≤ R.locals) (hM : ∀ r, fy = some r → aKi l y (aW y b mL ret) rm D J tys (.ref a :: As) w0 gv (fun _ => w0) r) (hc : vwCl[ci]? = some (C1, T1, N1)) (he : w0[0]? = some (a, .inr (ci, fs))) (hC : ws.Perm (w0 ++ rest)) (hst : stk = As.reverse ++ .ref a :: st) (hn : As.length = cnt) (hcat : (st.map fun v => v.category).sum ≤ 8) (hdg : decode cc pc = .ok (.invokevirtual idx, 3)) (hkn : k ≤ R.cells ∧ n ≤ R.slots) (hF : fy.bind kf = some o) (kk : ∀ r, fy = some r → kf r = some o → aT p l e R s m args below meth c Q D A nL k n (pc + 3) lv (.int (gv r) :: st) ws) : aT p l e R s m args below meth c Q D A nL k n pc lv stk ws := by
  obtain ⟨r, h1, hF⟩ := bd hF
  subst hst
  intro H locs ls hP hD hS hl
  have hPc0 := hP
  have hKc := C.2.1.1
  have hPc : va_P D vwCl w0 H := p_sub hP hC
  have hDc : va_D A w0 := d_sub hD hC
  have hFc := p_free (wc := w0) hD hS C.2.2.2.1 hC
  refine va_calli (va_runV (As := As) (rest := st) C.1 (hM r h1 H.size) (cwV cnt C.1.2.2.2.2 hG rfl hrm.1 hrm.2 hd hR) ⟨aPc_blind, va_recv hKc hPc hc he, fun U hU hW => ⟨rfl, by rw [hU], by rw [hU]; exact hPc, C.2.1.warm hW, hDc.weaken (fun _ _ _ _ => trivial), by rw [hU]; exact ((C.2.2.2.2.kept hS.2.1).warm hW).narrow hFc⟩⟩ rfl hn hl.1 rfl (lv_room hcat) hdg ⟨by simpa using hkn.1, by simpa using hkn.2⟩) hS (fun q _ h => hFc q h) hFc (fun rv u t H1 locs1 ht hvm hw hB hz1 hk1 hS => ?_)
  obtain ⟨hP1, -⟩ := hB
  rw [ht] at hP1
  rw [show rv = gv r from hw]
  exact kk r h1 hF H1 locs1 ls (p_keep hP hD hC hk1 hP1) hD hS hl
theorem b_callVvr (C : aC p s m args meth c cc nL own WW D J tys A) {ρ α : Type} {o : α} {fy : Option ρ} {kf : ρ → Option α} {y : MethodName} {b : ByteArray} {mL : Nat} {ret : Option FieldType} {rm : Room} {idx : Nat} {As stk : List Value} {w0 : va_W} {C1 : String} {T1 : u_T} {N1 ci a : Nat} {fs : List Value} (cnt : Nat) {rest : va_W} (hG : GoodIn WW (wsV own idx C1 y (aW y b mL ret))) (hd : y.cls = C1 ∧ y.cls ≠ "java/lang/invoke/MethodHandle" ∧ y.cls ≠ "java/lang/invoke/VarHandle" ∧ (parseMethodDescriptor y.desc).map (fun d => d.parameters.length) = some cnt) (hrm : rm.cells = 0 ∧ rm.slots = 0) (hR : rm.frames + 1 ≤ R.frames ∧ 8 + (mL + 11) + rm.locals ≤ R.locals) (hM : ∀ r, fy = some r → aKv l y (aW y b mL ret) rm D J tys (.ref a :: As) w0 (fun _ => w0) r) (hc : vwCl[ci]? = some (C1, T1, N1)) (he : w0[0]? = some (a, .inr (ci, fs))) (hC : ws.Perm (w0 ++ rest)) (hst : stk = As.reverse ++ .ref a :: st) (hn : As.length = cnt) (hcat : (st.map fun v => v.category).sum ≤ 8) (hdg : decode cc pc = .ok (.invokevirtual idx, 3)) (hkn : k ≤ R.cells ∧ n ≤ R.slots) (hF : fy.bind kf = some o) (kk : ∀ r, fy = some r → kf r = some o → aT p l e R s m args below meth c Q D A nL k n (pc + 3) lv (st) ws) : aT p l e R s m args below meth c Q D A nL k n pc lv stk ws := by
  obtain ⟨r, h1, hF⟩ := bd hF
  subst hst
  intro H locs ls hP hD hS hl
  have hPc0 := hP
  have hKc := C.2.1.1
  have hPc : va_P D vwCl w0 H := p_sub hP hC
  have hDc : va_D A w0 := d_sub hD hC
  have hFc := p_free (wc := w0) hD hS C.2.2.2.1 hC
  refine va_callv (va_runV (As := As) (rest := st) C.1 (hM r h1 H.size) (cwV cnt C.1.2.2.2.2 hG rfl hrm.1 hrm.2 hd hR) ⟨aPc_blind, va_recv hKc hPc hc he, fun U hU hW => ⟨rfl, by rw [hU], by rw [hU]; exact hPc, C.2.1.warm hW, hDc.weaken (fun _ _ _ _ => trivial), by rw [hU]; exact ((C.2.2.2.2.kept hS.2.1).warm hW).narrow hFc⟩⟩ rfl hn hl.1 rfl (lv_room hcat) hdg ⟨by simpa using hkn.1, by simpa using hkn.2⟩) hS (fun q _ h => hFc q h) hFc (fun u t H1 locs1 ht hvm hw hB hz1 hk1 hS => ?_)
  obtain ⟨hP1, -⟩ := hB
  rw [ht] at hP1
  exact kk r h1 hF H1 locs1 ls (p_keep hP hD hC hk1 hP1) hD hS hl
theorem b_callSir (C : aC p s m args meth c cc nL own WW D J tys A) {ρ α : Type} {o : α} {fy : Option ρ} {kf : ρ → Option α} {y : MethodName} {b : ByteArray} {mL : Nat} {ret : Option FieldType} {rm : Room} {idx : Nat} {As stk : List Value} {w0 : va_W} {gv : ρ → Int32} (cnt : Nat) {rest : va_W} (hG : GoodIn WW (va_wsS own idx y (aW y b mL ret))) (hd : y.cls ≠ "java/lang/invoke/MethodHandle" ∧ y.cls ≠ "java/lang/invoke/VarHandle" ∧ (parseMethodDescriptor y.desc).map (fun d => d.parameters.length) = some cnt) (hrm : rm.cells = 0 ∧ rm.slots = 0) (hR : rm.frames + 1 ≤ R.frames ∧ 8 + (mL + 11) + rm.locals ≤ R.locals) (hM : ∀ r, fy = some r → aKi l y (aW y b mL ret) rm D J tys (As) w0 gv (fun _ => w0) r) (hC : ws.Perm (w0 ++ rest)) (hst : stk = As.reverse ++ st) (hn : As.length = cnt) (hcat : (st.map fun v => v.category).sum ≤ 8) (hdg : decode cc pc = .ok (.invokestatic idx, 3)) (hkn : k ≤ R.cells ∧ n ≤ R.slots) (hF : fy.bind kf = some o) (kk : ∀ r, fy = some r → kf r = some o → aT p l e R s m args below meth c Q D A nL k n (pc + 3) lv (.int (gv r) :: st) ws) : aT p l e R s m args below meth c Q D A nL k n pc lv stk ws := by
  obtain ⟨r, h1, hF⟩ := bd hF
  subst hst
  intro H locs ls hP hD hS hl
  have hPc0 := hP
  have hKc := C.2.1.1
  have hPc : va_P D vwCl w0 H := p_sub hP hC
  have hDc : va_D A w0 := d_sub hD hC
  have hFc := p_free (wc := w0) hD hS C.2.2.2.1 hC
  refine va_calli (va_runS (As := As) (rest := st) C.1 (hM r h1 H.size) (va_cwS cnt C.1.2.2.2.2 hG rfl hrm.1 hrm.2 hd hR) ⟨aPc_blind, fun U hU hW => ⟨rfl, by rw [hU], by rw [hU]; exact hPc, C.2.1.warm hW, hDc.weaken (fun _ _ _ _ => trivial), by rw [hU]; exact ((C.2.2.2.2.kept hS.2.1).warm hW).narrow hFc⟩⟩ rfl hn hl.1 rfl (lv_room hcat) hdg ⟨by simpa using hkn.1, by simpa using hkn.2⟩) hS (fun q _ h => hFc q h) hFc (fun rv u t H1 locs1 ht hvm hw hB hz1 hk1 hS => ?_)
  obtain ⟨hP1, -⟩ := hB
  rw [ht] at hP1
  rw [show rv = gv r from hw]
  exact kk r h1 hF H1 locs1 ls (p_keep hP hD hC hk1 hP1) hD hS hl
theorem b_callSvr (C : aC p s m args meth c cc nL own WW D J tys A) {ρ α : Type} {o : α} {fy : Option ρ} {kf : ρ → Option α} {y : MethodName} {b : ByteArray} {mL : Nat} {ret : Option FieldType} {rm : Room} {idx : Nat} {As stk : List Value} {w0 : va_W} (cnt : Nat) {rest : va_W} (hG : GoodIn WW (va_wsS own idx y (aW y b mL ret))) (hd : y.cls ≠ "java/lang/invoke/MethodHandle" ∧ y.cls ≠ "java/lang/invoke/VarHandle" ∧ (parseMethodDescriptor y.desc).map (fun d => d.parameters.length) = some cnt) (hrm : rm.cells = 0 ∧ rm.slots = 0) (hR : rm.frames + 1 ≤ R.frames ∧ 8 + (mL + 11) + rm.locals ≤ R.locals) (hM : ∀ r, fy = some r → aKv l y (aW y b mL ret) rm D J tys (As) w0 (fun _ => w0) r) (hC : ws.Perm (w0 ++ rest)) (hst : stk = As.reverse ++ st) (hn : As.length = cnt) (hcat : (st.map fun v => v.category).sum ≤ 8) (hdg : decode cc pc = .ok (.invokestatic idx, 3)) (hkn : k ≤ R.cells ∧ n ≤ R.slots) (hF : fy.bind kf = some o) (kk : ∀ r, fy = some r → kf r = some o → aT p l e R s m args below meth c Q D A nL k n (pc + 3) lv (st) ws) : aT p l e R s m args below meth c Q D A nL k n pc lv stk ws := by
  obtain ⟨r, h1, hF⟩ := bd hF
  subst hst
  intro H locs ls hP hD hS hl
  have hPc0 := hP
  have hKc := C.2.1.1
  have hPc : va_P D vwCl w0 H := p_sub hP hC
  have hDc : va_D A w0 := d_sub hD hC
  have hFc := p_free (wc := w0) hD hS C.2.2.2.1 hC
  refine va_callv (va_runS (As := As) (rest := st) C.1 (hM r h1 H.size) (va_cwS cnt C.1.2.2.2.2 hG rfl hrm.1 hrm.2 hd hR) ⟨aPc_blind, fun U hU hW => ⟨rfl, by rw [hU], by rw [hU]; exact hPc, C.2.1.warm hW, hDc.weaken (fun _ _ _ _ => trivial), by rw [hU]; exact ((C.2.2.2.2.kept hS.2.1).warm hW).narrow hFc⟩⟩ rfl hn hl.1 rfl (lv_room hcat) hdg ⟨by simpa using hkn.1, by simpa using hkn.2⟩) hS (fun q _ h => hFc q h) hFc (fun u t H1 locs1 ht hvm hw hB hz1 hk1 hS => ?_)
  obtain ⟨hP1, -⟩ := hB
  rw [ht] at hP1
  exact kk r h1 hF H1 locs1 ls (p_keep hP hD hC hk1 hP1) hD hS hl
theorem b_callVi (C : aC p s m args meth c cc nL own WW D J tys A) {ρ α : Type} {o : α} {fy : Option ρ} {kf : ρ → Option α} {y : MethodName} {b : ByteArray} {mL : Nat} {ret : Option FieldType} {rm : Room} {idx : Nat} {As stk : List Value} {w0 : va_W} {gv : ρ → Int32} {gw : ρ → va_W} {C1 : String} {T1 : u_T} {N1 ci a : Nat} {fs : List Value} (cnt : Nat) {rest : va_W} (wsn : ρ → va_W) (hG : GoodIn WW (wsV own idx C1 y (aW y b mL ret))) (hd : y.cls = C1 ∧ y.cls ≠ "java/lang/invoke/MethodHandle" ∧ y.cls ≠ "java/lang/invoke/VarHandle" ∧ (parseMethodDescriptor y.desc).map (fun d => d.parameters.length) = some cnt) (hrm : rm.cells = 0 ∧ rm.slots = 0) (hR : rm.frames + 1 ≤ R.frames ∧ 8 + (mL + 11) + rm.locals ≤ R.locals) (hM : ∀ r, fy = some r → aKi l y (aW y b mL ret) rm D J tys (.ref a :: As) w0 gv gw r) (hc : vwCl[ci]? = some (C1, T1, N1)) (he : w0[0]? = some (a, .inr (ci, fs))) (hC : ws.Perm (w0 ++ rest)) (hN : ∀ r, (wsn r).Perm (gw r ++ rest)) (hst : stk = As.reverse ++ .ref a :: st) (hn : As.length = cnt) (hcat : (st.map fun v => v.category).sum ≤ 8) (hdg : decode cc pc = .ok (.invokevirtual idx, 3)) (hkn : k ≤ R.cells ∧ n ≤ R.slots) (hF : fy.bind kf = some o) (kk : ∀ r, fy = some r → kf r = some o → aT p l e R s m args below meth c Q D A nL k n (pc + 3) lv (.int (gv r) :: st) (wsn r)) : aT p l e R s m args below meth c Q D A nL k n pc lv stk ws := by
  obtain ⟨r, h1, hF⟩ := bd hF
  subst hst
  intro H locs ls hP hD hS hl
  have hPc0 := hP
  have hKc := C.2.1.1
  have hPc : va_P D vwCl w0 H := p_sub hP hC
  have hDc : va_D A w0 := d_sub hD hC
  have hFc := p_free (wc := w0) hD hS C.2.2.2.1 hC
  refine va_calli (va_runV (As := As) (rest := st) C.1 (hM r h1 H.size) (cwV cnt C.1.2.2.2.2 hG rfl hrm.1 hrm.2 hd hR) ⟨aPc_blind, va_recv hKc hPc hc he, fun U hU hW => ⟨rfl, by rw [hU], by rw [hU]; exact hPc, C.2.1.warm hW, hDc.weaken (fun _ _ _ _ => trivial), by rw [hU]; exact ((C.2.2.2.2.kept hS.2.1).warm hW).narrow hFc⟩⟩ rfl hn hl.1 rfl (lv_room hcat) hdg ⟨by simpa using hkn.1, by simpa using hkn.2⟩) hS (fun q _ h => hFc q h) hFc (fun rv u t H1 locs1 ht hvm hw hB hz1 hk1 hS => ?_)
  obtain ⟨hP1, hD1⟩ := hB
  rw [ht] at hP1
  rw [show rv = gv r from hw]
  obtain ⟨hP, hD⟩ := p_join hP hD hC (hN r) hFc hk1 hP1 hD1
  exact kk r h1 hF H1 locs1 ls hP hD hS hl
theorem b_callVv (C : aC p s m args meth c cc nL own WW D J tys A) {ρ α : Type} {o : α} {fy : Option ρ} {kf : ρ → Option α} {y : MethodName} {b : ByteArray} {mL : Nat} {ret : Option FieldType} {rm : Room} {idx : Nat} {As stk : List Value} {w0 : va_W} {gw : ρ → va_W} {C1 : String} {T1 : u_T} {N1 ci a : Nat} {fs : List Value} (cnt : Nat) {rest : va_W} (wsn : ρ → va_W) (hG : GoodIn WW (wsV own idx C1 y (aW y b mL ret))) (hd : y.cls = C1 ∧ y.cls ≠ "java/lang/invoke/MethodHandle" ∧ y.cls ≠ "java/lang/invoke/VarHandle" ∧ (parseMethodDescriptor y.desc).map (fun d => d.parameters.length) = some cnt) (hrm : rm.cells = 0 ∧ rm.slots = 0) (hR : rm.frames + 1 ≤ R.frames ∧ 8 + (mL + 11) + rm.locals ≤ R.locals) (hM : ∀ r, fy = some r → aKv l y (aW y b mL ret) rm D J tys (.ref a :: As) w0 gw r) (hc : vwCl[ci]? = some (C1, T1, N1)) (he : w0[0]? = some (a, .inr (ci, fs))) (hC : ws.Perm (w0 ++ rest)) (hN : ∀ r, (wsn r).Perm (gw r ++ rest)) (hst : stk = As.reverse ++ .ref a :: st) (hn : As.length = cnt) (hcat : (st.map fun v => v.category).sum ≤ 8) (hdg : decode cc pc = .ok (.invokevirtual idx, 3)) (hkn : k ≤ R.cells ∧ n ≤ R.slots) (hF : fy.bind kf = some o) (kk : ∀ r, fy = some r → kf r = some o → aT p l e R s m args below meth c Q D A nL k n (pc + 3) lv (st) (wsn r)) : aT p l e R s m args below meth c Q D A nL k n pc lv stk ws := by
  obtain ⟨r, h1, hF⟩ := bd hF
  subst hst
  intro H locs ls hP hD hS hl
  have hPc0 := hP
  have hKc := C.2.1.1
  have hPc : va_P D vwCl w0 H := p_sub hP hC
  have hDc : va_D A w0 := d_sub hD hC
  have hFc := p_free (wc := w0) hD hS C.2.2.2.1 hC
  refine va_callv (va_runV (As := As) (rest := st) C.1 (hM r h1 H.size) (cwV cnt C.1.2.2.2.2 hG rfl hrm.1 hrm.2 hd hR) ⟨aPc_blind, va_recv hKc hPc hc he, fun U hU hW => ⟨rfl, by rw [hU], by rw [hU]; exact hPc, C.2.1.warm hW, hDc.weaken (fun _ _ _ _ => trivial), by rw [hU]; exact ((C.2.2.2.2.kept hS.2.1).warm hW).narrow hFc⟩⟩ rfl hn hl.1 rfl (lv_room hcat) hdg ⟨by simpa using hkn.1, by simpa using hkn.2⟩) hS (fun q _ h => hFc q h) hFc (fun u t H1 locs1 ht hvm hw hB hz1 hk1 hS => ?_)
  obtain ⟨hP1, hD1⟩ := hB
  rw [ht] at hP1
  obtain ⟨hP, hD⟩ := p_join hP hD hC (hN r) hFc hk1 hP1 hD1
  exact kk r h1 hF H1 locs1 ls hP hD hS hl
theorem b_callSi (C : aC p s m args meth c cc nL own WW D J tys A) {ρ α : Type} {o : α} {fy : Option ρ} {kf : ρ → Option α} {y : MethodName} {b : ByteArray} {mL : Nat} {ret : Option FieldType} {rm : Room} {idx : Nat} {As stk : List Value} {w0 : va_W} {gv : ρ → Int32} {gw : ρ → va_W} (cnt : Nat) {rest : va_W} (wsn : ρ → va_W) (hG : GoodIn WW (va_wsS own idx y (aW y b mL ret))) (hd : y.cls ≠ "java/lang/invoke/MethodHandle" ∧ y.cls ≠ "java/lang/invoke/VarHandle" ∧ (parseMethodDescriptor y.desc).map (fun d => d.parameters.length) = some cnt) (hrm : rm.cells = 0 ∧ rm.slots = 0) (hR : rm.frames + 1 ≤ R.frames ∧ 8 + (mL + 11) + rm.locals ≤ R.locals) (hM : ∀ r, fy = some r → aKi l y (aW y b mL ret) rm D J tys (As) w0 gv gw r) (hC : ws.Perm (w0 ++ rest)) (hN : ∀ r, (wsn r).Perm (gw r ++ rest)) (hst : stk = As.reverse ++ st) (hn : As.length = cnt) (hcat : (st.map fun v => v.category).sum ≤ 8) (hdg : decode cc pc = .ok (.invokestatic idx, 3)) (hkn : k ≤ R.cells ∧ n ≤ R.slots) (hF : fy.bind kf = some o) (kk : ∀ r, fy = some r → kf r = some o → aT p l e R s m args below meth c Q D A nL k n (pc + 3) lv (.int (gv r) :: st) (wsn r)) : aT p l e R s m args below meth c Q D A nL k n pc lv stk ws := by
  obtain ⟨r, h1, hF⟩ := bd hF
  subst hst
  intro H locs ls hP hD hS hl
  have hPc0 := hP
  have hKc := C.2.1.1
  have hPc : va_P D vwCl w0 H := p_sub hP hC
  have hDc : va_D A w0 := d_sub hD hC
  have hFc := p_free (wc := w0) hD hS C.2.2.2.1 hC
  refine va_calli (va_runS (As := As) (rest := st) C.1 (hM r h1 H.size) (va_cwS cnt C.1.2.2.2.2 hG rfl hrm.1 hrm.2 hd hR) ⟨aPc_blind, fun U hU hW => ⟨rfl, by rw [hU], by rw [hU]; exact hPc, C.2.1.warm hW, hDc.weaken (fun _ _ _ _ => trivial), by rw [hU]; exact ((C.2.2.2.2.kept hS.2.1).warm hW).narrow hFc⟩⟩ rfl hn hl.1 rfl (lv_room hcat) hdg ⟨by simpa using hkn.1, by simpa using hkn.2⟩) hS (fun q _ h => hFc q h) hFc (fun rv u t H1 locs1 ht hvm hw hB hz1 hk1 hS => ?_)
  obtain ⟨hP1, hD1⟩ := hB
  rw [ht] at hP1
  rw [show rv = gv r from hw]
  obtain ⟨hP, hD⟩ := p_join hP hD hC (hN r) hFc hk1 hP1 hD1
  exact kk r h1 hF H1 locs1 ls hP hD hS hl
theorem b_callSv (C : aC p s m args meth c cc nL own WW D J tys A) {ρ α : Type} {o : α} {fy : Option ρ} {kf : ρ → Option α} {y : MethodName} {b : ByteArray} {mL : Nat} {ret : Option FieldType} {rm : Room} {idx : Nat} {As stk : List Value} {w0 : va_W} {gw : ρ → va_W} (cnt : Nat) {rest : va_W} (wsn : ρ → va_W) (hG : GoodIn WW (va_wsS own idx y (aW y b mL ret))) (hd : y.cls ≠ "java/lang/invoke/MethodHandle" ∧ y.cls ≠ "java/lang/invoke/VarHandle" ∧ (parseMethodDescriptor y.desc).map (fun d => d.parameters.length) = some cnt) (hrm : rm.cells = 0 ∧ rm.slots = 0) (hR : rm.frames + 1 ≤ R.frames ∧ 8 + (mL + 11) + rm.locals ≤ R.locals) (hM : ∀ r, fy = some r → aKv l y (aW y b mL ret) rm D J tys (As) w0 gw r) (hC : ws.Perm (w0 ++ rest)) (hN : ∀ r, (wsn r).Perm (gw r ++ rest)) (hst : stk = As.reverse ++ st) (hn : As.length = cnt) (hcat : (st.map fun v => v.category).sum ≤ 8) (hdg : decode cc pc = .ok (.invokestatic idx, 3)) (hkn : k ≤ R.cells ∧ n ≤ R.slots) (hF : fy.bind kf = some o) (kk : ∀ r, fy = some r → kf r = some o → aT p l e R s m args below meth c Q D A nL k n (pc + 3) lv (st) (wsn r)) : aT p l e R s m args below meth c Q D A nL k n pc lv stk ws := by
  obtain ⟨r, h1, hF⟩ := bd hF
  subst hst
  intro H locs ls hP hD hS hl
  have hPc0 := hP
  have hKc := C.2.1.1
  have hPc : va_P D vwCl w0 H := p_sub hP hC
  have hDc : va_D A w0 := d_sub hD hC
  have hFc := p_free (wc := w0) hD hS C.2.2.2.1 hC
  refine va_callv (va_runS (As := As) (rest := st) C.1 (hM r h1 H.size) (va_cwS cnt C.1.2.2.2.2 hG rfl hrm.1 hrm.2 hd hR) ⟨aPc_blind, fun U hU hW => ⟨rfl, by rw [hU], by rw [hU]; exact hPc, C.2.1.warm hW, hDc.weaken (fun _ _ _ _ => trivial), by rw [hU]; exact ((C.2.2.2.2.kept hS.2.1).warm hW).narrow hFc⟩⟩ rfl hn hl.1 rfl (lv_room hcat) hdg ⟨by simpa using hkn.1, by simpa using hkn.2⟩) hS (fun q _ h => hFc q h) hFc (fun u t H1 locs1 ht hvm hw hB hz1 hk1 hS => ?_)
  obtain ⟨hP1, hD1⟩ := hB
  rw [ht] at hP1
  obtain ⟨hP, hD⟩ := p_join hP hD hC (hN r) hFc hk1 hP1 hD1
  exact kk r h1 hF H1 locs1 ls hP hD hS hl
theorem xb_calli_i {ρ ρ1 : Type} {gv : ρ → Int32 ⊕ String} {gw : ρ → va_W} {res : ρ} {w0 : va_W} {mc ms : Nat} (C : aC p s m args meth c cc nL own WW D J tys (va_A w0 s.heap.size)) {fy : Option ρ1} {kx : ρ1 → String → Option ρ} {kf : ρ1 → Int32 → Option ρ} {y : MethodName} {b : ByteArray} {mL mc1 ms1 : Nat} {ret : Option FieldType} {rm : Room} {idx : Nat} {As stk : List Value} {w1 : va_W} {gv1 : ρ1 → Int32 ⊕ String} {gw1 : ρ1 → va_W} {C1 : String} {T1 : u_T} {N1 ci a : Nat} {fs : List Value} (cnt : Nat) {rest : va_W} (wsn : ρ1 → va_W) (hG : GoodIn WW (wsV own idx C1 y (aW y b mL ret))) (hd : y.cls = C1 ∧ y.cls ≠ "java/lang/invoke/MethodHandle" ∧ y.cls ≠ "java/lang/invoke/VarHandle" ∧ (parseMethodDescriptor y.desc).map (fun d => d.parameters.length) = some cnt) (hex : ∀ x ∈ c.exceptionTable.toList, False) (hrm : rm.cells = mc1 ∧ rm.slots = ms1) (hR : rm.frames + 1 ≤ R.frames ∧ 8 + (mL + 11) + rm.locals ≤ R.locals) (hM : ∀ r, fy = some r → aKx l y (aW y b mL ret) rm D J tys (.ref a :: As) w1 gv1 gw1 r mc1 ms1) (hc : vwCl[ci]? = some (C1, T1, N1)) (he : w1[0]? = some (a, .inr (ci, fs))) (hC : ws.Perm (w1 ++ rest)) (hN : ∀ r, (wsn r).Perm (gw1 r ++ rest)) (hst : stk = As.reverse ++ .ref a :: st) (hn : As.length = cnt) (hcat : (st.map fun v => v.category).sum ≤ 8) (hdg : decode cc pc = .ok (.invokevirtual idx, 3)) (hkn : k + mc1 ≤ R.cells ∧ n + ms1 ≤ R.slots) (hkm : k + mc1 ≤ mc ∧ n + ms1 ≤ ms) (hF : xb fy gv1 kx kf = some res) (hX : ∀ r E, kx r E = some res → gv res = .inr E ∧ gw res = wsn r) (kk : ∀ r v, fy = some r → gv1 r = .inl v → kf r v = some res → aT p l e R s m args below meth c (vx_MQ below (aQx D w0 s.heap.size gv gw res) (aXx D w0 s.heap.size gv gw res) args s mc ms (va_A w0 s.heap.size)) D (va_A w0 s.heap.size) nL (k + mc1) (n + ms1) (pc + 3) lv (.int v :: st) (wsn r)) : aT p l e R s m args below meth c (vx_MQ below (aQx D w0 s.heap.size gv gw res) (aXx D w0 s.heap.size gv gw res) args s mc ms (va_A w0 s.heap.size)) D (va_A w0 s.heap.size) nL k n pc lv stk ws := by
  obtain ⟨r, h1, hF⟩ := bd hF
  subst hst
  intro H locs ls hP hD hS hl
  have hPc0 := hP
  have hKc := C.2.1.1
  have hPc : va_P D vwCl w1 H := p_sub hP hC
  have hDc : va_D (va_A w0 s.heap.size) w1 := d_sub hD hC
  have hFc := p_free (wc := w1) hD hS C.2.2.2.1 hC
  refine vx_calli (vx_runV (As := As) (rest := st) C.1 (hM r h1 H.size) (cwV cnt C.1.2.2.2.2 hG rfl hrm.1 hrm.2 hd hR) ⟨aPc_blind, va_recv hKc hPc hc he, fun U hU hW => ⟨rfl, by rw [hU], by rw [hU]; exact hPc, C.2.1.warm hW, hDc.weaken (fun _ _ _ _ => trivial), by rw [hU]; exact ((C.2.2.2.2.kept hS.2.1).warm hW).narrow hFc⟩⟩ rfl hn hl.1 rfl (lv_room hcat) hdg hkn) hS (fun q _ h => hFc q h) hFc (fun q _ h => hFc q h) (fun E ce q9 u t H1 locs1 ht hvm hpx hB hz1 hk1 hS hce hcv hcl => ?_) (fun rv u t H1 locs1 ht hvm hw hB hz1 hk1 hS => ?_)
  · obtain ⟨hg, hP1, hD1⟩ := hB
    rw [ht] at hP1
    rw [hg] at hF
    obtain ⟨g1, g2⟩ := hX r E hF
    obtain ⟨hP, hD⟩ := p_join hP hD hC (hN r) hFc hk1 hP1 hD1
    rw [← g2] at hP hD
    exact vx_out (fun x hx => (hex x hx).elim) C.2.2.1 hce hcv hcl (fun t2 ht2 hW2 => ⟨(), trivial, ⟨g1, by rw [ht2]; exact hP, hD⟩, hS.F ht2⟩) hS.2.2 hkm.1 hkm.2
  · obtain ⟨hP1, hD1⟩ := hB
    rw [ht] at hP1
    have hw2 : gv1 r = .inl rv := hw
    rw [hw2] at hF
    obtain ⟨hP, hD⟩ := p_join hP hD hC (hN r) hFc hk1 hP1 hD1
    exact kk r rv h1 hw2 hF H1 locs1 ls hP hD hS hl
theorem xb_callv_i {ρ ρ1 : Type} {gv : ρ → Int32 ⊕ String} {gw : ρ → va_W} {res : ρ} {w0 : va_W} {mc ms : Nat} (C : aC p s m args meth c cc nL own WW D J tys (va_A w0 s.heap.size)) {fy : Option ρ1} {kx : ρ1 → String → Option ρ} {kf : ρ1 → Int32 → Option ρ} {y : MethodName} {b : ByteArray} {mL mc1 ms1 : Nat} {ret : Option FieldType} {rm : Room} {idx : Nat} {As stk : List Value} {w1 : va_W} {gv1 : ρ1 → Int32 ⊕ String} {gw1 : ρ1 → va_W} {C1 : String} {T1 : u_T} {N1 ci a : Nat} {fs : List Value} (cnt : Nat) {rest : va_W} (wsn : ρ1 → va_W) (hG : GoodIn WW (wsV own idx C1 y (aW y b mL ret))) (hd : y.cls = C1 ∧ y.cls ≠ "java/lang/invoke/MethodHandle" ∧ y.cls ≠ "java/lang/invoke/VarHandle" ∧ (parseMethodDescriptor y.desc).map (fun d => d.parameters.length) = some cnt) (hex : ∀ x ∈ c.exceptionTable.toList, False) (hrm : rm.cells = mc1 ∧ rm.slots = ms1) (hR : rm.frames + 1 ≤ R.frames ∧ 8 + (mL + 11) + rm.locals ≤ R.locals) (hM : ∀ r, fy = some r → aKxv l y (aW y b mL ret) rm D J tys (.ref a :: As) w1 gv1 gw1 r mc1 ms1) (hc : vwCl[ci]? = some (C1, T1, N1)) (he : w1[0]? = some (a, .inr (ci, fs))) (hC : ws.Perm (w1 ++ rest)) (hN : ∀ r, (wsn r).Perm (gw1 r ++ rest)) (hst : stk = As.reverse ++ .ref a :: st) (hn : As.length = cnt) (hcat : (st.map fun v => v.category).sum ≤ 8) (hdg : decode cc pc = .ok (.invokevirtual idx, 3)) (hkn : k + mc1 ≤ R.cells ∧ n + ms1 ≤ R.slots) (hkm : k + mc1 ≤ mc ∧ n + ms1 ≤ ms) (hF : xb fy gv1 kx kf = some res) (hX : ∀ r E, kx r E = some res → gv res = .inr E ∧ gw res = wsn r) (kk : ∀ r v, fy = some r → gv1 r = .inl v → kf r v = some res → aT p l e R s m args below meth c (vx_MQ below (aQx D w0 s.heap.size gv gw res) (aXx D w0 s.heap.size gv gw res) args s mc ms (va_A w0 s.heap.size)) D (va_A w0 s.heap.size) nL (k + mc1) (n + ms1) (pc + 3) lv (st) (wsn r)) : aT p l e R s m args below meth c (vx_MQ below (aQx D w0 s.heap.size gv gw res) (aXx D w0 s.heap.size gv gw res) args s mc ms (va_A w0 s.heap.size)) D (va_A w0 s.heap.size) nL k n pc lv stk ws := by
  obtain ⟨r, h1, hF⟩ := bd hF
  subst hst
  intro H locs ls hP hD hS hl
  have hPc0 := hP
  have hKc := C.2.1.1
  have hPc : va_P D vwCl w1 H := p_sub hP hC
  have hDc : va_D (va_A w0 s.heap.size) w1 := d_sub hD hC
  have hFc := p_free (wc := w1) hD hS C.2.2.2.1 hC
  refine vx_callv (vx_runV (As := As) (rest := st) C.1 (hM r h1 H.size) (cwV cnt C.1.2.2.2.2 hG rfl hrm.1 hrm.2 hd hR) ⟨aPc_blind, va_recv hKc hPc hc he, fun U hU hW => ⟨rfl, by rw [hU], by rw [hU]; exact hPc, C.2.1.warm hW, hDc.weaken (fun _ _ _ _ => trivial), by rw [hU]; exact ((C.2.2.2.2.kept hS.2.1).warm hW).narrow hFc⟩⟩ rfl hn hl.1 rfl (lv_room hcat) hdg hkn) hS (fun q _ h => hFc q h) hFc (fun q _ h => hFc q h) (fun E ce q9 u t H1 locs1 ht hvm hpx hB hz1 hk1 hS hce hcv hcl => ?_) (fun u t H1 locs1 ht hvm hw hB hz1 hk1 hS => ?_)
  · obtain ⟨hg, hP1, hD1⟩ := hB
    rw [ht] at hP1
    rw [hg] at hF
    obtain ⟨g1, g2⟩ := hX r E hF
    obtain ⟨hP, hD⟩ := p_join hP hD hC (hN r) hFc hk1 hP1 hD1
    rw [← g2] at hP hD
    exact vx_out (fun x hx => (hex x hx).elim) C.2.2.1 hce hcv hcl (fun t2 ht2 hW2 => ⟨(), trivial, ⟨g1, by rw [ht2]; exact hP, hD⟩, hS.F ht2⟩) hS.2.2 hkm.1 hkm.2
  · obtain ⟨hP1, hD1⟩ := hB
    rw [ht] at hP1
    have hw2 : gv1 r = .inl 0 := hw
    rw [hw2] at hF
    obtain ⟨hP, hD⟩ := p_join hP hD hC (hN r) hFc hk1 hP1 hD1
    exact kk r 0 h1 hw2 hF H1 locs1 ls hP hD hS hl
theorem xb_calli_v {ρ ρ1 : Type} {gv : ρ → Int32 ⊕ String} {gw : ρ → va_W} {res : ρ} {w0 : va_W} {mc ms : Nat} (C : aC p s m args meth c cc nL own WW D J tys (va_A w0 s.heap.size)) {fy : Option ρ1} {kx : ρ1 → String → Option ρ} {kf : ρ1 → Int32 → Option ρ} {y : MethodName} {b : ByteArray} {mL mc1 ms1 : Nat} {ret : Option FieldType} {rm : Room} {idx : Nat} {As stk : List Value} {w1 : va_W} {gv1 : ρ1 → Int32 ⊕ String} {gw1 : ρ1 → va_W} {C1 : String} {T1 : u_T} {N1 ci a : Nat} {fs : List Value} (cnt : Nat) {rest : va_W} (wsn : ρ1 → va_W) (hG : GoodIn WW (wsV own idx C1 y (aW y b mL ret))) (hd : y.cls = C1 ∧ y.cls ≠ "java/lang/invoke/MethodHandle" ∧ y.cls ≠ "java/lang/invoke/VarHandle" ∧ (parseMethodDescriptor y.desc).map (fun d => d.parameters.length) = some cnt) (hex : ∀ x ∈ c.exceptionTable.toList, False) (hrm : rm.cells = mc1 ∧ rm.slots = ms1) (hR : rm.frames + 1 ≤ R.frames ∧ 8 + (mL + 11) + rm.locals ≤ R.locals) (hM : ∀ r, fy = some r → aKx l y (aW y b mL ret) rm D J tys (.ref a :: As) w1 gv1 gw1 r mc1 ms1) (hc : vwCl[ci]? = some (C1, T1, N1)) (he : w1[0]? = some (a, .inr (ci, fs))) (hC : ws.Perm (w1 ++ rest)) (hN : ∀ r, (wsn r).Perm (gw1 r ++ rest)) (hst : stk = As.reverse ++ .ref a :: st) (hn : As.length = cnt) (hcat : (st.map fun v => v.category).sum ≤ 8) (hdg : decode cc pc = .ok (.invokevirtual idx, 3)) (hkn : k + mc1 ≤ R.cells ∧ n + ms1 ≤ R.slots) (hkm : k + mc1 ≤ mc ∧ n + ms1 ≤ ms) (hF : xb fy gv1 kx kf = some res) (hX : ∀ r E, kx r E = some res → gv res = .inr E ∧ gw res = wsn r) (kk : ∀ r v, fy = some r → gv1 r = .inl v → kf r v = some res → aT p l e R s m args below meth c (vx_MQ below (aQxv D w0 s.heap.size gv gw res) (aXx D w0 s.heap.size gv gw res) args s mc ms (va_A w0 s.heap.size)) D (va_A w0 s.heap.size) nL (k + mc1) (n + ms1) (pc + 3) lv (.int v :: st) (wsn r)) : aT p l e R s m args below meth c (vx_MQ below (aQxv D w0 s.heap.size gv gw res) (aXx D w0 s.heap.size gv gw res) args s mc ms (va_A w0 s.heap.size)) D (va_A w0 s.heap.size) nL k n pc lv stk ws := by
  obtain ⟨r, h1, hF⟩ := bd hF
  subst hst
  intro H locs ls hP hD hS hl
  have hPc0 := hP
  have hKc := C.2.1.1
  have hPc : va_P D vwCl w1 H := p_sub hP hC
  have hDc : va_D (va_A w0 s.heap.size) w1 := d_sub hD hC
  have hFc := p_free (wc := w1) hD hS C.2.2.2.1 hC
  refine vx_calli (vx_runV (As := As) (rest := st) C.1 (hM r h1 H.size) (cwV cnt C.1.2.2.2.2 hG rfl hrm.1 hrm.2 hd hR) ⟨aPc_blind, va_recv hKc hPc hc he, fun U hU hW => ⟨rfl, by rw [hU], by rw [hU]; exact hPc, C.2.1.warm hW, hDc.weaken (fun _ _ _ _ => trivial), by rw [hU]; exact ((C.2.2.2.2.kept hS.2.1).warm hW).narrow hFc⟩⟩ rfl hn hl.1 rfl (lv_room hcat) hdg hkn) hS (fun q _ h => hFc q h) hFc (fun q _ h => hFc q h) (fun E ce q9 u t H1 locs1 ht hvm hpx hB hz1 hk1 hS hce hcv hcl => ?_) (fun rv u t H1 locs1 ht hvm hw hB hz1 hk1 hS => ?_)
  · obtain ⟨hg, hP1, hD1⟩ := hB
    rw [ht] at hP1
    rw [hg] at hF
    obtain ⟨g1, g2⟩ := hX r E hF
    obtain ⟨hP, hD⟩ := p_join hP hD hC (hN r) hFc hk1 hP1 hD1
    rw [← g2] at hP hD
    exact vx_out (fun x hx => (hex x hx).elim) C.2.2.1 hce hcv hcl (fun t2 ht2 hW2 => ⟨(), trivial, ⟨g1, by rw [ht2]; exact hP, hD⟩, hS.F ht2⟩) hS.2.2 hkm.1 hkm.2
  · obtain ⟨hP1, hD1⟩ := hB
    rw [ht] at hP1
    have hw2 : gv1 r = .inl rv := hw
    rw [hw2] at hF
    obtain ⟨hP, hD⟩ := p_join hP hD hC (hN r) hFc hk1 hP1 hD1
    exact kk r rv h1 hw2 hF H1 locs1 ls hP hD hS hl
theorem xb_callv_v {ρ ρ1 : Type} {gv : ρ → Int32 ⊕ String} {gw : ρ → va_W} {res : ρ} {w0 : va_W} {mc ms : Nat} (C : aC p s m args meth c cc nL own WW D J tys (va_A w0 s.heap.size)) {fy : Option ρ1} {kx : ρ1 → String → Option ρ} {kf : ρ1 → Int32 → Option ρ} {y : MethodName} {b : ByteArray} {mL mc1 ms1 : Nat} {ret : Option FieldType} {rm : Room} {idx : Nat} {As stk : List Value} {w1 : va_W} {gv1 : ρ1 → Int32 ⊕ String} {gw1 : ρ1 → va_W} {C1 : String} {T1 : u_T} {N1 ci a : Nat} {fs : List Value} (cnt : Nat) {rest : va_W} (wsn : ρ1 → va_W) (hG : GoodIn WW (wsV own idx C1 y (aW y b mL ret))) (hd : y.cls = C1 ∧ y.cls ≠ "java/lang/invoke/MethodHandle" ∧ y.cls ≠ "java/lang/invoke/VarHandle" ∧ (parseMethodDescriptor y.desc).map (fun d => d.parameters.length) = some cnt) (hex : ∀ x ∈ c.exceptionTable.toList, False) (hrm : rm.cells = mc1 ∧ rm.slots = ms1) (hR : rm.frames + 1 ≤ R.frames ∧ 8 + (mL + 11) + rm.locals ≤ R.locals) (hM : ∀ r, fy = some r → aKxv l y (aW y b mL ret) rm D J tys (.ref a :: As) w1 gv1 gw1 r mc1 ms1) (hc : vwCl[ci]? = some (C1, T1, N1)) (he : w1[0]? = some (a, .inr (ci, fs))) (hC : ws.Perm (w1 ++ rest)) (hN : ∀ r, (wsn r).Perm (gw1 r ++ rest)) (hst : stk = As.reverse ++ .ref a :: st) (hn : As.length = cnt) (hcat : (st.map fun v => v.category).sum ≤ 8) (hdg : decode cc pc = .ok (.invokevirtual idx, 3)) (hkn : k + mc1 ≤ R.cells ∧ n + ms1 ≤ R.slots) (hkm : k + mc1 ≤ mc ∧ n + ms1 ≤ ms) (hF : xb fy gv1 kx kf = some res) (hX : ∀ r E, kx r E = some res → gv res = .inr E ∧ gw res = wsn r) (kk : ∀ r v, fy = some r → gv1 r = .inl v → kf r v = some res → aT p l e R s m args below meth c (vx_MQ below (aQxv D w0 s.heap.size gv gw res) (aXx D w0 s.heap.size gv gw res) args s mc ms (va_A w0 s.heap.size)) D (va_A w0 s.heap.size) nL (k + mc1) (n + ms1) (pc + 3) lv (st) (wsn r)) : aT p l e R s m args below meth c (vx_MQ below (aQxv D w0 s.heap.size gv gw res) (aXx D w0 s.heap.size gv gw res) args s mc ms (va_A w0 s.heap.size)) D (va_A w0 s.heap.size) nL k n pc lv stk ws := by
  obtain ⟨r, h1, hF⟩ := bd hF
  subst hst
  intro H locs ls hP hD hS hl
  have hPc0 := hP
  have hKc := C.2.1.1
  have hPc : va_P D vwCl w1 H := p_sub hP hC
  have hDc : va_D (va_A w0 s.heap.size) w1 := d_sub hD hC
  have hFc := p_free (wc := w1) hD hS C.2.2.2.1 hC
  refine vx_callv (vx_runV (As := As) (rest := st) C.1 (hM r h1 H.size) (cwV cnt C.1.2.2.2.2 hG rfl hrm.1 hrm.2 hd hR) ⟨aPc_blind, va_recv hKc hPc hc he, fun U hU hW => ⟨rfl, by rw [hU], by rw [hU]; exact hPc, C.2.1.warm hW, hDc.weaken (fun _ _ _ _ => trivial), by rw [hU]; exact ((C.2.2.2.2.kept hS.2.1).warm hW).narrow hFc⟩⟩ rfl hn hl.1 rfl (lv_room hcat) hdg hkn) hS (fun q _ h => hFc q h) hFc (fun q _ h => hFc q h) (fun E ce q9 u t H1 locs1 ht hvm hpx hB hz1 hk1 hS hce hcv hcl => ?_) (fun u t H1 locs1 ht hvm hw hB hz1 hk1 hS => ?_)
  · obtain ⟨hg, hP1, hD1⟩ := hB
    rw [ht] at hP1
    rw [hg] at hF
    obtain ⟨g1, g2⟩ := hX r E hF
    obtain ⟨hP, hD⟩ := p_join hP hD hC (hN r) hFc hk1 hP1 hD1
    rw [← g2] at hP hD
    exact vx_out (fun x hx => (hex x hx).elim) C.2.2.1 hce hcv hcl (fun t2 ht2 hW2 => ⟨(), trivial, ⟨g1, by rw [ht2]; exact hP, hD⟩, hS.F ht2⟩) hS.2.2 hkm.1 hkm.2
  · obtain ⟨hP1, hD1⟩ := hB
    rw [ht] at hP1
    have hw2 : gv1 r = .inl 0 := hw
    rw [hw2] at hF
    obtain ⟨hP, hD⟩ := p_join hP hD hC (hN r) hFc hk1 hP1 hD1
    exact kk r 0 h1 hw2 hF H1 locs1 ls hP hD hS hl
end BR
