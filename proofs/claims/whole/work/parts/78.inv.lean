/-! THE INVARIANT, AND WHAT EVERY CHANGE DOES TO IT -/
def SV (sav msav : Int32) (sF sS : Nat → Int32) (sn : Int32) (A : Nat → Int32) (bs : Bk) : Prop := (sav = 0 ∧ msav = 0) ∨ (sav = 1 ∧ msav = 1 ∧ Wf bs ∧ CB sF sS sn bs ∧ RB A (89 * 9) bs)
def InvP : InvT := fun bF bS bn _ _ _ sF sS sn tC tl _ _ _ _ fR fD fc HL HZ HN ho hs oL oP oM oe wC wl fau sav A mR mT _ _ _ mW _ cg msav _ txd _ _ _ _ fAt _ ws => ∃ (b bs : Bk) (H : List Bk) (w v : List Nat), Wf b ∧ CB bF bS bn b ∧ RB A 0 b ∧ HC HL HZ HN ho hs H ∧ HR A cg H ∧ SV sav msav sF sS sn A bs ∧ TX tC tl w ∧ TX mT txd w ∧ RFS fR fD fc mR ∧ OR oL oP oe (ord b) ∧ CM oM b (ord b) ∧ oM 0 = nn 0 ∧ fau = fAt ∧ WT wC wl mW ws v
theorem lcv_eq {x y : Int64} (h : x = y) : lcv x y = 0 := by
  subst h
  unfold lcv
  rw [if_neg (Int64.lt_irrefl), if_pos rfl]
theorem fin {β : Type} {K g : Option β} {k thr : Int32} {x y : Int64} (hk : thr = k) (hx : k = 0 → x = y) (hK : K = g) : ((f_X9_thrown thr).bind fun r => if r = k then (if ¬ k = 0 then K else (if (lcv x y) = 0 then K else none)) else none) = g := by
  subst hk
  unfold f_X9_thrown
  rw [Option.bind_some, if_pos rfl]
  by_cases h : thr = 0
  · rw [if_neg (fun z => z h), if_pos (lcv_eq (hx h)), hK]
  · rw [if_pos h, hK]
theorem finB {β : Type} {K g : Option β} {k thr r : Int32} {x : Int64} (hk : thr = k) (hx : k = 0 → x = if r = 0 then 0 else 1) (hK : K = g) : ((f_X9_thrown thr).bind fun q => if q = k then (if ¬ k = 0 then K else (if r = 0 then (if (lcv x 0) = 0 then K else none) else (if (lcv x 1) = 0 then K else none))) else none) = g := by
  subst hk
  unfold f_X9_thrown
  rw [Option.bind_some, if_pos rfl]
  by_cases h : thr = 0
  · rw [if_neg (fun z => z h)]
    have := hx h
    by_cases q : r = 0
    · rw [if_pos q] at this
      rw [if_pos q, if_pos (lcv_eq this), hK]
    · rw [if_neg q] at this
      rw [if_neg q, if_pos (lcv_eq this), hK]
  · rw [if_pos h, hK]
section CHG
variable {F S F' S' A A1 A2 : Nat → Int32} {n n' cg : Int32} {b b' bs h0 : Bk} {H : List Bk}
theorem HC.len {HL HZ : Nat → Nat → Int32} {HN : Nat → Int32} {old size : Int32} (hh : HC HL HZ HN old size H) : H.length ≤ 8 := hh.2.1
theorem HC.wf {HL HZ : Nat → Nat → Int32} {HN : Nat → Int32} {old size : Int32} (hh : HC HL HZ HN old size H) : ∀ (j : Nat) (h : Bk), H[j]? = some h → Wf h := by
  obtain ⟨_, _, o, _, _, hj⟩ := hh
  exact fun j h e => (hj j h e).1
theorem RB.cong {p : Nat} (hw : Wf b) (hr : RB A (89 * p) b) (h : ∀ z, 89 * p ≤ z → z < 89 * p + 89 → A2 z = A z) : RB A2 (89 * p) b := hr.copied hw (q := p) (fun j hj => h _ (by omega) (by omega))
theorem HR.cong (hh : HR A cg H) (h8 : H.length ≤ 8) (hw : ∀ (j : Nat) (h : Bk), H[j]? = some h → Wf h) (h : ∀ z, 89 ≤ z → z < 801 → A2 z = A z) : HR A2 cg H := by
  refine ⟨hh.1, fun j q e => ?_⟩
  have hl := (List.getElem?_eq_some_iff.mp e).1
  exact (hh.2 j q e).cong (hw j q e) (fun z z1 z2 => h z (by omega) (by omega))
theorem SV.cong {sav msav sn : Int32} {sF sS : Nat → Int32} (hs : SV sav msav sF sS sn A bs) (h : ∀ z, 801 ≤ z → z < 890 → A2 z = A z) : SV sav msav sF sS sn A2 bs := by
  rcases hs with hs | ⟨h1, h2, h3, h4, h5⟩
  · exact Or.inl hs
  · exact Or.inr ⟨h1, h2, h3, h4, h5.cong h3 (fun z z1 z2 => h z (by omega) (by omega))⟩
theorem s_fin_ok {HL HZ : Nat → Nat → Int32} {HN : Nat → Int32} {old size : Int32} (hh : HC HL HZ HN old size H) (hw0 : Wf h0) (hc0 : CB F S n h0) (hw : Wf b') (hc : CB F' S' n' b') (L P M : Nat → Int32) (en : Int32) (hM : M 0 = nn 0) : ∃ HL' HZ' HN' old' size' L' P' M' en', f_X8_finishChange F' S' n' F S n HL HZ HN old size L P M en 1 = some (.inl 0, HL', HZ', HN', old', size', L', P', M', en') ∧ HC HL' HZ' HN' old' size' (nxt H h0) ∧ OR L' P' en' (ord b') ∧ CM M' b' (ord b') ∧ M' 0 = nn 0 := by
  obtain ⟨HL', HZ', HN', old', size', e1, e2⟩ := s_keep_H hh hw0 hc0
  obtain ⟨L', P', M', e3, e4, e5, e6⟩ := s_sort hw hc L P M
  refine ⟨HL', HZ', HN', old', size', L', P', M', _, ?_, e2, e4, e5, e6.trans hM⟩
  unfold f_X8_finishChange
  rw [if_pos (by decide), e1, Option.bind_some, e3, Option.bind_some]
theorem s_fin_no (HL HZ : Nat → Nat → Int32) (HN : Nat → Int32) (old size : Int32) (F' S' : Nat → Int32) (n' : Int32) (F S : Nat → Int32) (n : Int32) (L P M : Nat → Int32) (en : Int32) : f_X8_finishChange F' S' n' F S n HL HZ HN old size L P M en 0 = some (.inr "java/lang/UnsupportedOperationException", HL, HZ, HN, old, size, L, P, M, en) := by
  unfold f_X8_finishChange
  rw [if_neg (fun z => z rfl)]
theorem ref_ok (hw : Wf b) (hr : RB A 0 b) (hR : HR A cg H) (h8 : H.length ≤ 8) (hHw : ∀ (j : Nat) (h : Bk), H[j]? = some h → Wf h) (a2 : ∀ j, j < 89 → A1 (89 * 10 + j) = A (89 * 0 + j)) (a3 : ∀ j, ¬ (89 * 10 ≤ j ∧ j < 89 * 10 + 89) → A1 j = A j) (hw' : Wf b') (hr' : RB A2 0 b') (g : ∀ z, 89 ≤ z → A2 z = A1 z) (r p2 : Int32) : ∃ A3 cg', f_X9_ends A2 cg r 1 p2 = some (r, A3, 0, cg') ∧ HR A3 cg' (nxt H b) ∧ RB A3 0 b' ∧ ∀ z, 801 ≤ z → z < 890 → A3 z = A z := by
  have hA : HR A2 cg H := hR.cong h8 hHw (fun z z1 z2 => (g z z1).trans (a3 z (by omega)))
  have hB : RB A2 (89 * 10) b := RB.copied (p := 0) (q := 10) hw hr (fun j hj => (g _ (by omega)).trans (a2 j hj))
  obtain ⟨A3, e1, e2, e3, e4⟩ := r_ends_ok hA h8 hHw hw hB r p2
  exact ⟨A3, _, e1, e2, RB.cong (p := 0) hw' hr' (fun z _ z2 => e3 z (by omega)), fun z z1 z2 => (e4 z (by omega) (by omega)).trans ((g z (by omega)).trans (a3 z (by omega)))⟩
theorem ref_no (a2 : ∀ j, j < 89 → A1 (89 * 10 + j) = A (89 * 0 + j)) (a3 : ∀ j, ¬ (89 * 10 ≤ j ∧ j < 89 * 10 + 89) → A1 j = A j) (g : ∀ z, 89 ≤ z → A2 z = A1 z) (cg r p2 : Int32) : ∃ A3, f_X9_ends A2 cg r 0 p2 = some (0, A3, p2, cg) ∧ ∀ z, z < 890 → A3 z = A z := by
  obtain ⟨A3, e1, e2, e3⟩ := r_ends_no A2 cg r p2
  refine ⟨A3, e1, fun z hz => ?_⟩
  by_cases q : z < 89
  · have h1 := e2 z q
    have h2 := a2 z q
    rw [show 89 * 0 + z = z by omega] at h1 h2
    rw [h1, g _ (by omega), h2]
  · rw [e3 z (by omega), g z (by omega), a3 z (by omega)]
end CHG
