/-! WHAT IS WRITTEN -/
section WR
variable {F S L P M C T A O W R D Q mC : Nat → Int32} {n en l l' c s : Int32} {b : Bk} {w v : List Nat}
theorem s_putT (ht : TX C l w) (hl : w.length < 60) {x : Nat} (hx : x < 65536) : ∃ C' l', f_X7_put C l (nn x) = some (C', l') ∧ TX C' l' (w ++ [x]) := by
  obtain ⟨rfl, h60, hg⟩ := ht
  exact ⟨_, _, s_put hl hx, TX.app ⟨rfl, h60, hg⟩ hl hx⟩
theorem s_putD (ht : TX C l w) (hl : w.length < 60) {d : Nat} (hd : d < 10) : ∃ C' l', f_X7_putDigit C l (nn d) = some (C', l') ∧ TX C' l' (w ++ [48 + d]) := by
  obtain ⟨C', l', e, h⟩ := s_putT ht hl (x := 48 + d) (by omega)
  refine ⟨C', l', ?_, h⟩
  unfold f_X7_putDigit
  rw [nl48, nn_add, i2c_nn (by omega), e, Option.bind_some]
theorem r_wr (h : RTX mC s v) (hl : v.length < 20) {x : Nat} (hx : x < 65536) : ∃ m' s', f_X9_writes mC s (nn x) = some (m', s') ∧ RTX m' s' (v ++ [x]) := by
  obtain ⟨rfl, h20, hg⟩ := h
  refine ⟨upd mC v.length (nn x), nn (v.length + 1), ?_, ?_, ?_, fun i hi => ?_⟩
  · unfold f_X9_writes
    rw [i2c_nn hx, stc_nn (by omega) hl (ch_nn hx), Option.bind_some, nl1, nn_add]
  · rw [List.length_append]; rfl
  · rw [List.length_append]; show v.length + 1 ≤ 20; omega
  · rw [List.length_append] at hi
    have hi : i < v.length + 1 := hi
    by_cases z : i = v.length
    · subst z
      have e : (v ++ [x]).getD v.length 0 = x := by rw [List.getD_eq_getElem?_getD, List.getElem?_append_right (Nat.le_refl _), Nat.sub_self]; rfl
      rw [upd_eq, e]
    · have e : (v ++ [x]).getD i 0 = v.getD i 0 := by rw [List.getD_eq_getElem?_getD, List.getD_eq_getElem?_getD, List.getElem?_append_left (by omega)]
      rw [upd_ne z, e]
      exact hg i (by omega)
theorem take_suc (b : Bk) {i p k : Nat} (h : p + k < sz b i) : (sfx b i p).take (k + 1) = (sfx b i p).take k ++ [lt b i (p + k)] := by
  have hk : k < (sfx b i p).length := by rw [sfx_len]; omega
  rw [List.take_add_one, List.getElem?_eq_getElem hk]
  have e := sfx_getD b i p k
  rw [List.getD_eq_getElem?_getD, List.getElem?_eq_getElem hk] at e
  show _ ++ [(sfx b i p)[k]] = _
  rw [show (sfx b i p)[k] = lt b i (p + k) from e]
theorem s_putLs_L (hw : Wf b) (hc : CB F S n b) {i p m : Nat} (hi : i < b.length) (hm : p + m ≤ sz b i) {u : List Nat} (hu : u.length ≤ 20) (K : Int32 → (Nat → Int32) → Int32 → Option ((Nat → Int32) × Int32)) : ∀ (fuel k : Nat) (C : Nat → Int32) (l : Int32), k ≤ m → m < fuel + k → TX C l (u ++ (sfx b i p).take k) → ∃ C' l', f_X7_putLetters_L3 (nn i) (nn p) (nn m) F S n fuel (nn k) C l K = K (nn m) C' l' ∧ TX C' l' (u ++ (sfx b i p).take m) := by
  intro fuel
  have h8 := hw.1
  have h10 := hw.sz_le i
  induction fuel with
  | zero => intro k C l h1 h2; omega
  | succ fuel ih =>
    intro k C l h1 h2 h3
    rw [f_X7_putLetters_L3]
    by_cases hk : m ≤ k
    · rw [if_pos (by rw [nn_le (by omega) (by omega)]; exact hk)]
      have : k = m := by omega
      subst this
      exact ⟨C, l, rfl, h3⟩
    · have hl := hw.lt_le i (p + k)
      rw [if_neg (by rw [nn_le (by omega) (by omega)]; exact hk), nn_add, s_letterAt hw hc (by omega) (by omega), Option.bind_some, show nn k + 1 = nn (k + 1) from nn_add k 1]
      obtain ⟨C', l', e, h⟩ := s_putT h3 (by rw [List.length_append, List.length_take]; omega) (x := lt b i (p + k)) (by omega)
      rw [e, Option.bind_some]
      refine ih (k + 1) C' l' (by omega) (by omega) ?_
      rw [take_suc b (by omega), ← List.append_assoc]
      exact h
theorem s_putLs (hw : Wf b) (hc : CB F S n b) {i p m : Nat} (hi : i < b.length) (hm : p + m ≤ sz b i) {u : List Nat} (hu : u.length ≤ 20) (ht : TX C l u) : ∃ C' l', f_X7_putLetters C l F S n (nn i) (nn p) (nn m) = some (C', l') ∧ TX C' l' (u ++ (sfx b i p).take m) := by
  have h10 := hw.sz_le i
  exact s_putLs_L hw hc hi hm hu (fun _ q1 q2 => some (q1, q2)) 1000 0 C l (by omega) (by omega) (by rw [List.take_zero, List.append_nil]; exact ht)
theorem r_wr_L87 (hw : Wf b) (hr : RB A 0 b) (ho : RO O (ord b)) {k0 : Nat} {e : En} (he : (ord b)[k0]? = some e) {u : List Nat} (hu : u.length ≤ 10) (K : Int32 → (Nat → Int32) → Int32 → Option (Int32 × (Nat → Int32) × (Nat → Int32) × Int32 × Int32 × Int32)) : ∀ (fuel k : Nat) (mC : Nat → Int32) (s : Int32), k ≤ sz b e.1 - e.2 → sz b e.1 - e.2 < fuel + k → RTX mC s (u ++ (sfx b e.1 e.2).take k) → ∃ m' s', f_X9_write_L87 O (nn k0) A fuel (nn k) mC s K = K (nn (sz b e.1 - e.2)) m' s' ∧ RTX m' s' (u ++ (sfx b e.1 e.2).take (sz b e.1 - e.2)) := by
  intro fuel
  have h8 := hw.1
  have hkl := (List.getElem?_eq_some_iff.mp he).1
  have hl := (ord_good hw).2.2
  have hv : e.2 < sz b e.1 := ((ord_good hw).2.1 e).mp (List.mem_of_getElem? he)
  have hi := sz_in hv
  have h10 := hw.sz_le e.1
  induction fuel with
  | zero => intro k mC s h1 h2; omega
  | succ fuel ih =>
    intro k mC s h1 h2 h3
    rw [f_X9_write_L87, ldi_nn (by omega) (by omega), Option.bind_some, ho k0 e he, r_left hw hr hi (by omega) (by omega), Option.bind_some]
    by_cases hk : sz b e.1 - e.2 ≤ k
    · rw [if_pos (by rw [nn_le (by omega) (by omega)]; exact hk)]
      have : k = sz b e.1 - e.2 := by omega
      rw [this] at h3 ⊢
      exact ⟨mC, s, rfl, h3⟩
    · have hl := hw.lt_le e.1 (e.2 + k)
      rw [if_neg (by rw [nn_le (by omega) (by omega)]; exact hk), Option.bind_some, r_letterOf hw hr hi (by omega), Option.bind_some, show nn k + 1 = nn (k + 1) from nn_add k 1]
      obtain ⟨m', s', g, h⟩ := r_wr h3 (by rw [List.length_append, List.length_take]; omega) (x := lt b e.1 (e.2 + k)) (by omega)
      rw [g, Option.bind_some]
      refine ih (k + 1) m' s' (by omega) (by omega) ?_
      rw [take_suc b (by omega), ← List.append_assoc]
      exact h
theorem r_wr_L42 (hw : Wf b) (hr : RB A 0 b) (ho : RO O (ord b)) {k0 m : Nat} {e : En} (he : (ord b)[k0]? = some e) (hm : e.2 + m ≤ sz b e.1) (K : Int32 → (Nat → Int32) → Int32 → Option (Int32 × (Nat → Int32) × (Nat → Int32) × Int32 × Int32 × Int32)) : ∀ (fuel k : Nat) (mC : Nat → Int32) (s : Int32), k ≤ m → m < fuel + k → RTX mC s ((sfx b e.1 e.2).take k) → ∃ m' s', f_X9_writeLongest_L42 (nn k0) (nn m) O A fuel (nn k) mC s K = K (nn m) m' s' ∧ RTX m' s' ((sfx b e.1 e.2).take m) := by
  intro fuel
  have h8 := hw.1
  have hkl := (List.getElem?_eq_some_iff.mp he).1
  have hl := (ord_good hw).2.2
  have hv : e.2 < sz b e.1 := ((ord_good hw).2.1 e).mp (List.mem_of_getElem? he)
  have hi := sz_in hv
  have h10 := hw.sz_le e.1
  induction fuel with
  | zero => intro k mC s h1 h2; omega
  | succ fuel ih =>
    intro k mC s h1 h2 h3
    rw [f_X9_writeLongest_L42]
    by_cases hk : m ≤ k
    · rw [if_pos (by rw [nn_le (by omega) (by omega)]; exact hk)]
      have : k = m := by omega
      subst this
      exact ⟨mC, s, rfl, h3⟩
    · have hl := hw.lt_le e.1 (e.2 + k)
      rw [if_neg (by rw [nn_le (by omega) (by omega)]; exact hk), ldi_nn (by omega) (by omega), Option.bind_some, ho k0 e he, r_letterOf hw hr hi (by omega), Option.bind_some, show nn k + 1 = nn (k + 1) from nn_add k 1]
      obtain ⟨m', s', g, h⟩ := r_wr h3 (by rw [List.length_take]; omega) (x := lt b e.1 (e.2 + k)) (by omega)
      rw [g, Option.bind_some]
      refine ih (k + 1) m' s' (by omega) (by omega) ?_
      rw [take_suc b (by omega)]
      exact h
theorem RTX.nil (mC : Nat → Int32) : RTX mC (nn 0) [] := ⟨rfl, Nat.zero_le _, fun i hi => by simp at hi⟩
/-- what both wrote -/
def WT (C : Nat → Int32) (l : Int32) (mC : Nat → Int32) (s : Int32) (v : List Nat) : Prop := TX C l v ∧ RTX mC s v
theorem q_write (hw : Wf b) (hc : CB F S n b) (hr : RB A 0 b) (ho : OR L P en (ord b)) (hv0 : WT C l mC s v) (X : Nat → Int64) (O : Nat → Int32) (x : Int32) : ∃ k X' C' l' r O' m' om' s' v', f_L_write X F S n L P en C l x = some (k, X', C', l') ∧ f_X9_write A O mC s x = some (r, O', m', k, om', s') ∧ (k = 0 → X' 0 = r.toInt64) ∧ WT C' l' m' s' v' := by
  have h8 := hw.1
  have hl := (ord_good hw).2.2
  obtain ⟨O', o1, o2⟩ := r_orders hw hr O
  rcases rankQ hw ho x with ⟨k, e, he, rfl, e1, e2⟩ | ⟨_, e1, e2⟩
  · have hkl := (List.getElem?_eq_some_iff.mp he).1
    have hv : e.2 < sz b e.1 := ((ord_good hw).2.1 e).mp (List.mem_of_getElem? he)
    have hi := sz_in hv
    have h10 := hw.sz_le e.1
    obtain ⟨C1, l1, p1, t1⟩ := s_putD (TX.nil C) (by decide) (d := e.1) (by omega)
    obtain ⟨C2, l2, p2, t2⟩ := s_putT t1 (by show 1 < 60; omega) (x := 47) (by omega)
    obtain ⟨C3, l3, p3, t3⟩ := s_putD t2 (by show 2 < 60; omega) (d := e.2) (by omega)
    obtain ⟨C4, l4, p4, t4⟩ := s_putT t3 (by show 3 < 60; omega) (x := 58) (by omega)
    obtain ⟨C5, l5, p5, t5⟩ := s_putLs hw hc hi (p := e.2) (m := sz b e.1 - e.2) (by omega) (by show 4 ≤ 20; omega) t4
    obtain ⟨m1, s1, q1, u1⟩ := r_wr (RTX.nil mC) (by decide) (x := 48 + e.1) (by omega)
    obtain ⟨m2, s2, q2, u2⟩ := r_wr u1 (by show 1 < 20; omega) (x := 47) (by omega)
    obtain ⟨m3, s3, q3, u3⟩ := r_wr u2 (by show 2 < 20; omega) (x := 48 + e.2) (by omega)
    obtain ⟨m4, s4, q4, u4⟩ := r_wr u3 (by show 3 < 20; omega) (x := 58) (by omega)
    obtain ⟨m5, s5, q5, u5⟩ := r_wr_L87 hw hr o2 he (u := (([] ++ [48 + e.1]) ++ [47]) ++ [48 + e.2] ++ [58]) (by show 4 ≤ 10; omega) (fun _ q1 q2 => some (q2, O', q1, 0, nn (ord b).length, q2)) 1000 0 m4 s4 (Nat.zero_le _) (by omega) (by rw [List.take_zero, List.append_nil]; exact u4)
    refine ⟨0, vp_updL X 0 l5.toInt64, C5, l5, s5, O', m5, nn (ord b).length, s5, _, ?_, ?_, fun _ => ?_, t5, u5⟩
    · unfold f_L_write f_X8_write f_X7_clear
      rw [xb_l _ _ _ e1 rfl, s_lineAt hl ho he, Option.bind_some, s_placeAt hl ho he, Option.bind_some, Option.bind_some, show (0 : Int32) = nn 0 from rfl, p1, Option.bind_some]
      have p2' : f_X7_put C1 l1 47 = some (C2, l2) := p2
      rw [p2', Option.bind_some, p3, Option.bind_some]
      have p4' : f_X7_put C3 l3 58 = some (C4, l4) := p4
      rw [p4', Option.bind_some, s_size hw hc (by omega), Option.bind_some, nn_sub (by omega), p5, Option.bind_some]
      unfold f_X7_length
      rfl
    · unfold f_X9_write
      rw [o1, Option.bind_some, e2, Option.bind_some, if_neg (by decide)]
      unfold f_X9_write_J24
      have o3 : (O', nn (ord b).length).1 k = nn (10 * e.1 + e.2) := o2 k e he
      have d1 : (48 : Int32) + nn (10 * e.1 + e.2) / 10 = nn (48 + e.1) := by rw [nl10, nl48, nn_div (by omega) (by omega), nn_add, show (10 * e.1 + e.2) / 10 = e.1 by omega]
      have d2 : (48 : Int32) + (nn (10 * e.1 + e.2) - nn (10 * e.1 + e.2) / 10 * 10) = nn (48 + e.2) := by rw [nl10, nl48, nn_div (by omega) (by omega), nn_mul, nn_sub (by omega), nn_add, show 10 * e.1 + e.2 - (10 * e.1 + e.2) / 10 * 10 = e.2 by omega]
      rw [if_pos rfl, ldi_nn (by omega) (by omega), Option.bind_some, o3, d1]
      have q1' : f_X9_writes mC 0 (nn (48 + e.1)) = some (m1, s1) := q1
      rw [q1', Option.bind_some]
      have q2' : f_X9_writes m1 s1 47 = some (m2, s2) := q2
      rw [q2', Option.bind_some, Option.bind_some, d2, q3, Option.bind_some]
      have q4' : f_X9_writes m3 s3 58 = some (m4, s4) := q4
      rw [q4', Option.bind_some]
      exact q5
    · show l5.toInt64 = s5.toInt64
      rw [t5.1, u5.1]
  · refine ⟨1, X, C, l, 0, O', mC, nn (ord b).length, s, v, ?_, ?_, fun z => absurd z (by decide), hv0⟩
    · unfold f_L_write f_X8_write
      rw [xb_r _ _ _ e1 rfl]
      show (if "java/util/NoSuchElementException" = "java/util/NoSuchElementException" then some ((1 : Int32), X, C, l) else none) = _
      exact if_pos rfl
    · unfold f_X9_write
      rw [o1, Option.bind_some, e2, Option.bind_some, if_pos (by decide)]
      unfold f_X9_write_J24
      rw [if_neg (by decide)]
theorem mx_at (f : Nat → Nat) : ∀ (m k : Nat), mx f k m ≠ 0 → ∃ x, k ≤ x ∧ x < k + m ∧ f x = mx f k m
  | 0, k, h => absurd rfl h
  | m + 1, k, h => by
    rw [mxS] at h ⊢
    by_cases q : mx f (k + 1) m ≤ f k
    · exact ⟨k, Nat.le_refl _, by omega, (Nat.max_eq_left q).symm⟩
    · rw [Nat.max_eq_right (by omega)] at h ⊢
      obtain ⟨x, h1, h2, h3⟩ := mx_at f m (k + 1) h
      exact ⟨x, by omega, by omega, h3⟩
theorem lst_at (P : Nat → Bool) : ∀ (m k x : Nat), k ≤ x → x < k + m → P x = true → lst P k m < k + m ∧ P (lst P k m) = true
  | 0, k, x, h1, h2, _ => by omega
  | m + 1, k, x, h1, h2, h3 => by
    rw [lstS]
    by_cases q : P k = true
    · rw [if_pos q]
      exact ⟨by omega, q⟩
    · rw [if_neg q]
      have hx : x ≠ k := fun z => q (z ▸ h3)
      have := lst_at P m (k + 1) x (by omega) (by omega) h3
      exact ⟨by omega, this.2⟩
theorem flr_at (hw : Wf b) (h : lc b ≠ 0) : 1 ≤ flr b ∧ flr b < (ord b).length ∧ cc b (flr b) = lc b := by
  obtain ⟨x, h1, h2, h3⟩ := mx_at (cc b) ((ord b).length - 1) 1 h
  have hp : (fun k => decide (cc b k = lc b)) x = true := decide_eq_true h3
  have := lst_at (fun k => decide (cc b k = lc b)) ((ord b).length - 1) 1 x h1 h2 hp
  have g := (lst_le (fun k => decide (cc b k = lc b)) ((ord b).length - 1) 1).1
  exact ⟨g, by unfold flr; omega, of_decide_eq_true this.2⟩
theorem q_writeLongest (hw : Wf b) (hc : CB F S n b) (hr : RB A 0 b) (ho : OR L P en (ord b)) (hm : CM M b (ord b)) (hv0 : WT C l mC s v) (X : Nat → Int64) (O : Nat → Int32) : ∃ k X' C' l' r O' m' om' s' v', f_L_writeLongest X F S n L P M en C l = some (k, X', C', l') ∧ f_X9_writeLongest A O mC s = some (r, O', m', k, om', s') ∧ (k = 0 → X' 0 = r.toInt64) ∧ WT C' l' m' s' v' := by
  have h8 := hw.1
  have hl := (ord_good hw).2.2
  have hlc := lc_le hw
  obtain ⟨O', o2, _, o1, _⟩ := r_commons hw hr O
  by_cases h : lc b = 0
  · rw [if_pos h] at o1
    refine ⟨1, X, C, l, 0, O', mC, nn (ord b).length, s, v, ?_, ?_, fun z => absurd z (by decide), hv0⟩
    · unfold f_L_writeLongest f_X8_writeLongest
      have e : f_X8_checkRepeat M en = some (.inr "java/util/NoSuchElementException") := by
        unfold f_X8_checkRepeat
        rw [s_longest hw ho hm, Option.bind_some, h, if_neg (fun z => z rfl)]
      rw [xb_r _ _ _ e rfl]
      show (if "java/util/NoSuchElementException" = "java/util/NoSuchElementException" then some ((1 : Int32), X, C, l) else none) = _
      exact if_pos rfl
    · unfold f_X9_writeLongest
      rw [o1, Option.bind_some, if_neg (fun z => z rfl)]
      unfold f_X9_writeLongest_J17
      rw [if_neg (by decide)]
  · rw [if_neg h] at o1
    obtain ⟨g1, g2, g3⟩ := flr_at hw h
    have he : (ord b)[flr b - 1]? = some (ord b)[flr b - 1] := List.getElem?_eq_getElem (by omega)
    have hf : (ord b)[flr b]? = some (ord b)[flr b] := List.getElem?_eq_getElem (by omega)
    generalize (ord b)[flr b - 1] = e at he
    generalize (ord b)[flr b] = f at hf
    have hv : e.2 < sz b e.1 := ((ord_good hw).2.1 e).mp (List.mem_of_getElem? he)
    have hi := sz_in hv
    have h10 := hw.sz_le e.1
    have hcc : cc b (flr b) = cpl (sfx b e.1 e.2) (sfx b f.1 f.2) := cmn_at he hf
    have hle := cpl_le (sfx b e.1 e.2) (sfx b f.1 f.2)
    rw [sfx_len, ← hcc, g3] at hle
    obtain ⟨O2, o4, o3, _⟩ := r_commons hw hr O'
    obtain ⟨C5, l5, p5, t5⟩ := s_putLs hw hc hi (p := e.2) (m := lc b) (by omega) (by show 0 ≤ 20; omega) (TX.nil C)
    rw [List.nil_append] at t5
    obtain ⟨m5, s5, q5, u5⟩ := r_wr_L42 hw hr o4 he (m := lc b) (by omega) (fun _ q1 q2 => some (nn (lc b), O2, q1, 0, nn (ord b).length, q2)) 1000 0 mC 0 (Nat.zero_le _) (by omega) (by rw [List.take_zero]; exact RTX.nil mC)
    refine ⟨0, vp_updL X 0 l5.toInt64, C5, l5, nn (lc b), O2, m5, nn (ord b).length, s5, _, ?_, ?_, fun _ => ?_, t5, u5⟩
    · unfold f_L_writeLongest f_X8_writeLongest f_X7_clear
      have ek : f_X8_checkRepeat M en = some (.inl 0) := by
        unfold f_X8_checkRepeat
        rw [s_longest hw ho hm, Option.bind_some, if_pos (by rw [nl0, nn_eq (by omega) (by omega)]; exact h)]
      rw [xb_l _ _ _ ek rfl, s_fl hw ho hm, Option.bind_some, Option.bind_some, s_lineAt hl ho he, Option.bind_some, s_placeAt hl ho he, Option.bind_some, s_longest hw ho hm, Option.bind_some, show (0 : Int32) = nn 0 from rfl, p5, Option.bind_some]
      unfold f_X7_length
      rfl
    · unfold f_X9_writeLongest
      rw [o1, Option.bind_some, if_pos (show ¬ nn (flr b - 1) = -1 from nn_ng' (by omega))]
      unfold f_X9_writeLongest_J17
      rw [if_pos rfl, o3, Option.bind_some]
      exact q5
    · show l5.toInt64 = (nn (lc b)).toInt64
      rw [t5.1, List.length_take, sfx_len, Nat.min_eq_left (by omega)]
end WR
