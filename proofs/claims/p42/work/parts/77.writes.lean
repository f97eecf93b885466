/-! WHAT IS WRITTEN -/
section WR
variable {F S L P M C T A O W R D Q mC : Nat → Int32} {n en l l' c s : Int32} {b : Bk} {w v : List Nat}
theorem s_putT (ht : TXx C l w) (hl : w.length < 60) {x : Nat} (hx : x < 65536) : ∃ C' l', f_X7_put C l (nn x) = some (C', l') ∧ TXx C' l' (w ++ [x]) := by
  obtain ⟨rfl, h60, hg⟩ := ht
  exact ⟨_, _, s_put hl hx, TXx.app ⟨rfl, h60, hg⟩ hl hx⟩
theorem s_putD (ht : TXx C l w) (hl : w.length < 60) {d : Nat} (hd : d < 10) : ∃ C' l', f_X7_putDigit C l (nn d) = some (C', l') ∧ TXx C' l' (w ++ [48 + d]) := by
  obtain ⟨C', l', e, h⟩ := s_putT ht hl (x := 48 + d) (by omega)
  refine ⟨C', l', ?_, h⟩
  unfold f_X7_putDigit
  rw [nl48, nn_add, i2c_nn (by omega), e, Option.bind_some]
theorem take_suc (b : Bk) {i p k : Nat} (h : p + k < sz b i) : (sfx b i p).take (k + 1) = (sfx b i p).take k ++ [lt b i (p + k)] := by
  have hk : k < (sfx b i p).length := by rw [sfx_len]; omega
  rw [List.take_add_one, List.getElem?_eq_getElem hk]
  have e := sfx_getD b i p k
  rw [List.getD_eq_getElem?_getD, List.getElem?_eq_getElem hk] at e
  show _ ++ [(sfx b i p)[k]] = _
  rw [show (sfx b i p)[k] = lt b i (p + k) from e]
theorem s_putLs_L (hw : Wf b) (hc : CB F S n b) {i p m : Nat} (hi : i < b.length) (hm : p + m ≤ sz b i) {u : List Nat} (hu : u.length ≤ 20) (K : Int32 → (Nat → Int32) → Int32 → Option ((Nat → Int32) × Int32)) : ∀ (fuel k : Nat) (C : Nat → Int32) (l : Int32), k ≤ m → m < fuel + k → TXx C l (u ++ (sfx b i p).take k) → ∃ C' l', f_X7_putLetters_L3 (nn i) (nn p) (nn m) F S n fuel (nn k) C l K = K (nn m) C' l' ∧ TXx C' l' (u ++ (sfx b i p).take m) := by
  intro fuel
  have h8 := hw.1
  have h10 := hw.sz_le i
  induction fuel with
  | zero => intro k C l h1 h2; omega
  | succ fuel ih =>
    intro k C l h1 h2 h3
    rw [f_X7_putLetters_L3]
    by_cases hk : m ≤ k
    · rw [if_pos (by rw [nn_le (by omega) (by omega)]; exact hk)]
      have : k = m := by omega
      subst this
      exact ⟨C, l, rfl, h3⟩
    · have hl := hw.lt_le i (p + k)
      rw [if_neg (by rw [nn_le (by omega) (by omega)]; exact hk), nn_add, s_letterAt hw hc (by omega) (by omega), Option.bind_some, show nn k + 1 = nn (k + 1) from nn_add k 1]
      obtain ⟨C', l', e, h⟩ := s_putT h3 (by rw [List.length_append, List.length_take]; omega) (x := lt b i (p + k)) (by omega)
      rw [e, Option.bind_some]
      refine ih (k + 1) C' l' (by omega) (by omega) ?_
      rw [take_suc b (by omega), ← List.append_assoc]
      exact h
theorem s_putLs (hw : Wf b) (hc : CB F S n b) {i p m : Nat} (hi : i < b.length) (hm : p + m ≤ sz b i) {u : List Nat} (hu : u.length ≤ 20) (ht : TXx C l u) : ∃ C' l', f_X7_putLetters C l F S n (nn i) (nn p) (nn m) = some (C', l') ∧ TXx C' l' (u ++ (sfx b i p).take m) := by
  have h10 := hw.sz_le i
  exact s_putLs_L hw hc hi hm hu (fun _ q1 q2 => some (q1, q2)) 1000 0 C l (by omega) (by omega) (by rw [List.take_zero, List.append_nil]; exact ht)
theorem RTX.nil (mC : Nat → Int32) : RTX mC (nn 0) [] := ⟨rfl, Nat.zero_le _, fun i hi => by simp at hi⟩
/-- what both wrote -/
def WT (C : Nat → Int32) (l : Int32) (mC : Nat → Int32) (s : Int32) (v : List Nat) : Prop := TXx C l v ∧ RTX mC s v
theorem mx_at (f : Nat → Nat) : ∀ (m k : Nat), mx f k m ≠ 0 → ∃ x, k ≤ x ∧ x < k + m ∧ f x = mx f k m
  | 0, k, h => absurd rfl h
  | m + 1, k, h => by
    rw [mxS] at h ⊢
    by_cases q : mx f (k + 1) m ≤ f k
    · exact ⟨k, Nat.le_refl _, by omega, (Nat.max_eq_left q).symm⟩
    · rw [Nat.max_eq_right (by omega)] at h ⊢
      obtain ⟨x, h1, h2, h3⟩ := mx_at f m (k + 1) h
      exact ⟨x, by omega, by omega, h3⟩
theorem lst_at (P : Nat → Bool) : ∀ (m k x : Nat), k ≤ x → x < k + m → P x = true → lst P k m < k + m ∧ P (lst P k m) = true
  | 0, k, x, h1, h2, _ => by omega
  | m + 1, k, x, h1, h2, h3 => by
    rw [lstS]
    by_cases q : P k = true
    · rw [if_pos q]
      exact ⟨by omega, q⟩
    · rw [if_neg q]
      have hx : x ≠ k := fun z => q (z ▸ h3)
      have := lst_at P m (k + 1) x (by omega) (by omega) h3
      exact ⟨by omega, this.2⟩
theorem flr_at (hw : Wf b) (h : lc b ≠ 0) : 1 ≤ flr b ∧ flr b < (ord b).length ∧ cc b (flr b) = lc b := by
  obtain ⟨x, h1, h2, h3⟩ := mx_at (cc b) ((ord b).length - 1) 1 h
  have hp : (fun k => decide (cc b k = lc b)) x = true := decide_eq_true h3
  have := lst_at (fun k => decide (cc b k = lc b)) ((ord b).length - 1) 1 x h1 h2 hp
  have g := (lst_le (fun k => decide (cc b k = lc b)) ((ord b).length - 1) 1).1
  exact ⟨g, by unfold flr; omega, of_decide_eq_true this.2⟩
end WR

