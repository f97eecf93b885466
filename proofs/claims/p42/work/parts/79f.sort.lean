/-! THE LAW SORTS THE ENDINGS BY ITSELF -/
section LSRT
variable {F S L P M C : Nat → Int32} {n en l hs : Int32} {b : Bk} {w v : List Nat} {i j p q k N : Nat}
theorem rld_nn {E : Nat → Option (List Int32)} (hN : N ≤ 1000) (hk : k < N) : rld E N (nn k) = E k := by
  unfold rld
  rw [nn_clamp (by omega), if_neg]
  rintro (q | q)
  · exact nn_nlt0 (a := k) (by omega) q
  · omega
theorem rst_nn {E : Nat → Option (List Int32)} {xs : List Int32} (hN : N ≤ 1000) (hk : k < N) : rst E N (nn k) xs = some (va_up E k (some xs)) := by
  unfold rst
  rw [nn_clamp (by omega), if_neg]
  rintro (q | q)
  · exact nn_nlt0 (a := k) (by omega) q
  · omega
theorem ite_mx {a c : Nat} (ha : a < 1000000) (hc : c < 1000000) : (if nn a < nn c then nn c else nn a) = nn (max a c) := by
  simp only [nn_lt (show a < 2147483648 by omega) (show c < 2147483648 by omega)]
  exact ite_max a c
theorem nle {a c : Nat} (ha : a < 1000000) (hc : c < 1000000) (h : a ≤ c) : nn a ≤ nn c := by rw [nn_le (by omega) (by omega)]; exact h
theorem nnle {a c : Nat} (ha : a < 1000000) (hc : c < 1000000) (h : ¬ a ≤ c) : ¬ nn a ≤ nn c := by rw [nn_le (by omega) (by omega)]; exact h
theorem l166 (hw : Wf b) (hi : i < b.length) (hp : p < sz b i) (kk : Int32 → Int32 → Option Unit) : ∀ (fuel k a : Nat), k ≤ p → p < fuel + k → a ≤ 1000 → f_L_law_L166 (tx (ln b i)) (nn p) fuel (nn a) (nn k) kk = kk (nn (max a (mx (fun q => cpl (sfx b i p) (sfx b i q)) k (p - k)))) (nn p)
  | 0, k, a, h1, h2, h3 => by omega
  | fuel + 1, k, a, h1, h2, h3 => by
    have h10 := hw.sz_le i
    have hl : (ln b i).length = sz b i := rfl
    rw [f_L_law_L166]
    by_cases q : k < p
    · have g := cpl_le (sfx b i k) (sfx b i p)
      rw [sfx_len] at g
      have e1 : sub1 (tx (ln b i)) (nn k) = some (tx (sfx b i k)) := tx_sub1 (by omega) (by omega)
      have e2 : sub1 (tx (ln b i)) (nn p) = some (tx (sfx b i p)) := tx_sub1 (by omega) (by omega)
      rw [if_neg (nnle (by omega) (by omega) (by omega)), e1, Option.bind_some, e2, Option.bind_some, l_alike (hw.lt_sfx i k) (hw.lt_sfx i p), Option.bind_some, ite_mx (by omega) (by omega), nn_s1, l166 hw hi hp kk fuel (k + 1) _ (by omega) (by omega) (by omega), mx_go _ q, cpl_comm (sfx b i k), Nat.max_assoc]
    · rw [if_pos (nle (by omega) (by omega) (by omega)), mx_end _ (by omega), Nat.max_zero, show k = p by omega]
/-- the law's rows of endings and their places stand for l -/
def EW (b : Bk) (l : List En) (E : Nat → Option (List Int32)) (A : Nat → Int32) : Prop := ∀ (k : Nat) (e : En), l[k]? = some e → E k = some (tx (sx b e)) ∧ A k = nn (10 * e.1 + e.2)
theorem l216 (hw : Wf b) {l : List En} {e : En} {E0 : Nat → Option (List Int32)} {A0 : Nat → Int32} (he : vld b e) (hl : l.length < 80) (hs : Srt b l) (hv : ∀ x ∈ l, vld b x ∧ x ≠ e) (hle : ∀ x ∈ l, x.1 ≤ e.1) (hE : EW b l E0 A0) (kk : Int32 → (Nat → Option (List Int32)) → (Nat → Int32) → Option Unit) : ∀ (fuel j : Nat) (E : Nat → Option (List Int32)) (A : Nat → Int32), pos b l e ≤ j → j ≤ l.length → j < fuel + pos b l e → (∀ k, k < j → E k = E0 k ∧ A k = A0 k) → (∀ k, j < k → k ≤ l.length → E k = E0 (k - 1) ∧ A k = A0 (k - 1)) → ∃ E' A', f_L_law_L216 (tx (sx b e)) 90 fuel (nn j) E A kk = kk (nn (pos b l e)) E' A' ∧ (∀ k, k < pos b l e → E' k = E0 k ∧ A' k = A0 k) ∧ (∀ k, pos b l e < k → k ≤ l.length → E' k = E0 (k - 1) ∧ A' k = A0 (k - 1))
  | 0, j, E, A, h1, h2, h3, h4, h5 => by omega
  | fuel + 1, j, E, A, h1, h2, h3, h4, h5 => by
    have hp := pos_le b l e
    rw [f_L_law_L216]
    by_cases q : j = 0
    · refine ⟨E, A, ?_, fun k hk => h4 k (by omega), fun k h6 h7 => h5 k (by omega) h7⟩
      rw [if_pos (show nn j ≤ 0 by rw [nl0]; exact nle (by omega) (by omega) (by omega)), show pos b l e = j by omega]
    · have hj : j - 1 < l.length := by omega
      have ej : l[j - 1]? = some l[j - 1] := List.getElem?_eq_getElem hj
      obtain ⟨x1, x2⟩ := hE _ _ ej
      obtain ⟨y1, y2⟩ := h4 (j - 1) (by omega)
      obtain ⟨z, c1, _, c3⟩ := l_comp (hw.lt_sfx e.1 e.2) (hw.lt_sfx l[j - 1].1 l[j - 1].2)
      have c1' : f_L_compare (tx (sx b e)) (tx (sx b l[j - 1])) = some z := c1
      have esub : nn j - 1 = nn (j - 1) := nn_sub (b := 1) (by omega)
      have hm := List.getElem_mem hj
      have hat := split_at he hs hv hj
      rw [if_neg (show ¬ nn j ≤ 0 by rw [nl0]; exact nnle (by omega) (by omega) (by omega)), esub, rld_nn (by omega) (by omega), y1, x1, Option.bind_some, c1', Option.bind_some]
      by_cases r : j - 1 < pos b l e
      · have hlt : ¬ llt (sx b e) (sx b l[j - 1]) = true := fun h => Bf_asy (hat.1 r) (befL_iff.mpr (Or.inl h))
        refine ⟨E, A, ?_, fun k hk => h4 k (by omega), fun k h6 h7 => h5 k (by omega) h7⟩
        rw [if_pos (c3.mpr hlt), show pos b l e = j by omega]
      · have hlt : llt (sx b e) (sx b l[j - 1]) = true := by
          rcases befL_iff.mp (hat.2 (by omega)) with h | h
          · exact h
          · have := hle _ hm
            omega
        rw [if_neg (fun h => c3.mp h hlt), Option.bind_some, rst_nn (by omega) (by omega), Option.bind_some, ldi_nn (by omega) (by omega), Option.bind_some, sti_nn (by omega) (by omega), Option.bind_some, show nn j + -1 = nn (j - 1) from nn_pred (by omega)]
        refine l216 hw he hl hs hv hle hE kk fuel (j - 1) _ _ (by omega) (by omega) (by omega) (fun k hk => ?_) (fun k h6 h7 => ?_)
        · rw [vu_ne (by omega), upd_ne (by omega)]
          exact h4 k (by omega)
        · by_cases u : k = j
          · subst u
            rw [vu_eq, upd_eq, y2, x1]
            exact ⟨rfl, rfl⟩
          · rw [vu_ne (by omega), upd_ne (by omega)]
            exact h5 k (by omega) h7
theorem EW.ins {l : List En} {e : En} {E0 E' : Nat → Option (List Int32)} {A0 A' : Nat → Int32} (hE : EW b l E0 A0) (h1 : ∀ k, k < pos b l e → E' k = E0 k ∧ A' k = A0 k) (h2 : ∀ k, pos b l e < k → k ≤ l.length → E' k = E0 (k - 1) ∧ A' k = A0 (k - 1)) : EW b (ins b l e) (va_up E' (pos b l e) (some (tx (sx b e)))) (upd A' (pos b l e) (nn (10 * e.1 + e.2))) := by
  intro k f hk
  have hkl := (List.getElem?_eq_some_iff.mp hk).1
  rw [ins_len] at hkl
  rw [ins_get] at hk
  by_cases q : k < pos b l e
  · rw [if_pos q] at hk
    rw [vu_ne (by omega), upd_ne (by omega), (h1 k q).1, (h1 k q).2]
    exact hE k f hk
  · rw [if_neg q] at hk
    by_cases q2 : k = pos b l e
    · rw [if_pos q2] at hk
      cases hk
      rw [q2, vu_eq, upd_eq]
      exact ⟨rfl, rfl⟩
    · rw [if_neg q2] at hk
      rw [vu_ne q2, upd_ne q2, (h2 k (by omega) (by omega)).1, (h2 k (by omega) (by omega)).2]
      exact hE _ f hk
theorem bit_at (hw : Wf b) (hp : p < sz b i) : (1 : Int32) <<< ((nn (lt b i p) - 97) &&& 31) = nn (2 ^ (lt b i p - 97)) ∧ 2 ^ (lt b i p - 97) < 67108864 := by
  have g1 := hw.lt_ge hp
  have g2 := hw.lt_le i p
  have hb := bit_all ⟨lt b i p - 97, by omega⟩
  refine ⟨?_, hb.2⟩
  have := hb.1
  rw [show (⟨lt b i p - 97, by omega⟩ : Fin 26).val + 97 = lt b i p by show lt b i p - 97 + 97 = _; omega] at this
  exact this
theorem bit_step {va vc : Nat} (hw : Wf b) (hp : p < sz b i) (h : ∀ k, vc.testBit k = true ↔ ((va ||| 2 ^ (lt b i p - 97)).testBit k = true ∨ ∃ q, p + 1 ≤ q ∧ q < sz b i ∧ lt b i q = 97 + k)) : ∀ k, vc.testBit k = true ↔ (va.testBit k = true ∨ ∃ q, p ≤ q ∧ q < sz b i ∧ lt b i q = 97 + k) := by
  intro k
  have g1 := hw.lt_ge hp
  refine (h k).trans ?_
  rw [Nat.testBit_or, Nat.testBit_two_pow, Bool.or_eq_true, decide_eq_true_iff]
  constructor
  · rintro ((h | h) | ⟨r, q1, q2, q3⟩)
    · exact Or.inl h
    · exact Or.inr ⟨p, Nat.le_refl _, by omega, by omega⟩
    · exact Or.inr ⟨r, by omega, q2, q3⟩
  · rintro (h | ⟨r, q1, q2, q3⟩)
    · exact Or.inl (Or.inl h)
    · by_cases z : r = p
      · subst z
        exact Or.inl (Or.inr (by omega))
      · exact Or.inr ⟨r, by omega, q2, q3⟩
theorem l119 (hw : Wf b) (hi : i < b.length) (kk : Int32 → Int32 → Int32 → Int32 → Int32 → (Nat → Option (List Int32)) → (Nat → Int32) → Option Unit) : ∀ (fuel p va vb t : Nat) (l : List En) (E : Nat → Option (List Int32)) (A : Nat → Int32), p ≤ sz b i → sz b i < fuel + p → EW b l E A → Gd b i p l → va < 67108864 → vb < 67108864 → t ≤ 1000 → ∃ va' vb' E' A', f_L_law_L119 (nn i) (tx (ln b i)) 90 fuel (nn l.length) (nn va) (nn vb) (nn t) (nn p) E A kk = kk (nn (li b i p (sz b i - p) l).length) (nn va') (nn vb') (nn (max t (mx (fun p => mil b i p i p) p (sz b i - p)))) (nn (sz b i)) E' A' ∧ EW b (li b i p (sz b i - p) l) E' A' ∧ va' < 67108864 ∧ vb' < 67108864 ∧ (∀ k, va'.testBit k = true ↔ (va.testBit k = true ∨ ∃ q, p ≤ q ∧ q < sz b i ∧ lt b i q = 97 + k)) ∧ (∀ k, vb'.testBit k = true ↔ (vb.testBit k = true ∨ ∃ q, p ≤ q ∧ q < sz b i ∧ lt b i q = 97 + k))
  | 0, p, va, vb, t, l, E, A, h1, h2, h3, h4, h5, h6, h7 => by omega
  | fuel + 1, p, va, vb, t, l, E, A, h1, h2, h3, h4, h5, h6, h7 => by
    have h8 := hw.1
    have h10 := hw.sz_le i
    have hl : (ln b i).length = sz b i := rfl
    have hlen := h4.2.2
    rw [f_L_law_L119]
    simp only [tx_len, nI_nn, hl]
    by_cases q : p < sz b i
    · have he : vld b (i, p) := q
      have hv : ∀ y ∈ l, vld b y ∧ y ≠ (i, p) := fun y hy => by
        have := (h4.2.1 y).mp hy
        refine ⟨this.1, fun q => ?_⟩
        rw [q] at this
        rcases this.2 with q | q
        · exact absurd q (Nat.lt_irrefl _)
        · exact absurd q.2 (Nat.lt_irrefl _)
      have hle : ∀ x ∈ l, x.1 ≤ (i, p).1 := fun y hy => by
        rcases ((h4.2.1 y).mp hy).2 with q | q
        · exact Nat.le_of_lt q
        · exact Nat.le_of_eq q.1
      have hpp := pos_le b l (i, p)
      obtain ⟨bt1, bt2⟩ := bit_at hw q
      have e1 : ldi (fun j => (tx (ln b i)).getD j 0) (sz b i) (nn p) = some (nn (lt b i p)) := tx_at (u := ln b i) q (by omega)
      have e2 : sub1 (tx (ln b i)) (nn p) = some (tx (sx b (i, p))) := tx_sub1 (by omega) (by omega)
      have e3 : (10 : Int32) * nn i + nn p = nn (10 * i + p) := by rw [nl10, nn_mul, nn_add]
      have hmil := mil_le hw i p i p
      rw [if_neg (nnle (by omega) (by omega) (by omega)), e1, Option.bind_some, Option.bind_some, nl0, l166 hw hi q _ 11 0 t (Nat.zero_le _) (by omega) h7]
      simp only [e2, Option.bind_some]
      obtain ⟨E1, A1, f1, f2, f3⟩ := l216 hw he (by omega) h4.1 hv hle h3 (fun x25_216_48 w63c_216_49 w70c_216_51 => (rst w63c_216_49 90 x25_216_48 (tx (sx b (i, p)))).bind fun E272_57 => (sti w70c_216_51 90 x25_216_48 ((10 * nn i) + nn p)).bind fun g285_60 => f_L_law_L119 (nn i) (tx (ln b i)) 90 fuel (nn l.length + 1) (nn va ||| ((1 : Int32) <<< ((nn (lt b i p) - 97) &&& 31))) (nn vb ||| ((1 : Int32) <<< ((nn (lt b i p) - 97) &&& 31))) (nn (max t (mx (fun q => cpl (sfx b i p) (sfx b i q)) 0 (p - 0)))) (nn p + 1) E272_57 g285_60 kk) 82 l.length E A hpp (Nat.le_refl _) (by omega) (fun k _ => ⟨rfl, rfl⟩) (fun k h6 h7 => by omega)
      obtain ⟨va', vb', E', A', g1, g2, g3, g4, g5, g6⟩ := l119 hw hi kk fuel (p + 1) (va ||| 2 ^ (lt b i p - 97)) (vb ||| 2 ^ (lt b i p - 97)) (max t (mil b i p i p)) (ins b l (i, p)) _ _ (by omega) (by omega) (h3.ins f2 f3) (h4.step q) (Nat.or_lt_two_pow (n := 26) h5 bt2) (Nat.or_lt_two_pow (n := 26) h6 bt2) (by omega)
      refine ⟨va', vb', E', A', ?_, by rw [li_go _ _ _ q]; exact g2, g3, g4, bit_step hw q g5, bit_step hw q g6⟩
      rw [f1]
      rw [rst_nn (by omega) (by omega), Option.bind_some, e3, sti_nn (by omega) (by omega), Option.bind_some, bt1, nn_or h5 bt2, nn_or h6 bt2, nn_s1, nn_s1, ← ins_len b l (i, p), li_go _ _ _ q, mx_go _ q, ← Nat.max_assoc]
      exact g1
    · have hp : p = sz b i := by omega
      refine ⟨va, vb, E, A, ?_, by rw [li_end _ _ _ (by omega)]; exact h3, h5, h6, fun k => ⟨Or.inl, fun h => ?_⟩, fun k => ⟨Or.inl, fun h => ?_⟩⟩
      · rw [if_pos (nle (by omega) (by omega) (by omega)), li_end _ _ _ (by omega), mx_end _ (by omega), Nat.max_zero, hp]
      · rcases h with h | ⟨r, q1, q2, _⟩
        · exact h
        · omega
      · rcases h with h | ⟨r, q1, q2, _⟩
        · exact h
        · omega
end LSRT
