/-! THE LAW'S FIRST LOOP: line by line -/
theorem cpl_eq : ∀ u v : List Nat, cpl u v = u.length → u.length = v.length → u = v
  | [], [], _, _ => rfl
  | [], _ :: _, _, h => by simp at h
  | _ :: _, [], _, h => by simp at h
  | a :: u, c :: v, h1, h2 => by
    rw [cpl_cons] at h1
    by_cases q : a = c
    · rw [if_pos q, List.length_cons] at h1
      rw [q, cpl_eq u v (by omega) (by simpa using h2)]
    · rw [if_neg q, List.length_cons] at h1
      omega
section LLN
variable {F S L P M C : Nat → Int32} {n en l hs : Int32} {b : Bk} {w v : List Nat} {i j p q k N : Nat}
theorem sme_iff (b : Bk) (i j : Nat) : sme b i j = true ↔ ln b i = ln b j := by
  unfold sme
  rw [Bool.and_eq_true, decide_eq_true_iff, decide_eq_true_iff, sfx0, sfx0]
  constructor
  · rintro ⟨h1, h2⟩
    exact cpl_eq _ _ h2 h1
  · intro h
    unfold sz
    rw [h, cpl_self]
    exact ⟨rfl, rfl⟩
theorem rvs_iff (b : Bk) (i j : Nat) : rvs b i j = true ↔ ln b i = (ln b j).reverse := by
  unfold rvs
  rw [Bool.and_eq_true, decide_eq_true_iff]
  constructor
  · rintro ⟨h1, h2⟩
    have h3 := al_all _ _ h2
    have h1' : (ln b i).length = (ln b j).length := h1
    refine List.ext_getElem (by rw [List.length_reverse]; exact h1') (fun k k1 k2 => ?_)
    have g1 := h3 k (Nat.zero_le _) (by show k < 0 + (sz b i - 0); unfold sz; omega)
    rw [decide_eq_true_iff] at g1
    have g2 := getD_rev (u := ln b j) (p := k) (by omega)
    unfold lt at g1
    rw [show sz b i - 1 - k = (ln b j).length - 1 - k by unfold sz; omega, ← g2] at g1
    rw [List.getD_eq_getElem?_getD, List.getD_eq_getElem?_getD, List.getElem?_eq_getElem k1, List.getElem?_eq_getElem k2] at g1
    exact g1
  · intro h
    have hlen : (ln b i).length = (ln b j).length := by rw [h, List.length_reverse]
    refine ⟨hlen, al_of _ _ (fun k _ hk => ?_)⟩
    rw [decide_eq_true_iff]
    have g2 := getD_rev (u := ln b j) (p := k) (by unfold sz at hk; omega)
    unfold lt
    rw [h, g2]
    congr 1
    unfold sz
    rw [h, List.length_reverse]
theorem l300 (hw : Wf b) (hc : CB F S n b) (hi : i < b.length) (kk : Int32 → Int32 → Int32 → Option Unit) : ∀ (fuel k : Nat), k ≤ b.length → k < fuel → f_L_law_L300 (tx (ln b i)) F S n fuel (nn (sm (fun j => one (sme b i j)) k (b.length - k))) (nn (lst (fun j => sme b i j) k (b.length - k))) (nn k - 1) kk = kk (nn (sm (fun j => one (sme b i j)) 0 (b.length - 0))) (nn (lst (fun j => sme b i j) 0 (b.length - 0))) (nn 0 - 1)
  | 0, k, h1, h2 => by omega
  | fuel + 1, 0, h1, h2 => by
    rw [f_L_law_L300, if_pos (by decide)]
  | fuel + 1, k + 1, h1, h2 => by
    have h8 := hw.1
    have e1 : nn (k + 1) - 1 = nn k := nn_sub (b := 1) (by omega)
    obtain ⟨z, c1, c2, _⟩ := l_comp (hw.lt_ln (i := k) (by omega)) (hw.lt_ln hi)
    have e2 : nn k + -1 = nn k - 1 := (Int32.sub_eq_add_neg ..).symm
    rw [f_L_law_L300, e1, if_neg (show ¬ nn k < 0 from nn_nlt0 (by omega)), l_line hw hc (by omega), Option.bind_some, c1, Option.bind_some, e2]
    have ih := l300 hw hc hi kk fuel k (by omega) (by omega)
    by_cases h : ln b k = ln b i
    · have hs : sme b i k = true := (sme_iff b i k).mpr h.symm
      rw [if_neg (fun y => y (c2.mpr h)), nn_s1]
      rw [sm_go _ (by omega), lst_go _ (by omega), if_pos hs, one_t hs, Nat.add_comm 1] at ih
      exact ih
    · have hs : ¬ sme b i k = true := fun y => h ((sme_iff b i k).mp y).symm
      rw [if_pos (fun y => h (c2.mp y))]
      rw [sm_go _ (by omega), lst_go _ (by omega), if_neg hs, one_f hs, Nat.zero_add] at ih
      exact ih
theorem l300' (hw : Wf b) (hc : CB F S n b) (hi : i < b.length) (kk : Int32 → Int32 → Int32 → Option Unit) : f_L_law_L300 (tx (ln b i)) F S n 9 0 (nn b.length) (nn b.length - 1) kk = kk (nn (like b i)) (nn (lst (fun j => sme b i j) 0 (b.length - 0))) (nn 0 - 1) := by
  have h8 := hw.1
  have h := l300 hw hc hi kk 9 b.length (Nat.le_refl _) (by omega)
  rw [sm_end _ (Nat.le_refl _), lst_end _ (Nat.le_refl _)] at h
  exact h
theorem l332 (hw : Wf b) (hi : i < b.length) (kk : Int32 → Option Unit) : ∀ (fuel k : Nat), k ≤ sz b i → sz b i < fuel + k → f_L_law_L332 (tx (ln b i)) fuel (nn k) kk = kk (nn (lst (fun k => decide (sz b i - k ≤ cpl (sfx b i k) (sfx b i 0))) k (sz b i - k)))
  | 0, k, h1, h2 => by omega
  | fuel + 1, k, h1, h2 => by
    have h10 := hw.sz_le i
    have hl : (ln b i).length = sz b i := rfl
    rw [f_L_law_L332]
    simp only [tx_len, nI_nn, hl]
    by_cases q : k < sz b i
    · have e1 : sub1 (tx (ln b i)) (nn k) = some (tx (sfx b i k)) := tx_sub1 (by omega) (by omega)
      have g := cpl_le (sfx b i k) (sfx b i 0)
      rw [sfx_len] at g
      have e2 := l_alike (hw.lt_sfx i k) (hw.lt_sfx i 0)
      rw [sfx0] at e2
      rw [if_neg (nnle (by omega) (by omega) (by omega)), e1, Option.bind_some, e2, Option.bind_some, nn_sub (by omega), lst_go _ q]
      rw [sfx0] at g ⊢
      by_cases h : sz b i - k ≤ cpl (sfx b i k) (ln b i)
      · rw [if_pos (nle (by omega) (by omega) h), if_pos (decide_eq_true h)]
      · rw [if_neg (nnle (by omega) (by omega) h), if_neg (by rw [decide_eq_true_iff]; exact h), nn_s1, l332 hw hi kk fuel (k + 1) (by omega) (by omega)]
        rw [sfx0]
    · rw [if_pos (nle (by omega) (by omega) (by omega)), lst_end _ (by omega)]
theorem l332' (hw : Wf b) (hi : i < b.length) (kk : Int32 → Option Unit) : f_L_law_L332 (tx (ln b i)) 11 1 kk = kk (nn (per b i)) := by
  have h1 := (hw.gl hi).1
  have h10 := hw.sz_le i
  exact l332 hw hi kk 11 1 h1 (by omega)
theorem l119' (hw : Wf b) (hi : i < b.length) (kk : Int32 → Int32 → Int32 → Int32 → Int32 → (Nat → Option (List Int32)) → (Nat → Int32) → Option Unit) {va : Nat} {l : List En} {E : Nat → Option (List Int32)} {A : Nat → Int32} (hE : EW b l E A) (hg : Gd b i 0 l) (hva : va < 67108864) : ∃ va' vb' E' A', f_L_law_L119 (nn i) (tx (ln b i)) 90 11 (nn l.length) (nn va) 0 0 0 E A kk = kk (nn (li b i 0 (sz b i - 0) l).length) (nn va') (nn vb') (nn (lrep b i)) (nn (sz b i)) E' A' ∧ EW b (li b i 0 (sz b i - 0) l) E' A' ∧ va' < 67108864 ∧ (∀ k, va'.testBit k = true ↔ (va.testBit k = true ∨ hasL b i k)) ∧ f_J6_bitCount_0f7a4 (nn vb') = some (nn (dfl b i (i + 1))) := by
  have h10 := hw.sz_le i
  obtain ⟨va', vb', E', A', g1, g2, g3, g4, g5, g6⟩ := l119 hw hi kk 11 0 va 0 0 l E A (Nat.zero_le _) (by omega) hE hg hva (by omega) (by omega)
  refine ⟨va', vb', E', A', ?_, g2, g3, fun k => (g5 k).trans ?_, ?_⟩
  · rw [Nat.zero_max] at g1
    exact g1
  · constructor
    · rintro (h | ⟨r, _, r2, r3⟩)
      · exact Or.inl h
      · exact Or.inr ⟨r, r2, r3⟩
    · rintro (h | ⟨r, r2, r3⟩)
      · exact Or.inl h
      · exact Or.inr ⟨r, Nat.zero_le _, r2, r3⟩
  · rw [s_bitCount g4, pcn_bits, dfl_eq]
    refine congrArg (fun z => some (nn z)) (sm_congr 26 0 (fun k _ _ => congrArg one ?_))
    rw [Bool.eq_iff_iff, clD_iff, g6, Nat.zero_testBit]
    constructor
    · rintro (h | ⟨r, _, r2, r3⟩)
      · cases h
      · exact ⟨i, Nat.le_refl _, by omega, r, r2, r3⟩
    · rintro ⟨j, q1, q2, r, r2, r3⟩
      have : j = i := by omega
      subst this
      exact Or.inr ⟨r, Nat.zero_le _, r2, r3⟩
theorem lst_hit {P : Nat → Bool} : ∀ (m k i : Nat), k ≤ i → i < k + m → P i = true → (lst P k m = i ↔ lst P k (i - k) = i)
  | 0, k, i, h1, h2, h3 => by omega
  | m + 1, k, i, h1, h2, h3 => by
    by_cases e : k = i
    · subst e
      rw [lstS, if_pos h3, Nat.sub_self]
      exact ⟨fun _ => rfl, fun _ => rfl⟩
    · rw [lstS, lst_go _ (show k < i by omega)]
      by_cases q : P k = true
      · rw [if_pos q, if_pos q]
      · rw [if_neg q, if_neg q]
        exact lst_hit m (k + 1) i (by omega) (by omega) h3
theorem kin_step (hi : i < b.length) (h8 : b.length ≤ 8) (a : Nat) : nn a + (if ¬ nn (lst (fun j => sme b i j) 0 (b.length - 0)) = nn i then 0 else 1) = nn (a + one (decide (lst (fun j => sme b j i) 0 (i - 0) = i))) := by
  have hsym : (fun j => sme b j i) = (fun j => sme b i j) := funext (fun j => by
    rw [Bool.eq_iff_iff, sme_iff, sme_iff]
    exact ⟨Eq.symm, Eq.symm⟩)
  rw [hsym]
  have hle := (lst_le (fun j => sme b i j) (b.length - 0) 0).2
  have hit := lst_hit (P := fun j => sme b i j) (b.length - 0) 0 i (Nat.zero_le _) (by omega) ((sme_iff b i i).mpr rfl)
  by_cases h : lst (fun j => sme b i j) 0 (b.length - 0) = i
  · rw [if_neg (fun y => y (by rw [h])), one_t (by rw [decide_eq_true_iff]; exact hit.mp h), nn_s1]
  · rw [if_pos (by rw [nn_eq (by omega) (by omega)]; exact h), one_f (by rw [decide_eq_true_iff]; exact fun y => h (hit.mpr y)), nl0, nn_add]
theorem l77 (hw : Wf b) (hc : CB F S n b) (kk : Int32 → Int32 → Int32 → Int32 → Int32 → (Nat → Option (List Int32)) → (Nat → Option (List Int32)) → (Nat → Int32) → Option Unit) : ∀ (fuel x a9 a10 va : Nat) (l : List En) (G E : Nat → Option (List Int32)) (A : Nat → Int32), x ≤ b.length → b.length < fuel + x → EW b l E A → Gd b x 0 l → va < 67108864 → (∀ k, va.testBit k = true ↔ ∃ i, i < x ∧ hasL b i k) → (∀ i, i < x → G i = some (tx (ln b i))) → ∃ va' G' E' A', f_L_law_L77 (nn b.length) b.length 90 F S n fuel (nn l.length) (nn a9) (nn a10) (nn va) (nn x) G E A kk = kk (nn (lo b x (b.length - x) l).length) (nn (a9 + sm (fun i => one (decide (lst (fun j => sme b j i) 0 (i - 0) = i))) x (b.length - x))) (nn (a10 + sm (fun i => one (rvs b i i)) x (b.length - x))) (nn va') (nn b.length) G' E' A' ∧ EW b (lo b x (b.length - x) l) E' A' ∧ va' < 67108864 ∧ (∀ k, va'.testBit k = true ↔ ∃ i, i < b.length ∧ hasL b i k) ∧ (∀ i, i < b.length → G' i = some (tx (ln b i)))
  | 0, x, a9, a10, va, l, G, E, A, h1, h2, h3, h4, h5, h6, h7 => by omega
  | fuel + 1, x, a9, a10, va, l, G, E, A, h1, h2, h3, h4, h5, h6, h7 => by
    have h8 := hw.1
    rw [f_L_law_L77]
    by_cases q : x < b.length
    · have h10 := hw.sz_le x
      have hg1 := (hw.gl q).1
      have hl : (ln b x).length = sz b x := rfl
      obtain ⟨z, c1, c2, _⟩ := l_comp (hw.lt_ln q).rev (hw.lt_ln q)
      rw [if_neg (nnle (by omega) (by omega) (by omega)), l_line hw hc q, Option.bind_some, rst_nn (by omega) q, Option.bind_some, rld_nn (by omega) q, vu_eq, Option.bind_some]
      obtain ⟨va', vb', E', A', g1, g2, g3, g4, g5⟩ := l119' hw q _ h3 h4 h5
      rw [g1, l300' hw hc q, l332' hw q, l_turned (hw.lt_ln q), Option.bind_some, c1, Option.bind_some]
      simp only [tx_len, nI_nn, hl]
      have e10 : nn a10 + (if ¬ z = 0 then 0 else 1) = nn (a10 + one (rvs b x x)) := by
        by_cases h : z = 0
        · rw [if_neg (fun y => y h), one_t ((rvs_iff b x x).mpr (c2.mp h).symm), nn_s1]
        · rw [if_pos h, one_f (fun y => h (c2.mpr ((rvs_iff b x x).mp y).symm)), nl0, nn_add]
      rw [if_neg (show ¬ nn (sz b x) < 1 by rw [nl1, nn_lt (by omega) (by omega)]; omega), if_neg (show ¬ 10 < nn (sz b x) by rw [nl10, nn_lt (by omega) (by omega)]; omega), x_dif hw hc q, bL, g5, Option.bind_some, if_neg (fun y => y rfl), x_like hw hc q, bL, if_neg (fun y => y rfl), x_per hw hc q, bL, if_neg (fun y => y rfl), x_lrep hw hc q, bL, if_pos rfl, kin_step q h8, e10, nn_s1]
      have z1 : ∀ k, va'.testBit k = true ↔ ∃ i, i < x + 1 ∧ hasL b i k := fun k => (g4 k).trans (by
        constructor
        · rintro (h | h)
          · obtain ⟨i, r1, r2⟩ := (h6 k).mp h
            exact ⟨i, by omega, r2⟩
          · exact ⟨x, by omega, h⟩
        · rintro ⟨i, r1, r2⟩
          by_cases e : i = x
          · subst e
            exact Or.inr r2
          · exact Or.inl ((h6 k).mpr ⟨i, by omega, r2⟩))
      have z2 : ∀ i, i < x + 1 → va_up G x (some (tx (ln b x))) i = some (tx (ln b i)) := fun i hi => by
        by_cases e : i = x
        · subst e
          rw [vu_eq]
        · rw [vu_ne e]
          exact h7 i (by omega)
      obtain ⟨va2, G2, E2, A2, k1, k2, k3, k4, k5⟩ := l77 hw hc kk fuel (x + 1) (a9 + one (decide (lst (fun j => sme b j x) 0 (x - 0) = x))) (a10 + one (rvs b x x)) va' (li b x 0 (sz b x - 0) l) (va_up G x (some (tx (ln b x)))) E' A' (by omega) (by omega) g2 (Gd.next hw (Gd.line (sz b x - 0) 0 (by omega) h4)) g3 z1 z2
      refine ⟨va2, G2, E2, A2, ?_, by rw [lo_go _ _ q]; exact k2, k3, k4, k5⟩
      rw [lo_go _ _ q, sm_go _ q, sm_go _ q, ← Nat.add_assoc, ← Nat.add_assoc]
      exact k1
    · have hx : x = b.length := by omega
      subst hx
      refine ⟨va, G, E, A, ?_, by rw [lo_end _ _ (Nat.le_refl _)]; exact h3, h5, h6, h7⟩
      rw [if_pos (nle (by omega) (by omega) (Nat.le_refl _)), lo_end _ _ (Nat.le_refl _), sm_end _ (Nat.le_refl _), sm_end _ (Nat.le_refl _)]
      rfl
theorem l77' (hw : Wf b) (hc : CB F S n b) (kk : Int32 → Int32 → Int32 → Int32 → Int32 → (Nat → Option (List Int32)) → (Nat → Option (List Int32)) → (Nat → Int32) → Option Unit) (G E : Nat → Option (List Int32)) (A : Nat → Int32) : ∃ va' G' E' A', f_L_law_L77 (nn b.length) b.length 90 F S n 9 0 0 0 0 0 G E A kk = kk (nn (ord b).length) (nn (kin b)) (nn (pal b)) (nn va') (nn b.length) G' E' A' ∧ EW b (ord b) E' A' ∧ f_J6_bitCount_0f7a4 (nn va') = some (nn (dfl b 0 b.length)) ∧ (∀ i, i < b.length → G' i = some (tx (ln b i))) := by
  have h8 := hw.1
  obtain ⟨va', G', E', A', g1, g2, g3, g4, g5⟩ := l77 hw hc kk 9 0 0 0 0 [] G E A (Nat.zero_le _) (by omega) (fun k e h => by simp at h) (Gd.nil b) (by omega) (fun k => by
    rw [Nat.zero_testBit]
    constructor
    · intro h
      cases h
    · rintro ⟨i, h, _⟩
      omega) (fun i hi => by omega)
  rw [Nat.zero_add, Nat.zero_add] at g1
  refine ⟨va', G', E', A', g1, g2, ?_, g5⟩
  rw [s_bitCount g3, pcn_bits, dfl_eq]
  refine congrArg (fun z => some (nn z)) (sm_congr 26 0 (fun k _ _ => congrArg one ?_))
  rw [Bool.eq_iff_iff, clD_iff, g4]
  constructor
  · rintro ⟨i, r1, r2⟩
    exact ⟨i, Nat.zero_le _, r1, r2⟩
  · rintro ⟨i, _, r1, r2⟩
    exact ⟨i, r1, r2⟩
end LLN
