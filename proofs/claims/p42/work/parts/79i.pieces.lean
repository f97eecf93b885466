/-! THE LAW'S SECOND LOOP: pieces that a line has alone, and what two lines share -/
theorem cpl_tk : ∀ (u v : List Nat) (m : Nat), cpl v (u.take m) = min m (cpl u v)
  | [], v, m => by rw [List.take_nil, cpl_nil', cpl_nil, Nat.min_zero]
  | _ :: _, _, 0 => by rw [List.take_zero, cpl_nil', Nat.zero_min]
  | _ :: _, [], _ + 1 => by rw [cpl_nil, cpl_nil', Nat.min_zero]
  | a :: u, c :: v, m + 1 => by
    rw [List.take_succ_cons, cpl_cons, cpl_cons]
    by_cases h : c = a
    · rw [if_pos h, if_pos h.symm, cpl_tk u v m]
      omega
    · rw [if_neg h, if_neg (fun y => h y.symm), Nat.min_zero]
theorem mx_ge {f : Nat → Nat} {c m : Nat} (hc : 1 ≤ c) : c ≤ mx f 0 (m - 0) ↔ ∃ x, x < m ∧ c ≤ f x := by
  constructor
  · intro h
    obtain ⟨x, h1, h2, h3⟩ := mx_at f (m - 0) 0 (by omega)
    exact ⟨x, by omega, by omega⟩
  · rintro ⟨x, h1, h2⟩
    exact Nat.le_trans h2 (le_mx (f := f) (m - 0) 0 x (Nat.zero_le _) (by omega))
theorem mnn_spec (f : Nat → Nat) : ∀ (m a k : Nat), mnn f a k m ≤ a ∧ (∀ x, k ≤ x → x < k + m → mnn f a k m ≤ f x) ∧ (mnn f a k m = a ∨ ∃ x, k ≤ x ∧ x < k + m ∧ mnn f a k m = f x)
  | 0, a, k => ⟨Nat.le_refl _, fun x h1 h2 => by omega, Or.inl rfl⟩
  | m + 1, a, k => by
    obtain ⟨g1, g2, g3⟩ := mnn_spec f m (min a (f k)) (k + 1)
    rw [mnn]
    refine ⟨by omega, fun x h1 h2 => ?_, ?_⟩
    · by_cases e : x = k
      · rw [e]; omega
      · exact g2 x (by omega) (by omega)
    · rcases g3 with g3 | ⟨x, x1, x2, x3⟩
      · by_cases e : a ≤ f k
        · exact Or.inl (by omega)
        · exact Or.inr ⟨k, Nat.le_refl _, by omega, by omega⟩
      · exact Or.inr ⟨x, by omega, by omega, x3⟩
theorem lst_none {P : Nat → Bool} : ∀ (m k : Nat), (∀ x, k ≤ x → x < k + m → ¬ P x = true) → lst P k m = k + m
  | 0, k, h => rfl
  | m + 1, k, h => by
    rw [lstS, if_neg (h k (Nat.le_refl _) (by omega)), lst_none m (k + 1) (fun x h1 h2 => h x (by omega) (by omega))]
    omega
theorem lst_congr {P Q : Nat → Bool} : ∀ (m k : Nat), (∀ x, k ≤ x → x < k + m → P x = Q x) → lst P k m = lst Q k m
  | 0, k, h => rfl
  | m + 1, k, h => by
    rw [lstS, lstS, h k (Nat.le_refl _) (by omega), lst_congr m (k + 1) (fun x h1 h2 => h x (by omega) (by omega))]
theorem nn_n2 {a : Nat} (h : a < 1000000) : ¬ nn a = -2000 := fun e => by
  have h1 := congrArg Int32.toInt e
  rw [nn_toInt (by omega), show (-2000 : Int32).toInt = -2000 by decide] at h1
  omega
section LPC
variable {F S L P M C : Nat → Int32} {n en l hs : Int32} {b : Bk} {w v : List Nat} {i j p q k m : Nat} {G : Nat → Option (List Int32)}
theorem sal_le (b : Bk) (i : Nat) : sal b i ≤ 11 := (mnn_spec _ _ _ _).1
theorem l565 (hw : Wf b) (hG : ∀ i, i < b.length → G i = some (tx (ln b i))) (hi : i < b.length) (hm : 1 ≤ m) (hp : p + m ≤ sz b i) (kk : Int32 → Int32 → Option Unit) : ∀ (fuel j : Nat) (B : Bool), j ≤ b.length → b.length < fuel + j → f_L_law_L565 (nn b.length) (nn i) (nn m) (nn p) b.length G fuel (nn (one B)) (nn j) kk = kk (nn (one (B && al (fun j => decide (j = i ∨ ¬ m ≤ mil b i p j (sz b j))) j (b.length - j)))) (nn b.length)
  | 0, j, B, h1, h2 => by omega
  | fuel + 1, j, B, h1, h2 => by
    have h8 := hw.1
    have h10 := hw.sz_le i
    have hl : (ln b i).length = sz b i := rfl
    rw [f_L_law_L565]
    by_cases q : j < b.length
    · rw [if_neg (nnle (by omega) (by omega) (by omega)), al_go _ q]
      by_cases e : j = i
      · rw [if_pos (congrArg nn e), if_pos (show decide (j = i ∨ ¬ m ≤ mil b i p j (sz b j)) = true from decide_eq_true (Or.inl e)), nn_s1, show nn (one B) &&& 1 = nn (one B) by cases B <;> decide]
        exact l565 hw hG hi hm hp kk fuel (j + 1) B (by omega) (by omega)
      · have e2 : sub2 (tx (ln b i)) (nn p) (nn p + nn m) = some (tx ((sfx b i p).take m)) := by
          rw [nn_add, tx_sub2 (by omega) (by omega) (by omega), show p + m - p = m by omega]
          rfl
        have hlm : ((sfx b i p).take m).length = m := by rw [List.length_take, sfx_len]; omega
        obtain ⟨z, z1, z2⟩ := l_index (hw.lt_ln q) ((hw.lt_sfx i p).take m) (hw.gl q).1 (by omega)
        have z3 : 0 ≤ z ↔ m ≤ mil b i p j (sz b j) := by
          refine z2.trans ?_
          unfold mil
          rw [mx_ge hm]
          constructor
          · rintro ⟨r, hr⟩
            rw [cpl_tk, hlm] at hr
            have hc := cpl_le (sfx b j r) (sfx b i p)
            have hr2 : m ≤ cpl (sfx b i p) (sfx b j r) := by
              have : min m (cpl (sfx b i p) (sfx b j r)) = m := hr
              omega
            rw [cpl_comm, sfx_len] at hc
            exact ⟨r, by omega, hr2⟩
          · rintro ⟨r, _, hr⟩
            refine ⟨r, ?_⟩
            rw [cpl_tk, hlm]
            show min m (cpl (sfx b i p) (sfx b j r)) = m
            omega
        rw [if_neg (by rw [nn_eq (by omega) (by omega)]; exact e), rld_nn (by omega) q, hG j q, Option.bind_some, rld_nn (by omega) hi, hG i hi, Option.bind_some, e2, Option.bind_some, z1, Option.bind_some, nn_s1]
        by_cases y : 0 ≤ z
        · rw [if_pos y, if_neg (show ¬ decide (j = i ∨ ¬ m ≤ mil b i p j (sz b j)) = true by
            rw [decide_eq_true_iff]
            rintro (h | h)
            · exact e h
            · exact h (z3.mp y)), show nn (one B) &&& 0 = nn (one false) by cases B <;> decide, l565 hw hG hi hm hp kk fuel (j + 1) false (by omega) (by omega), Bool.false_and, Bool.and_false]
        · rw [if_neg y, if_pos (show decide (j = i ∨ ¬ m ≤ mil b i p j (sz b j)) = true from decide_eq_true (Or.inr (fun h => y (z3.mpr h)))), show nn (one B) &&& 1 = nn (one B) by cases B <;> decide]
          exact l565 hw hG hi hm hp kk fuel (j + 1) B (by omega) (by omega)
    · rw [if_pos (nle (by omega) (by omega) (by omega)), al_end _ (by omega), Bool.and_true, show j = b.length by omega]
theorem l565' (hw : Wf b) (hG : ∀ i, i < b.length → G i = some (tx (ln b i))) (hi : i < b.length) (hm : 1 ≤ m) (hp : p + m ≤ sz b i) (kk : Int32 → Int32 → Option Unit) : f_L_law_L565 (nn b.length) (nn i) (nn m) (nn p) b.length G 9 1 0 kk = kk (nn (one (decide (ala b i p < m)))) (nn b.length) := by
  have h8 := hw.1
  have h := l565 hw hG hi hm hp kk 9 0 true (Nat.zero_le _) (by omega)
  have e : (true && al (fun j => decide (j = i ∨ ¬ m ≤ mil b i p j (sz b j))) 0 (b.length - 0)) = decide (ala b i p < m) := by
    rw [Bool.true_and, Bool.eq_iff_iff, decide_eq_true_iff]
    have hge := mx_ge (f := fun x => if x = i then 0 else mil b i p x (sz b x)) (m := b.length) hm
    constructor
    · intro h
      have h2 := al_all _ _ h
      refine Nat.lt_of_not_le (fun y => ?_)
      obtain ⟨x, x1, x2⟩ := hge.mp y
      have h3 := of_decide_eq_true (h2 x (Nat.zero_le _) (by omega))
      rcases h3 with h3 | h3
      · rw [if_pos h3] at x2
        omega
      · by_cases z : x = i
        · rw [if_pos z] at x2
          omega
        · rw [if_neg z] at x2
          exact h3 x2
    · intro h
      refine al_of _ _ (fun x _ hx => decide_eq_true ?_)
      by_cases z : x = i
      · exact Or.inl z
      · refine Or.inr (fun y => ?_)
        have : m ≤ ala b i p := hge.mpr ⟨x, by omega, by rw [if_neg z]; exact y⟩
        omega
  rw [e] at h
  exact h
def VP (b : Bk) (i m p : Nat) : Bool := decide (ala b i p < m ∧ p + m ≤ sz b i)
theorem l535 (hw : Wf b) (hG : ∀ i, i < b.length → G i = some (tx (ln b i))) (hi : i < b.length) (hm : 1 ≤ m) (kk : Int32 → Int32 → Int32 → Option Unit) : ∀ (fuel p : Nat), p + m ≤ sz b i + 1 → sz b i + 1 < fuel + p + m → ∃ z, f_L_law_L535 (nn b.length) (nn i) (nn m) b.length G fuel (-2000) (-2000) (nn p) kk = if lst (VP b i m) p (sz b i - p) < sz b i then kk (nn m) (nn (lst (VP b i m) p (sz b i - p))) z else kk (-2000) (-2000) z
  | 0, p, h1, h2 => by omega
  | fuel + 1, p, h1, h2 => by
    have h8 := hw.1
    have h10 := hw.sz_le i
    have hl : (ln b i).length = sz b i := rfl
    rw [f_L_law_L535, rld_nn (by omega) hi, hG i hi, Option.bind_some]
    simp only [tx_len, nI_nn, hl]
    rw [nn_add]
    by_cases q : p + m ≤ sz b i
    · rw [if_neg (by rw [nn_lt (by omega) (by omega)]; omega), if_neg (fun y => y trivial), l565' hw hG hi hm q, lst_go _ (by omega)]
      by_cases y : ala b i p < m
      · have hv : VP b i m p = true := decide_eq_true ⟨y, q⟩
        refine ⟨nn (p + 1), ?_⟩
        rw [if_pos hv, if_pos (show p < sz b i by omega), one_t (decide_eq_true y), if_pos (by decide), nn_s1]
        cases fuel with
        | zero => omega
        | succ fuel =>
          rw [f_L_law_L535, rld_nn (by omega) hi, hG i hi, Option.bind_some]
          simp only [tx_len, nI_nn, hl]
          rw [nn_add, if_pos (show ¬ nn m = -2000 from nn_n2 (by omega))]
          by_cases r : nn (sz b i) < nn (p + 1 + m)
          · rw [if_pos r]
          · rw [if_neg r]
      · have hv : ¬ VP b i m p = true := fun h => y (of_decide_eq_true h).1
        rw [if_neg hv, one_f (by rw [decide_eq_true_iff]; exact y), if_neg (by decide), nn_s1]
        exact l535 hw hG hi hm kk fuel (p + 1) (by omega) (by omega)
    · refine ⟨nn p, ?_⟩
      rw [if_pos (by rw [nn_lt (by omega) (by omega)]; omega), if_neg]
      rw [lst_none _ _ (fun x h3 h4 h5 => by
        have := (of_decide_eq_true h5).2
        omega)]
      omega
theorem l511 (hw : Wf b) (hG : ∀ i, i < b.length → G i = some (tx (ln b i))) (hi : i < b.length) (kk : Int32 → Int32 → Int32 → Option Unit) : ∀ (fuel m : Nat), 1 ≤ m → m ≤ sal b i → m ≤ sz b i + 1 → sz b i + 1 < fuel + m → ∃ z, f_L_law_L511 (nn b.length) (nn i) b.length G fuel (-2000) (-2000) (nn m) kk = kk (if sal b i = 11 then -2000 else nn (sal b i)) (if sal b i = 11 then -2000 else nn (lst (fun p => decide (saa b i p = sal b i)) 0 (sz b i - 0))) z
  | 0, m, h1, h2, h3, h4 => by omega
  | fuel + 1, m, h1, h2, h3, h4 => by
    have h8 := hw.1
    have h10 := hw.sz_le i
    have hl : (ln b i).length = sz b i := rfl
    obtain ⟨s1, s2, s3⟩ := mnn_spec (saa b i) (sz b i - 0) 11 0
    have hsal : ∀ x, x < sz b i → sal b i ≤ saa b i x := fun x hx => s2 x (Nat.zero_le _) (by omega)
    have hsaa : ∀ x, saa b i x = if sz b i - x ≤ ala b i x then 11 else ala b i x + 1 := fun x => rfl
    have hs3 : sal b i ≠ 11 → ∃ x, x < sz b i ∧ sal b i = saa b i x := fun h => by
      rcases s3 with s3 | ⟨x, _, x2, x3⟩
      · exact absurd s3 h
      · exact ⟨x, by omega, x3⟩
    rw [f_L_law_L511, rld_nn (by omega) hi, hG i hi, Option.bind_some]
    simp only [tx_len, nI_nn, hl]
    by_cases q : m ≤ sz b i
    · obtain ⟨z, e⟩ := l535 hw hG hi h1 (fun x17_535_160 x18_535_161 x20_535_162 => f_L_law_L511 (nn b.length) (nn i) b.length G fuel x17_535_160 x18_535_161 (nn m + 1) kk) 11 0 (by omega) (by omega)
      have e' : f_L_law_L535 (nn b.length) (nn i) (nn m) b.length G 11 (-2000) (-2000) 0 (fun x17_535_160 x18_535_161 x20_535_162 => f_L_law_L511 (nn b.length) (nn i) b.length G fuel x17_535_160 x18_535_161 (nn m + 1) kk) = _ := e
      rw [if_neg (by rw [nn_lt (by omega) (by omega)]; omega), if_neg (fun y => y trivial), e']
      by_cases y : m = sal b i
      · obtain ⟨x, x1, x2⟩ := hs3 (by omega)
        have hx := hsaa x
        have hv : VP b i m x = true := by
          refine decide_eq_true ?_
          by_cases u : sz b i - x ≤ ala b i x
          · rw [if_pos u] at hx
            omega
          · rw [if_neg u] at hx
            omega
        have hlt := (lst_at (VP b i m) (sz b i - 0) 0 x (Nat.zero_le _) (by omega) hv).1
        have hcg : lst (VP b i m) 0 (sz b i - 0) = lst (fun p => decide (saa b i p = sal b i)) 0 (sz b i - 0) := lst_congr _ _ (fun x _ hx => by
          unfold VP
          rw [Bool.eq_iff_iff, decide_eq_true_iff, decide_eq_true_iff]
          have g1 := hsal x (by omega)
          have g2 := hsaa x
          by_cases u : sz b i - x ≤ ala b i x
          · rw [if_pos u] at g2
            omega
          · rw [if_neg u] at g2
            omega)
        rw [if_pos (by omega), if_neg (by omega), if_neg (by omega), ← hcg, ← y]
        cases fuel with
        | zero => omega
        | succ fuel =>
          rw [f_L_law_L511, rld_nn (by omega) hi, hG i hi, Option.bind_some]
          simp only [tx_len, nI_nn, hl]
          rw [nn_s1, if_pos (show ¬ nn m = -2000 from nn_n2 (by omega))]
          refine ⟨nn (m + 1), ?_⟩
          by_cases r : nn (sz b i) < nn (m + 1)
          · rw [if_pos r]
          · rw [if_neg r]
      · have hno : ¬ lst (VP b i m) 0 (sz b i - 0) < sz b i := by
          rw [lst_none _ _ (fun x h3 h4 h5 => by
            have g0 := of_decide_eq_true h5
            have g1 := hsal x (by omega)
            have g2 := hsaa x
            by_cases u : sz b i - x ≤ ala b i x
            · omega
            · rw [if_neg u] at g2
              omega)]
          omega
        rw [if_neg hno, nn_s1]
        exact l511 hw hG hi kk fuel (m + 1) (by omega) (by omega) (by omega) (by omega)
    · have h11 : sal b i = 11 := by
        by_cases u : sal b i = 11
        · exact u
        · obtain ⟨x, x1, x2⟩ := hs3 u
          have g2 := hsaa x
          by_cases u : sz b i - x ≤ ala b i x
          · rw [if_pos u] at g2
            omega
          · rw [if_neg u] at g2
            omega
      refine ⟨nn m, ?_⟩
      rw [if_pos (by rw [nn_lt (by omega) (by omega)]; omega), if_pos h11, if_pos h11]
theorem sal_ge (b : Bk) (i : Nat) : 1 ≤ sal b i := by
  obtain ⟨s1, s2, s3⟩ := mnn_spec (saa b i) (sz b i - 0) 11 0
  have hsaa : ∀ x, saa b i x = if sz b i - x ≤ ala b i x then 11 else ala b i x + 1 := fun x => rfl
  rcases s3 with s3 | ⟨x, _, _, x3⟩
  · have : sal b i = 11 := s3
    omega
  · have h : sal b i = saa b i x := x3
    have g2 := hsaa x
    by_cases u : sz b i - x ≤ ala b i x
    · rw [if_pos u] at g2
      omega
    · rw [if_neg u] at g2
      omega
theorem l511' (hw : Wf b) (hG : ∀ i, i < b.length → G i = some (tx (ln b i))) (hi : i < b.length) (kk : Int32 → Int32 → Int32 → Option Unit) : ∃ z, f_L_law_L511 (nn b.length) (nn i) b.length G 11 (-2000) (-2000) 1 kk = kk (if sal b i = 11 then -2000 else nn (sal b i)) (if sal b i = 11 then -2000 else nn (lst (fun p => decide (saa b i p = sal b i)) 0 (sz b i - 0))) z := by
  have h10 := hw.sz_le i
  exact l511 hw hG hi kk 11 1 (Nat.le_refl _) (sal_ge b i) (by omega) (by omega)
theorem l721 (hw : Wf b) (hG : ∀ i, i < b.length → G i = some (tx (ln b i))) (hi : i < b.length) (hj : j < b.length) (hp : p < sz b i) (kk : Int32 → Int32 → Option Unit) : ∀ (fuel q a : Nat), q ≤ sz b j → sz b j < fuel + q → a ≤ 1000 → f_L_law_L721 (nn i) (nn j) (nn p) b.length G fuel (nn a) (nn q) kk = kk (nn (max a (mx (fun q => cpl (sfx b i p) (sfx b j q)) q (sz b j - q)))) (nn (sz b j))
  | 0, q, a, h1, h2, h3 => by omega
  | fuel + 1, q, a, h1, h2, h3 => by
    have h8 := hw.1
    have h10 := hw.sz_le i
    have h11 := hw.sz_le j
    have hl : (ln b j).length = sz b j := rfl
    have hl' : (ln b i).length = sz b i := rfl
    rw [f_L_law_L721, rld_nn (by omega) hj, hG j hj, Option.bind_some, rld_nn (by omega) hi, hG i hi]
    simp only [tx_len, nI_nn, hl, Option.bind_some]
    by_cases z : q < sz b j
    · have g := cpl_le (sfx b i p) (sfx b j q)
      rw [sfx_len] at g
      have e1 : sub1 (tx (ln b i)) (nn p) = some (tx (sfx b i p)) := tx_sub1 (by omega) (by omega)
      have e2 : sub1 (tx (ln b j)) (nn q) = some (tx (sfx b j q)) := tx_sub1 (by omega) (by omega)
      rw [if_neg (nnle (by omega) (by omega) (by omega)), e1, Option.bind_some, e2, Option.bind_some, l_alike (hw.lt_sfx i p) (hw.lt_sfx j q), Option.bind_some, ite_mx (by omega) (by omega), nn_s1, l721 hw hG hi hj hp kk fuel (q + 1) _ (by omega) (by omega) (by omega), mx_go _ z, Nat.max_assoc]
    · rw [if_pos (nle (by omega) (by omega) (by omega)), mx_end _ (by omega), Nat.max_zero, show q = sz b j by omega]
theorem l705 (hw : Wf b) (hG : ∀ i, i < b.length → G i = some (tx (ln b i))) (hi : i < b.length) (hj : j < b.length) (kk : Int32 → Int32 → Option Unit) : ∀ (fuel p a : Nat), p ≤ sz b i → sz b i < fuel + p → a ≤ 1000 → f_L_law_L705 (nn i) (nn j) b.length G fuel (nn a) (nn p) kk = kk (nn (max a (mx (fun p => mil b i p j (sz b j)) p (sz b i - p)))) (nn (sz b i))
  | 0, q, a, h1, h2, h3 => by omega
  | fuel + 1, p, a, h1, h2, h3 => by
    have h8 := hw.1
    have h10 := hw.sz_le i
    have h11 := hw.sz_le j
    have hl' : (ln b i).length = sz b i := rfl
    rw [f_L_law_L705, rld_nn (by omega) hi, hG i hi]
    simp only [tx_len, nI_nn, hl', Option.bind_some]
    by_cases z : p < sz b i
    · have hm := mil_le hw i p j (sz b j)
      rw [if_neg (nnle (by omega) (by omega) (by omega)), nl0, l721 hw hG hi hj z _ 11 0 a (Nat.zero_le _) (by omega) h3]
      have e : max a (mx (fun q => cpl (sfx b i p) (sfx b j q)) 0 (sz b j - 0)) = max a (mil b i p j (sz b j)) := rfl
      rw [e, nn_s1, l705 hw hG hi hj kk fuel (p + 1) _ (by omega) (by omega) (by omega), mx_go _ z, Nat.max_assoc]
    · rw [if_pos (nle (by omega) (by omega) (by omega)), mx_end _ (by omega), Nat.max_zero, show p = sz b i by omega]
theorem l675 (hw : Wf b) (hc : CB F S n b) (hG : ∀ i, i < b.length → G i = some (tx (ln b i))) (hi : i < b.length) (kk : Int32 → Option Unit) : ∀ (fuel j : Nat), j ≤ b.length → b.length < fuel + j → f_L_law_L675 (nn b.length) (nn i) b.length G F S n fuel (nn j) kk = kk (nn b.length)
  | 0, j, h1, h2 => by omega
  | fuel + 1, j, h1, h2 => by
    have h8 := hw.1
    have h10 := hw.sz_le i
    rw [f_L_law_L675]
    by_cases q : j < b.length
    · have h11 := hw.sz_le j
      have h1j := (hw.gl q).1
      have h1i := (hw.gl hi).1
      have hlj : (ln b j).length = sz b j := rfl
      have hli : (ln b i).length = sz b i := rfl
      have r1 : rld G b.length (nn i) = some (tx (ln b i)) := by rw [rld_nn (by omega) hi, hG i hi]
      have r2 : rld G b.length (nn j) = some (tx (ln b j)) := by rw [rld_nn (by omega) q, hG j q]
      have e1 : nn (sz b j) - 1 = nn (sz b j - 1) := nn_sub (b := 1) (by unfold sz; omega)
      have e2 : sub1 (tx (ln b j)) (nn (sz b j - 1)) = some (tx (sfx b j (sz b j - 1))) := tx_sub1 (by unfold sz; omega) (by omega)
      have e3 := x_commonOf hw hc (i := i) (p := 0) (j := j) (q := sz b j - 1) (by unfold sz; omega) (by unfold sz; omega)
      have e3' : f_X8_commonOf F S n (nn i) 0 (nn j) (nn (sz b j - 1)) = _ := e3
      have e4 := l_alike (hw.lt_ln hi) (hw.lt_sfx j (sz b j - 1))
      rw [sfx0] at e3'
      obtain ⟨z, c1, c2, _⟩ := l_comp (hw.lt_ln hi) (hw.lt_ln q).rev
      have e5 : (if rvs b i j = true then (1 : Int32) else 0) = (if ¬ z = 0 then 0 else 1) := by
        by_cases h : z = 0
        · rw [if_pos ((rvs_iff b i j).mpr (c2.mp h)), if_neg (fun y => y h)]
        · rw [if_neg (fun y => h (c2.mpr ((rvs_iff b i j).mp y))), if_pos h]
      have ih := l675 hw hc hG hi kk fuel (j + 1) (by omega) (by omega)
      rw [if_neg (nnle (by omega) (by omega) (by omega)), r1, Option.bind_some]
      simp only [tx_len, nI_nn, hli]
      have hk : ∀ a, max a (mx (fun p => mil b i p j (sz b j)) 0 (sz b i - 0)) = lsha b i j → f_L_law_L705 (nn i) (nn j) b.length G 11 (nn a) 0 (fun x20_705_200 x21_705_201 => (f_X8_shared F S n (nn i) (nn j)).bind fun r781_205 => (r781_205).elim (fun z781_206 => if ¬ z781_206 = x20_705_200 then (none) else ((f_X8_isTurned F S n (nn i) (nn j)).bind fun r794_208 => (r794_208).elim (fun z794_209 => (some (tx (ln b i))).bind fun z801_210 => (rld G b.length (nn j)).bind fun z806_212 => (f_L_turned z806_212).bind fun r807_214 => (f_L_compare z801_210 r807_214).bind fun r810_217 => if z794_209 = (if ¬ r810_217 = 0 then 0 else 1) then ((rld G b.length (nn j)).bind fun z836_220 => (f_X8_commonOf F S n (nn i) 0 (nn j) ((nn z836_220.length) - 1)).bind fun r842_222 => (r842_222).elim (fun z842_223 => (some (tx (ln b i))).bind fun z849_224 => (rld G b.length (nn j)).bind fun z854_226 => (rld G b.length (nn j)).bind fun z859_228 => (sub1 z854_226 ((nn z859_228.length) - 1)).bind fun z865_230 => (f_L_alike z849_224 z865_230).bind fun r868_233 => if z842_223 = r868_233 then (f_L_law_L675 (nn b.length) (nn i) b.length G F S n fuel (nn j + 1) kk) else (none)) (fun _ => none)) else (none)) (fun _ => none))) (fun _ => none)) = kk (nn b.length) := by
        intro a ha
        have h5 := l705 hw hG hi q (fun x20_705_200 x21_705_201 => (f_X8_shared F S n (nn i) (nn j)).bind fun r781_205 => (r781_205).elim (fun z781_206 => if ¬ z781_206 = x20_705_200 then (none) else ((f_X8_isTurned F S n (nn i) (nn j)).bind fun r794_208 => (r794_208).elim (fun z794_209 => (some (tx (ln b i))).bind fun z801_210 => (rld G b.length (nn j)).bind fun z806_212 => (f_L_turned z806_212).bind fun r807_214 => (f_L_compare z801_210 r807_214).bind fun r810_217 => if z794_209 = (if ¬ r810_217 = 0 then 0 else 1) then ((rld G b.length (nn j)).bind fun z836_220 => (f_X8_commonOf F S n (nn i) 0 (nn j) ((nn z836_220.length) - 1)).bind fun r842_222 => (r842_222).elim (fun z842_223 => (some (tx (ln b i))).bind fun z849_224 => (rld G b.length (nn j)).bind fun z854_226 => (rld G b.length (nn j)).bind fun z859_228 => (sub1 z854_226 ((nn z859_228.length) - 1)).bind fun z865_230 => (f_L_alike z849_224 z865_230).bind fun r868_233 => if z842_223 = r868_233 then (f_L_law_L675 (nn b.length) (nn i) b.length G F S n fuel (nn j + 1) kk) else (none)) (fun _ => none)) else (none)) (fun _ => none))) (fun _ => none)) 11 0 a (Nat.zero_le _) (by omega) (by
          have : a ≤ lsha b i j := by omega
          have : lsha b i j ≤ 10 := mx_le (fun p => mil_le hw i p j (sz b j)) _ _
          omega)
        refine h5.trans ?_
        rw [ha, x_shared hw hc hi q, bL, if_neg (fun y => y rfl), x_turned hw hc hi q, bL, Option.bind_some, r2, Option.bind_some, l_turned (hw.lt_ln q), Option.bind_some, c1, Option.bind_some, if_pos e5, Option.bind_some]
        simp only [tx_len, hlj, Option.bind_some, e1]
        rw [e3', bL]
        simp only [e2, Option.bind_some, e4, if_true, nn_s1]
        exact ih
      by_cases e : j = i
      · rw [if_neg (fun y => y (congrArg nn e))]
        exact hk (sz b i) (by
          have := lsha_same (b := b) i
          rw [e]
          unfold lsha at this ⊢
          omega)
      · rw [if_pos (by rw [nn_eq (by omega) (by omega)]; exact e)]
        exact hk 0 (Nat.zero_max _)
    · rw [if_pos (nle (by omega) (by omega) (by omega)), show j = b.length by omega]
theorem l492 (hw : Wf b) (hc : CB F S n b) (hG : ∀ i, i < b.length → G i = some (tx (ln b i))) (kk : Int32 → Option Unit) : ∀ (fuel i : Nat), i ≤ b.length → b.length < fuel + i → f_L_law_L492 (nn b.length) b.length G F S n fuel (nn i) kk = kk (nn b.length)
  | 0, i, h1, h2 => by omega
  | fuel + 1, i, h1, h2 => by
    have h8 := hw.1
    rw [f_L_law_L492]
    by_cases q : i < b.length
    · obtain ⟨z, e⟩ := l511' hw hG q (fun x17_511_166 x18_511_167 x19_511_168 => (f_L_alone F S n (nn i)).bind fun r651_172 => if ¬ r651_172 = x17_511_166 then (none) else ((f_L_alonePlace F S n (nn i)).bind fun r662_174 => if r662_174 = x18_511_167 then (f_L_law_L675 (nn b.length) (nn i) b.length G F S n 9 0 (fun x19_675_274 => f_L_law_L492 (nn b.length) b.length G F S n fuel (nn i + 1) kk)) else (none)))
      obtain ⟨y1, y2⟩ := y_alone hw hc q (sal_le b i)
      rw [if_neg (nnle (by omega) (by omega) (by omega)), e, y1, Option.bind_some, if_neg (fun y => y rfl), y2, Option.bind_some, if_pos rfl, nl0, l675 hw hc hG q _ 9 0 (Nat.zero_le _) (by omega), nn_s1]
      exact l492 hw hc hG kk fuel (i + 1) (by omega) (by omega)
    · rw [if_pos (nle (by omega) (by omega) (by omega)), show i = b.length by omega]
end LPC
