/-! THE LAW'S PURE FUNCTION HAS AN ANSWER -/
section LAWP
theorem l492' {F S : Nat → Int32} {n : Int32} {b : Bk} {G : Nat → Option (List Int32)} (hw : Wf b) (hc : CB F S n b) (hG : ∀ i, i < b.length → G i = some (tx (ln b i))) (kk : Int32 → Option Unit) : f_L_law_L492 (nn b.length) b.length G F S n 9 0 kk = kk (nn b.length) := by
  have h8 := hw.1
  exact l492 hw hc hG kk 9 0 (Nat.zero_le _) (by omega)
theorem nwr_nn {a : Nat} (h : a ≤ 90) : nwr (nn a) = some a := by
  unfold nwr
  rw [nn_clamp (by omega), if_neg]
  rintro (q | q)
  · exact nn_nlt0 (a := a) (by omega) q
  · omega
theorem nwr_90 : nwr 90 = some 90 := nwr_nn (a := 90) (Nat.le_refl _)
theorem l15 {S0 : Nat → Int32} {N : Nat} (hN : N ≤ 1000) (kk : Int32 → (Nat → Int32) → (Nat → Int32) → Int32 → (Nat → Int32) → (Nat → Int32) → Int32 → (Nat → Int32) → Int32 → (Nat → Int32) → (Nat → Int32) → Int32 → (Nat → Nat → Int32) → (Nat → Nat → Int32) → (Nat → Int32) → Int32 → Int32 → (Nat → Int32) → (Nat → Int32) → (Nat → Int32) → Int32 → (Nat → Int32) → Int32 → Option Unit) : ∀ (fuel k : Nat) (F : Nat → Int32) (S : Nat → Int32) (n : Int32) (BF : Nat → Int32) (BS : Nat → Int32) (Bn : Int32) (TC : Nat → Int32) (tl : Int32) (R : Nat → Int32) (D : Nat → Int32) (c : Int32) (HL : Nat → Nat → Int32) (HZ : Nat → Nat → Int32) (HN : Nat → Int32) (o : Int32) (hz : Int32) (L : Nat → Int32) (P : Nat → Int32) (M : Nat → Int32) (en : Int32) (W : Nat → Int32) (wl : Int32), k ≤ 5 → 5 < fuel + k → CI F S n TC tl HL HZ HN o hz L P M en → ∃ F' S' n' BF' BS' Bn' TC' tl' R' D' c' HL' HZ' HN' o' hz' L' P' M' en' W' wl', f_L_law_L15 S0 N fuel (nn k) F S n BF BS Bn TC tl R D c HL HZ HN o hz L P M en W wl kk = kk (nn 5) F' S' n' BF' BS' Bn' TC' tl' R' D' c' HL' HZ' HN' o' hz' L' P' M' en' W' wl' ∧ CI F' S' n' TC' tl' HL' HZ' HN' o' hz' L' P' M' en'
  | 0, k, F, S, n, BF, BS, Bn, TC, tl, R, D, c, HL, HZ, HN, o, hz, L, P, M, en, W, wl, h1, h2, hI => by omega
  | fuel + 1, k, F, S, n, BF, BS, Bn, TC, tl, R, D, c, HL, HZ, HN, o, hz, L, P, M, en, W, wl, h1, h2, hI => by
    rw [f_L_law_L15]
    by_cases q : k < 5
    · have hI' := hI
      obtain ⟨b, H, hw, hc, hh, ht, ho, hm, h0⟩ := hI'
      have h8 := hw.1
      have hl := (ord_good hw).2.2
      have hlc := lc_le hw
      have hfl := flr_le hw
      have a5 : 70 + 4 * nn k = nn (70 + 4 * k) := by rw [nl70, nl4, nn_mul, nn_add]
      obtain ⟨F2, S2, n2, BF2, BS2, Bn2, TC2, tl2, R2, D2, c2, HL2, HZ2, HN2, o2, hz2, L2, P2, M2, en2, e9, h9⟩ := k_acts (S0 := S0) (p := 70 + 4 * k) (BF := BF) (BS := BS) (Bn := Bn) (R := R) (D := D) (c := c) hN (by omega) hI
      have f1 := y_ending_out hw ho
      have f2 := y_common_out (M := M) hw ho
      have f3 := x_longest hw ho hm
      have f4 := y_longestRank hw ho hm
      have f5 := x_pieces hw hc ho hm h0
      have f6 := x_piecesAgain hw hc
      have f7 := x_kinds hw hc
      have f8 := x_acc1 (F := F) (S := S) (n := n) (l := tl) (hs := hz) (M := M) ho
      have f9 := x_acc2 (l := tl) (hs := hz) (M := M) (en := en) hw hc
      have f10 := x_acc3 (F := F) (S := S) (n := n) (l := tl) (hs := hz) hw ho hm
      have f11 := x_acc4 (l := tl) (hs := hz) (M := M) (en := en) hw hc
      rw [if_neg (show ¬ 5 ≤ nn k by rw [nl5]; exact nnle (by omega) (by omega) (by omega)), x_acc0 hc, bL, nwr_nn (by omega), Option.bind_some, nwr_90, Option.bind_some]
      obtain ⟨va, G, E, A, g1, hE, hbits, hG⟩ := l77' hw hc _ (fun _ => none) (fun _ => none) (fun _ => 0)
      rw [g1, l492' hw hc hG]
      obtain ⟨C1, l1, g2⟩ := l891' hw hc ho hm hE _ W wl
      rw [g2]
      obtain ⟨C2, l2, g3, g4⟩ := l_wl hw hc ho hm hE C1 l1
      have g5 : (if ¬ (if lc b = 0 then (-2000 : Int32) else nn (flr b - 1)) = -2000 then nn (lc b) else -2000) = (if lc b = 0 then -2000 else nn (lc b)) := by
        by_cases z : lc b = 0
        · rw [if_pos z, if_pos z, if_neg (fun y => y rfl)]
        · rw [if_neg z, if_neg z, if_pos (nn_n2 (by omega))]
      obtain ⟨F', S', n', BF', BS', Bn', TC', tl', R', D', c', HL', HZ', HN', o', hz', L', P', M', en', W', wl', e8, h8'⟩ := l15 hN kk fuel (k + 1) F2 S2 n2 BF2 BS2 Bn2 TC2 tl2 R2 D2 c2 HL2 HZ2 HN2 o2 hz2 L2 P2 M2 en2 C2 l2 (by omega) (by omega) h9
      refine ⟨F', S', n', BF', BS', Bn', TC', tl', R', D', c', HL', HZ', HN', o', hz', L', P', M', en', W', wl', ?_, h8'⟩
      rw [f1, Option.bind_some, if_neg (fun y => y rfl), f2, Option.bind_some, if_neg (fun y => y rfl), f3, Option.bind_some, if_neg (fun y => y rfl), f4, Option.bind_some, if_neg (fun y => y rfl), g3, Option.bind_some, g5, if_neg (fun y => y rfl), f5, Option.bind_some, if_neg (fun y => y rfl), f6, Option.bind_some, if_neg (fun y => y rfl), f7, Option.bind_some, if_neg (fun y => y rfl), f8, bL, if_neg (fun y => y rfl), f9, bL, hbits, Option.bind_some, if_neg (fun y => y rfl), f10, bL, if_neg (fun y => y rfl), f11, bL, if_pos rfl]
      refine (g4 _).trans ?_
      rw [a5]
      by_cases z : b.length = 0
      · rw [if_pos (show nn b.length ≤ 0 by rw [nl0]; exact nle (by omega) (by omega) (by omega)), e9, Option.bind_some, nn_s1]
        exact e8
      · have m1 := x_mean hw hc ho z
        have m2 := x_share hw hc ho hm z
        have m3 := fdv_ex (a := (ord b).length) (c := b.length) hl h8 z
        have m4 := ddv_ex (a := rc1 b) (c := (ord b).length) (rc1_le hw) hl (ord_ne hw z)
        rw [if_neg (show ¬ nn b.length ≤ 0 by rw [nl0]; exact nnle (by omega) (by omega) (by omega)), m1, Option.bind_some]
        simp only [Sum.elim_inl]
        rw [m3.1, Option.bind_some, if_neg (fun y => y m3.2), m2, Option.bind_some]
        simp only [Sum.elim_inl]
        rw [m4.1, Option.bind_some, if_pos m4.2, e9, Option.bind_some, nn_s1]
        exact e8
    · refine ⟨F, S, n, BF, BS, Bn, TC, tl, R, D, c, HL, HZ, HN, o, hz, L, P, M, en, W, wl, ?_, hI⟩
      rw [if_pos (show 5 ≤ nn k by rw [nl5]; exact nle (by omega) (by omega) (by omega)), show k = 5 by omega]
theorem ci_zero : CI (fun _ => 0) (fun _ => 0) 0 (fun _ => 0) 0 (fun _ _ => 0) (fun _ _ => 0) (fun _ => 0) 0 0 (fun _ => 0) (fun _ => 0) (fun _ => 0) 0 := by
  refine ⟨[], [], ⟨by decide, fun i hi => by simp at hi⟩, ⟨rfl, fun i hi => by simp at hi, fun i hi => by simp at hi, fun k _ => ch_nn (x := 0) (by omega)⟩, ⟨rfl, by decide, 0, by omega, rfl, fun j h e => by simp at e⟩, TXx.nil _, ⟨rfl, fun k e h => by
    have : (ord ([] : Bk)) = [] := rfl
    rw [this] at h
    simp at h⟩, fun k h1 h2 => ?_, rfl⟩
  have : (ord ([] : Bk)) = [] := rfl
  rw [this] at h2
  simp at h2
theorem law_some (S0 : Nat → Int32) {N : Nat} (hN : N ≤ 1000) : f_L_law S0 N (fun _ => 0) (fun _ => 0) 0 (fun _ => 0) (fun _ => 0) 0 (fun _ => 0) 0 (fun _ => 0) (fun _ => 0) 0 (fun _ _ => 0) (fun _ _ => 0) (fun _ => 0) 0 0 (fun _ => 0) (fun _ => 0) (fun _ => 0) 0 (fun _ => 0) 0 = some () := by
  unfold f_L_law
  obtain ⟨F2, S2, n2, BF2, BS2, Bn2, TC2, tl2, R2, D2, c2, HL2, HZ2, HN2, o2, hz2, L2, P2, M2, en2, e9, h9⟩ := k_build (S0 := S0) hN (fun _ => 0) (fun _ => 0) 0 (fun _ => 0) (fun _ => 0) 0 (fun _ => 0) 0 (fun _ => 0) (fun _ => 0) 0 (fun _ _ => 0) (fun _ _ => 0) (fun _ => 0) 0 0 (fun _ => 0) (fun _ => 0) (fun _ => 0) 0 ci_zero
  rw [e9, Option.bind_some]
  obtain ⟨F, S, n, BF, BS, Bn, TC, tl, R, D, c, HL, HZ, HN, o, hz, L, P, M, en, W', wl', e8, h8'⟩ := l15 (S0 := S0) hN _ 6 0 F2 S2 n2 BF2 BS2 Bn2 TC2 tl2 R2 D2 c2 HL2 HZ2 HN2 o2 hz2 L2 P2 M2 en2 (fun _ => 0) 0 (by omega) (by omega) h9
  refine e8.trans ?_
  obtain ⟨b, H, hw, hc, hh, ht, ho, hm, h0⟩ := h8'
  obtain ⟨w, hu, hu1, hu3, e1⟩ := l_word (p := 92) (m := 3) S0 hN (by omega) (by omega) (by omega)
  have e1' : f_L_word S0 N 92 3 = some (tx w) := e1
  obtain ⟨C', l', t1, t2⟩ := l_type hu ht (by have := hu.1; simp only [List.length_nil]; omega)
  rw [List.nil_append] at t2
  have hwr := LT_wrd hu hu1
  obtain ⟨y1, y2⟩ := y_finds hw hc ho t2 hwr
  have y3 := y_firstFind hw hc ho t2 hwr
  have y4 := x_isLine hw hc t2 hwr
  have y5 := x_acc1 (F := F) (S := S) (n := n) (l := l') (hs := hz) (M := M) ho
  have y6 := x_acc6 (F := F) (S := S) (n := n) (hs := hz) (M := M) (en := en) t2
  simp only [e1', t1, Option.bind_some]
  rw [y5, bL, l1434' hw hc ho hu hwr, l1509' hw hc hu, y1, Option.bind_some, if_neg (fun y => y rfl), y2, Option.bind_some, if_neg (fun y => y rfl), y3, Option.bind_some, if_neg (fun y => y rfl), y4, bL, if_neg (fun y => y rfl), y6, bL, tx_len, nI_nn, if_neg (fun y => y rfl)]
end LAWP
