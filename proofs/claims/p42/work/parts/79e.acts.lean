/-! WHAT HAPPENS TO THE BOOK BETWEEN THE LAW'S POINTS -/
theorem mx1 (m : Nat) (h : m ≤ 8) : (if 1 < nn m then nn m else 1) = nn (max m 1) := by
  by_cases q : 1 < m
  · rw [if_pos (by rw [nl1, nn_lt (by omega) (by omega)]; exact q), Nat.max_eq_left (by omega)]
  · rw [if_neg (by rw [nl1, nn_lt (by omega) (by omega)]; exact q), Nat.max_eq_right (by omega)]
    rfl
theorem mod4 {s : Nat} (h : s < 1000) : nn s - nn s / 4 * 4 = nn (s % 4) := by
  have h1 : s / 4 * 4 ≤ s := Nat.div_mul_le_self s 4
  rw [show (4 : Int32) = nn 4 from rfl, nn_div (by omega) (by omega), nn_mul, nn_sub h1, show s - s / 4 * 4 = s % 4 by omega]
theorem nn_s2 (a : Nat) : nn a + 2 = nn (a + 2) := nn_add a 2
theorem nn_s3 (a : Nat) : nn a + 3 = nn (a + 3) := nn_add a 3
theorem k_acts {F : Nat → Int32} {S : Nat → Int32} {n : Int32} {BF : Nat → Int32} {BS : Nat → Int32} {Bn : Int32} {TC : Nat → Int32} {tl : Int32} {R : Nat → Int32} {D : Nat → Int32} {c : Int32} {HL : Nat → Nat → Int32} {HZ : Nat → Nat → Int32} {HN : Nat → Int32} {o : Int32} {hz : Int32} {L : Nat → Int32} {P : Nat → Int32} {M : Nat → Int32} {en : Int32} {S0 : Nat → Int32} {N p : Nat} (hN : N ≤ 1000) (hp : p < 800) (hI : CI F S n TC tl HL HZ HN o hz L P M en) : ∃ F' S' n' BF' BS' Bn' TC' tl' R' D' c' HL' HZ' HN' o' hz' L' P' M' en', f_L_acts S0 N F S n BF BS TC tl R D c HL HZ HN o hz L P M en (nn p) = some (F', S', n', BF', BS', Bn', TC', tl', R', D', c', HL', HZ', HN', o', hz', L', P', M', en') ∧ CI F' S' n' TC' tl' HL' HZ' HN' o' hz' L' P' M' en' := by
  have hI' := hI
  obtain ⟨b, H, hw, hc, hh, ht, ho, hm, h0⟩ := hI'
  have h8 := hw.1
  obtain ⟨s1, hs1, a1⟩ := l_some (p := p + 1) (m := max b.length 1) S0 hN (by omega) (by omega) (by omega)
  obtain ⟨s2, hs2, a2⟩ := l_some (p := p + 2) (m := max b.length 1) S0 hN (by omega) (by omega) (by omega)
  obtain ⟨s3, hs3, a3⟩ := l_some (p := p) (m := 10) S0 hN (by omega) (by omega) (by omega)
  obtain ⟨s4, hs4, a4⟩ := l_some (p := p + 3) (m := 4) S0 hN (by omega) (by omega) (by omega)
  have a4' : f_L_some S0 N (nn (p + 3)) 4 = some (nn s4) := a4
  have a3' : f_L_some S0 N (nn p) 10 = some (nn s3) := a3
  obtain ⟨u, hu, hu1, _, a5⟩ := l_word (p := p + 1) (m := 7) S0 hN (by omega) (by omega) (by omega)
  have a5' : f_L_word S0 N (nn (p + 1)) 7 = some (tx u) := a5
  have hv : [97, 98, 121, 122].getD (s2 % 4) 0 < 65536 := by
    have : s2 % 4 < 4 := Nat.mod_lt _ (by decide)
    rcases (show s2 % 4 = 0 ∨ s2 % 4 = 1 ∨ s2 % 4 = 2 ∨ s2 % 4 = 3 by omega) with e | e | e | e <;> rw [e] <;> decide
  unfold f_L_acts
  rw [x_acc0 hc, bL, mx1 _ h8, nn_s1, nn_s2, nn_s3, a1, Option.bind_some, a2, Option.bind_some, a3', Option.bind_some, mod4 (by omega)]
  rcases (show s3 = 0 ∨ s3 = 1 ∨ s3 = 2 ∨ s3 = 3 ∨ s3 = 4 ∨ s3 = 5 ∨ s3 = 6 ∨ s3 = 7 ∨ s3 = 8 ∨ s3 = 9 by omega) with rfl | rfl | rfl | rfl | rfl | rfl | rfl | rfl | rfl | rfl
  · obtain ⟨z, F', S', n', BF', BS', Bn', TC', tl', R', D', c', HL', HZ', HN', o', hz', L', P', M', en', e9, h9⟩ := k_add hI BF BS R D c hu hu1
    rw [if_neg (by decide), if_pos (by decide), a5', Option.bind_some, e9, Option.bind_some]
    exact ⟨_, _, _, _, _, _, _, _, _, _, _, _, _, _, _, _, _, _, _, _, rfl, h9⟩
  · obtain ⟨z, F', S', n', BF', BS', Bn', TC', tl', R', D', c', HL', HZ', HN', o', hz', L', P', M', en', e9, h9⟩ := k_add hI BF BS R D c hu hu1
    rw [if_neg (by decide), if_neg (by decide), if_pos (by decide), a5', Option.bind_some, e9, Option.bind_some]
    exact ⟨_, _, _, _, _, _, _, _, _, _, _, _, _, _, _, _, _, _, _, _, rfl, h9⟩
  · obtain ⟨z, F', S', n', BF', BS', Bn', R', D', c', HL', HZ', HN', o', hz', L', P', M', en', e9, h9⟩ := k_cut hI BF BS R D c (nn s1)
    rw [if_neg (by decide), if_neg (by decide), if_neg (by decide), if_pos (by decide), e9, Option.bind_some]
    exact ⟨_, _, _, _, _, _, _, _, _, _, _, _, _, _, _, _, _, _, _, _, rfl, h9⟩
  · obtain ⟨z, F', BF', BS', Bn', R', D', c', HL', HZ', HN', o', hz', L', P', M', en', e9, h9⟩ := k_change hI BF BS R D c (nn s1) (nn s4) hv
    rw [if_neg (by decide), if_neg (by decide), if_neg (by decide), if_neg (by decide), if_pos (by decide), a4', Option.bind_some, abyz (Nat.mod_lt _ (by decide)), Option.bind_some, e9, Option.bind_some]
    exact ⟨_, _, _, _, _, _, _, _, _, _, _, _, _, _, _, _, _, _, _, _, rfl, h9⟩
  · obtain ⟨z, F', BF', BS', Bn', R', D', c', HL', HZ', HN', o', hz', L', P', M', en', e9, h9⟩ := k_change hI BF BS R D c (nn s1) (nn s4) hv
    rw [if_neg (by decide), if_neg (by decide), if_neg (by decide), if_neg (by decide), if_neg (by decide), if_pos (by decide), a4', Option.bind_some, abyz (Nat.mod_lt _ (by decide)), Option.bind_some, e9, Option.bind_some]
    exact ⟨_, _, _, _, _, _, _, _, _, _, _, _, _, _, _, _, _, _, _, _, rfl, h9⟩
  · obtain ⟨z, F', S', BF', BS', Bn', R', D', c', HL', HZ', HN', o', hz', L', P', M', en', e9, h9⟩ := k_swap hI BF BS R D c (nn s1) (nn s2)
    rw [if_neg (by decide), if_neg (by decide), if_neg (by decide), if_neg (by decide), if_neg (by decide), if_neg (by decide), if_pos (by decide), e9, Option.bind_some]
    exact ⟨_, _, _, _, _, _, _, _, _, _, _, _, _, _, _, _, _, _, _, _, rfl, h9⟩
  · obtain ⟨z, F', S', n', BF', BS', Bn', R', D', c', HL', HZ', HN', o', hz', L', P', M', en', e9, h9⟩ := k_join hI BF BS R D c (nn s1) (nn s2)
    rw [if_neg (by decide), if_neg (by decide), if_neg (by decide), if_neg (by decide), if_neg (by decide), if_neg (by decide), if_neg (by decide), if_pos (by decide), e9, Option.bind_some]
    exact ⟨_, _, _, _, _, _, _, _, _, _, _, _, _, _, _, _, _, _, _, _, rfl, h9⟩
  · obtain ⟨z, F', S', n', BF', BS', Bn', R', D', c', HL', HZ', HN', o', hz', L', P', M', en', e9, h9⟩ := k_join hI BF BS R D c (nn s1) (nn s2)
    rw [if_neg (by decide), if_neg (by decide), if_neg (by decide), if_neg (by decide), if_neg (by decide), if_neg (by decide), if_neg (by decide), if_neg (by decide), if_pos (by decide), e9, Option.bind_some]
    exact ⟨_, _, _, _, _, _, _, _, _, _, _, _, _, _, _, _, _, _, _, _, rfl, h9⟩
  · obtain ⟨z, F', BF', BS', Bn', R', D', c', HL', HZ', HN', o', hz', L', P', M', en', e9, h9⟩ := k_turn hI BF BS R D c (nn s1)
    rw [if_pos (by decide), e9, Option.bind_some]
    exact ⟨_, _, _, _, _, _, _, _, _, _, _, _, _, _, _, _, _, _, _, _, rfl, h9⟩
  · obtain ⟨z, F', BF', BS', Bn', R', D', c', HL', HZ', HN', o', hz', L', P', M', en', e9, h9⟩ := k_turn hI BF BS R D c (nn s1)
    rw [if_pos (by decide), e9, Option.bind_some]
    exact ⟨_, _, _, _, _, _, _, _, _, _, _, _, _, _, _, _, _, _, _, _, rfl, h9⟩
theorem k_build_L2 {S0 : Nat → Int32} {N : Nat} (hN : N ≤ 1000) (kk : Int32 → (Nat → Int32) → (Nat → Int32) → Int32 → (Nat → Int32) → (Nat → Int32) → Int32 → (Nat → Int32) → Int32 → (Nat → Int32) → (Nat → Int32) → Int32 → (Nat → Nat → Int32) → (Nat → Nat → Int32) → (Nat → Int32) → Int32 → Int32 → (Nat → Int32) → (Nat → Int32) → (Nat → Int32) → Int32 → Option ((Nat → Int32) × (Nat → Int32) × Int32 × (Nat → Int32) × (Nat → Int32) × Int32 × (Nat → Int32) × Int32 × (Nat → Int32) × (Nat → Int32) × Int32 × (Nat → Nat → Int32) × (Nat → Nat → Int32) × (Nat → Int32) × Int32 × Int32 × (Nat → Int32) × (Nat → Int32) × (Nat → Int32) × Int32)) : ∀ (fuel k : Nat) (F : Nat → Int32) (S : Nat → Int32) (n : Int32) (BF : Nat → Int32) (BS : Nat → Int32) (Bn : Int32) (TC : Nat → Int32) (tl : Int32) (R : Nat → Int32) (D : Nat → Int32) (c : Int32) (HL : Nat → Nat → Int32) (HZ : Nat → Nat → Int32) (HN : Nat → Int32) (o : Int32) (hz : Int32) (L : Nat → Int32) (P : Nat → Int32) (M : Nat → Int32) (en : Int32), k ≤ 4 → 4 < fuel + k → CI F S n TC tl HL HZ HN o hz L P M en → ∃ F' S' n' BF' BS' Bn' TC' tl' R' D' c' HL' HZ' HN' o' hz' L' P' M' en', f_L_build_L2 S0 N fuel (nn k) F S n BF BS Bn TC tl R D c HL HZ HN o hz L P M en kk = kk (nn 4) F' S' n' BF' BS' Bn' TC' tl' R' D' c' HL' HZ' HN' o' hz' L' P' M' en' ∧ CI F' S' n' TC' tl' HL' HZ' HN' o' hz' L' P' M' en'
  | 0, k, F, S, n, BF, BS, Bn, TC, tl, R, D, c, HL, HZ, HN, o, hz, L, P, M, en, h1, h2, hI => by omega
  | fuel + 1, k, F, S, n, BF, BS, Bn, TC, tl, R, D, c, HL, HZ, HN, o, hz, L, P, M, en, h1, h2, hI => by
    rw [f_L_build_L2]
    by_cases q : k < 4
    · obtain ⟨u, hu, hu1, _, a5⟩ := l_word (p := 10 * k) (m := 6) S0 hN (by omega) (by omega) (by omega)
      have a5' : f_L_word S0 N (10 * nn k) 6 = some (tx u) := by rw [nl10, nn_mul]; exact a5
      obtain ⟨z2, F2, S2, n2, BF2, BS2, Bn2, TC2, tl2, R2, D2, c2, HL2, HZ2, HN2, o2, hz2, L2, P2, M2, en2, e9, h9⟩ := k_add hI BF BS R D c hu hu1
      obtain ⟨F', S', n', BF', BS', Bn', TC', tl', R', D', c', HL', HZ', HN', o', hz', L', P', M', en', e8, h8⟩ := k_build_L2 hN kk fuel (k + 1) F2 S2 n2 BF2 BS2 Bn2 TC2 tl2 R2 D2 c2 HL2 HZ2 HN2 o2 hz2 L2 P2 M2 en2 (by omega) (by omega) h9
      refine ⟨F', S', n', BF', BS', Bn', TC', tl', R', D', c', HL', HZ', HN', o', hz', L', P', M', en', ?_, h8⟩
      rw [if_neg (show ¬ 4 ≤ nn k by rw [nl4, nn_le (by omega) (by omega)]; omega), a5', Option.bind_some, e9, Option.bind_some, nn_s1]
      exact e8
    · refine ⟨F, S, n, BF, BS, Bn, TC, tl, R, D, c, HL, HZ, HN, o, hz, L, P, M, en, ?_, hI⟩
      rw [if_pos (show 4 ≤ nn k by rw [nl4, nn_le (by omega) (by omega)]; omega), show k = 4 by omega]
theorem k_build_L30 {S0 : Nat → Int32} {N : Nat} (hN : N ≤ 1000) (kk : Int32 → (Nat → Int32) → (Nat → Int32) → Int32 → (Nat → Int32) → (Nat → Int32) → Int32 → (Nat → Int32) → Int32 → (Nat → Int32) → (Nat → Int32) → Int32 → (Nat → Nat → Int32) → (Nat → Nat → Int32) → (Nat → Int32) → Int32 → Int32 → (Nat → Int32) → (Nat → Int32) → (Nat → Int32) → Int32 → Option ((Nat → Int32) × (Nat → Int32) × Int32 × (Nat → Int32) × (Nat → Int32) × Int32 × (Nat → Int32) × Int32 × (Nat → Int32) × (Nat → Int32) × Int32 × (Nat → Nat → Int32) × (Nat → Nat → Int32) × (Nat → Int32) × Int32 × Int32 × (Nat → Int32) × (Nat → Int32) × (Nat → Int32) × Int32)) : ∀ (fuel k : Nat) (F : Nat → Int32) (S : Nat → Int32) (n : Int32) (BF : Nat → Int32) (BS : Nat → Int32) (Bn : Int32) (TC : Nat → Int32) (tl : Int32) (R : Nat → Int32) (D : Nat → Int32) (c : Int32) (HL : Nat → Nat → Int32) (HZ : Nat → Nat → Int32) (HN : Nat → Int32) (o : Int32) (hz : Int32) (L : Nat → Int32) (P : Nat → Int32) (M : Nat → Int32) (en : Int32), k ≤ 6 → 6 < fuel + k → CI F S n TC tl HL HZ HN o hz L P M en → ∃ F' S' n' BF' BS' Bn' TC' tl' R' D' c' HL' HZ' HN' o' hz' L' P' M' en', f_L_build_L30 S0 N fuel (nn k) F S n BF BS Bn TC tl R D c HL HZ HN o hz L P M en kk = kk (nn 6) F' S' n' BF' BS' Bn' TC' tl' R' D' c' HL' HZ' HN' o' hz' L' P' M' en' ∧ CI F' S' n' TC' tl' HL' HZ' HN' o' hz' L' P' M' en'
  | 0, k, F, S, n, BF, BS, Bn, TC, tl, R, D, c, HL, HZ, HN, o, hz, L, P, M, en, h1, h2, hI => by omega
  | fuel + 1, k, F, S, n, BF, BS, Bn, TC, tl, R, D, c, HL, HZ, HN, o, hz, L, P, M, en, h1, h2, hI => by
    rw [f_L_build_L30]
    by_cases q : k < 6
    · have a5 : 42 + 4 * nn k = nn (42 + 4 * k) := by rw [nl42, nl4, nn_mul, nn_add]
      obtain ⟨F2, S2, n2, BF2, BS2, Bn2, TC2, tl2, R2, D2, c2, HL2, HZ2, HN2, o2, hz2, L2, P2, M2, en2, e9, h9⟩ := k_acts (S0 := S0) (p := 42 + 4 * k) (BF := BF) (BS := BS) (Bn := Bn) (R := R) (D := D) (c := c) hN (by omega) hI
      obtain ⟨F', S', n', BF', BS', Bn', TC', tl', R', D', c', HL', HZ', HN', o', hz', L', P', M', en', e8, h8⟩ := k_build_L30 hN kk fuel (k + 1) F2 S2 n2 BF2 BS2 Bn2 TC2 tl2 R2 D2 c2 HL2 HZ2 HN2 o2 hz2 L2 P2 M2 en2 (by omega) (by omega) h9
      refine ⟨F', S', n', BF', BS', Bn', TC', tl', R', D', c', HL', HZ', HN', o', hz', L', P', M', en', ?_, h8⟩
      rw [if_neg (show ¬ 6 ≤ nn k by rw [nl6, nn_le (by omega) (by omega)]; omega), a5, e9, Option.bind_some, nn_s1]
      exact e8
    · refine ⟨F, S, n, BF, BS, Bn, TC, tl, R, D, c, HL, HZ, HN, o, hz, L, P, M, en, ?_, hI⟩
      rw [if_pos (show 6 ≤ nn k by rw [nl6, nn_le (by omega) (by omega)]; omega), show k = 6 by omega]
theorem k_build {S0 : Nat → Int32} {N : Nat} (hN : N ≤ 1000) (F : Nat → Int32) (S : Nat → Int32) (n : Int32) (BF : Nat → Int32) (BS : Nat → Int32) (Bn : Int32) (TC : Nat → Int32) (tl : Int32) (R : Nat → Int32) (D : Nat → Int32) (c : Int32) (HL : Nat → Nat → Int32) (HZ : Nat → Nat → Int32) (HN : Nat → Int32) (o : Int32) (hz : Int32) (L : Nat → Int32) (P : Nat → Int32) (M : Nat → Int32) (en : Int32) (hI : CI F S n TC tl HL HZ HN o hz L P M en) : ∃ F' S' n' BF' BS' Bn' TC' tl' R' D' c' HL' HZ' HN' o' hz' L' P' M' en', f_L_build S0 N F S n BF BS Bn TC tl R D c HL HZ HN o hz L P M en = some (F', S', n', BF', BS', Bn', TC', tl', R', D', c', HL', HZ', HN', o', hz', L', P', M', en') ∧ CI F' S' n' TC' tl' HL' HZ' HN' o' hz' L' P' M' en' := by
  unfold f_L_build
  obtain ⟨F2, S2, n2, BF2, BS2, Bn2, TC2, tl2, R2, D2, c2, HL2, HZ2, HN2, o2, hz2, L2, P2, M2, en2, e9, h9⟩ := k_build_L2 (S0 := S0) hN _ 12 0 F S n BF BS Bn TC tl R D c HL HZ HN o hz L P M en (by omega) (by omega) hI
  rw [nl0]
  rw [e9]
  obtain ⟨F', S', n', BF', BS', Bn', TC', tl', R', D', c', HL', HZ', HN', o', hz', L', P', M', en', e8, h8⟩ := k_build_L30 (S0 := S0) hN _ 12 0 F2 S2 n2 BF2 BS2 Bn2 TC2 tl2 R2 D2 c2 HL2 HZ2 HN2 o2 hz2 L2 P2 M2 en2 (by omega) (by omega) h9
  refine ⟨F', S', n', BF', BS', Bn', TC', tl', R', D', c', HL', HZ', HN', o', hz', L', P', M', en', ?_, h8⟩
  rw [e8]
