/-! ALL COMMANDS CARRIED OUT, A REASON ON TOP -/
section ALL
variable {C T st rows : Nat → Int32} {l l' : Int32} {w : List Nat} {L : List (Nat × Nat)}
theorem j_all {β : Type} (ht : TX C l w) (ht' : TX T l' w) (hch : CH w L) (hL : L.length ≤ 31) (hst : ∀ (j : Nat) (e : Nat × Nat), L[j]? = some e → st j = nn e.1) (hR : ∀ (j : Nat) (e : Nat × Nat), L[j]? = some e → RW w rows j e) (K : Int32 → (Nat → Int32) → (Nat → Int32) → (Nat → Int32) → (Nat → Int32) → Int32 → Int32 → Int32 → Option (Int32 × (Nat → Int32) × (Nat → Int32) × (Nat → Int32) × (Nat → Int32) × (Nat → Int32) × Int32 × Int32 × Int32 × Int32 × Int32 × Int32 × Int32 × Int32 × Int32 × Int32)) : ∀ (t i fc fr : Nat) (b : Bk) (F S R D A M W O : Nat → Int32) (n c r ws om : Int32), i + t = L.length → t < fc → t < fr → Wf b → CB F S n b → RB A 0 b → (∃ b' F' S' n' A' W' O' r' ws' om', f_X2_carryOut_L3 st (nn L.length) C l fc (nn i) F S n R D c (fun x4_3_5 q_o2_lettersF_3_6 q_o2_sizesF_3_7 q_o2_lines_3_8 q_o3_reasonsF_3_9 q_o3_detailsF_3_10 q_o3_count_3_11 => some (1, q_o2_lettersF_3_6, q_o2_sizesF_3_7, q_o2_lines_3_8, q_o3_reasonsF_3_9, q_o3_detailsF_3_10, q_o3_count_3_11)) = some (1, F', S', n', R, D, c) ∧ f_X9_commands_L37 rows (nn L.length) T fr (nn i) A M W O r ws om K = K (nn L.length) A' M W' O' r' ws' om' ∧ OKB b' F' S' n' A A') ∨ (∃ q F' S' n' R1 D1 c1 A' M' W' O' r' ws' om', q < L.length ∧ f_X2_carryOut_L3 st (nn L.length) C l fc (nn i) F S n R D c (fun x4_3_5 q_o2_lettersF_3_6 q_o2_sizesF_3_7 q_o2_lines_3_8 q_o3_reasonsF_3_9 q_o3_detailsF_3_10 q_o3_count_3_11 => some (1, q_o2_lettersF_3_6, q_o2_sizesF_3_7, q_o2_lines_3_8, q_o3_reasonsF_3_9, q_o3_detailsF_3_10, q_o3_count_3_11)) = ((f_X6_keepOnTop R1 D1 c1 10 (nn q)).bind fun r29 => some (0, F', S', n', r29.1, r29.2.1, r29.2.2)) ∧ f_X9_commands_L37 rows (nn L.length) T fr (nn i) A M W O r ws om K = K (nn q) A' M' W' O' r' ws' om' ∧ RFS R1 D1 c1 M' ∧ ∀ z, 89 ≤ z → A' z = A z) := by
  intro t
  induction t with
  | zero =>
    intro i fc fr b F S R D A M W O n c r ws om h1 h2 h3 hw hc hr
    obtain ⟨fc, rfl⟩ : ∃ f, fc = f + 1 := ⟨fc - 1, by omega⟩
    obtain ⟨fr, rfl⟩ : ∃ f, fr = f + 1 := ⟨fr - 1, by omega⟩
    have e : i = L.length := by omega
    rw [f_X2_carryOut_L3, f_X9_commands_L37, if_pos (by rw [nn_le (by omega) (by omega)]; omega), if_pos (by rw [nn_le (by omega) (by omega)]; omega), e]
    exact Or.inl ⟨b, F, S, n, A, W, O, r, ws, om, rfl, rfl, hw, hc, hr, fun z _ => rfl⟩
  | succ t ih =>
    intro i fc fr b F S R D A M W O n c r ws om h1 h2 h3 hw hc hr
    obtain ⟨fc, rfl⟩ : ∃ f, fc = f + 1 := ⟨fc - 1, by omega⟩
    obtain ⟨fr, rfl⟩ : ∃ f, fr = f + 1 := ⟨fr - 1, by omega⟩
    have he : L[i]? = some L[i] := List.getElem?_eq_getElem (by omega)
    rw [f_X2_carryOut_L3, f_X9_commands_L37, if_neg (by rw [nn_le (by omega) (by omega)]; omega), if_neg (by rw [nn_le (by omega) (by omega)]; omega), show (4 : Int32) * nn i = nn (4 * i) from nn_mul 4 i, show nn i + 1 = nn (i + 1) from nn_add i 1]
    rcases j_one (R := R) (D := D) (c := c) (M := M) (W := W) (O := O) hw hc hr ht ht' hch hL hst he (hR i _ he) r ws om with ⟨b', F', S', n', A', W', O', r', ws', om', p1, p2, p3⟩ | ⟨R', D', c', M', W', O', r', ws', om', p1, p2, p3⟩
    · rw [p1, p2, Option.bind_some, Option.bind_some, if_pos (show ¬ (1 : Int32) = 0 by decide), if_neg (show ¬ (1 : Int32) = 0 by decide)]
      obtain ⟨w1, w2, w3, w4⟩ := p3
      rcases ih (i + 1) fc fr b' F' S' R D A' M W' O' n' c r' ws' om' (by omega) (by omega) (by omega) w1 w2 w3 with ⟨b2, F2, S2, n2, A2, W2, O2, r2, ws2, om2, q1, q2, q3⟩ | ⟨q, F2, S2, n2, R1, D1, c1, A2, M2, W2, O2, r2, ws2, om2, q0, q1, q2, q3, q4⟩
      · exact Or.inl ⟨b2, F2, S2, n2, A2, W2, O2, r2, ws2, om2, q1, q2, q3.1, q3.2.1, q3.2.2.1, fun z hz => (q3.2.2.2 z hz).trans (w4 z hz)⟩
      · exact Or.inr ⟨q, F2, S2, n2, R1, D1, c1, A2, M2, W2, O2, r2, ws2, om2, q0, q1, q2, q3, fun z hz => (q4 z hz).trans (w4 z hz)⟩
    · rw [p1, p2, Option.bind_some, Option.bind_some, if_neg (show ¬ ¬ (0 : Int32) = 0 from fun z => z rfl), if_pos (show (0 : Int32) = 0 from rfl)]
      exact Or.inr ⟨i, F, S, n, R', D', c', A, M', W', O', r', ws', om', by omega, rfl, rfl, p3, fun z _ => rfl⟩
end ALL
section TOP
variable {R D M : Nat → Int32} {c : Int32}
theorem L71_go (a fuel : Nat) (ha : a < 4) (M : Nat → Int32) (K : Int32 → (Nat → Int32) → Option (Int32 × (Nat → Int32) × (Nat → Int32) × (Nat → Int32) × (Nat → Int32) × (Nat → Int32) × Int32 × Int32 × Int32 × Int32 × Int32 × Int32 × Int32 × Int32 × Int32 × Int32)) : f_X9_commands_L71 (fuel + 1) (nn (a + 2)) M K = f_X9_commands_L71 fuel (nn (a + 1)) (upd M (a + 2) (M a)) K := by
  rw [f_X9_commands_L71, if_neg (show ¬ nn (a + 2) ≤ 1 by rw [nl1, nn_le (by omega) (by omega)]; omega), show nn (a + 2) - 2 = nn a from nn_sub (a := a + 2) (b := 2) (by omega), ldi_nn (by omega) (by omega), Option.bind_some, sti_nn (by omega) (by omega), Option.bind_some, show nn (a + 2) + (-1) = nn (a + 1) from nn_pred' (a := a + 2) (by omega)]
def shM (M : Nat → Int32) : Nat → Int32 := upd (upd (upd (upd M (3 + 2) (M 3)) (2 + 2) (upd M (3 + 2) (M 3) 2)) (1 + 2) (upd (upd M (3 + 2) (M 3)) (2 + 2) (upd M (3 + 2) (M 3) 2) 1)) (0 + 2) (upd (upd (upd M (3 + 2) (M 3)) (2 + 2) (upd M (3 + 2) (M 3) 2)) (1 + 2) (upd (upd M (3 + 2) (M 3)) (2 + 2) (upd M (3 + 2) (M 3) 2) 1) 0)
theorem L71_all (M : Nat → Int32) (K : Int32 → (Nat → Int32) → Option (Int32 × (Nat → Int32) × (Nat → Int32) × (Nat → Int32) × (Nat → Int32) × (Nat → Int32) × Int32 × Int32 × Int32 × Int32 × Int32 × Int32 × Int32 × Int32 × Int32 × Int32)) : f_X9_commands_L71 1000 5 M K = K (nn 1) (shM M) := by
  have e := L71_go 3 999 (by omega) M K
  rw [L71_go 2 998 (by omega), L71_go 1 997 (by omega), L71_go 0 996 (by omega)] at e
  refine Eq.trans (show f_X9_commands_L71 1000 5 M K = f_X9_commands_L71 (999 + 1) (nn (3 + 2)) M K from rfl) (e.trans ?_)
  show f_X9_commands_L71 (995 + 1) (nn 1) (shM M) K = _
  rw [f_X9_commands_L71, if_pos (by decide)]
theorem shM_at (M : Nat → Int32) : shM M 2 = M 0 ∧ shM M 3 = M 1 ∧ shM M 4 = M 2 ∧ shM M 5 = M 3 := by
  unfold shM
  refine ⟨?_, ?_, ?_, ?_⟩ <;> simp [upd]
theorem RFS.top (h : RFS R D c M) {x : Int32} (hx : ¬ x = nn 0) (y : Int32) : ∃ R' D' c', f_X6_keepOnTop R D c x y = some (R', D', c') ∧ RFS R' D' c' (upd (upd (shM M) 0 x) 1 y) := by
  obtain ⟨k, hk, rfl, h1, h2⟩ := h
  obtain ⟨R', D', e, e0, e1, e2⟩ := s_top (R := R) (D := D) hk x y
  obtain ⟨m2, m3, m4, m5⟩ := shM_at M
  refine ⟨R', D', _, e, min (k + 1) 3, by omega, rfl, fun d hd => ?_, fun d q1 q2 => ?_⟩
  · by_cases z : d = 0
    · subst z
      refine ⟨?_, ?_, ?_⟩
      · rw [upd_ne (by omega), upd_eq, e0]
      · rw [upd_eq, e1]
      · rw [e0]; exact hx
    · obtain ⟨g1, g2⟩ := e2 d (by omega) hd
      obtain ⟨f1, f2, f3⟩ := h1 (d - 1) (by omega)
      rw [g1, g2]
      refine ⟨?_, ?_, f3⟩
      · rw [upd_ne (by omega), upd_ne (by omega), ← f1]
        by_cases z2 : d = 1
        · subst z2; exact m2
        · have : d = 2 := by omega
          subst this
          exact m4
      · rw [upd_ne (by omega), upd_ne (by omega), ← f2]
        by_cases z2 : d = 1
        · subst z2; exact m3
        · have : d = 2 := by omega
          subst this
          exact m5
  · have hk2 : k < 2 := by omega
    rw [upd_ne (by omega), upd_ne (by omega)]
    by_cases z : d = 1
    · subst z
      have := h2 0 (by omega) (by omega)
      rw [show 2 * 1 = 2 by omega, m2]
      exact this
    · have : d = 2 := by omega
      subst this
      have := h2 1 (by omega) (by omega)
      rw [show 2 * 2 = 4 by omega, m4]
      exact this
end TOP
