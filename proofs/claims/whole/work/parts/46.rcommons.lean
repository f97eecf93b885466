/-! THE REFERENCE'S COMMONS -/
def ra (m p : Nat) : Int32 := if m = 0 then -nn 1 else nn (p - 1)
section RCOM
variable {A O : Nat → Int32} {b : Bk}
theorem r_com_L (hw : Wf b) (hr : RB A 0 b) (ho : RO O (ord b)) (K : Int32 → Int32 → Int32 → Int32 → Int32 → Option (Int32 × (Nat → Int32) × Int32)) : ∀ (fuel k a p s c : Nat), 1 ≤ k → a ≤ 1000 → k ≤ (ord b).length + 1 → (ord b).length + 1 < fuel + k → ∃ z, f_X9_commons_L17 O (nn (ord b).length) A fuel (nn a) (ra a p) (nn s) (nn c) (nn k) K = K (nn (am (cc b) a p k ((ord b).length - k)).1) (ra (am (cc b) a p k ((ord b).length - k)).1 (am (cc b) a p k ((ord b).length - k)).2) (nn (s + sm (cc b) k ((ord b).length - k))) (nn (c + sm (fun k => one (decide (0 < cc b k))) k ((ord b).length - k))) z := by
  have hg := ord_good hw
  intro fuel
  induction fuel with
  | zero => intro k a p s c h0 h1 h2 h3; omega
  | succ fuel ih =>
    intro k a p s c h0 h1 h2 h3
    rw [f_X9_commons_L17]
    by_cases hk : (ord b).length ≤ k
    · rw [if_pos (by rw [nn_le (by omega) (by omega)]; exact hk), show (ord b).length - k = 0 by omega]
      exact ⟨_, rfl⟩
    · have hc := cc_le hw k
      rw [if_neg (by rw [nn_le (by omega) (by omega)]; exact hk), r_common1 hw hr ho h0 (by omega), Option.bind_some]
      have hd : (ord b).length - k = ((ord b).length - (k + 1)) + 1 := by omega
      have e1 : (nn (cc b k) ≤ nn a) = (cc b k ≤ a) := nn_le (by omega) (by omega)
      have e2 : (nn (cc b k) ≤ (0 : Int32)) = (cc b k ≤ 0) := nn_le (a := cc b k) (b := 0) (by omega) (by omega)
      have n1 : nn k + 1 = nn (k + 1) := nn_add k 1
      have n2 : nn c + 1 = nn (c + 1) := nn_add c 1
      have n3 : nn c + 0 = nn (c + 0) := nn_add c 0
      have n4 : nn s + nn (cc b k) = nn (s + cc b k) := nn_add _ _
      have n5 : nn k - 1 = nn (k - 1) := nn_sub (b := 1) h0
      rw [n1, n2, n3, n4, n5, hd, amS, smS, smS]
      by_cases q1 : cc b k ≤ a
      · rw [if_pos (e1.mpr q1), if_pos (e1.mpr q1), if_neg (show ¬ a < cc b k by omega)]
        by_cases q2 : cc b k ≤ 0
        · rw [if_pos (e2.mpr q2), one_f (by simp; omega)]
          obtain ⟨z, e⟩ := ih (k + 1) a p (s + cc b k) (c + 0) (by omega) h1 (by omega) (by omega)
          exact ⟨z, by rw [e, Nat.add_assoc, Nat.add_assoc]⟩
        · rw [if_neg (fun q => q2 (e2.mp q)), one_t (decide_eq_true (by omega))]
          obtain ⟨z, e⟩ := ih (k + 1) a p (s + cc b k) (c + 1) (by omega) h1 (by omega) (by omega)
          exact ⟨z, by rw [e, Nat.add_assoc, Nat.add_assoc]⟩
      · have q2 : ¬ cc b k ≤ 0 := by omega
        rw [if_neg (fun q => q1 (e1.mp q)), if_neg (fun q => q1 (e1.mp q)), if_pos (show a < cc b k by omega), if_neg (fun q => q2 (e2.mp q)), one_t (decide_eq_true (by omega))]
        have hra : nn (k - 1) = ra (cc b k) k := (if_neg (show ¬ cc b k = 0 by omega)).symm
        rw [hra]
        obtain ⟨z, e⟩ := ih (k + 1) (cc b k) k (s + cc b k) (c + 1) (by omega) (by omega) (by omega) (by omega)
        exact ⟨z, by rw [e, Nat.add_assoc, Nat.add_assoc]⟩
theorem r_commons (hw : Wf b) (hr : RB A 0 b) (O : Nat → Int32) : ∃ O', RO O' (ord b) ∧ f_X9_commons A O 0 = some (nn (lc b), O', nn (ord b).length) ∧ f_X9_commons A O 1 = some (if lc b = 0 then -nn 1 else nn (flr b - 1), O', nn (ord b).length) ∧ f_X9_commons A O 2 = some (nn (sc b), O', nn (ord b).length) ∧ f_X9_commons A O 3 = some (nn (rc1 b), O', nn (ord b).length) := by
  have hg := ord_good hw
  obtain ⟨O', e1, e2⟩ := r_orders hw hr O
  refine ⟨O', e2, ?_⟩
  have key : ∀ w : Int32, f_X9_commons A O w = if ¬ w = 0 then (if ¬ w = 1 then (if ¬ w = 2 then (some (nn (rc1 b), O', nn (ord b).length)) else (some (nn (sc b), O', nn (ord b).length))) else (some (if lc b = 0 then -nn 1 else nn (flr b - 1), O', nn (ord b).length))) else (some (nn (lc b), O', nn (ord b).length)) := by
    intro w
    unfold f_X9_commons
    rw [e1, Option.bind_some]
    obtain ⟨z, e3⟩ := r_com_L hw hr e2 (fun x2 x3 x4 x5 _ => if ¬ w = 0 then (if ¬ w = 1 then (if ¬ w = 2 then (some (x5, O', nn (ord b).length)) else (some (x4, O', nn (ord b).length))) else (some (x3, O', nn (ord b).length))) else (some (x2, O', nn (ord b).length))) 1000 1 0 0 0 0 (by omega) (by omega) (by omega) (by omega)
    refine Eq.trans ?_ (e3.trans ?_)
    · rfl
    · have h1 : (am (cc b) 0 0 1 ((ord b).length - 1)).1 = lc b := by rw [am_fst, Nat.zero_max]; rfl
      have h2 := am_snd (cc b) ((ord b).length - 1) 0 0 1
      have h3 : ra (lc b) (am (cc b) 0 0 1 ((ord b).length - 1)).2 = if lc b = 0 then -nn 1 else nn (flr b - 1) := by
        unfold ra
        by_cases hz : lc b = 0
        · rw [if_pos hz, if_pos hz]
        · rw [if_neg hz, if_neg hz, h2.1 (show 0 < mx (cc b) 1 ((ord b).length - 1) by have : 0 < lc b := by omega
                                                                                       exact this)]
          rfl
      rw [h1, h3, Nat.zero_add, Nat.zero_add]
      rfl
  exact ⟨(key 0).trans (if_neg (by decide)), ((key 1).trans (if_pos (by decide))).trans (if_neg (by decide)), (((key 2).trans (if_pos (by decide))).trans (if_pos (by decide))).trans (if_neg (by decide)), (((key 3).trans (if_pos (by decide))).trans (if_pos (by decide))).trans (if_pos (by decide))⟩
end RCOM
