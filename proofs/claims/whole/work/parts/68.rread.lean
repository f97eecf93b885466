/-! THE REFERENCE READS A COMMAND, AND ALL OF THEM -/
section RREAD2
variable {T rows : Nat → Int32} {l : Int32} {w : List Nat}
theorem shp_43 {v : Nat} : shp v = 1 ↔ v = 43 := by
  unfold shp
  constructor
  · intro h
    by_cases h1 : v = 43
    · exact h1
    · rw [if_neg h1] at h
      exfalso
      revert h
      repeat (first | (intro h; omega) | split)
  · intro h
    rw [if_pos h]
theorem shp_k (v : Nat) : (shp v = 1 ∧ v = 43) ∨ (shp v = 2 ∧ (v = 45 ∨ v = 116)) ∨ (shp v = 3 ∧ (v = 120 ∨ v = 106)) ∨ (shp v = 4 ∧ v = 61) ∨ (shp v = 0 ∧ v ≠ 43 ∧ v ≠ 45 ∧ v ≠ 61 ∧ v ≠ 106 ∧ v ≠ 116 ∧ v ≠ 120) := by
  unfold shp
  by_cases h1 : v = 43
  · rw [if_pos h1]; omega
  rw [if_neg h1]
  by_cases h2 : v = 45
  · rw [if_pos h2]; omega
  rw [if_neg h2]
  by_cases h3 : v = 61
  · rw [if_pos h3]; omega
  rw [if_neg h3]
  by_cases h4 : v = 106
  · rw [if_pos h4]; omega
  rw [if_neg h4]
  by_cases h5 : v = 116
  · rw [if_pos h5]; omega
  rw [if_neg h5]
  by_cases h6 : v = 120
  · rw [if_pos h6]; omega
  rw [if_neg h6]
  omega
def rz4 (rows : Nat → Int32) (a : Nat) : Nat → Int32 := upd (upd (upd (upd rows (a + 0) (nn 0)) (a + 1) (nn 0)) (a + 2) (nn 0)) (a + 3) (nn 0)
theorem r_cmd_known (ht : TX T l w) {x cm : Nat} (hx : x < w.length) (hcm : cm ≤ 40) (h : shp (w.getD x 0) ≠ 0) : ∃ g, (∀ z, z < 4 * cm → g z = rows z) ∧ g (4 * cm) = nn (w.getD x 0) ∧ f_X9_command T rows l (nn x) (-1) (nn cm) = f_X9_command_J96 (nn (4 * cm)) (nn (w.getD x 0)) g (nn x) (-1) (nn (cm + 1)) T l := by
  have hv := (ht.2.2 x hx).2
  have e4 : (4 : Int32) * nn cm = nn (4 * cm) := nn_mul 4 cm
  refine ⟨upd (rz4 rows (4 * cm)) (4 * cm) (nn (w.getD x 0)), fun z hz => ?_, upd_eq _ _ _, ?_⟩
  rotate_left
  · unfold f_X9_command
    rw [r_sign_in ht hx, Option.bind_some, e4, show (0 : Int32) = nn 0 from rfl, r_zero (by omega) 995, sti_nn (by omega) (by omega), Option.bind_some, show (1 : Int32) = nn 1 from rfl, nn_add]
    rcases shp_k (w.getD x 0) with ⟨_, e⟩ | ⟨_, e | e⟩ | ⟨_, e | e⟩ | ⟨_, e⟩ | ⟨e, _⟩
    · rw [e, if_pos (by decide)]; rfl
    · rw [e, if_neg (by decide), if_pos (by decide)]; rfl
    · rw [e, if_neg (by decide), if_neg (by decide), if_neg (by decide), if_neg (by decide), if_neg (by decide), if_pos (by decide)]; rfl
    · rw [e, if_neg (by decide), if_neg (by decide), if_neg (by decide), if_pos (by decide)]; rfl
    · rw [e, if_neg (by decide), if_neg (by decide), if_neg (by decide), if_neg (by decide), if_pos (by decide)]; rfl
    · rw [e, if_neg (by decide), if_neg (by decide), if_pos (by decide)]; rfl
    · exact absurd e h
  · unfold rz4
    rw [upd_ne (by omega), upd_ne (by omega), upd_ne (by omega), upd_ne (by omega), upd_ne (by omega)]
theorem r_cmd_unknown (ht : TX T l w) {x cm : Nat} (hx : x ≤ w.length) (hcm : cm ≤ 40) (h : shp (w.getD x 0) = 0) : ∃ g, f_X9_command T rows l (nn x) (-1) (nn cm) = some (g, nn x, nn x, nn (cm + 1)) := by
  have h60 := ht.2.1
  have e4 : (4 : Int32) * nn cm = nn (4 * cm) := nn_mul 4 cm
  by_cases hx' : x < w.length
  · have hv := (ht.2.2 x hx').2
    refine ⟨upd (rz4 rows (4 * cm)) (4 * cm) (nn (w.getD x 0)), ?_⟩
    · unfold f_X9_command
      rw [r_sign_in ht hx', Option.bind_some, e4, show (0 : Int32) = nn 0 from rfl, r_zero (by omega) 995, sti_nn (by omega) (by omega), Option.bind_some, show (1 : Int32) = nn 1 from rfl, nn_add]
      rcases shp_k (w.getD x 0) with ⟨e, _⟩ | ⟨e, _⟩ | ⟨e, _⟩ | ⟨e, _⟩ | ⟨_, h1, h2, h3, h4, h5, h6⟩
      · omega
      · omega
      · omega
      · omega
      · rw [if_neg (show ¬ nn (w.getD x 0) = 43 by rw [nl43, nn_eq (by omega) (by omega)]; exact h1), if_neg (show ¬ nn (w.getD x 0) = 45 by rw [nl45, nn_eq (by omega) (by omega)]; exact h2), if_neg (show ¬ nn (w.getD x 0) = 61 by rw [nl61, nn_eq (by omega) (by omega)]; exact h3), if_neg (show ¬ nn (w.getD x 0) = 120 by rw [nl120, nn_eq (by omega) (by omega)]; exact h6), if_neg (show ¬ nn (w.getD x 0) = 106 by rw [nl106, nn_eq (by omega) (by omega)]; exact h4), if_neg (show ¬ nn (w.getD x 0) = 116 by rw [nl116, nn_eq (by omega) (by omega)]; exact h5)]
        rfl
  · refine ⟨upd (rz4 rows (4 * cm)) (4 * cm) (-1), ?_⟩
    · unfold f_X9_command
      rw [r_sign_out ht (by omega) (by omega), Option.bind_some, e4, show (0 : Int32) = nn 0 from rfl, r_zero (by omega) 995, sti_nn (by omega) (by omega), Option.bind_some, show (1 : Int32) = nn 1 from rfl, nn_add, if_neg (by decide), if_neg (by decide), if_neg (by decide), if_neg (by decide), if_neg (by decide), if_neg (by decide)]
      rfl
theorem r_cmd (ht : TX T l w) {x cm : Nat} (hx : x ≤ w.length) (hcm : cm ≤ 40) : ((cmdR w x).2 = true → ∃ g, f_X9_command T rows l (nn x) (-1) (nn cm) = some (g, nn (cmdR w x).1, -1, nn (cm + 1)) ∧ (∀ z, z < 4 * cm → g z = rows z) ∧ RW w g cm (x, (cmdR w x).1)) ∧ ((cmdR w x).2 = false → ∃ g h, f_X9_command T rows l (nn x) (-1) (nn cm) = some (g, h, nn (cmdR w x).1, nn (cm + 1))) := by
  by_cases hs : shp (w.getD x 0) = 0
  · obtain ⟨g, e⟩ := r_cmd_unknown (rows := rows) ht hx hcm hs
    have er : cmdR w x = (x, false) := by
      unfold cmdR
      rw [hs, if_neg (by decide), if_neg (by decide), if_neg (by decide), if_neg (by decide)]
    rw [er]
    exact ⟨fun h => (by cases h), fun _ => ⟨g, nn x, e⟩⟩
  · have hx' := shp_in hs
    obtain ⟨g, g1, g2, g3⟩ := r_cmd_known (rows := rows) ht hx' hcm hs
    rw [g3]
    have hv := (ht.2.2 x hx').2
    unfold cmdR
    rcases shp_k (w.getD x 0) with ⟨s, e⟩ | ⟨s, e⟩ | ⟨s, e⟩ | ⟨s, e⟩ | ⟨s, e⟩
    · rw [if_pos s]
      rw [e] at g2 ⊢
      rw [J96_1 ht hx' (by omega)]
      refine ⟨fun q => ?_, fun q => ?_⟩
      · have q' : nl w 10 (x + 1) ≠ 0 := by
          have : decide (nl w 10 (x + 1) ≠ 0) = true := q
          exact of_decide_eq_true this
        rw [if_neg q']
        refine ⟨_, rfl, fun z hz => ?_, ?_, fun _ => ⟨?_, ?_⟩, fun y => absurd s y, fun y => ?_, fun y => ?_⟩
        · rw [upd_ne (by omega), upd_ne (by omega)]
          exact g1 z hz
        · rw [upd_ne (by omega), upd_ne (by omega), g2, e]
        · rw [upd_ne (by omega), upd_eq]
        · rw [upd_eq]
          show nn (nl w 10 (x + 1)) = nn (x + 1 + nl w 10 (x + 1) - (x + 1))
          congr 1
          omega
        · rcases y with y | y <;> (have y' : shp (w.getD x 0) = _ := y; omega)
        · have y' : shp (w.getD x 0) = _ := y; omega
      · have q' : nl w 10 (x + 1) = 0 := by
          have : decide (nl w 10 (x + 1) ≠ 0) = false := q
          have := of_decide_eq_false this
          omega
        rw [q', if_pos rfl]
        exact ⟨_, _, rfl⟩
    · rw [if_neg (by omega), if_pos s]
      rw [J96_2 ht hx' (by omega) hv (by omega) (by omega) (by omega) (by omega)]
      by_cases q : dg w (x + 1) = true
      · rw [if_pos q, if_pos q]
        refine ⟨fun _ => ⟨_, rfl, fun z hz => ?_, ?_, fun y => ?_, fun _ => ?_, fun y => ?_, fun y => ?_⟩, fun z => (by cases z)⟩
        · rw [upd_ne (by omega), upd_ne (by omega)]
          exact g1 z hz
        · rw [upd_ne (by omega), upd_ne (by omega), g2]
        · have y' : shp (w.getD x 0) = _ := y; omega
        · rw [upd_ne (by omega), upd_eq]
        · rcases y with y | y <;> (have y' : shp (w.getD x 0) = _ := y; omega)
        · have y' : shp (w.getD x 0) = _ := y; omega
      · rw [if_neg q, if_neg q]
        exact ⟨fun z => (by cases z), fun _ => ⟨_, _, rfl⟩⟩
    · rw [if_neg (by omega), if_neg (by omega), if_pos s]
      rw [J96_3 ht hx' (by omega) e]
      by_cases q : dg w (x + 1) = true
      · rw [if_pos q, if_pos q]
        by_cases q2 : dg w (x + 2) = true
        · rw [if_pos q2, if_pos q2]
          refine ⟨fun _ => ⟨_, rfl, fun z hz => ?_, ?_, fun y => ?_, fun _ => ?_, fun _ => ?_, fun y => ?_⟩, fun z => (by cases z)⟩
          · rw [upd_ne (by omega), upd_ne (by omega)]
            exact g1 z hz
          · rw [upd_ne (by omega), upd_ne (by omega), g2]
          · have y' : shp (w.getD x 0) = _ := y; omega
          · rw [upd_ne (by omega), upd_eq]
          · rw [upd_eq]
          · have y' : shp (w.getD x 0) = _ := y; omega
        · rw [if_neg q2, if_neg q2]
          exact ⟨fun z => (by cases z), fun _ => ⟨_, _, rfl⟩⟩
      · rw [if_neg q, if_neg q]
        exact ⟨fun z => (by cases z), fun _ => ⟨_, _, rfl⟩⟩
    · rw [if_neg (by omega), if_neg (by omega), if_neg (by omega), if_pos s]
      rw [e] at g2 ⊢
      obtain ⟨g', h', f1, f2, f3⟩ := J96_4 (rows := g) (cm := nn (cm + 1)) ht hx' (a := 4 * cm) (by omega)
      rw [f1]
      by_cases q : dg w (x + 1) = true
      · rw [if_pos q, if_pos q]
        by_cases q2 : dg w (x + 2) = true
        · rw [if_pos q2, if_pos q2]
          by_cases q3 : lz w (x + 3) = true
          · rw [if_pos q3, if_pos q3]
            obtain ⟨f4, f5, f6, f7⟩ := f3 q q2 q3
            refine ⟨fun _ => ⟨g', by rw [f4], fun z hz => (f2 z (by omega)).trans (g1 z hz), ?_, fun y => ?_, fun _ => f5, fun _ => f6, fun _ => f7⟩, fun z => (by cases z)⟩
            · rw [f2 _ (by omega), g2, e]
            · have y' : shp (w.getD x 0) = _ := y; omega
          · rw [if_neg q3, if_neg q3]
            exact ⟨fun z => (by cases z), fun _ => ⟨_, _, rfl⟩⟩
        · rw [if_neg q2, if_neg q2]
          exact ⟨fun z => (by cases z), fun _ => ⟨_, _, rfl⟩⟩
      · rw [if_neg q, if_neg q]
        exact ⟨fun z => (by cases z), fun _ => ⟨_, _, rfl⟩⟩
    · exact absurd s hs
end RREAD2
