/-! THE REFERENCE READS ALL COMMANDS -/
section RPRS
variable {T : Nat → Int32} {l : Int32} {w : List Nat}
theorem RW.low {g r : Nat → Int32} {j : Nat} {e : Nat × Nat} (h : RW w g j e) (hz : ∀ z, z < 4 * (j + 1) → r z = g z) : RW w r j e := by
  obtain ⟨h1, h2, h3, h4, h5⟩ := h
  refine ⟨?_, fun y => ⟨?_, ?_⟩, fun y => ?_, fun y => ?_, fun y => ?_⟩
  · rw [hz _ (by omega)]; exact h1
  · rw [hz _ (by omega)]; exact (h2 y).1
  · rw [hz _ (by omega)]; exact (h2 y).2
  · rw [hz _ (by omega)]; exact h3 y
  · rw [hz _ (by omega)]; exact h4 y
  · rw [hz _ (by omega)]; exact h5 y
def rpK (l : Int32) : (Nat → Int32) → Int32 → Int32 → Int32 → Option ((Nat → Int32) × Int32 × Int32 × Int32) := fun q h f c => f_X9_parse_J52 q h f c l
theorem L19_bad {fuel y : Nat} (hy : y < 1000) (g : Nat → Int32) (h c : Int32) : f_X9_parse_L19 T l (fuel + 1) g h (nn y) c (rpK l) = some (g, h, nn y, c) := by
  rw [f_X9_parse_L19, if_pos (by rw [show (0 : Int32) = nn 0 from rfl, nn_le (by omega) (by omega)]; omega)]
  unfold rpK f_X9_parse_J52
  rw [if_pos (by rw [show (0 : Int32) = nn 0 from rfl, nn_le (by omega) (by omega)]; omega)]
theorem r_prs (ht : TX T l w) : ∀ (g x cm : Nat) (rows : Nat → Int32) (fuel : Nat), x ≤ w.length → w.length < g + x → w.length < fuel + x → 2 * cm ≤ x → ((prs w g x).1 = none → ∃ rows' h c, ((f_X9_command T rows l (nn x) (-1) (nn cm)).bind fun r => f_X9_parse_L19 T l fuel r.1 r.2.1 r.2.2.1 r.2.2.2 (rpK l)) = some (rows', h, nn (prs w g x).2, c)) ∧ (∀ L, (prs w g x).1 = some L → ∃ rows' h, ((f_X9_command T rows l (nn x) (-1) (nn cm)).bind fun r => f_X9_parse_L19 T l fuel r.1 r.2.1 r.2.2.1 r.2.2.2 (rpK l)) = some (rows', h, -1, nn (cm + L.length)) ∧ (∀ z, z < 4 * cm → rows' z = rows z) ∧ ∀ (j : Nat) (e : Nat × Nat), L[j]? = some e → RW w rows' (cm + j) e) := by
  intro g
  have h60 := ht.2.1
  induction g with
  | zero => intro x cm rows fuel h1 h2; omega
  | succ g ih =>
    intro x cm rows fuel h1 h2 h3 h4
    obtain ⟨f, rfl⟩ : ∃ f, fuel = f + 1 := ⟨fuel - 1, by omega⟩
    obtain ⟨b1, b2⟩ := r_cmd (rows := rows) ht h1 (cm := cm) (by omega)
    obtain ⟨l1, l2⟩ := cmdR_le h1
    rw [prsS]
    cases hc : (cmdR w x).2 with
    | false =>
      rw [if_pos rfl]
      obtain ⟨q, h, e⟩ := b2 hc
      rw [e, Option.bind_some]
      refine ⟨fun _ => ⟨q, h, nn (cm + 1), L19_bad (by omega) q h _⟩, fun L h => by cases h⟩
    | true =>
      rw [if_neg (by decide)]
      have l3 := l2 hc
      obtain ⟨q, e, q1, q2⟩ := b1 hc
      rw [e, Option.bind_some]
      generalize (cmdR w x).1 = y at *
      show ((_ : Option (List (Nat × Nat)) × Nat).1 = none → ∃ rows' h c, f_X9_parse_L19 T l (f + 1) q (nn y) (-1) (nn (cm + 1)) (rpK l) = _) ∧ (∀ L, _ → ∃ rows' h, f_X9_parse_L19 T l (f + 1) q (nn y) (-1) (nn (cm + 1)) (rpK l) = _ ∧ _)
      rw [f_X9_parse_L19, if_neg (show ¬ (0 : Int32) ≤ -1 by decide)]
      by_cases e1 : w.length ≤ y
      · rw [if_pos e1, r_sign_out ht e1 (by omega), Option.bind_some, if_pos (by decide)]
        have ej : rpK l q (nn y) (-1) (nn (cm + 1)) = some (q, nn y, -1, nn (cm + 1)) := by
          unfold rpK f_X9_parse_J52
          rw [if_neg (by decide), ht.1, if_pos (by rw [nn_le (by omega) (by omega)]; exact e1)]
        rw [ej]
        refine ⟨fun h => (by cases h), fun L h => ?_⟩
        cases h
        refine ⟨q, nn y, rfl, q1, fun j e' he => ?_⟩
        cases j with
        | zero => cases he; exact q2
        | succ j => simp at he
      · rw [if_neg e1, r_sign_in ht (by omega), Option.bind_some]
        have hv := (ht.2.2 y (by omega)).2
        by_cases e2 : w.getD y 0 = 59
        · rw [if_pos e2, e2, if_neg (by decide), show (1 : Int32) = nn 1 from rfl, nn_add]
          obtain ⟨i1, i2⟩ := ih (y + 1) (cm + 1) q f (by omega) (by omega) (by omega) (by omega)
          rw [show (-nn 1 : Int32) = -1 from rfl]
          generalize prs w g (y + 1) = r at *
          obtain ⟨r1, r2⟩ := r
          cases r1 with
          | none => exact ⟨fun _ => i1 rfl, fun L h => (by cases h)⟩
          | some L' =>
            refine ⟨fun h => (by cases h), fun L h => ?_⟩
            cases h
            obtain ⟨rows', h', j1, j2, j3⟩ := i2 L' rfl
            refine ⟨rows', h', ?_, fun z hz => (j2 z (by omega)).trans (q1 z hz), fun j e' he => ?_⟩
            · rw [j1, List.length_cons, show cm + 1 + L'.length = cm + (L'.length + 1) by omega]
            · cases j with
              | zero =>
                cases he
                exact q2.low j2
              | succ j =>
                have := j3 j e' he
                rw [show cm + 1 + j = cm + (j + 1) by omega] at this
                exact this
        · rw [if_neg e2, if_pos (show ¬ nn (w.getD y 0) = 59 by rw [nl59, nn_eq (by omega) (by omega)]; exact e2)]
          have ej : rpK l q (nn y) (-1) (nn (cm + 1)) = some (q, nn y, nn y, nn (cm + 1)) := by
            unfold rpK f_X9_parse_J52
            rw [if_neg (by decide), ht.1, if_neg (by rw [nn_le (by omega) (by omega)]; exact e1)]
          rw [ej]
          exact ⟨fun _ => ⟨_, _, _, rfl⟩, fun L h => by cases h⟩
theorem r_parse (ht : TX T l w) (rows : Nat → Int32) : ((prs w 1000 0).1 = none → ∃ rows' h c, f_X9_parse T rows l = some (rows', h, nn (prs w 1000 0).2, c)) ∧ (∀ L, (prs w 1000 0).1 = some L → ∃ rows' h, f_X9_parse T rows l = some (rows', h, -1, nn L.length) ∧ ∀ (j : Nat) (e : Nat × Nat), L[j]? = some e → RW w rows' j e) := by
  have h60 := ht.2.1
  obtain ⟨i1, i2⟩ := r_prs ht 1000 0 0 rows 1000 (by omega) (by omega) (by omega) (by omega)
  have e : f_X9_parse T rows l = ((f_X9_command T rows l (nn 0) (-1) (nn 0)).bind fun r => f_X9_parse_L19 T l 1000 r.1 r.2.1 r.2.2.1 r.2.2.2 (rpK l)) := rfl
  refine ⟨fun h => ?_, fun L h => ?_⟩
  · rw [e]
    exact i1 h
  · obtain ⟨rows', h', j1, _, j3⟩ := i2 L h
    rw [Nat.zero_add] at j1
    refine ⟨rows', h', e.trans j1, fun j e' he => ?_⟩
    have := j3 j e' he
    rw [Nat.zero_add] at this
    exact this
/-- the commands, as they follow each other -/
def CH (w : List Nat) (L : List (Nat × Nat)) : Prop := ∀ (j : Nat) (e : Nat × Nat), L[j]? = some e → (cmdR w e.1).2 = true ∧ e.2 = (cmdR w e.1).1 ∧ e.2 ≤ w.length ∧ (j + 1 = L.length → e.2 = w.length) ∧ (∀ e' : Nat × Nat, L[j + 1]? = some e' → e'.1 = e.2 + 1)
theorem prs_CH : ∀ (g x : Nat) (L : List (Nat × Nat)), x ≤ w.length → (prs w g x).1 = some L → CH w L ∧ (∃ y L', L = (x, y) :: L')
  | 0, x, L, _, h => by cases h
  | g + 1, x, L, hx, h => by
    obtain ⟨l1, l2⟩ := cmdR_le hx
    rw [prsS] at h
    cases hc : (cmdR w x).2 with
    | false => rw [hc, if_pos rfl] at h; cases h
    | true =>
      rw [hc, if_neg (by decide)] at h
      by_cases e1 : w.length ≤ (cmdR w x).1
      · rw [if_pos e1] at h
        cases h
        refine ⟨fun j e he => ?_, _, _, rfl⟩
        cases j with
        | zero => cases he; exact ⟨hc, rfl, l1, fun _ => by show (cmdR w x).1 = w.length; omega, fun e' h' => by simp at h'⟩
        | succ j => simp at he
      · rw [if_neg e1] at h
        by_cases e2 : w.getD (cmdR w x).1 0 = 59
        · rw [if_pos e2] at h
          have ih := prs_CH g ((cmdR w x).1 + 1)
          generalize hr : prs w g ((cmdR w x).1 + 1) = r at h ih
          obtain ⟨r1, r2⟩ := r
          cases r1 with
          | none => cases h
          | some L' =>
            cases h
            obtain ⟨i1, y, L'', rfl⟩ := ih L' (by omega) rfl
            refine ⟨fun j e he => ?_, _, _, rfl⟩
            cases j with
            | zero =>
              cases he
              refine ⟨hc, rfl, l1, fun q => by simp at q, fun e' h' => ?_⟩
              cases h'
              rfl
            | succ j =>
              obtain ⟨k1, k2, k3, k4, k5⟩ := i1 j e he
              refine ⟨k1, k2, k3, fun q => k4 ?_, fun e' h' => k5 e' h'⟩
              rw [List.length_cons] at q
              omega
        · rw [if_neg e2] at h
          cases h
end RPRS
