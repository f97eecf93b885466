/-! HOW MANY PIECES: what each ending adds, in any order -/
theorem cpl_cons (a c : Nat) (u v : List Nat) : cpl (a :: u) (c :: v) = if a = c then cpl u v + 1 else 0 := rfl
theorem cpl_um : ∀ (u v w : List Nat), cpl u w < cpl u v → cpl v w = cpl u w
  | [], v, w, h => by rw [cpl_nil, cpl_nil] at h; omega
  | a :: u, [], w, h => by rw [cpl_nil'] at h; omega
  | a :: u, c :: v, [], h => by rw [cpl_nil', cpl_nil']
  | a :: u, c :: v, d :: w, h => by
    rw [cpl_cons, cpl_cons] at *
    by_cases e1 : a = c
    · rw [if_pos e1] at h
      by_cases e2 : a = d
      · rw [if_pos e2] at h
        have ih := cpl_um u v w (by omega)
        rw [if_pos e2, if_pos (by omega), ih]
      · rw [if_neg e2, if_neg (by omega)]
    · rw [if_neg e1] at h
      omega
def mo : List (List Nat) → List Nat → Nat
  | [], _ => 0
  | v :: S, u => max (cpl u v) (mo S u)
theorem mo0 (u : List Nat) : mo [] u = 0 := rfl
theorem moS (v : List Nat) (S : List (List Nat)) (u : List Nat) : mo (v :: S) u = max (cpl u v) (mo S u) := rfl
def nw : List (List Nat) → List (List Nat) → Nat
  | _, [] => 0
  | S, u :: T => (u.length - mo S u) + nw (u :: S) T
theorem nw0 (S : List (List Nat)) : nw S [] = 0 := by cases S <;> rfl
theorem nwS (S : List (List Nat)) (u : List Nat) (T : List (List Nat)) : nw S (u :: T) = (u.length - mo S u) + nw (u :: S) T := by cases S <;> rfl
theorem mo_um : ∀ (S : List (List Nat)) (u v : List Nat), mo S u < cpl u v → mo S v = mo S u
  | [], u, v, _ => rfl
  | w :: S, u, v, h => by
    rw [moS] at h
    rw [moS, moS, mo_um S u v (by omega), cpl_um u v w (by omega)]
theorem mo_len : ∀ (S : List (List Nat)) (u : List Nat), mo S u ≤ u.length
  | [], u => Nat.zero_le _
  | v :: S, u => by
    rw [moS]
    exact Nat.max_le.mpr ⟨cpl_le u v, mo_len S u⟩
theorem nw_congr : ∀ (T S S' : List (List Nat)), (∀ u, mo S u = mo S' u) → nw S T = nw S' T
  | [], S, S', _ => by rw [nw0, nw0]
  | u :: T, S, S', h => by
    rw [nwS, nwS, h u, nw_congr T (u :: S) (u :: S') (fun x => by rw [moS, moS, h x])]
theorem nw_swap (S : List (List Nat)) (u v : List Nat) : (u.length - mo S u) + (v.length - mo (u :: S) v) = (v.length - mo S v) + (u.length - mo (v :: S) u) := by
  rw [moS, moS, cpl_comm v u]
  have h1 := mo_len S u
  have h2 := mo_len S v
  have h3 := cpl_le u v
  have h4 := cpl_le v u
  rw [cpl_comm] at h4
  have a1 := mo_um S u v
  have a2 := mo_um S v u
  rw [cpl_comm v u] at a2
  by_cases c1 : mo S u < cpl u v
  · have := a1 c1
    omega
  · by_cases c2 : mo S v < cpl u v
    · have := a2 c2
      omega
    · omega
theorem nw_perm {T T' : List (List Nat)} (h : T.Perm T') : ∀ S, nw S T = nw S T' := by
  induction h with
  | nil => intro S; rfl
  | cons x _ ih => intro S; rw [nwS, nwS, ih]
  | swap x y l =>
    intro S
    rw [nwS, nwS, nwS, nwS]
    have e := nw_swap S y x
    have e2 := nw_congr l (x :: y :: S) (y :: x :: S) (fun u => by rw [moS, moS, moS, moS]; omega)
    omega
  | trans _ _ ih1 ih2 => intro S; rw [ih1, ih2]
theorem nw_app : ∀ (A B S : List (List Nat)), nw S (A ++ B) = nw S A + nw (A.reverse ++ S) B
  | [], B, S => by rw [List.nil_append, nw0, Nat.zero_add]; rfl
  | u :: A, B, S => by
    rw [List.cons_append, nwS, nwS, nw_app A B (u :: S), List.reverse_cons, List.append_assoc, Nat.add_assoc]
    rfl
/-- what stands between others in the order has more in common with the last -/
def lle (u v : List Nat) : Prop := llt u v = true ∨ u = v
theorem cpl_mono : ∀ (u v w : List Nat), lle u v → lle v w → cpl w u ≤ cpl w v
  | [], v, w, _, _ => by rw [cpl_nil']; exact Nat.zero_le _
  | a :: u, [], w, h, _ => by rcases h with h | h <;> cases h
  | a :: u, c :: v, [], _, h => by rcases h with h | h <;> cases h
  | a :: u, c :: v, d :: w, h1, h2 => by
    rw [cpl_cons, cpl_cons]
    by_cases e : d = a
    · have hc : d = c := by
        have g1 : a ≤ c := by
          rcases h1 with h | h
          · rw [llt_cons] at h
            by_cases q : a = c
            · omega
            · rw [if_neg q] at h
              have := of_decide_eq_true h
              omega
          · have := (List.cons.inj h).1
            omega
        have g2 : c ≤ d := by
          rcases h2 with h | h
          · rw [llt_cons] at h
            by_cases q : c = d
            · omega
            · rw [if_neg q] at h
              have := of_decide_eq_true h
              omega
          · have := (List.cons.inj h).1
            omega
        omega
      have ac : a = c := by omega
      have cd : c = d := by omega
      rw [if_pos e, if_pos hc]
      have k1 : lle u v := by
        rcases h1 with h | h
        · rw [llt_cons, if_pos ac] at h
          exact Or.inl h
        · exact Or.inr (List.cons.inj h).2
      have k2 : lle v w := by
        rcases h2 with h | h
        · rw [llt_cons, if_pos cd] at h
          exact Or.inl h
        · exact Or.inr (List.cons.inj h).2
      have := cpl_mono u v w k1 k2
      omega
    · rw [if_neg e]
      exact Nat.zero_le _
theorem Bf_lle {b : Bk} {e f : En} (h : Bf b e f = true) : lle (sfx b e.1 e.2) (sfx b f.1 f.2) := by
  rcases befL_iff.mp h with h | ⟨h, _⟩
  · exact Or.inl h
  · exact Or.inr h

