/-! A TEXT OF COMMANDS, READ: what it says -/
def dg (w : List Nat) (y : Nat) : Bool := decide (48 ≤ w.getD y 0) && decide (w.getD y 0 ≤ 57)
def lz (w : List Nat) (y : Nat) : Bool := ltr (w.getD y 0)
def nl (w : List Nat) : Nat → Nat → Nat
  | 0, _ => 0
  | m + 1, y => if lz w y = true then nl w m (y + 1) + 1 else 0
def shp (v : Nat) : Nat := if v = 43 then 1 else if v = 45 then 2 else if v = 61 then 4 else if v = 106 then 3 else if v = 116 then 2 else if v = 120 then 3 else 0
/-- where a command that begins at x ends, or where its fault is -/
def cmdR (w : List Nat) (x : Nat) : Nat × Bool :=
  if shp (w.getD x 0) = 1 then (x + 1 + nl w 10 (x + 1), decide (nl w 10 (x + 1) ≠ 0))
  else if shp (w.getD x 0) = 2 then (if dg w (x + 1) = true then (x + 2, true) else (x + 1, false))
  else if shp (w.getD x 0) = 3 then (if dg w (x + 1) = true then (if dg w (x + 2) = true then (x + 3, true) else (x + 2, false)) else (x + 1, false))
  else if shp (w.getD x 0) = 4 then (if dg w (x + 1) = true then (if dg w (x + 2) = true then (if lz w (x + 3) = true then (x + 4, true) else (x + 3, false)) else (x + 2, false)) else (x + 1, false))
  else (x, false)
def prs (w : List Nat) : Nat → Nat → Option (List (Nat × Nat)) × Nat
  | 0, _ => (none, 0)
  | g + 1, x =>
    if (cmdR w x).2 = false then (none, (cmdR w x).1)
    else if w.length ≤ (cmdR w x).1 then (some [(x, (cmdR w x).1)], 0)
    else if w.getD (cmdR w x).1 0 = 59 then (match prs w g ((cmdR w x).1 + 1) with
      | (some l, _) => (some ((x, (cmdR w x).1) :: l), 0)
      | (none, f) => (none, f))
    else (none, (cmdR w x).1)
theorem prsS (w : List Nat) (g x : Nat) : prs w (g + 1) x = (if (cmdR w x).2 = false then (none, (cmdR w x).1)
    else if w.length ≤ (cmdR w x).1 then (some [(x, (cmdR w x).1)], 0)
    else if w.getD (cmdR w x).1 0 = 59 then (match prs w g ((cmdR w x).1 + 1) with
      | (some l, _) => (some ((x, (cmdR w x).1) :: l), 0)
      | (none, f) => (none, f))
    else (none, (cmdR w x).1)) := rfl
theorem nl0' (w : List Nat) (y : Nat) : nl w 0 y = 0 := rfl
theorem nlS (w : List Nat) (m y : Nat) : nl w (m + 1) y = if lz w y = true then nl w m (y + 1) + 1 else 0 := rfl
theorem dg_in {w : List Nat} {y : Nat} (h : dg w y = true) : y < w.length := by
  by_cases q : y < w.length
  · exact q
  · unfold dg at h
    rw [getD_out q] at h
    simp at h
theorem dg_iff {w : List Nat} {y : Nat} : dg w y = true ↔ (48 ≤ w.getD y 0 ∧ w.getD y 0 ≤ 57) := by unfold dg; simp
theorem lz_iff {w : List Nat} {y : Nat} : lz w y = true ↔ (97 ≤ w.getD y 0 ∧ w.getD y 0 ≤ 122) := by unfold lz ltr; simp
theorem lz_in {w : List Nat} {y : Nat} (h : lz w y = true) : y < w.length := by
  by_cases q : y < w.length
  · exact q
  · rw [lz_iff, getD_out q] at h
    omega
theorem nl_le (w : List Nat) : ∀ m y, nl w m y ≤ m
  | 0, _ => Nat.le_refl _
  | m + 1, y => by
    rw [nlS]
    have := nl_le w m (y + 1)
    split <;> omega
theorem nl_len (w : List Nat) : ∀ m y, y ≤ w.length → y + nl w m y ≤ w.length
  | 0, y, h => h
  | m + 1, y, h => by
    rw [nlS]
    by_cases q : lz w y = true
    · rw [if_pos q]
      have := lz_in q
      have := nl_len w m (y + 1) (by omega)
      omega
    · rw [if_neg q]; exact h
theorem nl_ltr (w : List Nat) : ∀ m y q, q < nl w m y → lz w (y + q) = true
  | 0, y, q, h => by rw [nl0'] at h; omega
  | m + 1, y, q, h => by
    rw [nlS] at h
    by_cases z : lz w y = true
    · rw [if_pos z] at h
      by_cases z2 : q = 0
      · rw [z2, Nat.add_zero]; exact z
      · have := nl_ltr w m (y + 1) (q - 1) (by omega)
        rw [show y + 1 + (q - 1) = y + q by omega] at this
        exact this
    · rw [if_neg z] at h; omega
theorem shp_le (v : Nat) : shp v ≤ 4 := by unfold shp; repeat (first | omega | split)
theorem shp_in {w : List Nat} {x : Nat} (h : shp (w.getD x 0) ≠ 0) : x < w.length := by
  by_cases q : x < w.length
  · exact q
  · rw [getD_out q] at h
    exact absurd rfl h
theorem cmdR_le {w : List Nat} {x : Nat} (h : x ≤ w.length) : (cmdR w x).1 ≤ w.length ∧ ((cmdR w x).2 = true → x + 2 ≤ (cmdR w x).1) := by
  unfold cmdR
  by_cases h1 : shp (w.getD x 0) = 1
  · rw [if_pos h1]
    have := shp_in (w := w) (x := x) (by omega)
    have := nl_len w 10 (x + 1) (by omega)
    refine ⟨this, fun q => ?_⟩
    have := of_decide_eq_true q
    show x + 2 ≤ x + 1 + nl w 10 (x + 1)
    omega
  rw [if_neg h1]
  by_cases h2 : shp (w.getD x 0) = 2
  · rw [if_pos h2]
    have := shp_in (w := w) (x := x) (by omega)
    by_cases d1 : dg w (x + 1) = true
    · have := dg_in d1
      rw [if_pos d1]
      exact ⟨by show x + 2 ≤ _; omega, fun _ => Nat.le_refl _⟩
    · rw [if_neg d1]
      exact ⟨by show x + 1 ≤ _; omega, fun q => by cases q⟩
  rw [if_neg h2]
  by_cases h3 : shp (w.getD x 0) = 3
  · rw [if_pos h3]
    have := shp_in (w := w) (x := x) (by omega)
    by_cases d1 : dg w (x + 1) = true
    · have := dg_in d1
      rw [if_pos d1]
      by_cases d2 : dg w (x + 2) = true
      · have := dg_in d2
        rw [if_pos d2]
        exact ⟨by show x + 3 ≤ _; omega, fun _ => by show x + 2 ≤ x + 3; omega⟩
      · rw [if_neg d2]
        exact ⟨by show x + 2 ≤ _; omega, fun q => by cases q⟩
    · rw [if_neg d1]
      exact ⟨by show x + 1 ≤ _; omega, fun q => by cases q⟩
  rw [if_neg h3]
  by_cases h4 : shp (w.getD x 0) = 4
  · rw [if_pos h4]
    have := shp_in (w := w) (x := x) (by omega)
    by_cases d1 : dg w (x + 1) = true
    · have := dg_in d1
      rw [if_pos d1]
      by_cases d2 : dg w (x + 2) = true
      · have := dg_in d2
        rw [if_pos d2]
        by_cases d3 : lz w (x + 3) = true
        · have := lz_in d3
          rw [if_pos d3]
          exact ⟨by show x + 4 ≤ _; omega, fun _ => by show x + 2 ≤ x + 4; omega⟩
        · rw [if_neg d3]
          exact ⟨by show x + 3 ≤ _; omega, fun q => by cases q⟩
      · rw [if_neg d2]
        exact ⟨by show x + 2 ≤ _; omega, fun q => by cases q⟩
    · rw [if_neg d1]
      exact ⟨by show x + 1 ≤ _; omega, fun q => by cases q⟩
  rw [if_neg h4]
  exact ⟨h, fun q => by cases q⟩
/-! THE CLASS READS IT -/
def rdK (l : Int32) : Int32 → (Nat → Int32) → Int32 → Nat → Int32 → Option (Int32 × (Nat → Int32) × Int32 × Nat × Int32) := fun _ st c sh sp => (f_X2_isWhole sh sp).bind fun r => if r = 0 then ((f_X7_length l).bind fun r53 => some (r53, st, c, sh, sp)) else (some ((-1), st, c, sh, sp))
section CREAD
variable {C st : Nat → Int32} {l c : Int32} {w : List Nat}
theorem fit_d {v : Nat} (hv : v < 65536) : f_X2_fits (nn v) 100 = some (if 48 ≤ v ∧ v ≤ 57 then nn 1 else nn 0) := by
  unfold f_X2_fits
  rw [if_neg (fun h => h rfl)]
  simp (disch := omega) only [nn_add, nn_mul, nn_sub, nn_le, nn_lt, nn_eq, nn_div, ldi_nn, ldc_nn, sti_nn, Option.bind_some, if_true, if_false, not_true_eq_false, not_false_eq_true, Nat.add_zero, nl0, nl1, nl2, nl3, nl4, nl5, nl6, nl7, nl8, nl9, nl10, nl11, nl12, nl13, nl14, nl15, nl16, nl17, nl18, nl19, nl20, nl21, nl22, nl23, nl24, nl25, nl26, nl27, nl28, nl29, nl30, nl31, nl32, nl33, nl34, nl35, nl36, nl37, nl38, nl39, nl40, nl41, nl42, nl43, nl44, nl45, nl46, nl47, nl48, nl49, nl50, nl51, nl52, nl53, nl54, nl55, nl56, nl57, nl58, nl59, nl60, nl61, nl62, nl63, nl64, nl65, nl66, nl67, nl68, nl69, nl70, nl71, nl72, nl73, nl74, nl75, nl76, nl77, nl78, nl79, nl80, nl81, nl82, nl83, nl84, nl85, nl86, nl87, nl88, nl89, nl90, nl91, nl92, nl93, nl94, nl95, nl96, nl97, nl98, nl99, nl100, nl101, nl102, nl103, nl104, nl105, nl106, nl107, nl108, nl109, nl110, nl111, nl112, nl113, nl114, nl115, nl116, nl117, nl118, nl119, nl120, nl121, nl122, nl123, nl124, nl125, nl126, nl127, nl979, nl244, nl1000]
  by_cases h1 : v < 48
  · rw [if_pos h1, if_neg (by omega)]
  · rw [if_neg h1]
    by_cases h2 : 57 < v
    · rw [if_pos h2, if_neg (by omega)]
    · rw [if_neg h2, if_pos (by omega)]
theorem fit_l {v : Nat} (hv : v < 65536) {due : Int32} (h : ¬ due = 100) : f_X2_fits (nn v) due = some (if ltr v = true then nn 1 else nn 0) := by
  unfold f_X2_fits
  rw [if_pos h, s_small (by omega), Option.bind_some]
  by_cases q : ltr v = true
  · rw [if_pos q]; rfl
  · rw [if_neg q]; rfl
theorem shape_nn {v : Nat} (hv : v < 65536) : f_X2_shapeOf (nn v) = some (shp v) := by
  unfold f_X2_shapeOf shp
  simp (disch := omega) only [nn_add, nn_mul, nn_sub, nn_le, nn_lt, nn_eq, nn_div, ldi_nn, ldc_nn, sti_nn, Option.bind_some, if_true, if_false, not_true_eq_false, not_false_eq_true, Nat.add_zero, nl0, nl1, nl2, nl3, nl4, nl5, nl6, nl7, nl8, nl9, nl10, nl11, nl12, nl13, nl14, nl15, nl16, nl17, nl18, nl19, nl20, nl21, nl22, nl23, nl24, nl25, nl26, nl27, nl28, nl29, nl30, nl31, nl32, nl33, nl34, nl35, nl36, nl37, nl38, nl39, nl40, nl41, nl42, nl43, nl44, nl45, nl46, nl47, nl48, nl49, nl50, nl51, nl52, nl53, nl54, nl55, nl56, nl57, nl58, nl59, nl60, nl61, nl62, nl63, nl64, nl65, nl66, nl67, nl68, nl69, nl70, nl71, nl72, nl73, nl74, nl75, nl76, nl77, nl78, nl79, nl80, nl81, nl82, nl83, nl84, nl85, nl86, nl87, nl88, nl89, nl90, nl91, nl92, nl93, nl94, nl95, nl96, nl97, nl98, nl99, nl100, nl101, nl102, nl103, nl104, nl105, nl106, nl107, nl108, nl109, nl110, nl111, nl112, nl113, nl114, nl115, nl116, nl117, nl118, nl119, nl120, nl121, nl122, nl123, nl124, nl125, nl126, nl127, nl979, nl244, nl1000]
  repeat (first | rfl | split)
theorem whole_0 (sh : Nat) : f_X2_isWhole sh (nn 0) = some 0 := by unfold f_X2_isWhole; rw [if_pos (by decide)]
theorem semp_all : ∀ i : Fin 5, semp i.val = some (if i.val = 0 then nn 1 else nn 0) := by decide +kernel
theorem t_first {v : Nat} (hv : v < 65536) (sh : Nat) (p2 : Int32) : f_X2_takes st c sh (nn 0) (nn v) p2 = some (if shp v = 0 then nn 0 else nn 1, st, c, shp v, nn 1) := by
  have hJ : f_X2_takes_J22 st c sh (nn 0) (nn v) = some (if shp v = 0 then nn 0 else nn 1, st, c, shp v, nn 1) := by
    unfold f_X2_takes_J22
    rw [if_neg (fun h => h rfl), shape_nn hv, Option.bind_some]
    have e := semp_all ⟨shp v, by have := shp_le v; omega⟩
    have e' : semp (shp v) = some (if shp v = 0 then nn 1 else nn 0) := e
    rw [e', Option.bind_some]
    by_cases h : shp v = 0
    · rw [if_pos h, if_pos h, if_pos (by decide)]
      rfl
    · rw [if_neg h, if_neg h, if_neg (by decide)]
      rfl
  unfold f_X2_takes
  by_cases h : nn v = 59
  · rw [if_neg (fun z => z h), whole_0, Option.bind_some, if_pos rfl, hJ]
  · rw [if_pos h, hJ]
theorem J22_in {sh k len : Nat} {due p1 : Int32} (h1 : slen sh = some (nn len)) (hk : 1 ≤ k) (hl : k < len) (hl' : len < 100) (hs : schr sh (nn k) = some due) : f_X2_takes_J22 st c sh (nn k) p1 = (f_X2_fits p1 due).bind fun r => if r = 0 then some (0, st, c, sh, nn (k + 1)) else some (1, st, c, sh, nn (k + 1)) := by
  unfold f_X2_takes_J22
  rw [nl1, nn_add, if_pos (by rw [nn_eq (by omega) (by omega)]; omega), h1, Option.bind_some, if_neg (by rw [nn_lt (by omega) (by omega)]; omega), nn_sub (by omega), Nat.add_sub_cancel, hs, Option.bind_some]
theorem J22_out {sh k len : Nat} {p1 : Int32} (h1 : slen sh = some (nn len)) (hk : 1 ≤ k) (hl : len ≤ k) (hl' : k < 100) : f_X2_takes_J22 st c sh (nn k) p1 = some (0, st, c, sh, nn (k + 1)) := by
  unfold f_X2_takes_J22
  rw [nl1, nn_add, if_pos (by rw [nn_eq (by omega) (by omega)]; omega), h1, Option.bind_some, if_pos (by rw [nn_lt (by omega) (by omega)]; omega)]
theorem t_in {sh k len v : Nat} {due p2 : Int32} (h1 : slen sh = some (nn len)) (hk : 1 ≤ k) (hl : k < len) (hl' : len < 100) (hs : schr sh (nn k) = some due) (hw : v = 59 → f_X2_isWhole sh (nn k) = some 0) (hv : v < 65536) : f_X2_takes st c sh (nn k) (nn v) p2 = (f_X2_fits (nn v) due).bind fun r => if r = 0 then some (0, st, c, sh, nn (k + 1)) else some (1, st, c, sh, nn (k + 1)) := by
  unfold f_X2_takes
  by_cases h : v = 59
  · rw [if_neg (fun z => z (by rw [h]; rfl)), hw h, Option.bind_some, if_pos rfl, J22_in h1 hk hl hl' hs]
  · rw [if_pos (by rw [nl59, nn_eq (by omega) (by omega)]; exact h), J22_in h1 hk hl hl' hs]
theorem L_step {x fuel : Nat} {sh sh' : Nat} {sp sp' c' : Int32} {st' : Nat → Int32} {K : Int32 → (Nat → Int32) → Int32 → Nat → Int32 → Option (Int32 × (Nat → Int32) × Int32 × Nat × Int32)} (ht : TX C l w) (hx : x < w.length) (h : f_X2_takes st c sh sp (nn (w.getD x 0)) (nn x) = some (nn 1, st', c', sh', sp')) : f_X2_read_L12 C l (fuel + 1) (nn x) st c sh sp K = f_X2_read_L12 C l fuel (nn (x + 1)) st' c' sh' sp' K := by
  have h60 := ht.2.1
  rw [f_X2_read_L12, s_length ht, Option.bind_some, if_neg (by rw [nn_le (by omega) (by omega)]; omega), s_charAt ht (by omega), Option.bind_some, h, Option.bind_some, if_pos (by first | decide | exact d_a | exact d_b), nl1, nn_add]
theorem L_fail {x fuel : Nat} {sh sh' : Nat} {sp sp' c' : Int32} {st' : Nat → Int32} {K : Int32 → (Nat → Int32) → Int32 → Nat → Int32 → Option (Int32 × (Nat → Int32) × Int32 × Nat × Int32)} (ht : TX C l w) (hx : x < w.length) (h : f_X2_takes st c sh sp (nn (w.getD x 0)) (nn x) = some (nn 0, st', c', sh', sp')) : f_X2_read_L12 C l (fuel + 1) (nn x) st c sh sp K = some (nn x, st', c', sh', sp') := by
  have h60 := ht.2.1
  rw [f_X2_read_L12, s_length ht, Option.bind_some, if_neg (by rw [nn_le (by omega) (by omega)]; omega), s_charAt ht (by omega), Option.bind_some, h, Option.bind_some, if_neg (by first | decide | exact d_a | exact d_b)]
theorem L_end {x fuel : Nat} {sh : Nat} {sp : Int32} {K : Int32 → (Nat → Int32) → Int32 → Nat → Int32 → Option (Int32 × (Nat → Int32) × Int32 × Nat × Int32)} (ht : TX C l w) (hx : x = w.length) : f_X2_read_L12 C l (fuel + 1) (nn x) st c sh sp K = K (nn x) st c sh sp := by
  have h60 := ht.2.1
  rw [f_X2_read_L12, s_length ht, Option.bind_some, if_pos (by rw [nn_le (by omega) (by omega)]; omega)]
/-- a place that wants one sign: it is there, or the fault is here -/
theorem one_sign {x fuel sh k len : Nat} {due : Int32} {P : Prop} [Decidable P] (ht : TX C l w) (hx : x ≤ w.length) (h1 : slen sh = some (nn len)) (hk : 1 ≤ k) (hl : k < len) (hl' : len < 100) (hs : schr sh (nn k) = some due) (hw : f_X2_isWhole sh (nn k) = some 0) (hP : P → x < w.length) (hf : x < w.length → f_X2_fits (nn (w.getD x 0)) due = some (if P then nn 1 else nn 0)) : (P → f_X2_read_L12 C l (fuel + 1) (nn x) st c sh (nn k) (rdK l) = f_X2_read_L12 C l fuel (nn (x + 1)) st c sh (nn (k + 1)) (rdK l)) ∧ (¬ P → ∃ st' c' sh' sp', f_X2_read_L12 C l (fuel + 1) (nn x) st c sh (nn k) (rdK l) = some (nn x, st', c', sh', sp')) := by
  refine ⟨fun hp => ?_, fun hp => ?_⟩
  · have hx' := hP hp
    refine L_step ht hx' ?_
    rw [t_in h1 hk hl hl' hs (fun _ => hw) (ht.2.2 x hx').2, hf hx', if_pos hp, Option.bind_some, if_neg (by decide)]
    rfl
  · by_cases hx' : x < w.length
    · refine ⟨_, _, _, _, L_fail ht hx' (st' := st) (c' := c) (sh' := sh) (sp' := nn (k + 1)) ?_⟩
      rw [t_in h1 hk hl hl' hs (fun _ => hw) (ht.2.2 x hx').2, hf hx', if_neg hp, Option.bind_some, if_pos (by decide)]
      rfl
    · have e : x = w.length := by omega
      refine ⟨st, c, sh, nn k, ?_⟩
      rw [L_end ht e]
      unfold rdK
      rw [hw, Option.bind_some, if_pos rfl, s_length ht, e]
      rfl
/-- a command that is whole: the text ends, the next one begins, or the fault is here -/
theorem done_sign {x fuel sh k m : Nat} (ht : TX C l w) (hx : x ≤ w.length) (hw : f_X2_isWhole sh (nn k) = some 1) (hm : m < 60) (hj : x < w.length → w.getD x 0 ≠ 59 → f_X2_takes_J22 st (nn m) sh (nn k) (nn (w.getD x 0)) = some (0, st, nn m, sh, nn (k + 1))) : (x = w.length → f_X2_read_L12 C l (fuel + 1) (nn x) st (nn m) sh (nn k) (rdK l) = some ((-1), st, nn m, sh, nn k)) ∧ (x < w.length → w.getD x 0 = 59 → f_X2_read_L12 C l (fuel + 1) (nn x) st (nn m) sh (nn k) (rdK l) = f_X2_read_L12 C l fuel (nn (x + 1)) (upd st m (nn (x + 1))) (nn (m + 1)) 0 (nn 0) (rdK l)) ∧ (x < w.length → w.getD x 0 ≠ 59 → ∃ st' c' sh' sp', f_X2_read_L12 C l (fuel + 1) (nn x) st (nn m) sh (nn k) (rdK l) = some (nn x, st', c', sh', sp')) := by
  have h60 := ht.2.1
  refine ⟨fun e => ?_, fun hx' e => ?_, fun hx' e => ?_⟩
  · rw [L_end ht e]
    unfold rdK
    rw [hw, Option.bind_some, if_neg (by decide)]
  · refine L_step ht hx' ?_
    unfold f_X2_takes f_X2_startCommand f_X2_startCommand_J29
    rw [e, if_neg (fun z => z rfl), hw, Option.bind_some, if_neg (by decide)]
    simp (disch := omega) only [nn_add, nn_mul, nn_sub, nn_le, nn_lt, nn_eq, nn_div, ldi_nn, ldc_nn, sti_nn, Option.bind_some, if_true, if_false, not_true_eq_false, not_false_eq_true, Nat.add_zero, nl0, nl1, nl2, nl3, nl4, nl5, nl6, nl7, nl8, nl9, nl10, nl11, nl12, nl13, nl14, nl15, nl16, nl17, nl18, nl19, nl20, nl21, nl22, nl23, nl24, nl25, nl26, nl27, nl28, nl29, nl30, nl31, nl32, nl33, nl34, nl35, nl36, nl37, nl38, nl39, nl40, nl41, nl42, nl43, nl44, nl45, nl46, nl47, nl48, nl49, nl50, nl51, nl52, nl53, nl54, nl55, nl56, nl57, nl58, nl59, nl60, nl61, nl62, nl63, nl64, nl65, nl66, nl67, nl68, nl69, nl70, nl71, nl72, nl73, nl74, nl75, nl76, nl77, nl78, nl79, nl80, nl81, nl82, nl83, nl84, nl85, nl86, nl87, nl88, nl89, nl90, nl91, nl92, nl93, nl94, nl95, nl96, nl97, nl98, nl99, nl100, nl101, nl102, nl103, nl104, nl105, nl106, nl107, nl108, nl109, nl110, nl111, nl112, nl113, nl114, nl115, nl116, nl117, nl118, nl119, nl120, nl121, nl122, nl123, nl124, nl125, nl126, nl127, nl979, nl244, nl1000]
    rw [if_neg (by omega)]
    rfl
  · refine ⟨_, _, _, _, L_fail ht hx' (st' := st) (c' := nn m) (sh' := sh) (sp' := nn (k + 1)) ?_⟩
    unfold f_X2_takes
    rw [if_pos (by rw [nl59, nn_eq (by have := (ht.2.2 x hx').2; omega) (by omega)]; exact e), hj hx' e]
    rfl
end CREAD
