/-! CHANGES OF THE BOOK, AS LISTS OF LINES -/
theorem d_a : ¬ nn 1 = (0 : Int32) := by decide
theorem d_c : nn 0 = (0 : Int32) := rfl
theorem d_b : ¬ ¬ nn 0 = (0 : Int32) := by decide
theorem ln_app (b : Bk) (w : List Nat) (k : Nat) : ln (b ++ [w]) k = if k = b.length then w else ln b k := by
  unfold ln
  by_cases h : k < b.length
  · rw [if_neg (by omega), List.getD_eq_getElem?_getD, List.getD_eq_getElem?_getD, List.getElem?_append_left h]
  · by_cases e : k = b.length
    · rw [if_pos e, e, List.getD_eq_getElem?_getD, List.getElem?_append_right (Nat.le_refl _), Nat.sub_self]; rfl
    · rw [if_neg e, List.getD_eq_getElem?_getD, List.getD_eq_getElem?_getD, List.getElem?_eq_none (by rw [List.length_append]; show b.length + 1 ≤ k; omega), List.getElem?_eq_none (by omega)]
theorem ln_set {b : Bk} {i : Nat} (hi : i < b.length) (w : List Nat) (k : Nat) : ln (b.set i w) k = if k = i then w else ln b k := by
  unfold ln
  rw [List.getD_eq_getElem?_getD, List.getD_eq_getElem?_getD, List.getElem?_set]
  by_cases h : i = k
  · subst h
    rw [if_pos rfl, if_pos hi, if_pos rfl]
    rfl
  · rw [if_neg h, if_neg (fun z => h z.symm)]
theorem ln_del (b : Bk) (i k : Nat) : ln (b.eraseIdx i) k = if k < i then ln b k else ln b (k + 1) := by
  unfold ln
  rw [List.getD_eq_getElem?_getD, List.getD_eq_getElem?_getD, List.getD_eq_getElem?_getD, List.getElem?_eraseIdx]
  by_cases h : k < i
  · rw [if_pos h, if_pos h]
  · rw [if_neg h, if_neg h]
theorem len_del {b : Bk} {i : Nat} (hi : i < b.length) : (b.eraseIdx i).length = b.length - 1 := List.length_eraseIdx_of_lt hi
theorem len_app (b : Bk) (w : List Nat) : (b ++ [w]).length = b.length + 1 := by rw [List.length_append]; rfl
/-- a line as it may be -/
def GL (l : List Nat) : Prop := 1 ≤ l.length ∧ l.length ≤ 10 ∧ ∀ p, p < l.length → 97 ≤ l.getD p 0 ∧ l.getD p 0 ≤ 122
theorem Wf.gl {b : Bk} (hw : Wf b) {i : Nat} (hi : i < b.length) : GL (ln b i) := hw.2 i hi
theorem Wf.mk' {b : Bk} (h : b.length ≤ 8) (hl : ∀ i, i < b.length → GL (ln b i)) : Wf b := ⟨h, hl⟩
theorem Wf.app {b : Bk} (hw : Wf b) (h8 : b.length < 8) {w : List Nat} (hg : GL w) : Wf (b ++ [w]) := by
  refine Wf.mk' (by rw [len_app]; omega) (fun i hi => ?_)
  rw [len_app] at hi
  rw [ln_app]
  by_cases e : i = b.length
  · rw [if_pos e]; exact hg
  · rw [if_neg e]; exact hw.gl (by omega)
theorem Wf.set {b : Bk} (hw : Wf b) {i : Nat} (hi : i < b.length) {w : List Nat} (hg : GL w) : Wf (b.set i w) := by
  refine Wf.mk' (by rw [List.length_set]; exact hw.1) (fun k hk => ?_)
  rw [List.length_set] at hk
  rw [ln_set hi]
  by_cases e : k = i
  · rw [if_pos e]; exact hg
  · rw [if_neg e]; exact hw.gl hk
theorem Wf.del {b : Bk} (hw : Wf b) {i : Nat} (hi : i < b.length) : Wf (b.eraseIdx i) := by
  have h8 := hw.1
  refine Wf.mk' (by rw [len_del hi]; omega) (fun k hk => ?_)
  rw [len_del hi] at hk
  rw [ln_del]
  by_cases e : k < i
  · rw [if_pos e]; exact hw.gl (by omega)
  · rw [if_neg e]; exact hw.gl (by omega)
/-- a line in the class's arrays, a line in the reference's row -/
def LC (F S : Nat → Int32) (k : Nat) (l : List Nat) : Prop := S k = nn l.length ∧ ∀ p, p < l.length → F (10 * k + p) = nn (l.getD p 0)
def LR (A : Nat → Int32) (k : Nat) (l : List Nat) : Prop := A (1 + 11 * k + 10) = nn l.length ∧ ∀ p, p < l.length → A (1 + 11 * k + p) = nn (l.getD p 0)
theorem CB.line {F S : Nat → Int32} {n : Int32} {b : Bk} (hc : CB F S n b) {i : Nat} (hi : i < b.length) : LC F S i (ln b i) := ⟨hc.2.1 i hi, hc.2.2.1 i hi⟩
theorem CB.mk' {F S : Nat → Int32} {n : Int32} {b : Bk} (hn : n = nn b.length) (h : ∀ i, i < b.length → LC F S i (ln b i)) (hch : ∀ k, k < 80 → ch (F k)) : CB F S n b := ⟨hn, fun i hi => (h i hi).1, fun i hi => (h i hi).2, hch⟩
theorem RB.line {A : Nat → Int32} {b : Bk} (hr : RB A 0 b) {i : Nat} (hi : i < b.length) : LR A i (ln b i) := by
  refine ⟨?_, fun p hp => ?_⟩
  · have := hr.2.1 i hi
    rw [Nat.zero_add] at this
    exact this
  · have := hr.2.2 i hi p hp
    rw [Nat.zero_add] at this
    exact this
theorem RB.mk' {A : Nat → Int32} {b : Bk} (hn : A 0 = nn b.length) (h : ∀ i, i < b.length → LR A i (ln b i)) : RB A 0 b := by
  refine ⟨hn, fun i hi => ?_, fun i hi p hp => ?_⟩
  · rw [Nat.zero_add]; exact (h i hi).1
  · rw [Nat.zero_add]; exact (h i hi).2 p hp
/-- line k now is what line m was -/
def mvC (F S F' S' : Nat → Int32) (k m : Nat) : Prop := S' k = S m ∧ ∀ p, p < 10 → F' (10 * k + p) = F (10 * m + p)
def mvR (A A' : Nat → Int32) (k m : Nat) : Prop := ∀ p, p < 11 → A' (1 + 11 * k + p) = A (1 + 11 * m + p)
theorem mvC.tr {F S G T H U : Nat → Int32} {k m q : Nat} (h1 : mvC F S G T m q) (h2 : mvC G T H U k m) : mvC F S H U k q := ⟨h2.1.trans h1.1, fun p hp => (h2.2 p hp).trans (h1.2 p hp)⟩
theorem mvC.line {F S F' S' : Nat → Int32} {k m : Nat} (h : mvC F S F' S' k m) {l : List Nat} (hl : l.length ≤ 10) (hc : LC F S m l) : LC F' S' k l := ⟨h.1.trans hc.1, fun p hp => (h.2 p (by omega)).trans (hc.2 p hp)⟩
theorem mvR.line {A A' : Nat → Int32} {k m : Nat} (h : mvR A A' k m) {l : List Nat} (hl : l.length ≤ 10) (hc : LR A m l) : LR A' k l := ⟨(h 10 (by omega)).trans hc.1, fun p hp => (h p (by omega)).trans (hc.2 p hp)⟩
theorem Wf.len {b : Bk} (hw : Wf b) {i : Nat} (hi : i < b.length) : (ln b i).length ≤ 10 := (hw.gl hi).2.1

