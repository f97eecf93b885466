/-! THE ENDINGS IN THE READER'S ORDER -/
abbrev En : Type := Nat × Nat
def Bf (b : Bk) (e f : En) : Bool := bef b e.1 e.2 f.1 f.2
def vld (b : Bk) (e : En) : Prop := e.2 < sz b e.1
def Srt (b : Bk) (l : List En) : Prop := l.Pairwise (fun x y => Bf b x y = true)
def pos (b : Bk) (l : List En) (e : En) : Nat := l.countP (fun f => Bf b f e)
def ins (b : Bk) (l : List En) (e : En) : List En := l.take (pos b l e) ++ e :: l.drop (pos b l e)
theorem Bf_tri {b : Bk} {e f : En} (he : vld b e) (hf : vld b f) (hne : e ≠ f) : Bf b e f = true ∨ Bf b f e = true := by
  rcases bef_tri he hf with h | ⟨h1, h2⟩ | h
  · exact Or.inl h
  · exact absurd (Prod.ext h1 h2) hne
  · exact Or.inr h
theorem Bf_trans {b : Bk} {e f g : En} (h1 : Bf b e f = true) (h2 : Bf b f g = true) : Bf b e g = true := bef_trans h1 h2
theorem Bf_asy {b : Bk} {e f : En} (h1 : Bf b e f = true) : ¬ Bf b f e = true := by
  have : Bf b f e = false := bef_asy h1
  rw [this]
  decide
theorem pos_le (b : Bk) (l : List En) (e : En) : pos b l e ≤ l.length := List.countP_le_length
theorem split {b : Bk} {e : En} (he : vld b e) : ∀ {l : List En}, Srt b l → (∀ x ∈ l, vld b x ∧ x ≠ e) → (∀ x ∈ l.take (pos b l e), Bf b x e = true) ∧ (∀ x ∈ l.drop (pos b l e), Bf b e x = true)
  | [], _, _ => ⟨fun x h => by simp at h, fun x h => by simp at h⟩
  | y :: l, hs, hv => by
    have hs2 := List.pairwise_cons.mp hs
    have ih := split he hs2.2 (fun x hx => hv x (List.mem_cons_of_mem _ hx))
    by_cases h : Bf b y e = true
    · have hp : pos b (y :: l) e = pos b l e + 1 := List.countP_cons_of_pos h
      rw [hp, List.take_succ_cons, List.drop_succ_cons]
      refine ⟨fun x hx => ?_, ih.2⟩
      rcases List.mem_cons.mp hx with rfl | hx
      · exact h
      · exact ih.1 x hx
    · have hy := hv y List.mem_cons_self
      have hey : Bf b e y = true := by
        rcases Bf_tri he hy.1 (fun q => hy.2 q.symm) with q | q
        · exact q
        · exact absurd q h
      have hall : ∀ x ∈ l, Bf b e x = true := fun x hx => Bf_trans hey (hs2.1 x hx)
      have hp : pos b (y :: l) e = 0 := by
        refine List.countP_eq_zero.mpr fun x hx => ?_
        rcases List.mem_cons.mp hx with rfl | hx
        · exact h
        · exact Bf_asy (hall x hx)
      rw [hp]
      refine ⟨fun x hx => by simp at hx, fun x hx => ?_⟩
      rcases List.mem_cons.mp hx with rfl | hx
      · exact hey
      · exact hall x hx
theorem split_at {b : Bk} {e : En} (he : vld b e) {l : List En} (hs : Srt b l) (hv : ∀ x ∈ l, vld b x ∧ x ≠ e) {k : Nat} (hk : k < l.length) : (k < pos b l e → Bf b l[k] e = true) ∧ (pos b l e ≤ k → Bf b e l[k] = true) := by
  have h := split he hs hv
  refine ⟨fun q => h.1 _ ?_, fun q => h.2 _ ?_⟩
  · rw [List.mem_take_iff_getElem]
    exact ⟨k, by omega, rfl⟩
  · rw [List.mem_drop_iff_getElem]
    exact ⟨k - pos b l e, by omega, by congr 1; omega⟩
theorem ins_perm (b : Bk) (l : List En) (e : En) : (ins b l e).Perm (e :: l) := by
  unfold ins
  refine List.perm_middle.trans ?_
  rw [List.take_append_drop]
theorem ins_len (b : Bk) (l : List En) (e : En) : (ins b l e).length = l.length + 1 := by
  have := (ins_perm b l e).length_eq
  simpa using this
theorem ins_mem (b : Bk) (l : List En) (e x : En) : x ∈ ins b l e ↔ x = e ∨ x ∈ l := by
  rw [(ins_perm b l e).mem_iff, List.mem_cons]
theorem ins_srt {b : Bk} {e : En} (he : vld b e) {l : List En} (hs : Srt b l) (hv : ∀ x ∈ l, vld b x ∧ x ≠ e) : Srt b (ins b l e) := by
  have h := split he hs hv
  have hs' : Srt b (l.take (pos b l e) ++ l.drop (pos b l e)) := by rw [List.take_append_drop]; exact hs
  have h3 := List.pairwise_append.mp hs'
  unfold ins Srt
  refine List.pairwise_append.mpr ⟨h3.1, List.pairwise_cons.mpr ⟨fun x hx => h.2 x hx, h3.2.1⟩, fun x hx y hy => ?_⟩
  rcases List.mem_cons.mp hy with rfl | hy
  · exact h.1 x hx
  · exact h3.2.2 x hx y hy
theorem ins_get {b : Bk} {l : List En} {e : En} (k : Nat) : (ins b l e)[k]? = if k < pos b l e then l[k]? else if k = pos b l e then some e else l[k - 1]? := by
  have hp := pos_le b l e
  unfold ins
  by_cases h1 : k < pos b l e
  · rw [if_pos h1, List.getElem?_append_left (by rw [List.length_take]; omega), List.getElem?_take_of_lt h1]
  · rw [if_neg h1, List.getElem?_append_right (by rw [List.length_take]; omega), List.length_take, Nat.min_eq_left hp]
    by_cases h2 : k = pos b l e
    · rw [if_pos h2, h2, Nat.sub_self]
      rfl
    · rw [if_neg h2, show k - pos b l e = (k - pos b l e - 1) + 1 by omega, List.getElem?_cons_succ, List.getElem?_drop]
      congr 1
      omega
def li (b : Bk) (i : Nat) : Nat → Nat → List En → List En
  | _, 0, l => l
  | k, m + 1, l => li b i (k + 1) m (ins b l (i, k))
def lo (b : Bk) : Nat → Nat → List En → List En
  | _, 0, l => l
  | x, m + 1, l => lo b (x + 1) m (li b x 0 (sz b x - 0) l)
def ord (b : Bk) : List En := lo b 0 (b.length - 0) []
theorem li_end (b : Bk) (i : Nat) (l : List En) {k m : Nat} (h : m ≤ k) : li b i k (m - k) l = l := by rw [show m - k = 0 by omega]; rfl
theorem li_go (b : Bk) (i : Nat) (l : List En) {k m : Nat} (h : k < m) : li b i k (m - k) l = li b i (k + 1) (m - (k + 1)) (ins b l (i, k)) := by rw [show m - k = (m - (k + 1)) + 1 by omega]; rfl
theorem lo_end (b : Bk) (l : List En) {k m : Nat} (h : m ≤ k) : lo b k (m - k) l = l := by rw [show m - k = 0 by omega]; rfl
theorem lo_go (b : Bk) (l : List En) {k m : Nat} (h : k < m) : lo b k (m - k) l = lo b (k + 1) (m - (k + 1)) (li b k 0 (sz b k - 0) l) := by rw [show m - k = (m - (k + 1)) + 1 by omega]; rfl
/-- what holds of the list when the endings ahead of place p of line x are in -/
def Gd (b : Bk) (x p : Nat) (l : List En) : Prop := Srt b l ∧ (∀ e : En, e ∈ l ↔ vld b e ∧ (e.1 < x ∨ (e.1 = x ∧ e.2 < p))) ∧ l.length ≤ 10 * x + p
theorem Gd.step {b : Bk} {x p : Nat} {l : List En} (h : Gd b x p l) (hp : p < sz b x) : Gd b x (p + 1) (ins b l (x, p)) := by
  have he : vld b (x, p) := hp
  have hv : ∀ y ∈ l, vld b y ∧ y ≠ (x, p) := fun y hy => by
    have := (h.2.1 y).mp hy
    refine ⟨this.1, fun q => ?_⟩
    rw [q] at this
    rcases this.2 with q | q
    · exact absurd q (Nat.lt_irrefl _)
    · exact absurd q.2 (Nat.lt_irrefl _)
  refine ⟨ins_srt he h.1 hv, fun e => ?_, by rw [ins_len]; have := h.2.2; omega⟩
  rw [ins_mem, h.2.1]
  constructor
  · rintro (rfl | ⟨q1, q2⟩)
    · exact ⟨he, Or.inr ⟨rfl, Nat.lt_succ_self _⟩⟩
    · exact ⟨q1, by omega⟩
  · rintro ⟨q1, q2⟩
    by_cases q : e = (x, p)
    · exact Or.inl q
    · refine Or.inr ⟨q1, ?_⟩
      rcases q2 with q2 | ⟨q2, q3⟩
      · exact Or.inl q2
      · refine Or.inr ⟨q2, ?_⟩
        by_cases z : e.2 = p
        · exact absurd (Prod.ext q2 z) q
        · omega
theorem Gd.next {b : Bk} (hw : Wf b) {x : Nat} {l : List En} (h : Gd b x (sz b x) l) : Gd b (x + 1) 0 l := by
  have h10 := hw.sz_le x
  refine ⟨h.1, fun e => ?_, by have := h.2.2; omega⟩
  rw [h.2.1]
  constructor
  · rintro ⟨q1, q2⟩
    exact ⟨q1, Or.inl (by omega)⟩
  · rintro ⟨q1, q2⟩
    refine ⟨q1, ?_⟩
    rcases q2 with q2 | ⟨_, q3⟩
    · by_cases z : e.1 < x
      · exact Or.inl z
      · have : e.1 = x := by omega
        exact Or.inr ⟨this, by unfold vld at q1; rw [this] at q1; exact q1⟩
    · omega
theorem Gd.line {b : Bk} {x : Nat} : ∀ (m p : Nat) {l : List En}, p + m = sz b x → Gd b x p l → Gd b x (sz b x) (li b x p m l)
  | 0, p, l, e, h => by
    rw [show p = sz b x by omega] at h
    exact h
  | m + 1, p, l, e, h => Gd.line m (p + 1) (by omega) (h.step (by omega))
theorem Gd.all {b : Bk} (hw : Wf b) : ∀ (m x : Nat) {l : List En}, x + m = b.length → Gd b x 0 l → Gd b b.length 0 (lo b x m l)
  | 0, x, l, e, h => by
    rw [show x = b.length by omega] at h
    exact h
  | m + 1, x, l, e, h => Gd.all hw m (x + 1) (by omega) (Gd.next hw (Gd.line (sz b x - 0) 0 (by omega) h))
theorem Gd.nil (b : Bk) : Gd b 0 0 [] := ⟨List.Pairwise.nil, fun e => by simp, Nat.le_refl _⟩
theorem ord_good {b : Bk} (hw : Wf b) : Srt b (ord b) ∧ (∀ e : En, e ∈ ord b ↔ vld b e) ∧ (ord b).length ≤ 80 := by
  have h := Gd.all hw (b.length - 0) 0 (by omega) (Gd.nil b)
  have h8 := hw.1
  refine ⟨h.1, fun e => ?_, by have := h.2.2; unfold ord; omega⟩
  unfold ord
  rw [h.2.1]
  refine ⟨fun q => q.1, fun q => ⟨q, Or.inl (sz_in q)⟩⟩

