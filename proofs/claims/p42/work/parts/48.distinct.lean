/-! PIECES IN TWO WAYS: line by line, and in the order -/
def sx (b : Bk) (e : En) : List Nat := sfx b e.1 e.2
def ll (b : Bk) (i : Nat) : Nat → Nat → List En
  | _, 0 => []
  | k, m + 1 => (i, k) :: ll b i (k + 1) m
def la (b : Bk) : Nat → Nat → List En
  | _, 0 => []
  | x, m + 1 => ll b x 0 (sz b x - 0) ++ la b (x + 1) m
theorem ll0 (b : Bk) (i k : Nat) : ll b i k 0 = [] := rfl
theorem llS (b : Bk) (i k m : Nat) : ll b i k (m + 1) = (i, k) :: ll b i (k + 1) m := rfl
theorem la0 (b : Bk) (x : Nat) : la b x 0 = [] := rfl
theorem laS (b : Bk) (x m : Nat) : la b x (m + 1) = ll b x 0 (sz b x - 0) ++ la b (x + 1) m := rfl
theorem liS (b : Bk) (i k m : Nat) (l : List En) : li b i k (m + 1) l = li b i (k + 1) m (ins b l (i, k)) := rfl
theorem loS (b : Bk) (x m : Nat) (l : List En) : lo b x (m + 1) l = lo b (x + 1) m (li b x 0 (sz b x - 0) l) := rfl
theorem li_perm (b : Bk) (i : Nat) : ∀ (m k : Nat) (l : List En), (li b i k m l).Perm (ll b i k m ++ l)
  | 0, k, l => List.Perm.refl _
  | m + 1, k, l => by
    rw [liS, llS]
    exact (li_perm b i m (k + 1) _).trans (((ins_perm b l (i, k)).append_left _).trans List.perm_middle)
theorem lo_perm (b : Bk) : ∀ (m x : Nat) (l : List En), (lo b x m l).Perm (la b x m ++ l)
  | 0, x, l => List.Perm.refl _
  | m + 1, x, l => by
    rw [loS, laS]
    refine (lo_perm b m (x + 1) _).trans (((li_perm b x _ 0 l).append_left _).trans ?_)
    rw [← List.append_assoc]
    exact List.perm_append_comm.append_right l
theorem ord_perm (b : Bk) : (ord b).Perm (la b 0 (b.length - 0)) := by
  have := lo_perm b (b.length - 0) 0 []
  rw [List.append_nil] at this
  exact this
theorem le_mo : ∀ (S : List (List Nat)) (u v : List Nat), v ∈ S → cpl u v ≤ mo S u
  | w :: S, u, v, h => by
    rw [moS]
    rcases List.mem_cons.mp h with rfl | h
    · exact Nat.le_max_left _ _
    · exact Nat.le_trans (le_mo S u v h) (Nat.le_max_right _ _)
theorem mo_le {c : Nat} : ∀ (S : List (List Nat)) (u : List Nat), (∀ v ∈ S, cpl u v ≤ c) → mo S u ≤ c
  | [], u, _ => Nat.zero_le _
  | w :: S, u, h => by
    rw [moS]
    exact Nat.max_le.mpr ⟨h w List.mem_cons_self, mo_le S u (fun v hv => h v (List.mem_cons_of_mem _ hv))⟩
def Seen (b : Bk) (x p : Nat) (l : List En) : Prop := ∀ e : En, e ∈ l ↔ vld b e ∧ (e.1 < x ∨ (e.1 = x ∧ e.2 < p))
theorem mo_mfa {b : Bk} {i p : Nat} {l : List En} (h : Seen b i p l) (hp : p ≤ sz b i) : mo (l.map (sx b)) (sfx b i p) = mfa b i p := by
  apply Nat.le_antisymm
  · refine mo_le _ _ (fun v hv => ?_)
    obtain ⟨e, he, rfl⟩ := List.mem_map.mp hv
    obtain ⟨h1, h2⟩ := (h e).mp he
    have h1 : e.2 < sz b e.1 := h1
    unfold mfa
    rcases h2 with h2 | ⟨h2, h3⟩
    · refine Nat.le_trans ?_ (Nat.le_max_right _ _)
      refine Nat.le_trans ?_ (le_mx (f := fun x => mil b i p x (sz b x)) (i - 0) 0 e.1 (by omega) (by omega))
      exact le_mx (f := fun q => cpl (sfx b i p) (sfx b e.1 q)) (sz b e.1 - 0) 0 e.2 (by omega) (by omega)
    · refine Nat.le_trans ?_ (Nat.le_max_left _ _)
      unfold sx
      rw [h2]
      exact le_mx (f := fun q => cpl (sfx b i p) (sfx b i q)) (p - 0) 0 e.2 (by omega) (by omega)
  · unfold mfa
    refine Nat.max_le.mpr ⟨mx_leR _ _ (fun q _ hq => ?_), mx_leR _ _ (fun x _ hx => mx_leR _ _ (fun q _ hq => ?_))⟩
    · exact le_mo _ _ _ (List.mem_map.mpr ⟨(i, q), (h (i, q)).mpr ⟨show q < sz b i by omega, Or.inr ⟨rfl, show q < p by omega⟩⟩, rfl⟩)
    · exact le_mo _ _ _ (List.mem_map.mpr ⟨(x, q), (h (x, q)).mpr ⟨show q < sz b x by omega, Or.inl (show x < i by omega)⟩, rfl⟩)
theorem Seen.step {b : Bk} {i k : Nat} {l : List En} (h : Seen b i k l) (hk : k < sz b i) : Seen b i (k + 1) ((i, k) :: l) := by
  intro e
  rw [List.mem_cons, h]
  constructor
  · rintro (rfl | ⟨q1, q2⟩)
    · exact ⟨hk, Or.inr ⟨rfl, Nat.lt_succ_self _⟩⟩
    · exact ⟨q1, by omega⟩
  · rintro ⟨q1, q2⟩
    by_cases q : e = (i, k)
    · exact Or.inl q
    · refine Or.inr ⟨q1, ?_⟩
      rcases q2 with q2 | ⟨q2, q3⟩
      · exact Or.inl q2
      · refine Or.inr ⟨q2, ?_⟩
        by_cases z : e.2 = k
        · exact absurd (Prod.ext q2 z) q
        · omega
theorem Seen.next {b : Bk} {x : Nat} {l : List En} (h : Seen b x (sz b x) l) : Seen b (x + 1) 0 l := by
  intro e
  rw [h]
  constructor
  · rintro ⟨q1, q2⟩
    exact ⟨q1, Or.inl (by omega)⟩
  · rintro ⟨q1, q2⟩
    refine ⟨q1, ?_⟩
    rcases q2 with q2 | ⟨_, q3⟩
    · by_cases z : e.1 < x
      · exact Or.inl z
      · have : e.1 = x := by omega
        exact Or.inr ⟨this, by unfold vld at q1; rw [this] at q1; exact q1⟩
    · omega
theorem nw_ll {b : Bk} {i : Nat} : ∀ (m k : Nat) (l : List En), k + m = sz b i → Seen b i k l → nw (l.map (sx b)) ((ll b i k m).map (sx b)) = sm (fun p => sz b i - p - mfa b i p) k m ∧ Seen b i (sz b i) ((ll b i k m).reverse ++ l)
  | 0, k, l, e, h => by
    rw [ll0, List.map_nil, nw0, sm0]
    refine ⟨rfl, ?_⟩
    rw [show sz b i = k by omega]
    exact h
  | m + 1, k, l, e, h => by
    have ih := nw_ll m (k + 1) ((i, k) :: l) (by omega) (h.step (by omega))
    rw [llS, List.map_cons, nwS, smS, List.reverse_cons, List.append_assoc]
    rw [List.map_cons] at ih
    refine ⟨?_, ih.2⟩
    rw [ih.1]
    show ((sfx b i k).length - mo (l.map (sx b)) (sfx b i k)) + _ = _
    rw [sfx_len, mo_mfa h (by omega)]
theorem nw_la {b : Bk} : ∀ (m x : Nat) (l : List En), Seen b x 0 l → nw (l.map (sx b)) ((la b x m).map (sx b)) = sm (fun i => sm (fun p => sz b i - p - mfa b i p) 0 (sz b i - 0)) x m
  | 0, x, l, _ => by rw [la0, List.map_nil, nw0, sm0]
  | m + 1, x, l, h => by
    have h1 := nw_ll (sz b x - 0) 0 l (by omega) h
    rw [laS, List.map_append, nw_app, smS, h1.1, ← List.map_reverse, ← List.map_append, nw_la m (x + 1) _ (Seen.next h1.2)]
theorem cnew_nw (b : Bk) : cnew b = nw [] ((ord b).map (sx b)) := by
  rw [nw_perm ((ord_perm b).map (sx b))]
  exact (nw_la (b.length - 0) 0 [] (fun e => by simp)).symm
/-- what the k-th ending in the order adds -/
def ad (b : Bk) (l : List En) (k : Nat) : Nat := (sx b (l.getD k (0, 0))).length - (if k = 0 then 0 else cmn b l k)
theorem nw_srt {b : Bk} {l : List En} (hs : Srt b l) : ∀ (m k : Nat), k + m = l.length → nw ((l.take k).reverse.map (sx b)) ((l.drop k).map (sx b)) = sm (ad b l) k m
  | 0, k, e => by rw [List.drop_eq_nil_of_le (by omega), List.map_nil, nw0, sm0]
  | m + 1, k, e => by
    have hk : k < l.length := by omega
    have ih := nw_srt hs m (k + 1) (by omega)
    rw [List.take_succ_eq_append_getElem hk, List.reverse_append, List.reverse_singleton, List.singleton_append, List.map_cons] at ih
    rw [List.drop_eq_getElem_cons hk, List.map_cons, nwS, smS, ih]
    congr 1
    unfold ad
    have gk : l.getD k (0, 0) = l[k] := by rw [List.getD_eq_getElem?_getD, List.getElem?_eq_getElem hk]; rfl
    rw [gk]
    congr 1
    by_cases hz : k = 0
    · subst hz
      rw [if_pos rfl, List.take_zero]
      rfl
    · rw [if_neg hz]
      have h1 : k - 1 < l.length := by omega
      have g1 : l[k - 1]? = some l[k - 1] := List.getElem?_eq_getElem h1
      have g2 : l[k]? = some l[k] := List.getElem?_eq_getElem hk
      have hp := List.pairwise_iff_getElem.mp hs
      rw [cmn_at g1 g2, cpl_comm]
      apply Nat.le_antisymm
      · refine mo_le _ _ (fun v hv => ?_)
        obtain ⟨f, hf, rfl⟩ := List.mem_map.mp hv
        rw [List.mem_reverse, List.mem_take_iff_getElem] at hf
        obtain ⟨j, hj, rfl⟩ := hf
        by_cases hjk : j = k - 1
        · subst hjk
          exact Nat.le_refl _
        · exact cpl_mono _ _ _ (Bf_lle (hp j (k - 1) (by omega) h1 (by omega))) (Bf_lle (hp (k - 1) k h1 hk (by omega)))
      · refine le_mo _ _ _ (List.mem_map.mpr ⟨l[k - 1], ?_, rfl⟩)
        rw [List.mem_reverse, List.mem_take_iff_getElem]
        exact ⟨k - 1, by omega, rfl⟩
theorem cnew_ord {b : Bk} (hw : Wf b) : cnew b = sm (ad b (ord b)) 0 ((ord b).length - 0) := by
  rw [cnew_nw]
  exact nw_srt (ord_good hw).1 _ 0 (by omega)

