/-! PIECES IN THE ORDER: the class's sum and the reference's -/
theorem sm_sub {f g : Nat → Nat} : ∀ (m k : Nat), (∀ x, k ≤ x → x < k + m → g x ≤ f x) → sm g k m ≤ sm f k m ∧ sm (fun x => f x - g x) k m = sm f k m - sm g k m
  | 0, k, _ => ⟨Nat.le_refl _, rfl⟩
  | m + 1, k, h => by
    have ih := sm_sub m (k + 1) (fun x h1 h2 => h x (by omega) (by omega))
    have h0 := h k (Nat.le_refl _) (by omega)
    rw [smS, smS, smS, ih.2]
    omega
theorem sm_congr {f g : Nat → Nat} : ∀ (m k : Nat), (∀ x, k ≤ x → x < k + m → f x = g x) → sm f k m = sm g k m
  | 0, k, _ => rfl
  | m + 1, k, h => by rw [smS, smS, h k (Nat.le_refl _) (by omega), sm_congr m (k + 1) (fun x h1 h2 => h x (by omega) (by omega))]
theorem cmn_len {b : Bk} {l : List En} {k : Nat} : cmn b l k ≤ (sx b (l.getD k (0, 0))).length := by
  cases h1 : l[k - 1]? with
  | none =>
    have : cmn b l k = 0 := by unfold cmn; rw [h1]
    omega
  | some e =>
    cases h2 : l[k]? with
    | none =>
      have : cmn b l k = 0 := by unfold cmn; rw [h1, h2]
      omega
    | some f =>
      rw [cmn_at h1 h2, List.getD_eq_getElem?_getD, h2, cpl_comm]
      exact cpl_le _ _
def lt1 (b : Bk) (k : Nat) : Nat := (sx b ((ord b).getD k (0, 0))).length
section PCS
variable {F S L P M A O : Nat → Int32} {n en : Int32} {b : Bk}
theorem s_pcs_L (hw : Wf b) (hc : CB F S n b) (ho : OR L P en (ord b)) (hm : CM M b (ord b)) (h00 : M 0 = nn 0) : ∀ (fuel k a : Nat), k ≤ (ord b).length → (ord b).length < fuel + k → f_X3_countPieces_L4 L P M en S n fuel (nn a) (nn k) (fun x _ => some x) = some (nn (a + sm (ad b (ord b)) k ((ord b).length - k))) := by
  have hg := ord_good hw
  intro fuel
  induction fuel with
  | zero => intro k a h0 h1; omega
  | succ fuel ih =>
    intro k a h0 h1
    rw [f_X3_countPieces_L4]
    by_cases hk : (ord b).length ≤ k
    · rw [if_pos (by rw [ho.1, nn_le (by omega) (by omega)]; exact hk), show (ord b).length - k = 0 by omega]
      rfl
    · have hkl : k < (ord b).length := by omega
      have gk : (ord b)[k]? = some ((ord b)[k]'hkl) := List.getElem?_eq_getElem hkl
      have hv : ((ord b)[k]'hkl).2 < sz b ((ord b)[k]'hkl).1 := (hg.2.1 _).mp (List.getElem_mem hkl)
      have hv1 := sz_in hv
      have h8 := hw.1
      have hcl := cmn_len (b := b) (l := ord b) (k := k)
      have gd : (ord b).getD k (0, 0) = (ord b)[k]'hkl := by rw [List.getD_eq_getElem?_getD, gk]; rfl
      rw [gd] at hcl
      unfold sx at hcl
      rw [sfx_len] at hcl
      have hcm : f_X3_commonAt M en (nn k) = some (nn (if k = 0 then 0 else cmn b (ord b) k)) := by
        unfold f_X3_commonAt
        rw [s_hasRank hg.2.2 ho (by omega), if_pos hkl, Option.bind_some, if_neg (by decide), ldi_nn (by omega) (by omega), Option.bind_some]
        by_cases hz : k = 0
        · subst hz
          rw [h00, if_pos rfl]
        · rw [hm k (by omega) hkl, if_neg hz]
      rw [if_neg (by rw [ho.1, nn_le (by omega) (by omega)]; exact hk), ldi_nn (by omega) (by omega), Option.bind_some, (ho.2 k _ gk).1, s_size hw hc (by omega), Option.bind_some, ldi_nn (by omega) (by omega), Option.bind_some, (ho.2 k _ gk).2, hcm, Option.bind_some]
      have h9 : (if k = 0 then 0 else cmn b (ord b) k) ≤ sz b ((ord b)[k]'hkl).1 - ((ord b)[k]'hkl).2 := by split <;> omega
      rw [nn_sub (by omega), nn_sub h9, nl1, nn_add, nn_add, ih (k + 1) _ (by omega) (by omega), sm_go _ hkl, Nat.add_assoc]
      congr 3
      unfold ad
      rw [gd]
      unfold sx
      rw [sfx_len]
theorem s_pcs (hw : Wf b) (hc : CB F S n b) (ho : OR L P en (ord b)) (hm : CM M b (ord b)) (h00 : M 0 = nn 0) : f_X3_countPieces L P M en S n = some (nn (cnew b)) := by
  have hg := ord_good hw
  unfold f_X3_countPieces
  have h := s_pcs_L hw hc ho hm h00 1000 0 0 (by omega) (by omega)
  rw [Nat.zero_add, ← cnew_ord hw] at h
  exact h
end PCS

