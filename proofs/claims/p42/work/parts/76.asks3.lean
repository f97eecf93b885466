/-! WHAT IS ASKED OF BOTH, 3: reasons, accounts, means, what is written -/
section ASK3
variable {F S L P M C T A O W R D Q mC : Nat → Int32} {n en l l' c : Int32} {b : Bk} {w : List Nat}
theorem sm_one : ∀ (m k : Nat), sm (fun _ => one true) k m = m
  | 0, k => rfl
  | m + 1, k => by
    rw [smS, sm_one m (k + 1)]
    show 1 + m = m + 1
    omega
theorem tot_ord (b : Bk) : sm (fun i => sz b i) 0 (b.length - 0) = (ord b).length := by
  have h := cnt_ord (fun _ => true) b
  rw [List.countP_true] at h
  rw [h]
  refine sm_congr _ _ (fun x _ _ => ?_)
  show sz b x = sm (fun _ => one true) 0 (sz b x - 0)
  rw [sm_one]
  rfl
theorem ord_ne (hw : Wf b) (h : b.length ≠ 0) : (ord b).length ≠ 0 := by
  have hg : 1 ≤ sz b 0 := (hw.gl (i := 0) (by omega)).1
  have hm : ((0, 0) : En) ∈ ord b := ((ord_good hw).2.1 (0, 0)).mpr hg
  intro z
  rw [List.length_eq_zero_iff] at z
  rw [z] at hm
  cases hm
theorem fdv_ex {a c : Nat} (ha : a ≤ 80) (hc : c ≤ 8) (h : c ≠ 0) : fdv (FP.i2f (nn a)) (FP.i2f (nn c)) = some (FP.fdiv (FP.i2f (nn a)) (FP.i2f (nn c))) ∧ Op.cmpValue (FP.fcmp (FP.fdiv (FP.i2f (nn a)) (FP.i2f (nn c))) (FP.fdiv (FP.i2f (nn a)) (FP.i2f (nn c)))) .l = 0 :=
  ⟨if_pos (fdv_all ⟨a, by omega⟩ ⟨c, by omega⟩ h), fcmp_all ⟨a, by omega⟩ ⟨c, by omega⟩ h⟩
theorem ddv_ex {a c : Nat} (ha : a ≤ 80) (hc : c ≤ 80) (h : c ≠ 0) : ddv (FP.i2d (nn a)) (FP.i2d (nn c)) = some (FP.ddiv (FP.i2d (nn a)) (FP.i2d (nn c))) ∧ Op.cmpValue (FP.dcmp (FP.ddiv (FP.i2d (nn a)) (FP.i2d (nn c))) (FP.ddiv (FP.i2d (nn a)) (FP.i2d (nn c)))) .l = 0 := by
  have h1 := ddv_all ⟨a, by omega⟩ ⟨c, by omega⟩ h
  have h2 := dcmp_all ⟨a, by omega⟩ ⟨c, by omega⟩ h
  exact ⟨if_pos h1, h2⟩
theorem ckE (hw : Wf b) (hc : CB F S n b) (ho : OR L P en (ord b)) : (b.length = 0 ∧ f_X8_checkNotEmpty n en = some (.inr "java/lang/ArithmeticException")) ∨ (b.length ≠ 0 ∧ f_X8_checkNotEmpty n en = some (.inl 0)) := by
  have h8 := hw.1
  have hl := (ord_good hw).2.2
  unfold f_X8_checkNotEmpty f_X0_lines f_X3_endings
  rw [hc.1, ho.1, Option.bind_some, Option.bind_some]
  by_cases h : b.length = 0
  · refine Or.inl ⟨h, ?_⟩
    rw [h, if_pos (by decide)]
    rfl
  · refine Or.inr ⟨h, ?_⟩
    have := ord_ne hw h
    rw [if_neg (by rw [nl0, nn_eq (by omega) (by omega)]; exact h), if_pos (by rw [nl0, nn_eq (by omega) (by omega)]; exact this)]
theorem rc1_le (hw : Wf b) : rc1 b ≤ 80 := by
  have hl := (ord_good hw).2.2
  have : ∀ (m k : Nat), sm (fun k => one (decide (0 < cc b k))) k m ≤ m := by
    intro m
    induction m with
    | zero => intro k; exact Nat.le_refl _
    | succ m ih =>
      intro k
      rw [smS]
      have h1 := ih (k + 1)
      have h2 : one (decide (0 < cc b k)) ≤ 1 := by unfold one; split <;> omega
      omega
  have := this ((ord b).length - 1) 1
  unfold rc1
  omega
/-- what is written, in both -/
def RTX (mC : Nat → Int32) (s : Int32) (v : List Nat) : Prop := s = nn v.length ∧ v.length ≤ 20 ∧ ∀ i, i < v.length → mC i = nn (v.getD i 0)
end ASK3

