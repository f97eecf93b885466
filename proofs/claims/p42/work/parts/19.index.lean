/-! indexOf -/
section BL
variable {p : Program} {l : Launch} {e : Env} {R : Room} {s : State} {m : MethodId} {args : Array Value} {below : List Frame} {meth : Method} {c : Code} {Q : State → Prop} {D : va_G} {J : JT} {tys : List (ClassId × FieldType)} {A : Nat → Prop} {nL k n : Nat} {cc : ByteArray} {own : String} {pc : Nat} {lv : List (Nat × Value)} {st : List Value} {ws : va_W}
theorem s_bld (C : aC p s m args meth c cc nL own WW D J tys A) {q : TX} {i : Int32} {α : Type} {o : α} {kf : Int32 → Option α} (hq : q ∈ J.2) (hdg : decode cc pc = .ok (.baload, 1)) (hF : (ldi (fun j => q.val.2.2.getD j 0) q.val.2.2.length i).bind kf = some o) (kk : ∀ x, ldi (fun j => q.val.2.2.getD j 0) q.val.2.2.length i = some x → kf x = some o → aT p l e R s m args below meth c Q D A nL k n (pc + 1) lv (.int x :: st) ws) : aT p l e R s m args below meth c Q D A nL k n pc lv (.int i :: .ref q.val.2.1 :: st) ws := by
  obtain ⟨x, h1, hF2⟩ := bd hF
  obtain ⟨hi, hx⟩ := chk h1
  have kk2 := kk x h1 hF2
  rw [hx] at kk2
  exact s_byte C hq hi hdg kk2
end BL
def f_J1_indexOf_5af95_L76 (x9 : Int32) (x0 : List Int32) (x2 : List Int32) : Nat → Int32 → Int32 → (Int32 → Int32 → Option Int32) → Option Int32
  | 0, _, _, _ => none
  | fuel + 1, x8, x10, kont => if x9 ≤ x8 then (kont x8 x10) else ((ldi (fun j => x0.getD j 0) x0.length x8).bind fun v86_7 => (ldi (fun j => x2.getD j 0) x2.length x10).bind fun v90_8 => if ¬ v86_7 = v90_8 then (kont x8 x10) else (f_J1_indexOf_5af95_L76 x9 x0 x2 fuel (x8 + 1) (x10 + 1) kont))
def f_J1_indexOf_5af95_L30 (x5 : Int32) (x6 : Int32) (x0 : List Int32) : Nat → Int32 → (Int32 → Option Int32) → Option Int32
  | 0, _, _ => none
  | fuel + 1, x7, kont => if x6 < (x7 + 1) then (kont (x7 + 1)) else ((ldi (fun j => x0.getD j 0) x0.length (x7 + 1)).bind fun v43_15 => if v43_15 = x5 then (kont (x7 + 1)) else (f_J1_indexOf_5af95_L30 x5 x6 x0 fuel (x7 + 1) kont))
def f_J1_indexOf_5af95_L14 (x5 : Int32) (x6 : Int32) (x0 : List Int32) (x2 : List Int32) (p3 : Int32) : Nat → Int32 → (Int32 → Option Int32) → Option Int32
  | 0, _, _ => none
  | fuel + 1, x7, kont => if x6 < x7 then (kont x7) else ((ldi (fun j => x0.getD j 0) x0.length x7).bind fun v24_3 => if v24_3 = x5 then (if x6 < x7 then (f_J1_indexOf_5af95_L14 x5 x6 x0 x2 p3 fuel (x7 + 1) kont) else (f_J1_indexOf_5af95_L76 (((x7 + 1) + p3) - 1) x0 x2 12 (x7 + 1) 1 (fun x8_76_10 x10_76_11 => if ¬ x8_76_10 = (((x7 + 1) + p3) - 1) then (f_J1_indexOf_5af95_L14 x5 x6 x0 x2 p3 fuel (x7 + 1) kont) else (some x7)))) else (f_J1_indexOf_5af95_L30 x5 x6 x0 12 x7 (fun x7_30_17 => if x6 < x7_30_17 then (f_J1_indexOf_5af95_L14 x5 x6 x0 x2 p3 fuel (x7_30_17 + 1) kont) else (f_J1_indexOf_5af95_L76 (((x7_30_17 + 1) + p3) - 1) x0 x2 12 (x7_30_17 + 1) 1 (fun x8_76_20 x10_76_21 => if ¬ x8_76_20 = (((x7_30_17 + 1) + p3) - 1) then (f_J1_indexOf_5af95_L14 x5 x6 x0 x2 p3 fuel (x7_30_17 + 1) kont) else (some x7_30_17))))))
def f_J1_indexOf_5af95 (x0 : List Int32) (x2 : List Int32) (p1 : Int32) (p3 : Int32) (p4 : Int32) : Option Int32 := (ldi (fun j => x2.getD j 0) x2.length 0).bind fun v2_1 => f_J1_indexOf_5af95_L14 v2_1 (p1 - p3) x0 x2 p3 12 p4 (fun x7_14_24 => some (-1))
set_option maxRecDepth 100000 in
set_option maxHeartbeats 8000000 in
theorem c_J1_indexOf_5af95 (l : Launch) (D : va_G) (sA N : Nat) (S : Nat → Int32) (JL : List TX) (kc ki kb kl kd : ClassId) (hfl : l.stackTraces = false) (q0 : TX) (hq0 : q0 ∈ JL) (q2 : TX) (hq2 : q2 ∈ JL) (p1 p3 p4 : Int32) (res : Int32) (hF : f_J1_indexOf_5af95 q0.val.2.2 q2.val.2.2 p1 p3 p4 = some res) : aLi l yJ1_indexOf_5af95 (aW yJ1_indexOf_5af95 cJ1_indexOf_5af95 11 ((some .int))) ({ frames := 0, cells := 0, slots := 0, locals := 0 } : Room) D ((sA, N, S), JL) (aTy kc ki kb kl kd) [.ref q0.val.2.1, .int p1, .ref q2.val.2.1, .int p3, .int p4] (([] : va_W)) (fun r => r) (fun _ => ([] : va_W)) res 0 0 := by
  refine aLi_of (own := RJ1) (by decide) rfl (Nat.le_of_ble_eq_true rfl) rfl ?_
  intro p e s m args below meth c C hr
  have hRc : 0 ≤ (({ frames := 0, cells := 0, slots := 0, locals := 0 } : Room)).cells ∧ 0 ≤ (({ frames := 0, cells := 0, slots := 0, locals := 0 } : Room)).slots := ⟨Nat.le_refl _, Nat.le_refl _⟩
  have hI76 : ∀ (x5 : Int32) (x6 : Int32) (x7 : Int32) (x9 : Int32) (KX NX : Nat) (hKX : KX ≤ 0) (hNX : NX ≤ 0) (fuel : Nat) (x8 : Int32) (x10 : Int32) (P : List TX) (k n : Nat) (hk : k + fuel * 0 ≤ KX) (hn : n + fuel * 0 ≤ NX) (kont : Int32 → Int32 → Option Int32), f_J1_indexOf_5af95_L76 x9 q0.val.2.2 q2.val.2.2 fuel x8 x10 kont = some res → (∀ (x8 : Int32) (x10 : Int32) (P : List TX), kont x8 x10 = some res → aT p l e ({ frames := 0, cells := 0, slots := 0, locals := 0 } : Room) s m args below meth c (MQ below (aQi D (([] : va_W)) s.heap.size (fun r => r) (fun _ => ([] : va_W)) res) args s 0 0 (va_A (([] : va_W)) s.heap.size)) D (va_A (([] : va_W)) s.heap.size) 11 KX NX 103 [(0, .ref q0.val.2.1), (2, .ref q2.val.2.1), (3, .int p3), (5, .int x5), (6, .int x6), (7, .int x7), (8, .int x8), (9, .int x9)] [] (fl [cP kl P])) → aT p l e ({ frames := 0, cells := 0, slots := 0, locals := 0 } : Room) s m args below meth c (MQ below (aQi D (([] : va_W)) s.heap.size (fun r => r) (fun _ => ([] : va_W)) res) args s 0 0 (va_A (([] : va_W)) s.heap.size)) D (va_A (([] : va_W)) s.heap.size) 11 k n 76 [(0, .ref q0.val.2.1), (2, .ref q2.val.2.1), (3, .int p3), (5, .int x5), (6, .int x6), (7, .int x7), (8, .int x8), (9, .int x9), (10, .int x10)] [] (fl [cP kl P]) := by
    intro x5 x6 x7 x9 KX NX hKX hNX fuel
    induction fuel with
    | zero => intro x8 x10 P  k n hk hn kont hF hX; exact nomatch hF
    | succ fuel ih =>
      intro x8 x10 P  k n hk hn kont hF hX
      rw [f_J1_indexOf_5af95_L76] at hF
      refine a_iload C 6 dJ1_indexOf_5af95_76 rfl ?_
      refine a_iload C 7 dJ1_indexOf_5af95_78 rfl ?_
      refine a_ic_ge C (tgt := 103) dJ1_indexOf_5af95_80 (by decide) hF (fun c80_6 hF => ?_) (fun c80_6 hF => ?_)
      · refine a_sub C [0, 1, 2, 3, 4, 5, 6, 7] [(0, .ref q0.val.2.1), (2, .ref q2.val.2.1), (3, .int p3), (5, .int x5), (6, .int x6), (7, .int x7), (8, .int x8), (9, .int x9)] rfl ?_
        refine a_pad (k1 := KX) (n1 := NX) (by omega) (by omega) ?_
        exact hX x8 x10 P hF
      refine a_aload_n C 0 dJ1_indexOf_5af95_83 rfl rfl ?_
      refine a_iload C 6 dJ1_indexOf_5af95_84 rfl ?_
      refine s_bld C hq0 dJ1_indexOf_5af95_86 hF (fun v86_7 ev86_7 hF => ?_)
      refine a_aload_n C 1 dJ1_indexOf_5af95_87 rfl rfl ?_
      refine a_iload C 8 dJ1_indexOf_5af95_88 rfl ?_
      refine s_bld C hq2 dJ1_indexOf_5af95_90 hF (fun v90_8 ev90_8 hF => ?_)
      refine a_ic_ne C (tgt := 103) dJ1_indexOf_5af95_91 (by decide) hF (fun c91_9 hF => ?_) (fun c91_9 hF => ?_)
      · refine a_sub C [0, 1, 2, 3, 4, 5, 6, 7] [(0, .ref q0.val.2.1), (2, .ref q2.val.2.1), (3, .int p3), (5, .int x5), (6, .int x6), (7, .int x7), (8, .int x8), (9, .int x9)] rfl ?_
        refine a_pad (k1 := KX) (n1 := NX) (by omega) (by omega) ?_
        exact hX x8 x10 P hF
      refine a_iinc C 6 [(8, .int (x8 + 1)), (0, .ref q0.val.2.1), (2, .ref q2.val.2.1), (3, .int p3), (5, .int x5), (6, .int x6), (7, .int x7), (9, .int x9), (10, .int x10)] dJ1_indexOf_5af95_94 rfl rfl (by decide) rfl ?_
      refine a_iinc C 8 [(10, .int (x10 + 1)), (8, .int (x8 + 1)), (0, .ref q0.val.2.1), (2, .ref q2.val.2.1), (3, .int p3), (5, .int x5), (6, .int x6), (7, .int x7), (9, .int x9)] dJ1_indexOf_5af95_97 rfl rfl (by decide) rfl ?_
      refine a_goto C (tgt := 76) dJ1_indexOf_5af95_100 (by decide) ?_
      refine a_sub C [2, 3, 4, 5, 6, 7, 1, 8, 0] [(0, .ref q0.val.2.1), (2, .ref q2.val.2.1), (3, .int p3), (5, .int x5), (6, .int x6), (7, .int x7), (8, .int (x8 + 1)), (9, .int x9), (10, .int (x10 + 1))] rfl ?_
      exact ih (x8 + 1) (x10 + 1) P k n (by omega) (by omega) kont hF hX
  have hI30 : ∀ (x5 : Int32) (x6 : Int32) (KX NX : Nat) (hKX : KX ≤ 0) (hNX : NX ≤ 0) (fuel : Nat) (x7 : Int32) (P : List TX) (k n : Nat) (hk : k + fuel * 0 ≤ KX) (hn : n + fuel * 0 ≤ NX) (kont : Int32 → Option Int32), f_J1_indexOf_5af95_L30 x5 x6 q0.val.2.2 fuel x7 kont = some res → (∀ (x7 : Int32) (P : List TX), kont x7 = some res → aT p l e ({ frames := 0, cells := 0, slots := 0, locals := 0 } : Room) s m args below meth c (MQ below (aQi D (([] : va_W)) s.heap.size (fun r => r) (fun _ => ([] : va_W)) res) args s 0 0 (va_A (([] : va_W)) s.heap.size)) D (va_A (([] : va_W)) s.heap.size) 11 KX NX 52 [(0, .ref q0.val.2.1), (2, .ref q2.val.2.1), (3, .int p3), (5, .int x5), (6, .int x6), (7, .int x7)] [] (fl [cP kl P])) → aT p l e ({ frames := 0, cells := 0, slots := 0, locals := 0 } : Room) s m args below meth c (MQ below (aQi D (([] : va_W)) s.heap.size (fun r => r) (fun _ => ([] : va_W)) res) args s 0 0 (va_A (([] : va_W)) s.heap.size)) D (va_A (([] : va_W)) s.heap.size) 11 k n 30 [(0, .ref q0.val.2.1), (2, .ref q2.val.2.1), (3, .int p3), (5, .int x5), (6, .int x6), (7, .int x7)] [] (fl [cP kl P]) := by
    intro x5 x6 KX NX hKX hNX fuel
    induction fuel with
    | zero => intro x7 P  k n hk hn kont hF hX; exact nomatch hF
    | succ fuel ih =>
      intro x7 P  k n hk hn kont hF hX
      rw [f_J1_indexOf_5af95_L30] at hF
      refine a_iinc C 5 [(7, .int (x7 + 1)), (0, .ref q0.val.2.1), (2, .ref q2.val.2.1), (3, .int p3), (5, .int x5), (6, .int x6)] dJ1_indexOf_5af95_30 rfl rfl (by decide) rfl ?_
      refine a_iload C 0 dJ1_indexOf_5af95_33 rfl ?_
      refine a_iload C 5 dJ1_indexOf_5af95_35 rfl ?_
      refine a_ic_gt C (tgt := 52) dJ1_indexOf_5af95_37 (by decide) hF (fun c37_14 hF => ?_) (fun c37_14 hF => ?_)
      · refine a_sub C [1, 2, 3, 4, 5, 0] [(0, .ref q0.val.2.1), (2, .ref q2.val.2.1), (3, .int p3), (5, .int x5), (6, .int x6), (7, .int (x7 + 1))] rfl ?_
        refine a_pad (k1 := KX) (n1 := NX) (by omega) (by omega) ?_
        exact hX (x7 + 1) P hF
      refine a_aload_n C 1 dJ1_indexOf_5af95_40 rfl rfl ?_
      refine a_iload C 0 dJ1_indexOf_5af95_41 rfl ?_
      refine s_bld C hq0 dJ1_indexOf_5af95_43 hF (fun v43_15 ev43_15 hF => ?_)
      refine a_iload C 4 dJ1_indexOf_5af95_44 rfl ?_
      refine a_ic_eq C (tgt := 52) dJ1_indexOf_5af95_46 (by decide) hF (fun c46_16 hF => ?_) (fun c46_16 hF => ?_)
      · refine a_sub C [1, 2, 3, 4, 5, 0] [(0, .ref q0.val.2.1), (2, .ref q2.val.2.1), (3, .int p3), (5, .int x5), (6, .int x6), (7, .int (x7 + 1))] rfl ?_
        refine a_pad (k1 := KX) (n1 := NX) (by omega) (by omega) ?_
        exact hX (x7 + 1) P hF
      refine a_goto C (tgt := 30) dJ1_indexOf_5af95_49 (by decide) ?_
      refine a_sub C [1, 2, 3, 4, 5, 0] [(0, .ref q0.val.2.1), (2, .ref q2.val.2.1), (3, .int p3), (5, .int x5), (6, .int x6), (7, .int (x7 + 1))] rfl ?_
      exact ih (x7 + 1) P k n (by omega) (by omega) kont hF hX
  have hI14 : ∀ (x5 : Int32) (x6 : Int32) (KX NX : Nat) (hKX : KX ≤ 0) (hNX : NX ≤ 0) (fuel : Nat) (x7 : Int32) (P : List TX) (k n : Nat) (hk : k + fuel * 0 ≤ KX) (hn : n + fuel * 0 ≤ NX) (kont : Int32 → Option Int32), f_J1_indexOf_5af95_L14 x5 x6 q0.val.2.2 q2.val.2.2 p3 fuel x7 kont = some res → (∀ (x7 : Int32) (P : List TX), kont x7 = some res → aT p l e ({ frames := 0, cells := 0, slots := 0, locals := 0 } : Room) s m args below meth c (MQ below (aQi D (([] : va_W)) s.heap.size (fun r => r) (fun _ => ([] : va_W)) res) args s 0 0 (va_A (([] : va_W)) s.heap.size)) D (va_A (([] : va_W)) s.heap.size) 11 KX NX 119 [] [] (fl [cP kl P])) → aT p l e ({ frames := 0, cells := 0, slots := 0, locals := 0 } : Room) s m args below meth c (MQ below (aQi D (([] : va_W)) s.heap.size (fun r => r) (fun _ => ([] : va_W)) res) args s 0 0 (va_A (([] : va_W)) s.heap.size)) D (va_A (([] : va_W)) s.heap.size) 11 k n 14 [(0, .ref q0.val.2.1), (2, .ref q2.val.2.1), (3, .int p3), (5, .int x5), (6, .int x6), (7, .int x7)] [] (fl [cP kl P]) := by
    intro x5 x6 KX NX hKX hNX fuel
    induction fuel with
    | zero => intro x7 P  k n hk hn kont hF hX; exact nomatch hF
    | succ fuel ih =>
      intro x7 P  k n hk hn kont hF hX
      rw [f_J1_indexOf_5af95_L14] at hF
      refine a_iload C 5 dJ1_indexOf_5af95_14 rfl ?_
      refine a_iload C 4 dJ1_indexOf_5af95_16 rfl ?_
      refine a_ic_gt C (tgt := 119) dJ1_indexOf_5af95_18 (by decide) hF (fun c18_2 hF => ?_) (fun c18_2 hF => ?_)
      · refine a_sub C [] [] rfl ?_
        refine a_pad (k1 := KX) (n1 := NX) (by omega) (by omega) ?_
        exact hX x7 P hF
      refine a_aload_n C 0 dJ1_indexOf_5af95_21 rfl rfl ?_
      refine a_iload C 5 dJ1_indexOf_5af95_22 rfl ?_
      refine s_bld C hq0 dJ1_indexOf_5af95_24 hF (fun v24_3 ev24_3 hF => ?_)
      refine a_iload C 3 dJ1_indexOf_5af95_25 rfl ?_
      refine a_ic_eq C (tgt := 52) dJ1_indexOf_5af95_27 (by decide) hF (fun c27_4 hF => ?_) (fun c27_4 hF => ?_)
      · refine a_iload C 5 dJ1_indexOf_5af95_52 rfl ?_
        refine a_iload C 4 dJ1_indexOf_5af95_54 rfl ?_
        refine a_ic_gt C (tgt := 113) dJ1_indexOf_5af95_56 (by decide) hF (fun c56_5 hF => ?_) (fun c56_5 hF => ?_)
        · refine a_iinc C 5 [(7, .int (x7 + 1)), (0, .ref q0.val.2.1), (2, .ref q2.val.2.1), (3, .int p3), (5, .int x5), (6, .int x6)] dJ1_indexOf_5af95_113 rfl rfl (by decide) rfl ?_
          refine a_goto C (tgt := 14) dJ1_indexOf_5af95_116 (by decide) ?_
          refine a_sub C [1, 2, 3, 4, 5, 0] [(0, .ref q0.val.2.1), (2, .ref q2.val.2.1), (3, .int p3), (5, .int x5), (6, .int x6), (7, .int (x7 + 1))] rfl ?_
          exact ih (x7 + 1) P k n (by omega) (by omega) kont hF hX
        refine a_iload C 5 dJ1_indexOf_5af95_59 rfl ?_
        refine a_iconst C (v := 1) dJ1_indexOf_5af95_61 (by decide) ?_
        refine a_iadd C dJ1_indexOf_5af95_62 ?_
        refine a_istore C [(8, .int (x7 + 1)), (0, .ref q0.val.2.1), (2, .ref q2.val.2.1), (3, .int p3), (5, .int x5), (6, .int x6), (7, .int x7)] dJ1_indexOf_5af95_63 (by decide) rfl ?_
        refine a_iload C 0 dJ1_indexOf_5af95_65 rfl ?_
        refine a_iload_n C 3 dJ1_indexOf_5af95_67 rfl rfl ?_
        refine a_iadd C dJ1_indexOf_5af95_68 ?_
        refine a_iconst C (v := 1) dJ1_indexOf_5af95_69 (by decide) ?_
        refine a_isub C dJ1_indexOf_5af95_70 ?_
        refine a_istore C [(9, .int (((x7 + 1) + p3) - 1)), (8, .int (x7 + 1)), (0, .ref q0.val.2.1), (2, .ref q2.val.2.1), (3, .int p3), (5, .int x5), (6, .int x6), (7, .int x7)] dJ1_indexOf_5af95_71 (by decide) rfl ?_
        refine a_iconst C (v := 1) dJ1_indexOf_5af95_73 (by decide) ?_
        refine a_istore C [(10, .int 1), (9, .int (((x7 + 1) + p3) - 1)), (8, .int (x7 + 1)), (0, .ref q0.val.2.1), (2, .ref q2.val.2.1), (3, .int p3), (5, .int x5), (6, .int x6), (7, .int x7)] dJ1_indexOf_5af95_74 (by decide) rfl ?_
        refine a_sub C [3, 4, 5, 6, 7, 8, 2, 1, 0] [(0, .ref q0.val.2.1), (2, .ref q2.val.2.1), (3, .int p3), (5, .int x5), (6, .int x6), (7, .int x7), (8, .int (x7 + 1)), (9, .int (((x7 + 1) + p3) - 1)), (10, .int 1)] rfl ?_
        refine hI76 x5 x6 x7 (((x7 + 1) + p3) - 1) k n (by omega) (by omega) 12 (x7 + 1) 1 P k n (by omega) (by omega) _ hF (fun x8_76_10 x10_76_11 P76_12 hF => ?_)
        refine a_iload C 6 dJ1_indexOf_5af95_103 rfl ?_
        refine a_iload C 7 dJ1_indexOf_5af95_105 rfl ?_
        refine a_ic_ne C (tgt := 113) dJ1_indexOf_5af95_107 (by decide) hF (fun c107_13 hF => ?_) (fun c107_13 hF => ?_)
        · refine a_iinc C 5 [(7, .int (x7 + 1)), (0, .ref q0.val.2.1), (2, .ref q2.val.2.1), (3, .int p3), (5, .int x5), (6, .int x6), (8, .int x8_76_10), (9, .int (((x7 + 1) + p3) - 1))] dJ1_indexOf_5af95_113 rfl rfl (by decide) rfl ?_
          refine a_goto C (tgt := 14) dJ1_indexOf_5af95_116 (by decide) ?_
          refine a_sub C [1, 2, 3, 4, 5, 0] [(0, .ref q0.val.2.1), (2, .ref q2.val.2.1), (3, .int p3), (5, .int x5), (6, .int x6), (7, .int (x7 + 1))] rfl ?_
          exact ih (x7 + 1) P76_12 k n (by omega) (by omega) kont hF hX
        refine a_iload C 5 dJ1_indexOf_5af95_110 rfl ?_
        exact l_iret C hr rfl dJ1_indexOf_5af95_112 ⟨by omega, by omega⟩ hF rfl (pk [] rfl rfl)
      refine hI30 x5 x6 k n (by omega) (by omega) 12 x7 P k n (by omega) (by omega) _ hF (fun x7_30_17 P30_18 hF => ?_)
      refine a_iload C 5 dJ1_indexOf_5af95_52 rfl ?_
      refine a_iload C 4 dJ1_indexOf_5af95_54 rfl ?_
      refine a_ic_gt C (tgt := 113) dJ1_indexOf_5af95_56 (by decide) hF (fun c56_19 hF => ?_) (fun c56_19 hF => ?_)
      · refine a_iinc C 5 [(7, .int (x7_30_17 + 1)), (0, .ref q0.val.2.1), (2, .ref q2.val.2.1), (3, .int p3), (5, .int x5), (6, .int x6)] dJ1_indexOf_5af95_113 rfl rfl (by decide) rfl ?_
        refine a_goto C (tgt := 14) dJ1_indexOf_5af95_116 (by decide) ?_
        refine a_sub C [1, 2, 3, 4, 5, 0] [(0, .ref q0.val.2.1), (2, .ref q2.val.2.1), (3, .int p3), (5, .int x5), (6, .int x6), (7, .int (x7_30_17 + 1))] rfl ?_
        exact ih (x7_30_17 + 1) P30_18 k n (by omega) (by omega) kont hF hX
      refine a_iload C 5 dJ1_indexOf_5af95_59 rfl ?_
      refine a_iconst C (v := 1) dJ1_indexOf_5af95_61 (by decide) ?_
      refine a_iadd C dJ1_indexOf_5af95_62 ?_
      refine a_istore C [(8, .int (x7_30_17 + 1)), (0, .ref q0.val.2.1), (2, .ref q2.val.2.1), (3, .int p3), (5, .int x5), (6, .int x6), (7, .int x7_30_17)] dJ1_indexOf_5af95_63 (by decide) rfl ?_
      refine a_iload C 0 dJ1_indexOf_5af95_65 rfl ?_
      refine a_iload_n C 3 dJ1_indexOf_5af95_67 rfl rfl ?_
      refine a_iadd C dJ1_indexOf_5af95_68 ?_
      refine a_iconst C (v := 1) dJ1_indexOf_5af95_69 (by decide) ?_
      refine a_isub C dJ1_indexOf_5af95_70 ?_
      refine a_istore C [(9, .int (((x7_30_17 + 1) + p3) - 1)), (8, .int (x7_30_17 + 1)), (0, .ref q0.val.2.1), (2, .ref q2.val.2.1), (3, .int p3), (5, .int x5), (6, .int x6), (7, .int x7_30_17)] dJ1_indexOf_5af95_71 (by decide) rfl ?_
      refine a_iconst C (v := 1) dJ1_indexOf_5af95_73 (by decide) ?_
      refine a_istore C [(10, .int 1), (9, .int (((x7_30_17 + 1) + p3) - 1)), (8, .int (x7_30_17 + 1)), (0, .ref q0.val.2.1), (2, .ref q2.val.2.1), (3, .int p3), (5, .int x5), (6, .int x6), (7, .int x7_30_17)] dJ1_indexOf_5af95_74 (by decide) rfl ?_
      refine a_sub C [3, 4, 5, 6, 7, 8, 2, 1, 0] [(0, .ref q0.val.2.1), (2, .ref q2.val.2.1), (3, .int p3), (5, .int x5), (6, .int x6), (7, .int x7_30_17), (8, .int (x7_30_17 + 1)), (9, .int (((x7_30_17 + 1) + p3) - 1)), (10, .int 1)] rfl ?_
      refine hI76 x5 x6 x7_30_17 (((x7_30_17 + 1) + p3) - 1) k n (by omega) (by omega) 12 (x7_30_17 + 1) 1 P30_18 k n (by omega) (by omega) _ hF (fun x8_76_20 x10_76_21 P76_22 hF => ?_)
      refine a_iload C 6 dJ1_indexOf_5af95_103 rfl ?_
      refine a_iload C 7 dJ1_indexOf_5af95_105 rfl ?_
      refine a_ic_ne C (tgt := 113) dJ1_indexOf_5af95_107 (by decide) hF (fun c107_23 hF => ?_) (fun c107_23 hF => ?_)
      · refine a_iinc C 5 [(7, .int (x7_30_17 + 1)), (0, .ref q0.val.2.1), (2, .ref q2.val.2.1), (3, .int p3), (5, .int x5), (6, .int x6), (8, .int x8_76_20), (9, .int (((x7_30_17 + 1) + p3) - 1))] dJ1_indexOf_5af95_113 rfl rfl (by decide) rfl ?_
        refine a_goto C (tgt := 14) dJ1_indexOf_5af95_116 (by decide) ?_
        refine a_sub C [1, 2, 3, 4, 5, 0] [(0, .ref q0.val.2.1), (2, .ref q2.val.2.1), (3, .int p3), (5, .int x5), (6, .int x6), (7, .int (x7_30_17 + 1))] rfl ?_
        exact ih (x7_30_17 + 1) P76_22 k n (by omega) (by omega) kont hF hX
      refine a_iload C 5 dJ1_indexOf_5af95_110 rfl ?_
      exact l_iret C hr rfl dJ1_indexOf_5af95_112 ⟨by omega, by omega⟩ hF rfl (pk [] rfl rfl)
  refine g_ws C (ws' := fl [cP kl []]) (pool_in (bs := [])) ?_
  unfold f_J1_indexOf_5af95 at hF
  refine a_aload_n C 2 dJ1_indexOf_5af95_0 rfl rfl ?_
  refine a_iconst C (v := 0) dJ1_indexOf_5af95_1 (by decide) ?_
  refine s_bld C hq2 dJ1_indexOf_5af95_2 hF (fun v2_1 ev2_1 hF => ?_)
  refine a_istore C [(5, .int v2_1), (0, .ref q0.val.2.1), (1, .int p1), (2, .ref q2.val.2.1), (3, .int p3), (4, .int p4)] dJ1_indexOf_5af95_3 (by decide) rfl ?_
  refine a_iload_n C 2 dJ1_indexOf_5af95_5 rfl rfl ?_
  refine a_iload_n C 4 dJ1_indexOf_5af95_6 rfl rfl ?_
  refine a_isub C dJ1_indexOf_5af95_7 ?_
  refine a_istore C [(6, .int (p1 - p3)), (5, .int v2_1), (0, .ref q0.val.2.1), (1, .int p1), (2, .ref q2.val.2.1), (3, .int p3), (4, .int p4)] dJ1_indexOf_5af95_8 (by decide) rfl ?_
  refine a_iload C 6 dJ1_indexOf_5af95_10 rfl ?_
  refine a_istore C [(7, .int p4), (6, .int (p1 - p3)), (5, .int v2_1), (0, .ref q0.val.2.1), (1, .int p1), (2, .ref q2.val.2.1), (3, .int p3), (4, .int p4)] dJ1_indexOf_5af95_12 (by decide) rfl ?_
  refine a_sub C [3, 5, 6, 2, 1, 0] [(0, .ref q0.val.2.1), (2, .ref q2.val.2.1), (3, .int p3), (5, .int v2_1), (6, .int (p1 - p3)), (7, .int p4)] rfl ?_
  refine hI14 v2_1 (p1 - p3) 0 0 (by omega) (by omega) 12 p4 ([]) 0 0 (by omega) (by omega) _ hF (fun x7_14_24 P14_25 hF => ?_)
  refine a_iconst C (v := (-1)) dJ1_indexOf_5af95_119 (by decide) ?_
  exact l_iret C hr rfl dJ1_indexOf_5af95_120 ⟨by omega, by omega⟩ hF rfl (pk [] rfl rfl)
def f_J1_indexOf_b82b6 (x0 : List Int32) (x1 : List Int32) : Option Int32 := if ¬ (nI x1.length) = 0 then (if ¬ (nI x0.length) = 0 then ((f_J1_indexOf_5af95 x0 x1 (nI x0.length) (nI x1.length) 0).bind fun r21_3 => some r21_3) else (some (-1))) else (some 0)
theorem gS_J1_99 : GoodIn WW (va_wsS RJ1 99 yJ1_indexOf_5af95 (aW yJ1_indexOf_5af95 cJ1_indexOf_5af95 11 (some .int))) := gdS kl_J1_99 ks_J1_indexOf_5af95 kn_J1 kc_J1_indexOf_5af95
theorem hdS_J1_indexOf_5af95 : yJ1_indexOf_5af95.cls ≠ "java/lang/invoke/MethodHandle" ∧ yJ1_indexOf_5af95.cls ≠ "java/lang/invoke/VarHandle" ∧ (parseMethodDescriptor yJ1_indexOf_5af95.desc).map (fun d => d.parameters.length) = some 5 := by decide +kernel
set_option maxRecDepth 100000 in
set_option maxHeartbeats 8000000 in
theorem c_J1_indexOf_b82b6 (l : Launch) (D : va_G) (sA N : Nat) (S : Nat → Int32) (JL : List TX) (kc ki kb kl kd : ClassId) (hfl : l.stackTraces = false) (q0 : TX) (hq0 : q0 ∈ JL) (q1 : TX) (hq1 : q1 ∈ JL) (res : Int32) (hF : f_J1_indexOf_b82b6 q0.val.2.2 q1.val.2.2 = some res) : aLi l yJ1_indexOf_b82b6 (aW yJ1_indexOf_b82b6 cJ1_indexOf_b82b6 2 ((some .int))) ({ frames := 1, cells := 0, slots := 0, locals := 30 } : Room) D ((sA, N, S), JL) (aTy kc ki kb kl kd) [.ref q0.val.2.1, .ref q1.val.2.1] (([] : va_W)) (fun r => r) (fun _ => ([] : va_W)) res 0 0 := by
  refine aLi_of (own := RJ1) (by decide) rfl (Nat.le_of_ble_eq_true rfl) rfl ?_
  intro p e s m args below meth c C hr
  have hRc : 0 ≤ (({ frames := 1, cells := 0, slots := 0, locals := 30 } : Room)).cells ∧ 0 ≤ (({ frames := 1, cells := 0, slots := 0, locals := 30 } : Room)).slots := ⟨Nat.le_refl _, Nat.le_refl _⟩
  refine g_ws C (ws' := fl [cP kl []]) (pool_in (bs := [])) ?_
  unfold f_J1_indexOf_b82b6 at hF
  refine a_aload_n C 1 dJ1_indexOf_b82b6_0 rfl rfl ?_
  refine s_len C hq1 dJ1_indexOf_b82b6_1 ?_
  refine a_if_ne C (tgt := 7) dJ1_indexOf_b82b6_2 (by decide) hF (fun c2_1 hF => ?_) (fun c2_1 hF => ?_)
  · refine a_aload_n C 0 dJ1_indexOf_b82b6_7 rfl rfl ?_
    refine s_len C hq0 dJ1_indexOf_b82b6_8 ?_
    refine a_if_ne C (tgt := 14) dJ1_indexOf_b82b6_9 (by decide) hF (fun c9_2 hF => ?_) (fun c9_2 hF => ?_)
    · refine a_aload_n C 0 dJ1_indexOf_b82b6_14 rfl rfl ?_
      refine a_aload_n C 0 dJ1_indexOf_b82b6_15 rfl rfl ?_
      refine s_len C hq0 dJ1_indexOf_b82b6_16 ?_
      refine a_aload_n C 1 dJ1_indexOf_b82b6_17 rfl rfl ?_
      refine a_aload_n C 1 dJ1_indexOf_b82b6_18 rfl rfl ?_
      refine s_len C hq1 dJ1_indexOf_b82b6_19 ?_
      refine a_iconst C (v := 0) dJ1_indexOf_b82b6_20 (by decide) ?_
      obtain ⟨r21_3, er21_3, hF⟩ := bd hF
      refine g_Si (mc1 := 0) (ms1 := 0) C 5 (fl [cP kl ([])]) (fl [cP kl ([])]) gS_J1_99 hdS_J1_indexOf_5af95 (gj C) ⟨rfl, rfl⟩ ⟨Nat.le_of_ble_eq_true rfl, Nat.le_of_ble_eq_true rfl⟩ (c_J1_indexOf_5af95 l D sA N S JL kc ki kb kl kd hfl q0 hq0 q1 hq1 (nI q0.val.2.2.length) (nI q1.val.2.2.length) 0 r21_3 er21_3) (List.Perm.refl _) (List.Perm.refl _) rfl rfl (Nat.le_of_ble_eq_true rfl) dJ1_indexOf_b82b6_21 ⟨Nat.le_trans (by omega) hRc.1, Nat.le_trans (by omega) hRc.2⟩ ?_
      exact l_iret C hr rfl dJ1_indexOf_b82b6_24 ⟨by omega, by omega⟩ hF rfl (pk [] rfl rfl)
    refine a_iconst C (v := (-1)) dJ1_indexOf_b82b6_12 (by decide) ?_
    exact l_iret C hr rfl dJ1_indexOf_b82b6_13 ⟨by omega, by omega⟩ hF rfl (pk [] rfl rfl)
  refine a_iconst C (v := 0) dJ1_indexOf_b82b6_5 (by decide) ?_
  exact l_iret C hr rfl dJ1_indexOf_b82b6_6 ⟨by omega, by omega⟩ hF rfl (pk [] rfl rfl)
def f_J0_indexOf_2f485 (x0 : List Int32) (x1 : List Int32) : Option Int32 := (f_J1_indexOf_b82b6 x0 x1).bind fun r28_1 => some r28_1
theorem gS_J0_647 : GoodIn WW (va_wsS RJ0 647 yJ1_indexOf_b82b6 (aW yJ1_indexOf_b82b6 cJ1_indexOf_b82b6 2 (some .int))) := gdS kl_J0_647 ks_J1_indexOf_b82b6 kn_J1 kc_J1_indexOf_b82b6
theorem hdS_J1_indexOf_b82b6 : yJ1_indexOf_b82b6.cls ≠ "java/lang/invoke/MethodHandle" ∧ yJ1_indexOf_b82b6.cls ≠ "java/lang/invoke/VarHandle" ∧ (parseMethodDescriptor yJ1_indexOf_b82b6.desc).map (fun d => d.parameters.length) = some 2 := by decide +kernel
set_option maxRecDepth 100000 in
set_option maxHeartbeats 8000000 in
theorem c_J0_indexOf_2f485 (l : Launch) (D : va_G) (sA N : Nat) (S : Nat → Int32) (JL : List TX) (kc ki kb kl kd : ClassId) (hfl : l.stackTraces = false) (q0 : TX) (hq0 : q0 ∈ JL) (q1 : TX) (hq1 : q1 ∈ JL) (res : Int32) (hF : f_J0_indexOf_2f485 q0.val.2.2 q1.val.2.2 = some res) : aLi l yJ0_indexOf_2f485 (aW yJ0_indexOf_2f485 cJ0_indexOf_2f485 3 ((some .int))) ({ frames := 2, cells := 0, slots := 0, locals := 51 } : Room) D ((sA, N, S), JL) (aTy kc ki kb kl kd) [.ref q0.val.1, .ref q1.val.1] (([] : va_W)) (fun r => r) (fun _ => ([] : va_W)) res 0 0 := by
  refine aLi_of (own := RJ0) (by decide) rfl (Nat.le_of_ble_eq_true rfl) rfl ?_
  intro p e s m args below meth c C hr
  have hRc : 0 ≤ (({ frames := 2, cells := 0, slots := 0, locals := 51 } : Room)).cells ∧ 0 ≤ (({ frames := 2, cells := 0, slots := 0, locals := 51 } : Room)).slots := ⟨Nat.le_refl _, Nat.le_refl _⟩
  refine g_ws C (ws' := fl [cP kl []]) (pool_in (bs := [])) ?_
  unfold f_J0_indexOf_2f485 at hF
  refine a_aload_n C 0 dJ0_indexOf_2f485_0 rfl rfl ?_
  refine g_Vi (mc1 := 0) (ms1 := 0) (As := []) C 0 (fl [cP kl ([])]) (fl [cP kl ([])]) gV_J0_335 hdV_J0_coder_7d493 (gj C) (gq C hq0) ⟨rfl, rfl⟩ ⟨Nat.le_of_ble_eq_true rfl, Nat.le_of_ble_eq_true rfl⟩ (c_J0_coder l D ((sA, N, S), JL) kc ki kb kl kd q0 hq0) (List.Perm.refl _) (List.Perm.refl _) rfl rfl (Nat.le_of_ble_eq_true rfl) dJ0_indexOf_2f485_1 ⟨Nat.le_trans (by omega) hRc.1, Nat.le_trans (by omega) hRc.2⟩ ?_
  refine a_istore_n C [(2, .int 0), (0, .ref q0.val.1), (1, .ref q1.val.1)] dJ0_indexOf_2f485_4 rfl (by decide) rfl ?_
  refine a_iload_n C 0 dJ0_indexOf_2f485_5 rfl rfl ?_
  refine a_aload_n C 2 dJ0_indexOf_2f485_6 rfl rfl ?_
  refine g_Vi (mc1 := 0) (ms1 := 0) (As := []) C 0 (fl [cP kl ([])]) (fl [cP kl ([])]) gV_J0_335 hdV_J0_coder_7d493 (gj C) (gq C hq1) ⟨rfl, rfl⟩ ⟨Nat.le_of_ble_eq_true rfl, Nat.le_of_ble_eq_true rfl⟩ (c_J0_coder l D ((sA, N, S), JL) kc ki kb kl kd q1 hq1) (List.Perm.refl _) (List.Perm.refl _) rfl rfl (Nat.le_of_ble_eq_true rfl) dJ0_indexOf_2f485_7 ⟨Nat.le_trans (by omega) hRc.1, Nat.le_trans (by omega) hRc.2⟩ ?_
  refine a_ic_ne C (tgt := 46) dJ0_indexOf_2f485_10 (by decide) (hF := (if_neg (by decide) : (if ¬ (0 : Int32) = 0 then (none : Option Unit) else some ()) = some ())) (fun _ hF => nomatch hF) (fun _ _ => ?_)
  refine a_aload_n C 1 dJ0_indexOf_2f485_13 rfl rfl ?_
  refine g_Vi (mc1 := 0) (ms1 := 0) (As := []) C 0 (fl [cP kl ([])]) (fl [cP kl ([])]) gV_J0_492 hdV_J0_isLatin1_aae02 (gj C) (gq C hq0) ⟨rfl, rfl⟩ ⟨Nat.le_of_ble_eq_true rfl, Nat.le_of_ble_eq_true rfl⟩ (c_J0_isLatin1 l D ((sA, N, S), JL) kc ki kb kl kd q0 hq0) (List.Perm.refl _) (List.Perm.refl _) rfl rfl (Nat.le_of_ble_eq_true rfl) dJ0_indexOf_2f485_14 ⟨Nat.le_trans (by omega) hRc.1, Nat.le_trans (by omega) hRc.2⟩ ?_
  refine a_if_eq C (tgt := 34) dJ0_indexOf_2f485_17 (by decide) (hF := (if_neg (by decide) : (if (1 : Int32) = 0 then (none : Option Unit) else some ()) = some ())) (fun _ hF => nomatch hF) (fun _ _ => ?_)
  refine a_aload_n C 1 dJ0_indexOf_2f485_20 rfl rfl ?_
  refine s_value C hq0 dJ0_indexOf_2f485_21 ?_
  refine a_aload_n C 2 dJ0_indexOf_2f485_24 rfl rfl ?_
  refine s_value C hq1 dJ0_indexOf_2f485_25 ?_
  obtain ⟨r28_1, er28_1, hF⟩ := bd hF
  refine g_Si (mc1 := 0) (ms1 := 0) C 2 (fl [cP kl ([])]) (fl [cP kl ([])]) gS_J0_647 hdS_J1_indexOf_b82b6 (gj C) ⟨rfl, rfl⟩ ⟨Nat.le_of_ble_eq_true rfl, Nat.le_of_ble_eq_true rfl⟩ (c_J1_indexOf_b82b6 l D sA N S JL kc ki kb kl kd hfl q0 hq0 q1 hq1 r28_1 er28_1) (List.Perm.refl _) (List.Perm.refl _) rfl rfl (Nat.le_of_ble_eq_true rfl) dJ0_indexOf_2f485_28 ⟨Nat.le_trans (by omega) hRc.1, Nat.le_trans (by omega) hRc.2⟩ ?_
  refine a_goto C (tgt := 45) dJ0_indexOf_2f485_31 (by decide) ?_
  exact l_iret C hr rfl dJ0_indexOf_2f485_45 ⟨by omega, by omega⟩ hF rfl (pk [] rfl rfl)
theorem hdV_J0_indexOf_2f485 : yJ0_indexOf_2f485.cls = RJ0 ∧ yJ0_indexOf_2f485.cls ≠ "java/lang/invoke/MethodHandle" ∧ yJ0_indexOf_2f485.cls ≠ "java/lang/invoke/VarHandle" ∧ (parseMethodDescriptor yJ0_indexOf_2f485.desc).map (fun d => d.parameters.length) = some 1 := by decide +kernel
section LX
variable {p : Program} {l : Launch} {e : Env} {R : Room} {s : State} {m : MethodId} {args : Array Value} {below : List Frame} {meth : Method} {c : Code} {Q : State → Prop} {D : va_G} {X : Nat × Nat × (Nat → Int32)} {L P : List TX} {bs : List va_W} {kc ki kb kl kd : ClassId} {A : Nat → Prop} {nL k n : Nat} {cc : ByteArray} {own : String} {pc : Nat} {lv : List (Nat × Value)} {st : List Value}
theorem t_idx (C : aC p s m args meth c cc nL own WW D (X, L) (aTy kc ki kb kl kd) A) {a a2 idx : Nat} {xs ys : List Int32} {α : Type} {o : α} {kf : Int32 → Option α} (h : Kn (L ++ P) a xs) (h2 : Kn (L ++ P) a2 ys) (hG : GoodIn WW (wsV own idx RJ0 yJ0_indexOf_2f485 (aW yJ0_indexOf_2f485 cJ0_indexOf_2f485 3 (some .int)))) (hR : 3 ≤ R.frames ∧ 73 ≤ R.locals) (hcat : (st.map fun v => v.category).sum ≤ 8) (hdg : decode cc pc = .ok (.invokevirtual idx, 3)) (hfl : l.stackTraces = false) (hkn : k ≤ R.cells ∧ n ≤ R.slots) (hF : (f_J0_indexOf_2f485 xs ys).bind kf = some o) (kk : ∀ x, f_J0_indexOf_2f485 xs ys = some x → kf x = some o → aT p l e R s m args below meth c Q D A nL k n (pc + 3) lv (.int x :: st) (fl (cP kl P :: bs))) : aT p l e R s m args below meth c Q D A nL k n pc lv (.ref a2 :: .ref a :: st) (fl (cP kl P :: bs)) := by
  obtain ⟨x, h1, hF2⟩ := bd hF
  have kk2 := kk x h1 hF2
  obtain ⟨q, hq, rfl, rfl⟩ := h
  obtain ⟨q2, hq2, rfl, rfl⟩ := h2
  obtain ⟨⟨sA, N, S⟩, rfl⟩ : ∃ z, z = X := ⟨X, rfl⟩
  exact g_Vi (mc1 := 0) (ms1 := 0) (J1 := ((sA, N, S), L ++ P)) (As := [.ref q2.val.1]) C 1 (fl (cP kl P :: bs)) (fl (cP kl P :: bs)) hG hdV_J0_indexOf_2f485 (gp C pool_all hin_of) (gqp C hq) ⟨rfl, rfl⟩ hR (c_J0_indexOf_2f485 l D sA N S (L ++ P) kc ki kb kl kd hfl q hq q2 hq2 x h1) pool_all pool_all rfl rfl hcat hdg hkn kk2
end LX
