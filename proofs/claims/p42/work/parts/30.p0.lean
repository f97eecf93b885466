/-! THE PURE SIDE: small naturals as ints -/
def nn (k : Nat) : Int32 := Int32.ofNat k
theorem nn_add (a b : Nat) : nn a + nn b = nn (a + b) := (Int32.ofNat_add a b).symm
theorem nn_mul (a b : Nat) : nn a * nn b = nn (a * b) := (Int32.ofNat_mul a b).symm
theorem nn_sub {a b : Nat} (h : b ≤ a) : nn a - nn b = nn (a - b) := by
  have e : nn a = nn (a - b) + nn b := by rw [nn_add, Nat.sub_add_cancel h]
  rw [e, Int32.add_sub_cancel]
theorem nn_toInt {a : Nat} (h : a < 2147483648) : (nn a).toInt = a := Int32.toInt_ofNat_of_lt h
theorem nn_le {a b : Nat} (ha : a < 2147483648) (hb : b < 2147483648) : (nn a ≤ nn b) = (a ≤ b) := by
  rw [Int32.le_iff_toInt_le, nn_toInt ha, nn_toInt hb]; exact propext (by omega)
theorem nn_lt {a b : Nat} (ha : a < 2147483648) (hb : b < 2147483648) : (nn a < nn b) = (a < b) := by
  rw [Int32.lt_iff_toInt_lt, nn_toInt ha, nn_toInt hb]; exact propext (by omega)
theorem nn_eq {a b : Nat} (ha : a < 2147483648) (hb : b < 2147483648) : (nn a = nn b) = (a = b) := by
  refine propext ⟨fun h => ?_, fun h => by rw [h]⟩
  have h2 := congrArg Int32.toInt h
  rw [nn_toInt ha, nn_toInt hb] at h2
  omega
theorem nn_clamp {a : Nat} (h : a < 2147483648) : (nn a).toNatClampNeg = a := by
  show (nn a).toInt.toNat = a
  rw [nn_toInt h]
  rfl
theorem nn_div {a b : Nat} (ha : a < 2147483648) (hb : b < 2147483648) : nn a / nn b = nn (a / b) := by
  apply Int32.toInt_inj.mp
  have h3 : a / b ≤ a := Nat.div_le_self a b
  rw [Int32.toInt_div, nn_toInt ha, nn_toInt hb, nn_toInt (by omega)]
  rw [show ((a : Int).tdiv b) = ((a / b : Nat) : Int) from rfl]
  generalize a / b = q at h3
  exact Int.bmod_eq_of_le (by omega) (by omega)
theorem nn_nlt0 {a : Nat} (ha : a < 2147483648) : ¬ nn a < nn 0 := by rw [nn_lt ha (by omega)]; omega
theorem ldi_nn {f : Nat → Int32} {N a : Nat} (hN : N ≤ 2147483648) (h : a < N) : ldi f N (nn a) = some (f a) := by
  unfold ldi
  rw [nn_clamp (by omega), if_neg]
  rintro (q | q)
  · exact nn_nlt0 (a := a) (by omega) q
  · omega
theorem ldc_nn {f : Nat → Int32} {N a : Nat} (hN : N ≤ 2147483648) (h : a < N) : ldc f N (nn a) = some (f a) := ldi_nn hN h
theorem sti_nn {f : Nat → Int32} {N a : Nat} {x : Int32} (hN : N ≤ 2147483648) (h : a < N) : sti f N (nn a) x = some (upd f a x) := by
  unfold sti
  rw [nn_clamp (by omega), if_neg]
  rintro (q | q)
  · exact nn_nlt0 (a := a) (by omega) q
  · omega
theorem stc_nn {f : Nat → Int32} {N a : Nat} {x : Int32} (hN : N ≤ 2147483648) (h : a < N) (hx : vp_nar .char x = x) : stc f N (nn a) x = some (upd f a x) := by
  unfold stc
  rw [nn_clamp (by omega), if_neg, hx]
  rintro (q | q)
  · exact nn_nlt0 (a := a) (by omega) q
  · omega
theorem rz_0 : rz 0 = some 0 := rfl
theorem rz_1 : rz 1 = some 1 := rfl
theorem rc_of {x : Int32} (h : vp_nar .char x = x) : rc x = some x := if_pos h
theorem upd_eq (f : Nat → Int32) (a : Nat) (x : Int32) : upd f a x a = x := by simp [upd]
theorem upd_ne {f : Nat → Int32} {a b : Nat} {x : Int32} (h : b ≠ a) : upd f a x b = f b := by simp [upd, h]
/-- a char -/
def ch (x : Int32) : Prop := vp_nar .char x = x
theorem nn_succ (a : Nat) : nn a + nn 1 = nn (a + 1) := nn_add a 1
theorem some_bind' {α β : Type} (a : α) (f : α → Option β) : (some a).bind f = f a := rfl
theorem nl0 : (0 : Int32) = nn 0 := rfl
theorem nl1 : (1 : Int32) = nn 1 := rfl
theorem nl2 : (2 : Int32) = nn 2 := rfl
theorem nl3 : (3 : Int32) = nn 3 := rfl
theorem nl4 : (4 : Int32) = nn 4 := rfl
theorem nl5 : (5 : Int32) = nn 5 := rfl
theorem nl6 : (6 : Int32) = nn 6 := rfl
theorem nl7 : (7 : Int32) = nn 7 := rfl
theorem nl8 : (8 : Int32) = nn 8 := rfl
theorem nl9 : (9 : Int32) = nn 9 := rfl
theorem nl10 : (10 : Int32) = nn 10 := rfl
theorem nl11 : (11 : Int32) = nn 11 := rfl
theorem nl12 : (12 : Int32) = nn 12 := rfl
theorem nl13 : (13 : Int32) = nn 13 := rfl
theorem nl14 : (14 : Int32) = nn 14 := rfl
theorem nl15 : (15 : Int32) = nn 15 := rfl
theorem nl16 : (16 : Int32) = nn 16 := rfl
theorem nl17 : (17 : Int32) = nn 17 := rfl
theorem nl18 : (18 : Int32) = nn 18 := rfl
theorem nl19 : (19 : Int32) = nn 19 := rfl
theorem nl20 : (20 : Int32) = nn 20 := rfl
theorem nl21 : (21 : Int32) = nn 21 := rfl
theorem nl22 : (22 : Int32) = nn 22 := rfl
theorem nl23 : (23 : Int32) = nn 23 := rfl
theorem nl24 : (24 : Int32) = nn 24 := rfl
theorem nl25 : (25 : Int32) = nn 25 := rfl
theorem nl26 : (26 : Int32) = nn 26 := rfl
theorem nl27 : (27 : Int32) = nn 27 := rfl
theorem nl28 : (28 : Int32) = nn 28 := rfl
theorem nl29 : (29 : Int32) = nn 29 := rfl
theorem nl30 : (30 : Int32) = nn 30 := rfl
theorem nl31 : (31 : Int32) = nn 31 := rfl
theorem nl32 : (32 : Int32) = nn 32 := rfl
theorem nl33 : (33 : Int32) = nn 33 := rfl
theorem nl34 : (34 : Int32) = nn 34 := rfl
theorem nl35 : (35 : Int32) = nn 35 := rfl
theorem nl36 : (36 : Int32) = nn 36 := rfl
theorem nl37 : (37 : Int32) = nn 37 := rfl
theorem nl38 : (38 : Int32) = nn 38 := rfl
theorem nl39 : (39 : Int32) = nn 39 := rfl
theorem nl40 : (40 : Int32) = nn 40 := rfl
theorem nl41 : (41 : Int32) = nn 41 := rfl
theorem nl42 : (42 : Int32) = nn 42 := rfl
theorem nl43 : (43 : Int32) = nn 43 := rfl
theorem nl44 : (44 : Int32) = nn 44 := rfl
theorem nl45 : (45 : Int32) = nn 45 := rfl
theorem nl46 : (46 : Int32) = nn 46 := rfl
theorem nl47 : (47 : Int32) = nn 47 := rfl
theorem nl48 : (48 : Int32) = nn 48 := rfl
theorem nl49 : (49 : Int32) = nn 49 := rfl
theorem nl50 : (50 : Int32) = nn 50 := rfl
theorem nl51 : (51 : Int32) = nn 51 := rfl
theorem nl52 : (52 : Int32) = nn 52 := rfl
theorem nl53 : (53 : Int32) = nn 53 := rfl
theorem nl54 : (54 : Int32) = nn 54 := rfl
theorem nl55 : (55 : Int32) = nn 55 := rfl
theorem nl56 : (56 : Int32) = nn 56 := rfl
theorem nl57 : (57 : Int32) = nn 57 := rfl
theorem nl58 : (58 : Int32) = nn 58 := rfl
theorem nl59 : (59 : Int32) = nn 59 := rfl
theorem nl60 : (60 : Int32) = nn 60 := rfl
theorem nl61 : (61 : Int32) = nn 61 := rfl
theorem nl62 : (62 : Int32) = nn 62 := rfl
theorem nl63 : (63 : Int32) = nn 63 := rfl
theorem nl64 : (64 : Int32) = nn 64 := rfl
theorem nl65 : (65 : Int32) = nn 65 := rfl
theorem nl66 : (66 : Int32) = nn 66 := rfl
theorem nl67 : (67 : Int32) = nn 67 := rfl
theorem nl68 : (68 : Int32) = nn 68 := rfl
theorem nl69 : (69 : Int32) = nn 69 := rfl
theorem nl70 : (70 : Int32) = nn 70 := rfl
theorem nl71 : (71 : Int32) = nn 71 := rfl
theorem nl72 : (72 : Int32) = nn 72 := rfl
theorem nl73 : (73 : Int32) = nn 73 := rfl
theorem nl74 : (74 : Int32) = nn 74 := rfl
theorem nl75 : (75 : Int32) = nn 75 := rfl
theorem nl76 : (76 : Int32) = nn 76 := rfl
theorem nl77 : (77 : Int32) = nn 77 := rfl
theorem nl78 : (78 : Int32) = nn 78 := rfl
theorem nl79 : (79 : Int32) = nn 79 := rfl
theorem nl80 : (80 : Int32) = nn 80 := rfl
theorem nl81 : (81 : Int32) = nn 81 := rfl
theorem nl82 : (82 : Int32) = nn 82 := rfl
theorem nl83 : (83 : Int32) = nn 83 := rfl
theorem nl84 : (84 : Int32) = nn 84 := rfl
theorem nl85 : (85 : Int32) = nn 85 := rfl
theorem nl86 : (86 : Int32) = nn 86 := rfl
theorem nl87 : (87 : Int32) = nn 87 := rfl
theorem nl88 : (88 : Int32) = nn 88 := rfl
theorem nl89 : (89 : Int32) = nn 89 := rfl
theorem nl90 : (90 : Int32) = nn 90 := rfl
theorem nl91 : (91 : Int32) = nn 91 := rfl
theorem nl92 : (92 : Int32) = nn 92 := rfl
theorem nl93 : (93 : Int32) = nn 93 := rfl
theorem nl94 : (94 : Int32) = nn 94 := rfl
theorem nl95 : (95 : Int32) = nn 95 := rfl
theorem nl96 : (96 : Int32) = nn 96 := rfl
theorem nl97 : (97 : Int32) = nn 97 := rfl
theorem nl98 : (98 : Int32) = nn 98 := rfl
theorem nl99 : (99 : Int32) = nn 99 := rfl
theorem nl100 : (100 : Int32) = nn 100 := rfl
theorem nl101 : (101 : Int32) = nn 101 := rfl
theorem nl102 : (102 : Int32) = nn 102 := rfl
theorem nl103 : (103 : Int32) = nn 103 := rfl
theorem nl104 : (104 : Int32) = nn 104 := rfl
theorem nl105 : (105 : Int32) = nn 105 := rfl
theorem nl106 : (106 : Int32) = nn 106 := rfl
theorem nl107 : (107 : Int32) = nn 107 := rfl
theorem nl108 : (108 : Int32) = nn 108 := rfl
theorem nl109 : (109 : Int32) = nn 109 := rfl
theorem nl110 : (110 : Int32) = nn 110 := rfl
theorem nl111 : (111 : Int32) = nn 111 := rfl
theorem nl112 : (112 : Int32) = nn 112 := rfl
theorem nl113 : (113 : Int32) = nn 113 := rfl
theorem nl114 : (114 : Int32) = nn 114 := rfl
theorem nl115 : (115 : Int32) = nn 115 := rfl
theorem nl116 : (116 : Int32) = nn 116 := rfl
theorem nl117 : (117 : Int32) = nn 117 := rfl
theorem nl118 : (118 : Int32) = nn 118 := rfl
theorem nl119 : (119 : Int32) = nn 119 := rfl
theorem nl120 : (120 : Int32) = nn 120 := rfl
theorem nl121 : (121 : Int32) = nn 121 := rfl
theorem nl122 : (122 : Int32) = nn 122 := rfl
theorem nl123 : (123 : Int32) = nn 123 := rfl
theorem nl124 : (124 : Int32) = nn 124 := rfl
theorem nl125 : (125 : Int32) = nn 125 := rfl
theorem nl126 : (126 : Int32) = nn 126 := rfl
theorem nl127 : (127 : Int32) = nn 127 := rfl
theorem nl979 : (979 : Int32) = nn 979 := rfl
theorem nl244 : (244 : Int32) = nn 244 := rfl
theorem nl1000 : (1000 : Int32) = nn 1000 := rfl

