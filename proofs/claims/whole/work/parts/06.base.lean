theorem ite_t {α : Type} {c : Prop} [Decidable c] {a b x : α} (hc : c) (h : (if c then a else b) = x) : a = x := by rw [if_pos hc] at h; exact h
theorem ite_f {α : Type} {c : Prop} [Decidable c] {a b x : α} (hc : ¬ c) (h : (if c then a else b) = x) : b = x := by rw [if_neg hc] at h; exact h
def letM {α β : Type} (v : α) (k : α → Option β) : Option β := k v
theorem letM_some {α β : Type} {v : α} {k : α → Option β} {y : β} (h : letM v k = some y) : ∃ x : α, x = v ∧ k x = some y := ⟨v, rfl, h⟩
def bindM {α β : Type} (x : Option (α × Mem)) (k : α → Mem → Option β) : Option β := match x with
  | none => none
  | some (r, M) => k r M
theorem bindM_some {α β : Type} {x : Option (α × Mem)} {k : α → Mem → Option β} {y : β} (h : bindM x k = some y) : ∃ r M, x = some (r, M) ∧ k r M = some y := by
  unfold bindM at h
  split at h
  · cases h
  · exact ⟨_, _, rfl, h⟩
def bindV {β : Type} (x : Option Mem) (k : Mem → Option β) : Option β := match x with
  | none => none
  | some M => k M
theorem bindV_some {β : Type} {x : Option Mem} {k : Mem → Option β} {y : β} (h : bindV x k = some y) : ∃ M, x = some M ∧ k M = some y := by
  unfold bindV at h
  split at h
  · cases h
  · exact ⟨_, rfl, h⟩
theorem ltl {k c : Nat} (h : lay k = c) (hc : Nat.blt c 99 = true) : k < NC := lay_lt (by rw [h]; exact Nat.le_of_ble_eq_true hc)
theorem lay_dec {a b d : Nat} (h : ∀ k, k < 131 → lay k = a → lay (k + d) = b) (ha : Nat.blt a 99 = true) {k : Nat} (hk : lay k = a) : lay (k + d) = b := h k (ltl hk ha) hk
theorem inb_lt {i : Int32} {n : Nat} (h : inb i n = true) : i.toNatClampNeg < n := by
  unfold inb at h
  exact of_decide_eq_true (Bool.and_eq_true _ _ |>.mp h).2
theorem cases11 {v : Nat} (h : v < 11) : v = 0 ∨ v = 1 ∨ v = 2 ∨ v = 3 ∨ v = 4 ∨ v = 5 ∨ v = 6 ∨ v = 7 ∨ v = 8 ∨ v = 9 ∨ v = 10 := by omega
theorem cases8 {v : Nat} (h : v < 8) : v = 0 ∨ v = 1 ∨ v = 2 ∨ v = 3 ∨ v = 4 ∨ v = 5 ∨ v = 6 ∨ v = 7 := by omega
def nrc (v : Int32) : Bool := decide (vp_nar .char v = v)
def imn (x y : Int32) : Int32 := if y < x then y else x
def imx (x y : Int32) : Int32 := if x < y then y else x
def vlim (v : Nat) : Int32 := ([12, 20, 0, 0, 0, 99, 10, 0, 0, 0, 0] : List Int32).getD v 0
def rnum (r : Nat) : Int32 := ([0, 1, 2, 3, 4, 5, 7, 7] : List Int32).getD r 0
def plenN (v : Nat) : Nat := pLen.getD v 0
def plen (v : Nat) : Int32 := nI (plenN v)
def pch (v : Nat) (i : Int32) : Int32 := (pByt.getD v []).getD i.toNatClampNeg 0
def cpM (M : Mem) (k1 k2 : Nat) (n : Int32) : Mem := fun a => if a = k2 then va_cpy (M k1) (M k2) 0 0 n.toNatClampNeg else M a
def cpok (n : Int32) (n1 n2 : Nat) : Bool := decide (0 ≤ n) && decide (n.toNatClampNeg ≤ n1) && decide (n.toNatClampNeg ≤ n2)
theorem ly1_1 {k : Nat} (h : lay k = 1) : lay (k + 1) = 2 := lay_dec (by decide +kernel) rfl h
theorem ly1_2 {k : Nat} (h : lay k = 1) : lay (k + 2) = 20 := lay_dec (by decide +kernel) rfl h
theorem ly1_3 {k : Nat} (h : lay k = 1) : lay (k + 3) = 20 := lay_dec (by decide +kernel) rfl h
theorem ly1_4 {k : Nat} (h : lay k = 1) : lay (k + 4) = 3 := lay_dec (by decide +kernel) rfl h
theorem ly1_5 {k : Nat} (h : lay k = 1) : lay (k + 5) = 21 := lay_dec (by decide +kernel) rfl h
theorem ly1_6 {k : Nat} (h : lay k = 1) : lay (k + 6) = 4 := lay_dec (by decide +kernel) rfl h
theorem ly1_7 {k : Nat} (h : lay k = 1) : lay (k + 7) = 22 := lay_dec (by decide +kernel) rfl h
theorem ly1_8 {k : Nat} (h : lay k = 1) : lay (k + 8) = 22 := lay_dec (by decide +kernel) rfl h
theorem ly1_9 {k : Nat} (h : lay k = 1) : lay (k + 9) = 22 := lay_dec (by decide +kernel) rfl h
theorem ly2_1 {k : Nat} (h : lay k = 2) : lay (k + 1) = 20 := lay_dec (by decide +kernel) rfl h
theorem ly2_2 {k : Nat} (h : lay k = 2) : lay (k + 2) = 20 := lay_dec (by decide +kernel) rfl h
theorem ly3_1 {k : Nat} (h : lay k = 3) : lay (k + 1) = 21 := lay_dec (by decide +kernel) rfl h
theorem ly4_1 {k : Nat} (h : lay k = 4) : lay (k + 1) = 22 := lay_dec (by decide +kernel) rfl h
theorem ly4_2 {k : Nat} (h : lay k = 4) : lay (k + 2) = 22 := lay_dec (by decide +kernel) rfl h
theorem ly4_3 {k : Nat} (h : lay k = 4) : lay (k + 3) = 22 := lay_dec (by decide +kernel) rfl h
theorem ly5_1 {k : Nat} (h : lay k = 5) : lay (k + 1) = 30 := lay_dec (by decide +kernel) rfl h
theorem ly6_1 {k : Nat} (h : lay k = 6) : lay (k + 1) = 23 := lay_dec (by decide +kernel) rfl h
theorem ly7_1 {k : Nat} (h : lay k = 7) : lay (k + 1) = 24 := lay_dec (by decide +kernel) rfl h
theorem ly8_1 {k : Nat} (h : lay k = 8) : lay (k + 1) = 25 := lay_dec (by decide +kernel) rfl h
theorem akI_20 {k : Nat} (h : lay k = 20) : ak k = 1 := by unfold ak; rw [h]; rfl
theorem al_20 {k : Nat} (h : lay k = 20) : alen k = 12 := by unfold alen; rw [h]; rfl
theorem akI_21 {k : Nat} (h : lay k = 21) : ak k = 1 := by unfold ak; rw [h]; rfl
theorem al_21 {k : Nat} (h : lay k = 21) : alen k = 10 := by unfold alen; rw [h]; rfl
theorem akI_22 {k : Nat} (h : lay k = 22) : ak k = 1 := by unfold ak; rw [h]; rfl
theorem al_22 {k : Nat} (h : lay k = 22) : alen k = 8 := by unfold alen; rw [h]; rfl
theorem akI_23 {k : Nat} (h : lay k = 23) : ak k = 1 := by unfold ak; rw [h]; rfl
theorem al_23 {k : Nat} (h : lay k = 23) : alen k = 144 := by unfold alen; rw [h]; rfl
theorem akC_24 {k : Nat} (h : lay k = 24) : ak k = 2 := by unfold ak; rw [h]; rfl
theorem al_24 {k : Nat} (h : lay k = 24) : alen k = 60 := by unfold alen; rw [h]; rfl
theorem akC_25 {k : Nat} (h : lay k = 25) : ak k = 2 := by unfold ak; rw [h]; rfl
theorem al_25 {k : Nat} (h : lay k = 25) : alen k = 64 := by unfold alen; rw [h]; rfl
theorem akI_26 {k : Nat} (h : lay k = 26) : ak k = 1 := by unfold ak; rw [h]; rfl
theorem al_26 {k : Nat} (h : lay k = 26) : alen k = 216 := by unfold alen; rw [h]; rfl
theorem akI_27 {k : Nat} (h : lay k = 27) : ak k = 1 := by unfold ak; rw [h]; rfl
theorem al_27 {k : Nat} (h : lay k = 27) : alen k = 1728 := by unfold alen; rw [h]; rfl
theorem akC_28 {k : Nat} (h : lay k = 28) : ak k = 2 := by unfold ak; rw [h]; rfl
theorem al_28 {k : Nat} (h : lay k = 28) : alen k = 80 := by unfold alen; rw [h]; rfl
theorem akI_29 {k : Nat} (h : lay k = 29) : ak k = 1 := by unfold ak; rw [h]; rfl
theorem al_29 {k : Nat} (h : lay k = 29) : alen k = 2 := by unfold alen; rw [h]; rfl
theorem icm1 : Int32.ofInt (-1) = -1 := by decide
theorem ic0 : Int32.ofInt (0) = 0 := by decide
theorem ic1 : Int32.ofInt (1) = 1 := by decide
theorem ic2 : Int32.ofInt (2) = 2 := by decide
theorem ic3 : Int32.ofInt (3) = 3 := by decide
theorem ic4 : Int32.ofInt (4) = 4 := by decide
theorem ic5 : Int32.ofInt (5) = 5 := by decide
theorem bpm5 : (Int8.ofInt (-5)).toInt32 = -5 := by decide
theorem bpm4 : (Int8.ofInt (-4)).toInt32 = -4 := by decide
theorem bpm3 : (Int8.ofInt (-3)).toInt32 = -3 := by decide
theorem bpm2 : (Int8.ofInt (-2)).toInt32 = -2 := by decide
theorem bpm1 : (Int8.ofInt (-1)).toInt32 = -1 := by decide
theorem bp0 : (Int8.ofInt (0)).toInt32 = 0 := by decide
theorem bp1 : (Int8.ofInt (1)).toInt32 = 1 := by decide
theorem bp2 : (Int8.ofInt (2)).toInt32 = 2 := by decide
theorem bp3 : (Int8.ofInt (3)).toInt32 = 3 := by decide
theorem bp4 : (Int8.ofInt (4)).toInt32 = 4 := by decide
theorem bp5 : (Int8.ofInt (5)).toInt32 = 5 := by decide
theorem bp6 : (Int8.ofInt (6)).toInt32 = 6 := by decide
theorem bp7 : (Int8.ofInt (7)).toInt32 = 7 := by decide
theorem bp8 : (Int8.ofInt (8)).toInt32 = 8 := by decide
theorem bp9 : (Int8.ofInt (9)).toInt32 = 9 := by decide
theorem bp10 : (Int8.ofInt (10)).toInt32 = 10 := by decide
theorem bp11 : (Int8.ofInt (11)).toInt32 = 11 := by decide
theorem bp12 : (Int8.ofInt (12)).toInt32 = 12 := by decide
theorem bp13 : (Int8.ofInt (13)).toInt32 = 13 := by decide
theorem bp14 : (Int8.ofInt (14)).toInt32 = 14 := by decide
theorem bp15 : (Int8.ofInt (15)).toInt32 = 15 := by decide
theorem bp16 : (Int8.ofInt (16)).toInt32 = 16 := by decide
theorem bp17 : (Int8.ofInt (17)).toInt32 = 17 := by decide
theorem bp18 : (Int8.ofInt (18)).toInt32 = 18 := by decide
theorem bp19 : (Int8.ofInt (19)).toInt32 = 19 := by decide
theorem bp20 : (Int8.ofInt (20)).toInt32 = 20 := by decide
theorem bp21 : (Int8.ofInt (21)).toInt32 = 21 := by decide
theorem bp22 : (Int8.ofInt (22)).toInt32 = 22 := by decide
theorem bp23 : (Int8.ofInt (23)).toInt32 = 23 := by decide
theorem bp24 : (Int8.ofInt (24)).toInt32 = 24 := by decide
theorem bp25 : (Int8.ofInt (25)).toInt32 = 25 := by decide
theorem bp26 : (Int8.ofInt (26)).toInt32 = 26 := by decide
theorem bp27 : (Int8.ofInt (27)).toInt32 = 27 := by decide
theorem bp28 : (Int8.ofInt (28)).toInt32 = 28 := by decide
theorem bp29 : (Int8.ofInt (29)).toInt32 = 29 := by decide
theorem bp30 : (Int8.ofInt (30)).toInt32 = 30 := by decide
theorem bp31 : (Int8.ofInt (31)).toInt32 = 31 := by decide
theorem bp32 : (Int8.ofInt (32)).toInt32 = 32 := by decide
theorem bp33 : (Int8.ofInt (33)).toInt32 = 33 := by decide
theorem bp34 : (Int8.ofInt (34)).toInt32 = 34 := by decide
theorem bp35 : (Int8.ofInt (35)).toInt32 = 35 := by decide
theorem bp36 : (Int8.ofInt (36)).toInt32 = 36 := by decide
theorem bp37 : (Int8.ofInt (37)).toInt32 = 37 := by decide
theorem bp38 : (Int8.ofInt (38)).toInt32 = 38 := by decide
theorem bp39 : (Int8.ofInt (39)).toInt32 = 39 := by decide
theorem bp40 : (Int8.ofInt (40)).toInt32 = 40 := by decide
theorem bp41 : (Int8.ofInt (41)).toInt32 = 41 := by decide
theorem bp42 : (Int8.ofInt (42)).toInt32 = 42 := by decide
theorem bp43 : (Int8.ofInt (43)).toInt32 = 43 := by decide
theorem bp44 : (Int8.ofInt (44)).toInt32 = 44 := by decide
theorem bp45 : (Int8.ofInt (45)).toInt32 = 45 := by decide
theorem bp46 : (Int8.ofInt (46)).toInt32 = 46 := by decide
theorem bp47 : (Int8.ofInt (47)).toInt32 = 47 := by decide
theorem bp48 : (Int8.ofInt (48)).toInt32 = 48 := by decide
theorem bp49 : (Int8.ofInt (49)).toInt32 = 49 := by decide
theorem bp50 : (Int8.ofInt (50)).toInt32 = 50 := by decide
theorem bp51 : (Int8.ofInt (51)).toInt32 = 51 := by decide
theorem bp52 : (Int8.ofInt (52)).toInt32 = 52 := by decide
theorem bp53 : (Int8.ofInt (53)).toInt32 = 53 := by decide
theorem bp54 : (Int8.ofInt (54)).toInt32 = 54 := by decide
theorem bp55 : (Int8.ofInt (55)).toInt32 = 55 := by decide
theorem bp56 : (Int8.ofInt (56)).toInt32 = 56 := by decide
theorem bp57 : (Int8.ofInt (57)).toInt32 = 57 := by decide
theorem bp58 : (Int8.ofInt (58)).toInt32 = 58 := by decide
theorem bp59 : (Int8.ofInt (59)).toInt32 = 59 := by decide
theorem bp60 : (Int8.ofInt (60)).toInt32 = 60 := by decide
theorem bp61 : (Int8.ofInt (61)).toInt32 = 61 := by decide
theorem bp62 : (Int8.ofInt (62)).toInt32 = 62 := by decide
theorem bp63 : (Int8.ofInt (63)).toInt32 = 63 := by decide
theorem bp64 : (Int8.ofInt (64)).toInt32 = 64 := by decide
theorem bp65 : (Int8.ofInt (65)).toInt32 = 65 := by decide
theorem bp66 : (Int8.ofInt (66)).toInt32 = 66 := by decide
theorem bp67 : (Int8.ofInt (67)).toInt32 = 67 := by decide
theorem bp68 : (Int8.ofInt (68)).toInt32 = 68 := by decide
theorem bp69 : (Int8.ofInt (69)).toInt32 = 69 := by decide
theorem bp70 : (Int8.ofInt (70)).toInt32 = 70 := by decide
theorem bp71 : (Int8.ofInt (71)).toInt32 = 71 := by decide
theorem bp72 : (Int8.ofInt (72)).toInt32 = 72 := by decide
theorem bp73 : (Int8.ofInt (73)).toInt32 = 73 := by decide
theorem bp74 : (Int8.ofInt (74)).toInt32 = 74 := by decide
theorem bp75 : (Int8.ofInt (75)).toInt32 = 75 := by decide
theorem bp76 : (Int8.ofInt (76)).toInt32 = 76 := by decide
theorem bp77 : (Int8.ofInt (77)).toInt32 = 77 := by decide
theorem bp78 : (Int8.ofInt (78)).toInt32 = 78 := by decide
theorem bp79 : (Int8.ofInt (79)).toInt32 = 79 := by decide
theorem bp80 : (Int8.ofInt (80)).toInt32 = 80 := by decide
theorem bp81 : (Int8.ofInt (81)).toInt32 = 81 := by decide
theorem bp82 : (Int8.ofInt (82)).toInt32 = 82 := by decide
theorem bp83 : (Int8.ofInt (83)).toInt32 = 83 := by decide
theorem bp84 : (Int8.ofInt (84)).toInt32 = 84 := by decide
theorem bp85 : (Int8.ofInt (85)).toInt32 = 85 := by decide
theorem bp86 : (Int8.ofInt (86)).toInt32 = 86 := by decide
theorem bp87 : (Int8.ofInt (87)).toInt32 = 87 := by decide
theorem bp88 : (Int8.ofInt (88)).toInt32 = 88 := by decide
theorem bp89 : (Int8.ofInt (89)).toInt32 = 89 := by decide
theorem bp90 : (Int8.ofInt (90)).toInt32 = 90 := by decide
theorem bp91 : (Int8.ofInt (91)).toInt32 = 91 := by decide
theorem bp92 : (Int8.ofInt (92)).toInt32 = 92 := by decide
theorem bp93 : (Int8.ofInt (93)).toInt32 = 93 := by decide
theorem bp94 : (Int8.ofInt (94)).toInt32 = 94 := by decide
theorem bp95 : (Int8.ofInt (95)).toInt32 = 95 := by decide
theorem bp96 : (Int8.ofInt (96)).toInt32 = 96 := by decide
theorem bp97 : (Int8.ofInt (97)).toInt32 = 97 := by decide
theorem bp98 : (Int8.ofInt (98)).toInt32 = 98 := by decide
theorem bp99 : (Int8.ofInt (99)).toInt32 = 99 := by decide
theorem bp100 : (Int8.ofInt (100)).toInt32 = 100 := by decide
theorem bp101 : (Int8.ofInt (101)).toInt32 = 101 := by decide
theorem bp102 : (Int8.ofInt (102)).toInt32 = 102 := by decide
theorem bp103 : (Int8.ofInt (103)).toInt32 = 103 := by decide
theorem bp104 : (Int8.ofInt (104)).toInt32 = 104 := by decide
theorem bp105 : (Int8.ofInt (105)).toInt32 = 105 := by decide
theorem bp106 : (Int8.ofInt (106)).toInt32 = 106 := by decide
theorem bp107 : (Int8.ofInt (107)).toInt32 = 107 := by decide
theorem bp108 : (Int8.ofInt (108)).toInt32 = 108 := by decide
theorem bp109 : (Int8.ofInt (109)).toInt32 = 109 := by decide
theorem bp110 : (Int8.ofInt (110)).toInt32 = 110 := by decide
theorem bp111 : (Int8.ofInt (111)).toInt32 = 111 := by decide
theorem bp112 : (Int8.ofInt (112)).toInt32 = 112 := by decide
theorem bp113 : (Int8.ofInt (113)).toInt32 = 113 := by decide
theorem bp114 : (Int8.ofInt (114)).toInt32 = 114 := by decide
theorem bp115 : (Int8.ofInt (115)).toInt32 = 115 := by decide
theorem bp116 : (Int8.ofInt (116)).toInt32 = 116 := by decide
theorem bp117 : (Int8.ofInt (117)).toInt32 = 117 := by decide
theorem bp118 : (Int8.ofInt (118)).toInt32 = 118 := by decide
theorem bp119 : (Int8.ofInt (119)).toInt32 = 119 := by decide
theorem bp120 : (Int8.ofInt (120)).toInt32 = 120 := by decide
theorem bp121 : (Int8.ofInt (121)).toInt32 = 121 := by decide
theorem bp122 : (Int8.ofInt (122)).toInt32 = 122 := by decide
theorem bp123 : (Int8.ofInt (123)).toInt32 = 123 := by decide
theorem bp124 : (Int8.ofInt (124)).toInt32 = 124 := by decide
theorem bp125 : (Int8.ofInt (125)).toInt32 = 125 := by decide
theorem bp126 : (Int8.ofInt (126)).toInt32 = 126 := by decide
theorem bp127 : (Int8.ofInt (127)).toInt32 = 127 := by decide
theorem sp128 : (Int16.ofInt 128).toInt32 = 128 := by decide
theorem sp144 : (Int16.ofInt 144).toInt32 = 144 := by decide
theorem sp182 : (Int16.ofInt 182).toInt32 = 182 := by decide
theorem sp192 : (Int16.ofInt 192).toInt32 = 192 := by decide
theorem sp216 : (Int16.ofInt 216).toInt32 = 216 := by decide
theorem sp255 : (Int16.ofInt 255).toInt32 = 255 := by decide
theorem sp512 : (Int16.ofInt 512).toInt32 = 512 := by decide
theorem sp1000 : (Int16.ofInt 1000).toInt32 = 1000 := by decide
theorem sp1023 : (Int16.ofInt 1023).toInt32 = 1023 := by decide
theorem sp1024 : (Int16.ofInt 1024).toInt32 = 1024 := by decide
theorem sp1728 : (Int16.ofInt 1728).toInt32 = 1728 := by decide
theorem sp99 : (Int16.ofInt 99).toInt32 = 99 := by decide
theorem sp109 : (Int16.ofInt 109).toInt32 = 109 := by decide
theorem pnX1 : plainName RX1 = true := by decide
theorem pnX2 : plainName RX2 = true := by decide
theorem pnX3 : plainName RX3 = true := by decide
theorem pnX4 : plainName RX4 = true := by decide
theorem pnX5 : plainName RX5 = true := by decide
theorem pnX6 : plainName RX6 = true := by decide
theorem pnX8 : plainName RX8 = true := by decide
theorem pnX9 : plainName RX9 = true := by decide
theorem pnX11 : plainName RX11 = true := by decide
theorem pnX12 : plainName RX12 = true := by decide
theorem nar_c (v : Int32) : narrow .char (.int v) = .int (vp_nar .char v) := rfl
section
variable {G : GG} {κ : KK} {cc : ByteArray} {own : String} {ret : Option FieldType} {nL cells slots : Nat} {rm : Room} {M : Mem} {L : List (Nat × Value)} {st rest : List Value} {pc : Nat}
theorem V_ialdJ (pc : Nat) (C : Cx G κ cc own ret nL rm) {k : Nat} {i : Int32} (d : decode cc pc = .ok (.iaload, 1)) (ha : ak k = 1) {n : Nat} (hal : alen k = n) (hi : inb i n = true) {j : Nat} (hj : i.toNatClampNeg = j) (kk : V G κ nL cells slots M (pc + 1) L (.int (M k j) :: st)) : V G κ nL cells slots M pc L (.int i :: .ref (gad G k) :: st) := by
  subst hj
  exact V_iald pc C d ha hal hi kk
theorem V_caldJ (pc : Nat) (C : Cx G κ cc own ret nL rm) {k : Nat} {i : Int32} (d : decode cc pc = .ok (.caload, 1)) (ha : ak k = 2) {n : Nat} (hal : alen k = n) (hi : inb i n = true) {j : Nat} (hj : i.toNatClampNeg = j) (kk : V G κ nL cells slots M (pc + 1) L (.int (M k j) :: st)) : V G κ nL cells slots M pc L (.int i :: .ref (gad G k) :: st) := by
  subst hj
  exact V_cald pc C d ha hal hi kk
theorem V_iastJ (pc : Nat) (C : Cx G κ cc own ret nL rm) {k : Nat} {i x : Int32} (d : decode cc pc = .ok (.iastore, 1)) (ha : ak k = 1) {n : Nat} (hal : alen k = n) (hi : inb i n = true) {j : Nat} (hj : i.toNatClampNeg = j) (kk : V G κ nL cells slots (up2 M k j x) (pc + 1) L st) : V G κ nL cells slots M pc L (.int x :: .int i :: .ref (gad G k) :: st) := by
  subst hj
  exact V_iast pc C d ha hal hi kk
theorem V_castJ (pc : Nat) (C : Cx G κ cc own ret nL rm) {k : Nat} {i x : Int32} (d : decode cc pc = .ok (.castore, 1)) (ha : ak k = 2) {n : Nat} (hal : alen k = n) (hi : inb i n = true) {j : Nat} (hj : i.toNatClampNeg = j) (kk : V G κ nL cells slots (up2 M k j (vp_nar .char x)) (pc + 1) L st) : V G κ nL cells slots M pc L (.int x :: .int i :: .ref (gad G k) :: st) := by
  subst hj
  exact V_cast pc C d ha hal hi kk
theorem V_top {x v : Int32} (e : x = v) (k : V G κ nL cells slots M pc L (.int x :: st)) : V G κ nL cells slots M pc L (.int v :: st) := e ▸ k
theorem V_eqM {M1 M2 : Mem} (e : M1 = M2) (k : V G κ nL cells slots M1 pc L st) : V G κ nL cells slots M2 pc L st := e ▸ k
theorem V_ireth (pc : Nat) (C : Cx G κ cc own (some .int) nL rm) {v r : Int32} {M' : Mem} (hQ : HQ G κ (QI G r M') 0 0) (h : some (v, M) = some (r, M')) (d : decode cc pc = .ok (.ireturn, 1)) : V G κ nL 0 0 M pc L [.int v] := by
  cases h
  exact V_iret pc C hQ d
theorem V_zreth (pc : Nat) (C : Cx G κ cc own (some .boolean) nL rm) {v r : Bool} {M' : Mem} (hQ : HQ G κ (QI G (b2i r) M') 0 0) (h : some (v, M) = some (r, M')) (d : decode cc pc = .ok (.ireturn, 1)) : V G κ nL 0 0 M pc L [.int (b2i v)] := by
  cases h
  exact V_zret pc C hQ d
theorem V_creth (pc : Nat) (C : Cx G κ cc own (some .char) nL rm) {v r : Int32} {M' : Mem} (hQ : HQ G κ (QI G r M') 0 0) (h : some (v, M) = some (r, M')) (d : decode cc pc = .ok (.ireturn, 1)) (hn : nrc v = true) : V G κ nL 0 0 M pc L [.int v] := by
  cases h
  obtain ⟨p, l, e, R, s, m, args, below, meth, c, Q⟩ := κ
  intro H locs ls hl hP hS
  rw [show Q = _ from hQ]
  have h2 : vp_nar .char v = v := of_decide_eq_true hn
  exact W.zret (ty := .char) C.1 C.2.1 C.2.2.1 (by rw [nar_c, h2]) (fun t ht hW => ⟨⟨v, (), rfl, rfl, by subst ht; exact hP⟩, hS.F ht⟩) hS.2.2 d C.2.2.2.2.2.1
theorem V_vreth (pc : Nat) (C : Cx G κ cc own none nL rm) {M' : Mem} (hQ : HQ G κ (QV G M') 0 0) (h : some M = some M') (d : decode cc pc = .ok (.return_, 1)) : V G κ nL 0 0 M pc L [] := by
  cases h
  exact V_vret pc C hQ d
theorem V_areth (pc : Nat) (C : Cx G κ cc own ret nL rm) {n : String} (hret : ret = some (.object n)) {v r : Nat} {M' : Mem} (hQ : HQ G κ (QR G (gr G r) M') 0 0) (h : some (v, M) = some (r, M')) (d : decode cc pc = .ok (.areturn, 1)) : V G κ nL 0 0 M pc L [.ref (gr G v)] := by
  cases h
  exact V_aret pc C hret hQ d
theorem V_L {L1 : List (Nat × Value)} (e : L = L1) (k : V G κ nL cells slots M pc L1 st) : V G κ nL cells slots M pc L st := e ▸ k
end
