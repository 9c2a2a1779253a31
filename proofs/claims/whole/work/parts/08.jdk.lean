theorem wk_2_218 : (Jvm.Cond.sameMethod "LarderPatrol$Verb" "java/lang/Enum" "ordinal" "()I") ∈ lw_tbl := tm2 218 (by decide +kernel)
theorem wk_3_143 : (Jvm.Cond.sameMethod "LarderPatrol$Refusal" "java/lang/Enum" "ordinal" "()I") ∈ lw_tbl := tm3 143 (by decide +kernel)
theorem wk_2_220 : (Jvm.Cond.selects "LarderPatrol$Verb" ({ cls := "LarderPatrol$Verb", name := "ordinal", desc := "()I" } : Jvm.MethodName) ({ cls := "java/lang/Enum", name := "ordinal", desc := "()I" } : Jvm.MethodName)) ∈ lw_tbl := tm2 220 (by decide +kernel)
theorem wk_3_144 : (Jvm.Cond.selects "LarderPatrol$Refusal" ({ cls := "LarderPatrol$Refusal", name := "ordinal", desc := "()I" } : Jvm.MethodName) ({ cls := "java/lang/Enum", name := "ordinal", desc := "()I" } : Jvm.MethodName)) ∈ lw_tbl := tm3 144 (by decide +kernel)
theorem wk_2_221 : (Jvm.Cond.instanceMethod ({ cls := "java/lang/Enum", name := "ordinal", desc := "()I" } : Jvm.MethodName)) ∈ lw_tbl := tm2 221 (by decide +kernel)
theorem wk_2_219 : (Jvm.Cond.declares ({ cls := "java/lang/Enum", name := "ordinal", desc := "()I" } : Jvm.MethodName)) ∈ lw_tbl := tm2 219 (by decide +kernel)
theorem wk_1_9 : (Jvm.Cond.initialized "java/lang/Enum") ∈ lw_tbl := tm1 9 (by decide +kernel)
theorem wk_2_222 : (Jvm.Cond.code ({ cls := "java/lang/Enum", name := "ordinal", desc := "()I" } : Jvm.MethodName) prog_20_method_2_code (1 : Nat) (Option.some Jvm.ClassFile.FieldType.int)) ∈ lw_tbl := tm2 222 (by decide +kernel)
theorem wk_1_22 : (Jvm.Cond.initialized "java/lang/System") ∈ lw_tbl := tm1 22 (by decide +kernel)
theorem wk_2_186 : (Jvm.Cond.native ({ cls := "java/lang/System", name := "arraycopy", desc := "(Ljava/lang/Object;ILjava/lang/Object;II)V" } : Jvm.MethodName)) ∈ lw_tbl := tm2 186 (by decide +kernel)
theorem wk_2_185 : (Jvm.Cond.static ({ cls := "java/lang/System", name := "arraycopy", desc := "(Ljava/lang/Object;ILjava/lang/Object;II)V" } : Jvm.MethodName)) ∈ lw_tbl := tm2 185 (by decide +kernel)
theorem wk_3_203 : (Jvm.Cond.constant "java/lang/Integer" (265 : Nat) (1431655765 : Int32)) ∈ lw_tbl := tm3 203 (by decide +kernel)
theorem wk_3_204 : (Jvm.Cond.constant "java/lang/Integer" (266 : Nat) (858993459 : Int32)) ∈ lw_tbl := tm3 204 (by decide +kernel)
theorem wk_3_205 : (Jvm.Cond.constant "java/lang/Integer" (267 : Nat) (252645135 : Int32)) ∈ lw_tbl := tm3 205 (by decide +kernel)
theorem pnE : plainName "java/lang/Enum" = true := by decide
theorem pnS : plainName "java/lang/String" = true := by decide
theorem pnL1 : plainName "java/lang/StringLatin1" = true := by decide
theorem pnPc : plainName "jdk/internal/util/Preconditions" = true := by decide
theorem pnI : plainName "java/lang/Integer" = true := by decide
def jr0 : Room := { frames := 0, cells := 0, slots := 0, locals := 0 }
def jr1 : Room := { frames := 1, cells := 0, slots := 0, locals := 22 }
def jr2 : Room := { frames := 2, cells := 0, slots := 0, locals := 43 }
def jr3 : Room := { frames := 3, cells := 0, slots := 0, locals := 64 }
def ordv (v : Nat) : Int32 := ([0, 1, 2, 3, 4, 5, 6, 7, 8, 9, 10] : List Int32).getD v 0
def ordr (v : Nat) : Int32 := ([0, 1, 2, 3, 4, 5, 6, 7] : List Int32).getD v 0
section
variable {G : GG} {κ : KK} {cc : ByteArray} {own : String} {ret : Option FieldType} {nL cells slots : Nat} {rm : Room} {M : Mem} {L : List (Nat × Value)} {st rest : List Value}
theorem V_ordfv (pc : Nat) (C : Cx G κ cc own ret nL rm) {idx v : Nat} (d : decode cc pc = .ok (.getfield idx, 3)) (hw : Cond.fieldLink own idx "java/lang/Enum" "ordinal" "I" ∈ lw_tbl) (hv : v < 11) (k : V G κ nL cells slots M (pc + 3) L (.int (ordv v) :: st)) : V G κ nL cells slots M pc L (.ref (gv G v) :: st) := by
  obtain ⟨p, l, e, R, s, m, args, below, meth, c, Q⟩ := κ
  intro H locs ls hl hP hS
  obtain ⟨cf, kc, fi, f, cell, h1, h2, h3, h4, h5, h6⟩ := ((((cxS C).1.1 v hv).2.2) _ List.mem_cons_self).kept hS.2.1
  exact W.getf C.1 C.2.1 C.2.2.2.2.1 (wd C hw rfl) h1 h2 h3 h4 (v := .int (ordv v)) h5 rfl rfl d (k H locs ls hl hP hS)
theorem kordv {G : GG} {l : Launch} {v : Nat} (hv : v < 11) {M : Mem} : Con G l yJx29ce0_ordinal_8abf5 cJx29ce0_ordinal_8abf5 1 (some .int) jr0 [.ref (gv G v)] M (QI G (ordv v) M) := by
  refine con_of pnE (Nat.le_of_ble_eq_true rfl) (fun κ C hQ => ?_)
  refine V_L (L1 := [(0, .ref (gv G v))]) rfl ?_
  refine V_aload_n 0 C 0 dJx29ce0_ordinal_8abf5_0 rfl ?_
  refine V_ordfv 1 C dJx29ce0_ordinal_8abf5_1 wk_8_197 hv ?_
  exact V_iret 4 C hQ dJx29ce0_ordinal_8abf5_4
theorem V_ordv (pc : Nat) (C : Cx G κ cc own ret nL rm) {idx : Nat} (d : decode cc pc = .ok (.invokevirtual idx, 3)) (v : Nat) (hv : Nat.blt v 11 = true) (hlk : Cond.methodLink own idx ⟨"LarderPatrol$Verb", "ordinal", "()I"⟩ ∈ lw_tbl) (hR : rmOk jr0 rm 1 = true) (hcat : Nat.ble (st.map fun v => v.category).sum 8 = true) (k : V G κ nL 0 0 M (pc + 3) L (.int (ordv v) :: st)) : V G κ nL 0 0 M pc L (.ref (gv G v) :: st) := by
  refine V_callI pc (r := ordv v) (M1 := M) (a := (Value.ref (gv G v) :: []).toArray) (rest := st) ?_ k
  obtain ⟨p, l, e, R, s, m, args, below, meth, c, Q⟩ := κ
  intro H locs ls hl hP hS
  obtain ⟨hx, hb, -, hml, hown, -, hRm, hWS⟩ := id C
  subst hRm
  obtain ⟨hR1, hR2, hR3⟩ := rmOk_of hR
  have hv : v < 11 := Nat.le_of_ble_eq_true hv
  have hts : ∀ w ∈ va_wsU own idx "LarderPatrol$Verb" "java/lang/Enum" ⟨"LarderPatrol$Verb", "ordinal", "()I"⟩ yJx29ce0_ordinal_8abf5 [Cond.code yJx29ce0_ordinal_8abf5 cJx29ce0_ordinal_8abf5 1 (some .int)], w.before args s = true := by
    intro w hw
    simp only [va_wsU, List.cons_append, List.nil_append, List.mem_cons, List.not_mem_nil, or_false] at hw
    rcases hw with rfl | rfl | rfl | rfl | rfl | rfl
    · exact wd C hlk rfl
    · exact wd C wk_2_218 rfl
    · exact wd C wk_2_220 rfl
    · exact wd C wk_2_221 rfl
    · exact wd C wk_1_9 rfl
    · exact wd C wk_2_222 rfl
  have hG : GoodIn (va_wsU own idx "LarderPatrol$Verb" "java/lang/Enum" ⟨"LarderPatrol$Verb", "ordinal", "()I"⟩ yJx29ce0_ordinal_8abf5 [Cond.code yJx29ce0_ordinal_8abf5 cJx29ce0_ordinal_8abf5 1 (some .int)]) (va_wsU own idx "LarderPatrol$Verb" "java/lang/Enum" ⟨"LarderPatrol$Verb", "ordinal", "()I"⟩ yJx29ce0_ordinal_8abf5 [Cond.code yJx29ce0_ordinal_8abf5 cJx29ce0_ordinal_8abf5 1 (some .int)]) := by
    intro w hw
    refine ⟨hw, ?_⟩
    simp only [va_wsU, List.cons_append, List.nil_append, List.mem_cons, List.not_mem_nil, or_false] at hw
    rcases hw with rfl | rfl | rfl | rfl | rfl | rfl <;> exact Or.inl rfl
  exact va_runU ⟨hx, hb, hml, hown, hts⟩ (kordv hv) (va_cwU 0 hts hG rfl hR2 hR3 rfl (by decide +kernel) hR1) ⟨WP_blind, va_recvE ((cxS C).1) hv hS, fun U hU hW => ⟨rfl, hWS.to hS hU hW, by rw [hU]; exact hP⟩⟩ rfl rfl hl.1 rfl (lv_room (Nat.le_of_ble_eq_true hcat)) d ⟨Nat.zero_le _, Nat.zero_le _⟩
theorem V_ordfr (pc : Nat) (C : Cx G κ cc own ret nL rm) {idx v : Nat} (d : decode cc pc = .ok (.getfield idx, 3)) (hw : Cond.fieldLink own idx "java/lang/Enum" "ordinal" "I" ∈ lw_tbl) (hv : v < 8) (k : V G κ nL cells slots M (pc + 3) L (.int (ordr v) :: st)) : V G κ nL cells slots M pc L (.ref (gr G v) :: st) := by
  obtain ⟨p, l, e, R, s, m, args, below, meth, c, Q⟩ := κ
  intro H locs ls hl hP hS
  obtain ⟨cf, kc, fi, f, cell, h1, h2, h3, h4, h5, h6⟩ := ((((cxS C).2.1.1 v hv).2.2) _ List.mem_cons_self).kept hS.2.1
  exact W.getf C.1 C.2.1 C.2.2.2.2.1 (wd C hw rfl) h1 h2 h3 h4 (v := .int (ordr v)) h5 rfl rfl d (k H locs ls hl hP hS)
theorem kordr {G : GG} {l : Launch} {v : Nat} (hv : v < 8) {M : Mem} : Con G l yJx29ce0_ordinal_8abf5 cJx29ce0_ordinal_8abf5 1 (some .int) jr0 [.ref (gr G v)] M (QI G (ordr v) M) := by
  refine con_of pnE (Nat.le_of_ble_eq_true rfl) (fun κ C hQ => ?_)
  refine V_L (L1 := [(0, .ref (gr G v))]) rfl ?_
  refine V_aload_n 0 C 0 dJx29ce0_ordinal_8abf5_0 rfl ?_
  refine V_ordfr 1 C dJx29ce0_ordinal_8abf5_1 wk_8_197 hv ?_
  exact V_iret 4 C hQ dJx29ce0_ordinal_8abf5_4
theorem V_ordr (pc : Nat) (C : Cx G κ cc own ret nL rm) {idx : Nat} (d : decode cc pc = .ok (.invokevirtual idx, 3)) (v : Nat) (hv : Nat.blt v 8 = true) (hlk : Cond.methodLink own idx ⟨"LarderPatrol$Refusal", "ordinal", "()I"⟩ ∈ lw_tbl) (hR : rmOk jr0 rm 1 = true) (hcat : Nat.ble (st.map fun v => v.category).sum 8 = true) (k : V G κ nL 0 0 M (pc + 3) L (.int (ordr v) :: st)) : V G κ nL 0 0 M pc L (.ref (gr G v) :: st) := by
  refine V_callI pc (r := ordr v) (M1 := M) (a := (Value.ref (gr G v) :: []).toArray) (rest := st) ?_ k
  obtain ⟨p, l, e, R, s, m, args, below, meth, c, Q⟩ := κ
  intro H locs ls hl hP hS
  obtain ⟨hx, hb, -, hml, hown, -, hRm, hWS⟩ := id C
  subst hRm
  obtain ⟨hR1, hR2, hR3⟩ := rmOk_of hR
  have hv : v < 8 := Nat.le_of_ble_eq_true hv
  have hts : ∀ w ∈ va_wsU own idx "LarderPatrol$Refusal" "java/lang/Enum" ⟨"LarderPatrol$Refusal", "ordinal", "()I"⟩ yJx29ce0_ordinal_8abf5 [Cond.code yJx29ce0_ordinal_8abf5 cJx29ce0_ordinal_8abf5 1 (some .int)], w.before args s = true := by
    intro w hw
    simp only [va_wsU, List.cons_append, List.nil_append, List.mem_cons, List.not_mem_nil, or_false] at hw
    rcases hw with rfl | rfl | rfl | rfl | rfl | rfl
    · exact wd C hlk rfl
    · exact wd C wk_3_143 rfl
    · exact wd C wk_3_144 rfl
    · exact wd C wk_2_221 rfl
    · exact wd C wk_1_9 rfl
    · exact wd C wk_2_222 rfl
  have hG : GoodIn (va_wsU own idx "LarderPatrol$Refusal" "java/lang/Enum" ⟨"LarderPatrol$Refusal", "ordinal", "()I"⟩ yJx29ce0_ordinal_8abf5 [Cond.code yJx29ce0_ordinal_8abf5 cJx29ce0_ordinal_8abf5 1 (some .int)]) (va_wsU own idx "LarderPatrol$Refusal" "java/lang/Enum" ⟨"LarderPatrol$Refusal", "ordinal", "()I"⟩ yJx29ce0_ordinal_8abf5 [Cond.code yJx29ce0_ordinal_8abf5 cJx29ce0_ordinal_8abf5 1 (some .int)]) := by
    intro w hw
    refine ⟨hw, ?_⟩
    simp only [va_wsU, List.cons_append, List.nil_append, List.mem_cons, List.not_mem_nil, or_false] at hw
    rcases hw with rfl | rfl | rfl | rfl | rfl | rfl <;> exact Or.inl rfl
  exact va_runU ⟨hx, hb, hml, hown, hts⟩ (kordr hv) (va_cwU 0 hts hG rfl hR2 hR3 rfl (by decide +kernel) hR1) ⟨WP_blind, va_recvE ((cxS C).2.1) hv hS, fun U hU hW => ⟨rfl, hWS.to hS hU hW, by rw [hU]; exact hP⟩⟩ rfl rfl hl.1 rfl (lv_room (Nat.le_of_ble_eq_true hcat)) d ⟨Nat.zero_le _, Nat.zero_le _⟩
theorem V_iushr (pc : Nat) (C : Cx G κ cc own ret nL rm) {x y : Int32} (d : decode cc pc = .ok (.iushr, 1)) (k : V G κ nL cells slots M (pc + 1) L (.int ((x.toUInt32 >>> (y.toUInt32 &&& 31)).toInt32) :: st)) : V G κ nL cells slots M pc L (.int y :: .int x :: st) := by
  obtain ⟨p, l, e, R, s, m, args, below, meth, c, Q⟩ := κ
  intro H locs ls hl hP hS
  exact lv_iushr C.1 C.2.1 d rfl (k H locs ls hl hP hS)
theorem V_ldcw (pc : Nat) (C : Cx G κ cc own ret nL rm) {idx : Nat} {v : Int32} (d : decode cc pc = .ok (.ldc_w idx, 3)) (hw : Cond.constant own idx v ∈ lw_tbl) (k : V G κ nL cells slots M (pc + 3) L (.int v :: st)) : V G κ nL cells slots M pc L st := by
  obtain ⟨p, l, e, R, s, m, args, below, meth, c, Q⟩ := κ
  intro H locs ls hl hP hS
  exact lv_ldcw C.1 C.2.1 C.2.2.2.2.1 (wd C hw rfl) d (k H locs ls hl hP hS)
def ush (x y : Int32) : Int32 := (x.toUInt32 >>> (y.toUInt32 &&& 31)).toInt32
def bc1 (x : Int32) : Int32 := x - (ush x 1 &&& 1431655765)
def bc2 (x : Int32) : Int32 := (x &&& 858993459) + (ush x 2 &&& 858993459)
def bc3 (x : Int32) : Int32 := (x + ush x 4) &&& 252645135
def bc4 (x : Int32) : Int32 := x + ush x 8
def bc5 (x : Int32) : Int32 := x + ush x 16
def bcnt (x : Int32) : Int32 := bc5 (bc4 (bc3 (bc2 (bc1 x)))) &&& 63
theorem kbitc {G : GG} {l : Launch} {x : Int32} {M : Mem} : Con G l yJ6_bitCount_0f7a4 cJ6_bitCount_0f7a4 1 (some .int) jr0 [.int x] M (QI G (bcnt x) M) := by
  refine con_of pnI (Nat.le_of_ble_eq_true rfl) (fun κ C hQ => ?_)
  refine V_L (L1 := [(0, .int x)]) rfl ?_
  refine V_iload_n 0 C 0 dJ6_bitCount_0f7a4_0 rfl ?_
  refine V_iload_n 1 C 0 dJ6_bitCount_0f7a4_1 rfl ?_
  refine V_iconst 2 C dJ6_bitCount_0f7a4_2 ic1 ?_
  refine V_iushr 3 C dJ6_bitCount_0f7a4_3 ?_
  refine V_ldcw 4 C dJ6_bitCount_0f7a4_4 wk_3_203 ?_
  refine V_iand 7 C dJ6_bitCount_0f7a4_7 ?_
  refine V_isub 8 C dJ6_bitCount_0f7a4_8 ?_
  obtain ⟨x1, ex1⟩ : ∃ z : Int32, z = bc1 x := ⟨_, rfl⟩
  refine V_top (x := x1) ex1 ?_
  refine V_istore_n 9 C [(0, .int x1)] dJ6_bitCount_0f7a4_9 rfl rfl rfl ?_
  refine V_iload_n 10 C 0 dJ6_bitCount_0f7a4_10 rfl ?_
  refine V_ldcw 11 C dJ6_bitCount_0f7a4_11 wk_3_204 ?_
  refine V_iand 14 C dJ6_bitCount_0f7a4_14 ?_
  refine V_iload_n 15 C 0 dJ6_bitCount_0f7a4_15 rfl ?_
  refine V_iconst 16 C dJ6_bitCount_0f7a4_16 ic2 ?_
  refine V_iushr 17 C dJ6_bitCount_0f7a4_17 ?_
  refine V_ldcw 18 C dJ6_bitCount_0f7a4_18 wk_3_204 ?_
  refine V_iand 21 C dJ6_bitCount_0f7a4_21 ?_
  refine V_iadd 22 C dJ6_bitCount_0f7a4_22 ?_
  obtain ⟨x2, ex2⟩ : ∃ z : Int32, z = bc2 x1 := ⟨_, rfl⟩
  refine V_top (x := x2) ex2 ?_
  refine V_istore_n 23 C [(0, .int x2)] dJ6_bitCount_0f7a4_23 rfl rfl rfl ?_
  refine V_iload_n 24 C 0 dJ6_bitCount_0f7a4_24 rfl ?_
  refine V_iload_n 25 C 0 dJ6_bitCount_0f7a4_25 rfl ?_
  refine V_iconst 26 C dJ6_bitCount_0f7a4_26 ic4 ?_
  refine V_iushr 27 C dJ6_bitCount_0f7a4_27 ?_
  refine V_iadd 28 C dJ6_bitCount_0f7a4_28 ?_
  refine V_ldcw 29 C dJ6_bitCount_0f7a4_29 wk_3_205 ?_
  refine V_iand 32 C dJ6_bitCount_0f7a4_32 ?_
  obtain ⟨x3, ex3⟩ : ∃ z : Int32, z = bc3 x2 := ⟨_, rfl⟩
  refine V_top (x := x3) ex3 ?_
  refine V_istore_n 33 C [(0, .int x3)] dJ6_bitCount_0f7a4_33 rfl rfl rfl ?_
  refine V_iload_n 34 C 0 dJ6_bitCount_0f7a4_34 rfl ?_
  refine V_iload_n 35 C 0 dJ6_bitCount_0f7a4_35 rfl ?_
  refine V_bipush 36 C dJ6_bitCount_0f7a4_36 bp8 ?_
  refine V_iushr 38 C dJ6_bitCount_0f7a4_38 ?_
  refine V_iadd 39 C dJ6_bitCount_0f7a4_39 ?_
  obtain ⟨x4, ex4⟩ : ∃ z : Int32, z = bc4 x3 := ⟨_, rfl⟩
  refine V_top (x := x4) ex4 ?_
  refine V_istore_n 40 C [(0, .int x4)] dJ6_bitCount_0f7a4_40 rfl rfl rfl ?_
  refine V_iload_n 41 C 0 dJ6_bitCount_0f7a4_41 rfl ?_
  refine V_iload_n 42 C 0 dJ6_bitCount_0f7a4_42 rfl ?_
  refine V_bipush 43 C dJ6_bitCount_0f7a4_43 bp16 ?_
  refine V_iushr 45 C dJ6_bitCount_0f7a4_45 ?_
  refine V_iadd 46 C dJ6_bitCount_0f7a4_46 ?_
  obtain ⟨x5, ex5⟩ : ∃ z : Int32, z = bc5 x4 := ⟨_, rfl⟩
  refine V_top (x := x5) ex5 ?_
  refine V_istore_n 47 C [(0, .int x5)] dJ6_bitCount_0f7a4_47 rfl rfl rfl ?_
  refine V_iload_n 48 C 0 dJ6_bitCount_0f7a4_48 rfl ?_
  refine V_bipush 49 C dJ6_bitCount_0f7a4_49 bp63 ?_
  refine V_iand 51 C dJ6_bitCount_0f7a4_51 ?_
  refine V_top (x := bcnt x) (by rw [ex5, ex4, ex3, ex2, ex1]; rfl) ?_
  exact V_iret 52 C hQ dJ6_bitCount_0f7a4_52
theorem V_bc (pc : Nat) (C : Cx G κ cc own ret nL rm) {idx : Nat} {x : Int32} (d : decode cc pc = .ok (.invokestatic idx, 3)) (hlk : Cond.methodLink own idx yJ6_bitCount_0f7a4 ∈ lw_tbl) (hR : rmOk jr0 rm 1 = true) (hcat : Nat.ble (st.map fun v => v.category).sum 8 = true) (k : V G κ nL 0 0 M (pc + 3) L (.int (bcnt x) :: st)) : V G κ nL 0 0 M pc L (.int x :: st) :=
  V_callI pc (runSO (rest := st) pc C kbitc cf_J6_bitCount_0f7a4 hlk rfl hR d rfl hcat (Nat.zero_le _) (Nat.zero_le _)) k
theorem runVK (pc : Nat) (C : Cx G κ cc own ret nL rm) {y : MethodName} {b : ByteArray} {maxL n idx v : Nat} {ret' : Option FieldType} {rm' : Room} {As : List Value} {Qc : Array Value → State → Outcome → State → Prop} (hv : v < 11) (hy : y.cls = "java/lang/String") (hM : Con G κ.2.1 y b maxL ret' rm' (.ref (gk G v) :: As) M Qc) (hf : Cv y b maxL ret' n) (hl : Cond.methodLink own idx y ∈ lw_tbl) (hn : As.length = n) (hR : rmOk rm' rm maxL = true) (d : decode cc pc = .ok (.invokevirtual idx, 3)) (hst : st = As.reverse ++ .ref (gk G v) :: rest) (hcat : Nat.ble (rest.map fun v => v.category).sum 8 = true) (hc : cells ≤ rm.cells) (hs : slots ≤ rm.slots) : RunC G κ nL cells slots M pc L st rest (Qc (Value.ref (gk G v) :: As).toArray) := by
  obtain ⟨p, l, e, R, s, m, args, below, meth, c, Q⟩ := κ
  intro H locs ls hlv hP hS
  obtain ⟨hx, hb, -, hml, hown, -, hRm, hWS⟩ := id C
  subst hRm
  obtain ⟨hR1, hR2, hR3⟩ := rmOk_of hR
  obtain ⟨f1, f2, f3, f5, f4⟩ := hf
  have hts : ∀ w ∈ [Cond.code y b maxL ret'], w.before args s = true := fun w hw => by rw [List.mem_singleton.mp hw]; exact wd C f1 rfl
  have hG : GoodIn [Cond.code y b maxL ret'] [Cond.code y b maxL ret'] := fun w hw => ⟨hw, by rw [List.mem_singleton.mp hw]; exact Or.inl rfl⟩
  have hrv := vk_recv (cxS C).2.2.2.1 hv hS
  rw [← hy] at hrv
  exact va_runV (Ts := [Cond.code y b maxL ret']) (C := y.cls) ⟨hx, hb, hml, hown, hts⟩ hM ⟨callB_of n hts hG rfl hR2 hR3 (wd C f2 rfl) (wd C hl rfl) f4 hR1, wd C f3 rfl, wd C f5 rfl⟩ ⟨WP_blind, hrv, fun U hU hW => ⟨rfl, hWS.to hS hU hW, by rw [hU]; exact hP⟩⟩ rfl hn hlv.1 hst (lv_room (Nat.le_of_ble_eq_true hcat)) d ⟨hc, hs⟩
theorem V_sget (pc : Nat) (C : Cx G κ cc own ret nL rm) {idx : Nat} (d : decode cc pc = .ok (.getstatic idx, 3)) (hw : Cond.fieldLink own idx "java/lang/String" "COMPACT_STRINGS" "Z" ∈ lw_tbl) (k : V G κ nL cells slots M (pc + 3) L (.int 1 :: st)) : V G κ nL cells slots M pc L st := by
  obtain ⟨p, l, e, R, s, m, args, below, meth, c, Q⟩ := κ
  intro H locs ls hl hP hS
  exact va_gets C.1 C.2.1 (cxS C).2.2.2.2.2.2.2.2.2.2.1 hS C.2.2.2.2.1 (wd C hw rfl) (fun _ h => h) d (k H locs ls hl hP hS)
theorem V_sfmt (pc : Nat) (C : Cx G κ cc own ret nL rm) {idx : Nat} (d : decode cc pc = .ok (.getstatic idx, 3)) (hw : Cond.fieldLink own idx "jdk/internal/util/Preconditions" "SIOOBE_FORMATTER" "Ljava/util/function/BiFunction;" ∈ lw_tbl) (k : ∀ x : Option Nat, V G κ nL cells slots M (pc + 3) L (va_rf x :: st)) : V G κ nL cells slots M pc L st := by
  obtain ⟨p, l, e, R, s, m, args, below, meth, c, Q⟩ := κ
  intro H locs ls hl hP hS
  rcases (cxS C).2.2.2.2.2.2.2.2.2.2.2.1 with h | ⟨t, h⟩
  · exact va_gets C.1 C.2.1 h hS C.2.2.2.2.1 (wd C hw rfl) (fun _ h => h) d (k none H locs ls hl hP hS)
  · exact va_gets C.1 C.2.1 h hS C.2.2.2.2.1 (wd C hw rfl) (fun _ h => h) d (k (some t) H locs ls hl hP hS)
theorem V_scoder (pc : Nat) (C : Cx G κ cc own ret nL rm) {idx v : Nat} (hv : v < 11) (d : decode cc pc = .ok (.getfield idx, 3)) (hw : Cond.fieldLink own idx "java/lang/String" "coder" "B" ∈ lw_tbl) (k : V G κ nL cells slots M (pc + 3) L (.int 0 :: st)) : V G κ nL cells slots M pc L (.ref (gk G v) :: st) := by
  obtain ⟨p, l, e, R, s, m, args, below, meth, c, Q⟩ := κ
  intro H locs ls hl hP hS
  exact vk_getf C.1 C.2.1 ((cxS C).2.2.2.1.1 v hv).2.1 hS C.2.2.2.2.1 (wd C hw rfl) (fun _ h => h) d (k H locs ls hl hP hS)
theorem V_svalue (pc : Nat) (C : Cx G κ cc own ret nL rm) {idx v : Nat} (hv : v < 11) (d : decode cc pc = .ok (.getfield idx, 3)) (hw : Cond.fieldLink own idx "java/lang/String" "value" "[B" ∈ lw_tbl) (k : V G κ nL cells slots M (pc + 3) L (.ref (gw G v) :: st)) : V G κ nL cells slots M pc L (.ref (gk G v) :: st) := by
  obtain ⟨p, l, e, R, s, m, args, below, meth, c, Q⟩ := κ
  intro H locs ls hl hP hS
  exact vk_getf C.1 C.2.1 ((cxS C).2.2.2.1.1 v hv).2.2.1 hS C.2.2.2.2.1 (wd C hw rfl) (fun _ h => h) d (k H locs ls hl hP hS)
theorem V_sblen (pc : Nat) (C : Cx G κ cc own ret nL rm) {v : Nat} (hv : v < 11) (d : decode cc pc = .ok (.arraylength, 1)) (k : V G κ nL cells slots M (pc + 1) L (.int (plen v) :: st)) : V G κ nL cells slots M pc L (.ref (gw G v) :: st) := by
  obtain ⟨p, l, e, R, s, m, args, below, meth, c, Q⟩ := κ
  intro H locs ls hl hP hS
  exact va_tlen C.1 C.2.1 ((cxS C).2.2.2.1.1 v hv).2.2.2 hS rfl d (k H locs ls hl hP hS)
theorem V_sbald (pc : Nat) (C : Cx G κ cc own ret nL rm) {v : Nat} {i : Int32} (hv : v < 11) (hi : inb i (plenN v) = true) (d : decode cc pc = .ok (.baload, 1)) (k : V G κ nL cells slots M (pc + 1) L (.int (pch v i) :: st)) : V G κ nL cells slots M pc L (.int i :: .ref (gw G v) :: st) := by
  obtain ⟨p, l, e, R, s, m, args, below, meth, c, Q⟩ := κ
  intro H locs ls hl hP hS
  exact va_tb C.1 C.2.1 ((cxS C).2.2.2.1.1 v hv).2.2.2 hS (inb_in hi) rfl d (k H locs ls hl hP hS)
theorem V_bret (pc : Nat) (C : Cx G κ cc own (some .byte) nL rm) {v : Int32} (hn : narrow .byte (.int v) = .int v) (hQ : HQ G κ (QI G v M) 0 0) (d : decode cc pc = .ok (.ireturn, 1)) : V G κ nL 0 0 M pc L [.int v] := by
  obtain ⟨p, l, e, R, s, m, args, below, meth, c, Q⟩ := κ
  intro H locs ls hl hP hS
  rw [show Q = _ from hQ]
  exact W.zret (ty := .byte) C.1 C.2.1 C.2.2.1 hn (fun t ht hW => ⟨⟨v, (), rfl, rfl, by subst ht; exact hP⟩, hS.F ht⟩) hS.2.2 d C.2.2.2.2.2.1
theorem kscoder {G : GG} {l : Launch} {v : Nat} (hv : v < 11) {M : Mem} : Con G l yJ0_coder_7d493 cJ0_coder_7d493 1 (some .byte) jr0 [.ref (gk G v)] M (QI G 0 M) := by
  refine con_of pnS (Nat.le_of_ble_eq_true rfl) (fun κ C hQ => ?_)
  refine V_L (L1 := [(0, .ref (gk G v))]) rfl ?_
  refine V_sget 0 C dJ0_coder_7d493_0 wk_5_202 ?_
  refine V_if_eq 3 13 C dJ0_coder_7d493_3 (by decide) (fun h => absurd h (by decide)) (fun _ => ?_)
  refine V_aload_n 6 C 0 dJ0_coder_7d493_6 rfl ?_
  refine V_scoder 7 C hv dJ0_coder_7d493_7 wk_8_202 ?_
  refine V_goto 10 14 C dJ0_coder_7d493_10 (by decide) ?_
  exact V_bret 14 C rfl hQ dJ0_coder_7d493_14
theorem ksisl {G : GG} {l : Launch} {v : Nat} (hv : v < 11) {M : Mem} : Con G l yJ0_isLatin1_aae02 cJ0_isLatin1_aae02 1 (some .boolean) jr0 [.ref (gk G v)] M (QI G (b2i true) M) := by
  refine con_of pnS (Nat.le_of_ble_eq_true rfl) (fun κ C hQ => ?_)
  refine V_L (L1 := [(0, .ref (gk G v))]) rfl ?_
  refine V_sget 0 C dJ0_isLatin1_aae02_0 wk_5_202 ?_
  refine V_if_eq 3 17 C dJ0_isLatin1_aae02_3 (by decide) (fun h => absurd h (by decide)) (fun _ => ?_)
  refine V_aload_n 6 C 0 dJ0_isLatin1_aae02_6 rfl ?_
  refine V_scoder 7 C hv dJ0_isLatin1_aae02_7 wk_8_202 ?_
  refine V_if_ne 10 17 C dJ0_isLatin1_aae02_10 (by decide) (fun h => absurd rfl h) (fun _ => ?_)
  refine V_iconst 13 C dJ0_isLatin1_aae02_13 ic1 ?_
  refine V_goto 14 18 C dJ0_isLatin1_aae02_14 (by decide) ?_
  exact V_zret (v := true) 18 C hQ dJ0_isLatin1_aae02_18
theorem kslength {G : GG} {l : Launch} {v : Nat} (hv : v < 11) {M : Mem} : Con G l yJ0_length_8abf5 cJ0_length_8abf5 1 (some .int) jr1 [.ref (gk G v)] M (QI G (plen v) M) := by
  refine con_of pnS (Nat.le_of_ble_eq_true rfl) (fun κ C hQ => ?_)
  refine V_L (L1 := [(0, .ref (gk G v))]) rfl ?_
  refine V_aload_n 0 C 0 dJ0_length_8abf5_0 rfl ?_
  refine V_svalue 1 C hv dJ0_length_8abf5_1 wk_8_201 ?_
  refine V_sblen 4 C hv dJ0_length_8abf5_4 ?_
  refine V_aload_n 5 C 0 dJ0_length_8abf5_5 rfl ?_
  refine V_callI 6 (runVK (rest := [.int (plen v)]) 6 C hv rfl (kscoder hv) cf_J0_coder_7d493 wk_5_198 rfl rfl dJ0_length_8abf5_6 rfl rfl (Nat.zero_le _) (Nat.zero_le _)) ?_
  refine V_ishr 9 C dJ0_length_8abf5_9 ?_
  refine V_top (x := plen v) (by rcases cases11 hv with rfl | rfl | rfl | rfl | rfl | rfl | rfl | rfl | rfl | rfl | rfl <;> decide) ?_
  exact V_iret 10 C hQ dJ0_length_8abf5_10
theorem kspre {G : GG} {l : Launch} {i n : Int32} {x : Option Nat} (h1 : ¬ i < 0) (h2 : i < n) {M : Mem} : Con G l yJ3_checkIndex_8e157 cJ3_checkIndex_8e157 3 (some .int) jr0 [.int i, .int n, va_rf x] M (QI G i M) := by
  refine con_of pnPc (by cases x <;> exact Nat.le_of_ble_eq_true rfl) (fun κ C hQ => ?_)
  refine V_L (L1 := [(0, .int i), (1, .int n), (2, va_rf x)]) (by cases x <;> rfl) ?_
  refine V_iload_n 0 C 0 dJ3_checkIndex_8e157_0 rfl ?_
  refine V_if_lt 1 9 C dJ3_checkIndex_8e157_1 (by decide) (fun h => absurd h h1) (fun _ => ?_)
  refine V_iload_n 4 C 0 dJ3_checkIndex_8e157_4 rfl ?_
  refine V_iload_n 5 C 1 dJ3_checkIndex_8e157_5 rfl ?_
  refine V_icmp_lt 6 16 C dJ3_checkIndex_8e157_6 (by decide) (fun _ => ?_) (fun h => absurd h2 h)
  refine V_iload_n 16 C 0 dJ3_checkIndex_8e157_16 rfl ?_
  exact V_iret 17 C hQ dJ3_checkIndex_8e157_17
theorem kscheck {G : GG} {l : Launch} {i n : Int32} (h1 : ¬ i < 0) (h2 : i < n) {M : Mem} : Con G l yJ0_checkIndex_df160 cJ0_checkIndex_df160 2 none jr1 [.int i, .int n] M (QV G M) := by
  refine con_of pnS (Nat.le_of_ble_eq_true rfl) (fun κ C hQ => ?_)
  refine V_L (L1 := [(0, .int i), (1, .int n)]) rfl ?_
  refine V_iload_n 0 C 0 dJ0_checkIndex_df160_0 rfl ?_
  refine V_iload_n 1 C 1 dJ0_checkIndex_df160_1 rfl ?_
  refine V_sfmt 2 C dJ0_checkIndex_df160_2 wk_5_218 (fun x => ?_)
  refine V_callI 5 (runSO (rest := []) 5 C (kspre h1 h2) cf_J3_checkIndex_8e157 wk_5_220 rfl rfl dJ0_checkIndex_df160_5 rfl rfl (Nat.zero_le _) (Nat.zero_le _)) ?_
  refine V_pop 8 C dJ0_checkIndex_df160_8 rfl ?_
  exact V_vret 9 C hQ dJ0_checkIndex_df160_9
theorem pch_all : ∀ v, v < 11 → ∀ i, i < plenN v → i2c ((pByt.getD v []).getD i 0 &&& 255) = (pByt.getD v []).getD i 0 ∧ vp_nar .char ((pByt.getD v []).getD i 0) = (pByt.getD v []).getD i 0 := by decide +kernel
theorem inb_lo {i : Int32} {n : Nat} (h : inb i n = true) : ¬ i < 0 := by
  unfold inb at h
  exact Int32.not_lt.mpr (of_decide_eq_true (Bool.and_eq_true _ _ |>.mp h).1)
theorem plen_lt {v : Nat} (hv : v < 11) {i : Int32} (h : inb i (plenN v) = true) : i < plen v := by
  have h1 := inb_lt h
  have h0 : 0 ≤ i := Int32.not_lt.mp (inb_lo h)
  have h2 : (plen v).toInt = (plenN v : Int) := by rcases cases11 hv with rfl | rfl | rfl | rfl | rfl | rfl | rfl | rfl | rfl | rfl | rfl <;> decide
  rw [Int32.lt_iff_toInt_lt, h2]
  have h3 : (0 : Int32).toInt ≤ i.toInt := Int32.le_iff_toInt_le.mp h0
  have h4 : i.toNatClampNeg = i.toInt.toNat := rfl
  have h5 : (0 : Int32).toInt = 0 := by decide
  omega
theorem kschar1 {G : GG} {l : Launch} {v : Nat} (hv : v < 11) {i : Int32} (hi : inb i (plenN v) = true) {M : Mem} : Con G l yJ1_charAt_3b067 cJ1_charAt_3b067 2 (some .char) jr2 [.ref (gw G v), .int i] M (QI G (pch v i) M) := by
  refine con_of pnL1 (Nat.le_of_ble_eq_true rfl) (fun κ C hQ => ?_)
  refine V_L (L1 := [(0, .ref (gw G v)), (1, .int i)]) rfl ?_
  refine V_iload_n 0 C 1 dJ1_charAt_3b067_0 rfl ?_
  refine V_aload_n 1 C 0 dJ1_charAt_3b067_1 rfl ?_
  refine V_sblen 2 C hv dJ1_charAt_3b067_2 ?_
  refine V_callV 3 (runSO (rest := []) 3 C (kscheck (inb_lo hi) (plen_lt hv hi)) cf_J0_checkIndex_df160 wk_5_215 rfl rfl dJ1_charAt_3b067_3 rfl rfl (Nat.zero_le _) (Nat.zero_le _)) ?_
  refine V_aload_n 6 C 0 dJ1_charAt_3b067_6 rfl ?_
  refine V_iload_n 7 C 1 dJ1_charAt_3b067_7 rfl ?_
  refine V_sbald 8 C hv hi dJ1_charAt_3b067_8 ?_
  refine V_sipush 9 C dJ1_charAt_3b067_9 (v := 255) (by decide) ?_
  refine V_iand 12 C dJ1_charAt_3b067_12 ?_
  refine V_i2c 13 C dJ1_charAt_3b067_13 ?_
  have h1 := pch_all v hv i.toNatClampNeg (inb_lt hi)
  refine V_top (x := pch v i) h1.1.symm ?_
  exact V_creth 14 C hQ rfl dJ1_charAt_3b067_14 (decide_eq_true h1.2)
theorem kscharAt {G : GG} {l : Launch} {v : Nat} (hv : v < 11) {i : Int32} (hi : inb i (plenN v) = true) {M : Mem} : Con G l yJ0_charAt_5068e cJ0_charAt_5068e 2 (some .char) jr3 [.ref (gk G v), .int i] M (QI G (pch v i) M) := by
  refine con_of pnS (Nat.le_of_ble_eq_true rfl) (fun κ C hQ => ?_)
  refine V_L (L1 := [(0, .ref (gk G v)), (1, .int i)]) rfl ?_
  refine V_aload_n 0 C 0 dJ0_charAt_5068e_0 rfl ?_
  refine V_callI 1 (runVK (rest := []) 1 C hv rfl (ksisl hv) cf_J0_isLatin1_aae02 wk_5_208 rfl rfl dJ0_charAt_5068e_1 rfl rfl (Nat.zero_le _) (Nat.zero_le _)) ?_
  refine V_ifeq_b 4 16 C dJ0_charAt_5068e_4 (by decide) (fun h => absurd rfl h) (fun _ => ?_)
  refine V_aload_n 7 C 0 dJ0_charAt_5068e_7 rfl ?_
  refine V_svalue 8 C hv dJ0_charAt_5068e_8 wk_8_201 ?_
  refine V_iload_n 11 C 1 dJ0_charAt_5068e_11 rfl ?_
  refine V_callI 12 (runSO (rest := []) 12 C (kschar1 hv hi) cf_J1_charAt_3b067 wk_5_212 rfl rfl dJ0_charAt_5068e_12 rfl rfl (Nat.zero_le _) (Nat.zero_le _)) ?_
  have h1 := pch_all v hv i.toNatClampNeg (inb_lt hi)
  exact V_creth 15 C hQ rfl dJ0_charAt_5068e_15 (decide_eq_true h1.2)
theorem V_slen (pc : Nat) (C : Cx G κ cc own ret nL rm) {idx v : Nat} (d : decode cc pc = .ok (.invokevirtual idx, 3)) (hlk : Cond.methodLink own idx yJ0_length_8abf5 ∈ lw_tbl) (hv : v < 11) (hR : rmOk jr1 rm 1 = true) (hcat : Nat.ble (st.map fun v => v.category).sum 8 = true) (k : V G κ nL 0 0 M (pc + 3) L (.int (plen v) :: st)) : V G κ nL 0 0 M pc L (.ref (gk G v) :: st) :=
  V_callI pc (runVK (rest := st) pc C hv rfl (kslength hv) cf_J0_length_8abf5 hlk rfl hR d rfl hcat (Nat.zero_le _) (Nat.zero_le _)) k
theorem V_schar (pc : Nat) (C : Cx G κ cc own ret nL rm) {idx v : Nat} {i : Int32} (d : decode cc pc = .ok (.invokevirtual idx, 3)) (hlk : Cond.methodLink own idx yJ0_charAt_5068e ∈ lw_tbl) (hv : v < 11) (hi : inb i (plenN v) = true) (hR : rmOk jr3 rm 2 = true) (hcat : Nat.ble (st.map fun v => v.category).sum 8 = true) (k : V G κ nL 0 0 M (pc + 3) L (.int (pch v i) :: st)) : V G κ nL 0 0 M pc L (.int i :: .ref (gk G v) :: st) :=
  V_callI pc (runVK (rest := st) pc C hv rfl (kscharAt hv hi) cf_J0_charAt_5068e hlk rfl hR d rfl hcat (Nat.zero_le _) (Nat.zero_le _)) k
end
