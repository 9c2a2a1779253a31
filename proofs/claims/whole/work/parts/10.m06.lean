def rmX12_readsPair : Room := { frames := 4, cells := 0, slots := 0, locals := 85 }
def fX12_readsPair (F : Nat)  (M : Mem) : Option (Bool × Mem) := bindM (fX12_readsOne F  M) (fun r3 M1 => if r3 = true then bindM (fX12_reads F 45 M1) (fun r7 M5 => if r7 = true then bindM (fX12_readsNumber F 1 2 M5) (fun r11 M9 => if r11 = true then some (true, M9) else some (false, M9)) else some (false, M5)) else some (false, M1))
def rmX12_readsS : Room := { frames := 4, cells := 0, slots := 0, locals := 85 }
def fX12_readsS (F : Nat)  (M : Mem) : Option (Bool × Mem) := bindM (fX12_reads F 104 M) (fun r3 M1 => if r3 = true then bindM (fX12_reads F 101 M1) (fun r47 M45 => if r47 = true then bindM (fX12_reads F 108 M45) (fun r65 M63 => if r65 = true then bindM (fX12_reads F 102 M63) (fun r69 M67 => if r69 = true then bindM (fX12_readsOne F  M67) (fun r73 M71 => if r73 = true then some (true, M71) else some (false, M71)) else some (false, M67)) else some (false, M63)) else letM (up2 M45 119 22 111) (fun M49 => bindM (fX12_reads F 111 M49) (fun r53 M51 => if r53 = true then bindM (fX12_reads F 119 M51) (fun r57 M55 => if r57 = true then bindM (fX12_readsOne F  M55) (fun r61 M59 => if r61 = true then some (true, M59) else some (false, M59)) else some (false, M55)) else some (false, M51)))) else letM (up2 M1 119 22 116) (fun M5 => bindM (fX12_reads F 116 M5) (fun r9 M7 => if r9 = true then bindM (fX12_reads F 111 M7) (fun r35 M33 => if r35 = true then bindM (fX12_reads F 112 M33) (fun r39 M37 => if r39 = true then bindM (fX12_readsOne F  M37) (fun r43 M41 => if r43 = true then some (true, M41) else some (false, M41)) else some (false, M37)) else some (false, M33)) else letM (up2 M7 119 22 101) (fun M11 => bindM (fX12_reads F 101 M11) (fun r15 M13 => if r15 = true then bindM (fX12_reads F 101 M13) (fun r19 M17 => if r19 = true then bindM (fX12_reads F 100 M17) (fun r23 M21 => if r23 = true then bindM (fX12_reads F 32 M21) (fun r27 M25 => if r27 = true then bindM (fX12_readsNumber F 0 4 M25) (fun r31 M29 => if r31 = true then some (true, M29) else some (false, M29)) else some (false, M25)) else some (false, M21)) else some (false, M17)) else some (false, M13))))))
def rmX12_readsCommand : Room := { frames := 5, cells := 0, slots := 0, locals := 105 }
def fX12_readsCommand (F : Nat)  (M : Mem) : Option (Bool × Mem) := bindM (fX12_nextChar F  M) (fun r3 M1 => letM (up2 M1 119 22 r3) (fun M4 => bindM (fX12_reads F 115 M4) (fun r8 M6 => if r8 = true then bindM (fX12_readsS F  M6) (fun r160 M158 => some (r160, M158)) else bindM (fX12_reads F 108 M6) (fun r12 M10 => if r12 = true then bindM (fX12_reads F 105 M10) (fun r144 M142 => if r144 = true then bindM (fX12_reads F 110 M142) (fun r148 M146 => if r148 = true then bindM (fX12_reads F 107 M146) (fun r152 M150 => if r152 = true then bindM (fX12_readsPair F  M150) (fun r156 M154 => if r156 = true then some (true, M154) else some (false, M154)) else some (false, M150)) else some (false, M146)) else some (false, M142)) else bindM (fX12_reads F 99 M10) (fun r16 M14 => if r16 = true then bindM (fX12_reads F 117 M14) (fun r132 M130 => if r132 = true then bindM (fX12_reads F 116 M130) (fun r136 M134 => if r136 = true then bindM (fX12_readsPair F  M134) (fun r140 M138 => if r140 = true then some (true, M138) else some (false, M138)) else some (false, M134)) else some (false, M130)) else bindM (fX12_reads F 104 M14) (fun r20 M18 => if r20 = true then bindM (fX12_reads F 105 M18) (fun r116 M114 => if r116 = true then bindM (fX12_reads F 100 M114) (fun r120 M118 => if r120 = true then bindM (fX12_reads F 101 M118) (fun r124 M122 => if r124 = true then bindM (fX12_readsOne F  M122) (fun r128 M126 => if r128 = true then some (true, M126) else some (false, M126)) else some (false, M122)) else some (false, M118)) else some (false, M114)) else bindM (fX12_reads F 102 M18) (fun r24 M22 => if r24 = true then bindM (fX12_reads F 105 M22) (fun r92 M90 => if r92 = true then bindM (fX12_reads F 108 M90) (fun r96 M94 => if r96 = true then bindM (fX12_reads F 108 M94) (fun r100 M98 => if r100 = true then bindM (fX12_readsOne F  M98) (fun r104 M102 => if r104 = true then bindM (fX12_reads F 32 M102) (fun r108 M106 => if r108 = true then bindM (fX12_readsNumber F 1 2 M106) (fun r112 M110 => if r112 = true then some (true, M110) else some (false, M110)) else some (false, M106)) else some (false, M102)) else some (false, M98)) else some (false, M94)) else some (false, M90)) else bindM (fX12_reads F 100 M22) (fun r28 M26 => if r28 = true then bindM (fX12_reads F 114 M26) (fun r72 M70 => if r72 = true then bindM (fX12_reads F 111 M70) (fun r76 M74 => if r76 = true then bindM (fX12_reads F 112 M74) (fun r80 M78 => if r80 = true then bindM (fX12_reads F 32 M78) (fun r84 M82 => if r84 = true then bindM (fX12_readsNumber F 0 1 M82) (fun r88 M86 => if r88 = true then some (true, M86) else some (false, M86)) else some (false, M82)) else some (false, M78)) else some (false, M74)) else some (false, M70)) else bindM (fX12_reads F 114 M26) (fun r32 M30 => if r32 = true then bindM (fX12_reads F 97 M30) (fun r56 M54 => if r56 = true then bindM (fX12_reads F 116 M54) (fun r60 M58 => if r60 = true then bindM (fX12_reads F 101 M58) (fun r64 M62 => if r64 = true then bindM (fX12_readsOne F  M62) (fun r68 M66 => if r68 = true then some (true, M66) else some (false, M66)) else some (false, M62)) else some (false, M58)) else some (false, M54)) else bindM (fX12_reads F 119 M30) (fun r36 M34 => if r36 = true then bindM (fX12_reads F 97 M34) (fun r40 M38 => if r40 = true then bindM (fX12_reads F 105 M38) (fun r44 M42 => if r44 = true then bindM (fX12_reads F 116 M42) (fun r48 M46 => if r48 = true then bindM (fX12_readsOne F  M46) (fun r52 M50 => if r52 = true then some (true, M50) else some (false, M50)) else some (false, M46)) else some (false, M42)) else some (false, M38)) else some (false, M34)))))))))))
def rmX12_readsAll : Room := { frames := 6, cells := 0, slots := 0, locals := 125 }
def fX12_readsAll_7 (F : Nat)   (kx : Mem → Option (Bool × Mem)) : Nat → Int32 → Mem → Option (Bool × Mem)
  | 0, _, _ => none
  | n + 1, v1, M => if v1 = 0 then kx  M else bindM (fX12_readsCommand F  M) (fun r6 M4 => if r6 = true then bindM (fX12_reads F 59 M4) (fun r10 M8 => fX12_readsAll_7 F  kx n (b2i r10) M8) else some (false, M4))
def fX12_readsAll (F : Nat)  (M : Mem) : Option (Bool × Mem) := letM (up2 M 119 19 0) (fun M1 => fX12_readsAll_7 F  (fun M11 => if (M11 119 19) = (M11 119 18) then some (true, M11) else some (false, M11)) F 1 M1)
def rmX12_notNow : Room := { frames := 3, cells := 0, slots := 0, locals := 65 }
def fX12_notNow (F : Nat)  (M : Mem) : Option (Int32 × Mem) := letM (M 128 0) (fun x2 => letM (M 128 1) (fun x5 => letM (M 119 22) (fun x7 => if x7 = 99 then bindM (fX12_notUnlink F x2 x5 M) (fun r12 M10 => some (r12, M10)) else if x7 = 100 then bindM (fX12_notDrop F x2 M) (fun r16 M14 => some (r16, M14)) else if x7 = 101 then bindM (fX12_notSeed F x2 M) (fun r20 M18 => some (r20, M18)) else if x7 = 102 then bindM (fX12_notFill F x2 x5 M) (fun r24 M22 => some (r24, M22)) else if x7 = 104 then bindM (fX12_notBlind F x2 1 M) (fun r28 M26 => some (r28, M26)) else if x7 = 108 then bindM (fX12_notLink F x2 x5 M) (fun r32 M30 => some (r32, M30)) else if x7 = 111 then bindM (fX12_notBlind F x2 0 M) (fun r36 M34 => some (r36, M34)) else if x7 = 114 then bindM (fX12_notRate F x2 M) (fun r40 M38 => some (r40, M38)) else if x7 = 115 then bindM (fX12_notShelf F x2 M) (fun r44 M42 => some (r44, M42)) else if x7 = 116 then bindM (fX12_notStop F x2 M) (fun r48 M46 => some (r48, M46)) else bindM (fX12_notPass F x2 M) (fun r51 M49 => some (r51, M49)))))
def rmX12_doesNow : Room := { frames := 6, cells := 0, slots := 0, locals := 133 }
def fX12_doesNow (F : Nat)  (M : Mem) : Option (Int32 × Mem) := letM (M 128 0) (fun x2 => letM (M 128 1) (fun x5 => letM (M 119 22) (fun x7 => if x7 = 99 then bindM (fX12_unlinks F x2 x5 M) (fun r12 M10 => some (r12, M10)) else if x7 = 100 then bindM (fX12_drops F x2 M) (fun r16 M14 => some (r16, M14)) else if x7 = 101 then bindM (fX12_sets F 6 x2 M) (fun r20 M18 => some (r20, M18)) else if x7 = 102 then bindM (fX12_fills F x2 x5 M) (fun r24 M22 => some (r24, M22)) else if x7 = 104 then bindM (fX12_blinds F x2 1 M) (fun r28 M26 => some (r28, M26)) else if x7 = 108 then bindM (fX12_links F x2 x5 M) (fun r32 M30 => some (r32, M30)) else if x7 = 111 then bindM (fX12_blinds F x2 0 M) (fun r36 M34 => some (r36, M34)) else if x7 = 114 then bindM (fX12_sets F 5 x2 M) (fun r40 M38 => some (r40, M38)) else if x7 = 115 then bindM (fX12_addsShelf F x2 M) (fun r44 M42 => some (r44, M42)) else if x7 = 116 then bindM (fX12_addsStop F x2 M) (fun r48 M46 => some (r48, M46)) else bindM (fX12_passes F x2 M) (fun r51 M49 => some (r51, M49)))))
def rmX12_doesAll : Room := { frames := 7, cells := 0, slots := 0, locals := 155 }
def fX12_doesAll_12 (F : Nat)   (kx : Mem → Option (Bool × Mem)) : Nat → Int32 → Mem → Option (Bool × Mem)
  | 0, _, _ => none
  | n + 1, v1, M => if v1 = 0 then kx  M else bindM (fX12_readsCommand F  M) (fun r8 M6 => bindM (fX12_notNow F  M6) (fun r11 M9 => if r11 = 0 then bindM (fX12_doesNow F  M9) (fun r15 M13 => letM (up2 M13 119 23 ((M13 119 23) + 1)) (fun M16 => bindM (fX12_reads F 59 M16) (fun r20 M18 => fX12_doesAll_12 F  kx n (b2i r20) M18))) else some (false, M9)))
def fX12_doesAll (F : Nat)  (M : Mem) : Option (Bool × Mem) := letM (up2 M 119 23 0) (fun M1 => letM (up2 M1 119 19 0) (fun M3 => fX12_doesAll_12 F  (fun M21 => some (true, M21)) F 1 M3))
def rmX12_execute : Room := { frames := 8, cells := 0, slots := 0, locals := 176 }
def fX12_execute (F : Nat)  (M : Mem) : Option (Int32 × Mem) := letM (up2 M 119 0 0) (fun M1 => bindM (fX12_readsAll F  M1) (fun r5 M3 => if r5 = true then bindV (fX12_copies F  M3) (fun M7 => letM (up2 M7 119 1 0) (fun M9 => bindM (fX12_doesAll F  M9) (fun r13 M11 => letM (up2 M11 119 18 0) (fun M14 => if r13 = true then bindV (fX12_keeps F  M14) (fun M42 => some ((M42 119 23), M42)) else bindV (fX12_goesBack F  M14) (fun M17 => if (M17 119 1) ≤ 0 then letM (up2 M17 119 5 7) (fun M20 => letM (up2 M20 119 1 0) (fun M22 => letM (up2 M22 119 3 6) (fun M24 => letM (up2 M24 119 4 (M24 119 23)) (fun M26 => bindM (fX12_fails F 2 M26) (fun r30 M28 => some (r30, M28)))))) else letM (up2 M17 119 5 (M17 119 1)) (fun M31 => letM (up2 M31 119 1 0) (fun M33 => letM (up2 M33 119 3 6) (fun M35 => letM (up2 M35 119 4 (M35 119 23)) (fun M37 => bindM (fX12_fails F 2 M37) (fun r41 M39 => some (r41, M39))))))))))) else letM (up2 M3 119 20 (M3 119 19)) (fun M44 => letM (up2 M44 119 18 0) (fun M46 => bindM (fX12_fails F 1 M46) (fun r50 M48 => some (r50, M48))))))
def rmX12_faultPosition : Room := { frames := 1, cells := 0, slots := 0, locals := 21 }
def fX12_faultPosition (F : Nat)  (M : Mem) : Option (Int32 × Mem) := letM (up2 M 119 0 0) (fun M1 => if 0 ≤ (M1 119 20) then some ((M1 119 20), M1) else bindM (fX12_fails F 1 M1) (fun r6 M4 => some (r6, M4)))
def rmX12_denial : Room := { frames := 1, cells := 0, slots := 0, locals := 21 }
def fX12_denial (F : Nat)  (M : Mem) : Option (Int32 × Mem) := letM (up2 M 119 0 0) (fun M1 => if (M1 119 3) = 0 then bindM (fX12_fails F 1 M1) (fun r6 M4 => some (r6, M4)) else some ((M1 119 3), M1))
def rmX12_denialDetail : Room := { frames := 1, cells := 0, slots := 0, locals := 21 }
def fX12_denialDetail (F : Nat)  (M : Mem) : Option (Int32 × Mem) := letM (up2 M 119 0 0) (fun M1 => if (M1 119 3) = 0 then bindM (fX12_fails F 1 M1) (fun r6 M4 => some (r6, M4)) else some ((M1 119 4), M1))
def rmX12_denialCause : Room := { frames := 1, cells := 0, slots := 0, locals := 21 }
def fX12_denialCause (F : Nat)  (M : Mem) : Option (Int32 × Mem) := letM (up2 M 119 0 0) (fun M1 => if (M1 119 5) = 0 then bindM (fX12_fails F 1 M1) (fun r6 M4 => some (r6, M4)) else some ((M1 119 5), M1))
def rmX12_undo : Room := { frames := 1, cells := 0, slots := 0, locals := 21 }
def fX12_undo_43 (F : Nat)  (q1 : Int32) (kx : Mem → Option (Int32 × Mem)) : Nat → Int32 → Mem → Option (Int32 × Mem)
  | 0, _, _ => none
  | n + 1, v2, M => if 216 ≤ v2 then kx  M else chk (inb ((216 * q1) + v2) 1728) (chk (inb v2 216) (letM (up2 M 120 v2.toNatClampNeg (M 121 ((216 * q1) + v2).toNatClampNeg)) (fun M11 => letM (v2 + 1) (fun x13 => fX12_undo_43 F q1 kx n x13 M11))))
def fX12_undo (F : Nat)  (M : Mem) : Option (Int32 × Mem) := letM (up2 M 119 0 0) (fun M1 => if (M1 119 11) = 0 then bindM (fX12_fails F 1 M1) (fun r18 M16 => some (r18, M16)) else letM (up2 M1 119 11 ((M1 119 11) - 1)) (fun M4 => letM (irm ((M4 119 12) + (M4 119 11)) 8) (fun x6 => fX12_undo_43 F x6 (fun M15 => some ((M15 119 11), M15)) F 0 M4)))
set_option maxHeartbeats 4000000 in
theorem kX12_readsPair {G : GG} {l : Launch} {F : Nat}   {M M' : Mem} {r : Bool} (h : fX12_readsPair F  M = some (r, M')) : Con G l yX12_readsPair cX12_readsPair 1 (some .boolean) rmX12_readsPair [.ref (gad G 119)] M (QI G (b2i r) M') := by
  refine con_of pnX12 (Nat.le_of_ble_eq_true rfl) (fun κ C hQ => ?_)
  unfold fX12_readsPair at h
  refine V_L (L1 := [(0, .ref (gad G 119))]) rfl ?_
  refine V_aload_n 0 C 0 dX12_readsPair_0 rfl ?_
  obtain ⟨r3, M1, k2, h⟩ := bindM_some h
  refine V_callI 1 (runVO (k := 119) (rest := []) 1 C (kX12_readsOne  k2) cf_X12_readsOne wk_8_108 (ltl (by rfl) rfl) (ceR_X12 (by rfl)) rfl rfl rfl rfl dX12_readsPair_1 rfl rfl (Nat.zero_le _) (Nat.zero_le _)) ?_
  refine V_ifeq_b 4 29 C dX12_readsPair_4 (by decide) (fun c4 => ?_) (fun c4 => ?_)
  · replace h := ite_f c4 h
    refine V_iconst 29 C dX12_readsPair_29 ic0 ?_
    exact V_zreth 30 C hQ h dX12_readsPair_30
  · replace h := ite_t c4 h
    refine V_aload_n 7 C 0 dX12_readsPair_7 rfl ?_
    refine V_bipush 8 C dX12_readsPair_8 bp45 ?_
    obtain ⟨r7, M5, k6, h⟩ := bindM_some h
    refine V_callI 10 (runVO (k := 119) (rest := []) 10 C (kX12_reads  k6) cf_X12_reads wk_8_100 (ltl (by rfl) rfl) (ceR_X12 (by rfl)) rfl rfl rfl rfl dX12_readsPair_10 rfl rfl (Nat.zero_le _) (Nat.zero_le _)) ?_
    refine V_ifeq_b 13 29 C dX12_readsPair_13 (by decide) (fun c8 => ?_) (fun c8 => ?_)
    · replace h := ite_f c8 h
      refine V_iconst 29 C dX12_readsPair_29 ic0 ?_
      exact V_zreth 30 C hQ h dX12_readsPair_30
    · replace h := ite_t c8 h
      refine V_aload_n 16 C 0 dX12_readsPair_16 rfl ?_
      refine V_iconst 17 C dX12_readsPair_17 ic1 ?_
      refine V_iconst 18 C dX12_readsPair_18 ic2 ?_
      obtain ⟨r11, M9, k10, h⟩ := bindM_some h
      refine V_callI 19 (runVO (k := 119) (rest := []) 19 C (kX12_readsNumber  k10) cf_X12_readsNumber wk_8_112 (ltl (by rfl) rfl) (ceR_X12 (by rfl)) rfl rfl rfl rfl dX12_readsPair_19 rfl rfl (Nat.zero_le _) (Nat.zero_le _)) ?_
      refine V_ifeq_b 22 29 C dX12_readsPair_22 (by decide) (fun c12 => ?_) (fun c12 => ?_)
      · replace h := ite_f c12 h
        refine V_iconst 29 C dX12_readsPair_29 ic0 ?_
        exact V_zreth 30 C hQ h dX12_readsPair_30
      · replace h := ite_t c12 h
        refine V_iconst 25 C dX12_readsPair_25 ic1 ?_
        refine V_goto 26 30 C dX12_readsPair_26 (by decide) ?_
        exact V_zreth 30 C hQ h dX12_readsPair_30
set_option maxHeartbeats 4000000 in
theorem kX12_readsS {G : GG} {l : Launch} {F : Nat}   {M M' : Mem} {r : Bool} (h : fX12_readsS F  M = some (r, M')) : Con G l yX12_readsS cX12_readsS 1 (some .boolean) rmX12_readsS [.ref (gad G 119)] M (QI G (b2i r) M') := by
  refine con_of pnX12 (Nat.le_of_ble_eq_true rfl) (fun κ C hQ => ?_)
  unfold fX12_readsS at h
  refine V_L (L1 := [(0, .ref (gad G 119))]) rfl ?_
  refine V_aload_n 0 C 0 dX12_readsS_0 rfl ?_
  refine V_bipush 1 C dX12_readsS_1 bp104 ?_
  obtain ⟨r3, M1, k2, h⟩ := bindM_some h
  refine V_callI 3 (runVO (k := 119) (rest := []) 3 C (kX12_reads  k2) cf_X12_reads wk_8_100 (ltl (by rfl) rfl) (ceR_X12 (by rfl)) rfl rfl rfl rfl dX12_readsS_3 rfl rfl (Nat.zero_le _) (Nat.zero_le _)) ?_
  refine V_ifeq_b 6 86 C dX12_readsS_6 (by decide) (fun c4 => ?_) (fun c4 => ?_)
  · replace h := ite_f c4 h
    refine V_aload_n 86 C 0 dX12_readsS_86 rfl ?_
    refine V_bipush 87 C dX12_readsS_87 bp116 ?_
    obtain ⟨M5, e6, h⟩ := letM_some h
    refine V_put (ty := .int) (F := F_X12 G 119) 89 C dX12_readsS_89 (ltl (by rfl) rfl) (fun _ => ceR_X12 (by rfl)) rfl inX12 tyX12 tyX12_ok nmX12 22 rfl wk_6_156 rfl rfl 116 rfl rfl rfl rfl rfl ?_
    refine V_eqM e6 ?_
    refine V_aload_n 92 C 0 dX12_readsS_92 rfl ?_
    refine V_bipush 93 C dX12_readsS_93 bp116 ?_
    obtain ⟨r9, M7, k8, h⟩ := bindM_some h
    refine V_callI 95 (runVO (k := 119) (rest := []) 95 C (kX12_reads  k8) cf_X12_reads wk_8_100 (ltl (by rfl) rfl) (ceR_X12 (by rfl)) rfl rfl rfl rfl dX12_readsS_95 rfl rfl (Nat.zero_le _) (Nat.zero_le _)) ?_
    refine V_ifeq_b 98 132 C dX12_readsS_98 (by decide) (fun c10 => ?_) (fun c10 => ?_)
    · replace h := ite_f c10 h
      refine V_aload_n 132 C 0 dX12_readsS_132 rfl ?_
      refine V_bipush 133 C dX12_readsS_133 bp101 ?_
      obtain ⟨M11, e12, h⟩ := letM_some h
      refine V_put (ty := .int) (F := F_X12 G 119) 135 C dX12_readsS_135 (ltl (by rfl) rfl) (fun _ => ceR_X12 (by rfl)) rfl inX12 tyX12 tyX12_ok nmX12 22 rfl wk_6_156 rfl rfl 101 rfl rfl rfl rfl rfl ?_
      refine V_eqM e12 ?_
      refine V_aload_n 138 C 0 dX12_readsS_138 rfl ?_
      refine V_bipush 139 C dX12_readsS_139 bp101 ?_
      obtain ⟨r15, M13, k14, h⟩ := bindM_some h
      refine V_callI 141 (runVO (k := 119) (rest := []) 141 C (kX12_reads  k14) cf_X12_reads wk_8_100 (ltl (by rfl) rfl) (ceR_X12 (by rfl)) rfl rfl rfl rfl dX12_readsS_141 rfl rfl (Nat.zero_le _) (Nat.zero_le _)) ?_
      refine V_ifeq_b 144 187 C dX12_readsS_144 (by decide) (fun c16 => ?_) (fun c16 => ?_)
      · replace h := ite_f c16 h
        refine V_iconst 187 C dX12_readsS_187 ic0 ?_
        exact V_zreth 188 C hQ h dX12_readsS_188
      · replace h := ite_t c16 h
        refine V_aload_n 147 C 0 dX12_readsS_147 rfl ?_
        refine V_bipush 148 C dX12_readsS_148 bp101 ?_
        obtain ⟨r19, M17, k18, h⟩ := bindM_some h
        refine V_callI 150 (runVO (k := 119) (rest := []) 150 C (kX12_reads  k18) cf_X12_reads wk_8_100 (ltl (by rfl) rfl) (ceR_X12 (by rfl)) rfl rfl rfl rfl dX12_readsS_150 rfl rfl (Nat.zero_le _) (Nat.zero_le _)) ?_
        refine V_ifeq_b 153 187 C dX12_readsS_153 (by decide) (fun c20 => ?_) (fun c20 => ?_)
        · replace h := ite_f c20 h
          refine V_iconst 187 C dX12_readsS_187 ic0 ?_
          exact V_zreth 188 C hQ h dX12_readsS_188
        · replace h := ite_t c20 h
          refine V_aload_n 156 C 0 dX12_readsS_156 rfl ?_
          refine V_bipush 157 C dX12_readsS_157 bp100 ?_
          obtain ⟨r23, M21, k22, h⟩ := bindM_some h
          refine V_callI 159 (runVO (k := 119) (rest := []) 159 C (kX12_reads  k22) cf_X12_reads wk_8_100 (ltl (by rfl) rfl) (ceR_X12 (by rfl)) rfl rfl rfl rfl dX12_readsS_159 rfl rfl (Nat.zero_le _) (Nat.zero_le _)) ?_
          refine V_ifeq_b 162 187 C dX12_readsS_162 (by decide) (fun c24 => ?_) (fun c24 => ?_)
          · replace h := ite_f c24 h
            refine V_iconst 187 C dX12_readsS_187 ic0 ?_
            exact V_zreth 188 C hQ h dX12_readsS_188
          · replace h := ite_t c24 h
            refine V_aload_n 165 C 0 dX12_readsS_165 rfl ?_
            refine V_bipush 166 C dX12_readsS_166 bp32 ?_
            obtain ⟨r27, M25, k26, h⟩ := bindM_some h
            refine V_callI 168 (runVO (k := 119) (rest := []) 168 C (kX12_reads  k26) cf_X12_reads wk_8_100 (ltl (by rfl) rfl) (ceR_X12 (by rfl)) rfl rfl rfl rfl dX12_readsS_168 rfl rfl (Nat.zero_le _) (Nat.zero_le _)) ?_
            refine V_ifeq_b 171 187 C dX12_readsS_171 (by decide) (fun c28 => ?_) (fun c28 => ?_)
            · replace h := ite_f c28 h
              refine V_iconst 187 C dX12_readsS_187 ic0 ?_
              exact V_zreth 188 C hQ h dX12_readsS_188
            · replace h := ite_t c28 h
              refine V_aload_n 174 C 0 dX12_readsS_174 rfl ?_
              refine V_iconst 175 C dX12_readsS_175 ic0 ?_
              refine V_iconst 176 C dX12_readsS_176 ic4 ?_
              obtain ⟨r31, M29, k30, h⟩ := bindM_some h
              refine V_callI 177 (runVO (k := 119) (rest := []) 177 C (kX12_readsNumber  k30) cf_X12_readsNumber wk_8_112 (ltl (by rfl) rfl) (ceR_X12 (by rfl)) rfl rfl rfl rfl dX12_readsS_177 rfl rfl (Nat.zero_le _) (Nat.zero_le _)) ?_
              refine V_ifeq_b 180 187 C dX12_readsS_180 (by decide) (fun c32 => ?_) (fun c32 => ?_)
              · replace h := ite_f c32 h
                refine V_iconst 187 C dX12_readsS_187 ic0 ?_
                exact V_zreth 188 C hQ h dX12_readsS_188
              · replace h := ite_t c32 h
                refine V_iconst 183 C dX12_readsS_183 ic1 ?_
                refine V_goto 184 188 C dX12_readsS_184 (by decide) ?_
                exact V_zreth 188 C hQ h dX12_readsS_188
    · replace h := ite_t c10 h
      refine V_aload_n 101 C 0 dX12_readsS_101 rfl ?_
      refine V_bipush 102 C dX12_readsS_102 bp111 ?_
      obtain ⟨r35, M33, k34, h⟩ := bindM_some h
      refine V_callI 104 (runVO (k := 119) (rest := []) 104 C (kX12_reads  k34) cf_X12_reads wk_8_100 (ltl (by rfl) rfl) (ceR_X12 (by rfl)) rfl rfl rfl rfl dX12_readsS_104 rfl rfl (Nat.zero_le _) (Nat.zero_le _)) ?_
      refine V_ifeq_b 107 130 C dX12_readsS_107 (by decide) (fun c36 => ?_) (fun c36 => ?_)
      · replace h := ite_f c36 h
        refine V_iconst 130 C dX12_readsS_130 ic0 ?_
        exact V_zreth 131 C hQ h dX12_readsS_131
      · replace h := ite_t c36 h
        refine V_aload_n 110 C 0 dX12_readsS_110 rfl ?_
        refine V_bipush 111 C dX12_readsS_111 bp112 ?_
        obtain ⟨r39, M37, k38, h⟩ := bindM_some h
        refine V_callI 113 (runVO (k := 119) (rest := []) 113 C (kX12_reads  k38) cf_X12_reads wk_8_100 (ltl (by rfl) rfl) (ceR_X12 (by rfl)) rfl rfl rfl rfl dX12_readsS_113 rfl rfl (Nat.zero_le _) (Nat.zero_le _)) ?_
        refine V_ifeq_b 116 130 C dX12_readsS_116 (by decide) (fun c40 => ?_) (fun c40 => ?_)
        · replace h := ite_f c40 h
          refine V_iconst 130 C dX12_readsS_130 ic0 ?_
          exact V_zreth 131 C hQ h dX12_readsS_131
        · replace h := ite_t c40 h
          refine V_aload_n 119 C 0 dX12_readsS_119 rfl ?_
          obtain ⟨r43, M41, k42, h⟩ := bindM_some h
          refine V_callI 120 (runVO (k := 119) (rest := []) 120 C (kX12_readsOne  k42) cf_X12_readsOne wk_8_108 (ltl (by rfl) rfl) (ceR_X12 (by rfl)) rfl rfl rfl rfl dX12_readsS_120 rfl rfl (Nat.zero_le _) (Nat.zero_le _)) ?_
          refine V_ifeq_b 123 130 C dX12_readsS_123 (by decide) (fun c44 => ?_) (fun c44 => ?_)
          · replace h := ite_f c44 h
            refine V_iconst 130 C dX12_readsS_130 ic0 ?_
            exact V_zreth 131 C hQ h dX12_readsS_131
          · replace h := ite_t c44 h
            refine V_iconst 126 C dX12_readsS_126 ic1 ?_
            refine V_goto 127 131 C dX12_readsS_127 (by decide) ?_
            exact V_zreth 131 C hQ h dX12_readsS_131
  · replace h := ite_t c4 h
    refine V_aload_n 9 C 0 dX12_readsS_9 rfl ?_
    refine V_bipush 10 C dX12_readsS_10 bp101 ?_
    obtain ⟨r47, M45, k46, h⟩ := bindM_some h
    refine V_callI 12 (runVO (k := 119) (rest := []) 12 C (kX12_reads  k46) cf_X12_reads wk_8_100 (ltl (by rfl) rfl) (ceR_X12 (by rfl)) rfl rfl rfl rfl dX12_readsS_12 rfl rfl (Nat.zero_le _) (Nat.zero_le _)) ?_
    refine V_ifeq_b 15 49 C dX12_readsS_15 (by decide) (fun c48 => ?_) (fun c48 => ?_)
    · replace h := ite_f c48 h
      refine V_aload_n 49 C 0 dX12_readsS_49 rfl ?_
      refine V_bipush 50 C dX12_readsS_50 bp111 ?_
      obtain ⟨M49, e50, h⟩ := letM_some h
      refine V_put (ty := .int) (F := F_X12 G 119) 52 C dX12_readsS_52 (ltl (by rfl) rfl) (fun _ => ceR_X12 (by rfl)) rfl inX12 tyX12 tyX12_ok nmX12 22 rfl wk_6_156 rfl rfl 111 rfl rfl rfl rfl rfl ?_
      refine V_eqM e50 ?_
      refine V_aload_n 55 C 0 dX12_readsS_55 rfl ?_
      refine V_bipush 56 C dX12_readsS_56 bp111 ?_
      obtain ⟨r53, M51, k52, h⟩ := bindM_some h
      refine V_callI 58 (runVO (k := 119) (rest := []) 58 C (kX12_reads  k52) cf_X12_reads wk_8_100 (ltl (by rfl) rfl) (ceR_X12 (by rfl)) rfl rfl rfl rfl dX12_readsS_58 rfl rfl (Nat.zero_le _) (Nat.zero_le _)) ?_
      refine V_ifeq_b 61 84 C dX12_readsS_61 (by decide) (fun c54 => ?_) (fun c54 => ?_)
      · replace h := ite_f c54 h
        refine V_iconst 84 C dX12_readsS_84 ic0 ?_
        exact V_zreth 85 C hQ h dX12_readsS_85
      · replace h := ite_t c54 h
        refine V_aload_n 64 C 0 dX12_readsS_64 rfl ?_
        refine V_bipush 65 C dX12_readsS_65 bp119 ?_
        obtain ⟨r57, M55, k56, h⟩ := bindM_some h
        refine V_callI 67 (runVO (k := 119) (rest := []) 67 C (kX12_reads  k56) cf_X12_reads wk_8_100 (ltl (by rfl) rfl) (ceR_X12 (by rfl)) rfl rfl rfl rfl dX12_readsS_67 rfl rfl (Nat.zero_le _) (Nat.zero_le _)) ?_
        refine V_ifeq_b 70 84 C dX12_readsS_70 (by decide) (fun c58 => ?_) (fun c58 => ?_)
        · replace h := ite_f c58 h
          refine V_iconst 84 C dX12_readsS_84 ic0 ?_
          exact V_zreth 85 C hQ h dX12_readsS_85
        · replace h := ite_t c58 h
          refine V_aload_n 73 C 0 dX12_readsS_73 rfl ?_
          obtain ⟨r61, M59, k60, h⟩ := bindM_some h
          refine V_callI 74 (runVO (k := 119) (rest := []) 74 C (kX12_readsOne  k60) cf_X12_readsOne wk_8_108 (ltl (by rfl) rfl) (ceR_X12 (by rfl)) rfl rfl rfl rfl dX12_readsS_74 rfl rfl (Nat.zero_le _) (Nat.zero_le _)) ?_
          refine V_ifeq_b 77 84 C dX12_readsS_77 (by decide) (fun c62 => ?_) (fun c62 => ?_)
          · replace h := ite_f c62 h
            refine V_iconst 84 C dX12_readsS_84 ic0 ?_
            exact V_zreth 85 C hQ h dX12_readsS_85
          · replace h := ite_t c62 h
            refine V_iconst 80 C dX12_readsS_80 ic1 ?_
            refine V_goto 81 85 C dX12_readsS_81 (by decide) ?_
            exact V_zreth 85 C hQ h dX12_readsS_85
    · replace h := ite_t c48 h
      refine V_aload_n 18 C 0 dX12_readsS_18 rfl ?_
      refine V_bipush 19 C dX12_readsS_19 bp108 ?_
      obtain ⟨r65, M63, k64, h⟩ := bindM_some h
      refine V_callI 21 (runVO (k := 119) (rest := []) 21 C (kX12_reads  k64) cf_X12_reads wk_8_100 (ltl (by rfl) rfl) (ceR_X12 (by rfl)) rfl rfl rfl rfl dX12_readsS_21 rfl rfl (Nat.zero_le _) (Nat.zero_le _)) ?_
      refine V_ifeq_b 24 47 C dX12_readsS_24 (by decide) (fun c66 => ?_) (fun c66 => ?_)
      · replace h := ite_f c66 h
        refine V_iconst 47 C dX12_readsS_47 ic0 ?_
        exact V_zreth 48 C hQ h dX12_readsS_48
      · replace h := ite_t c66 h
        refine V_aload_n 27 C 0 dX12_readsS_27 rfl ?_
        refine V_bipush 28 C dX12_readsS_28 bp102 ?_
        obtain ⟨r69, M67, k68, h⟩ := bindM_some h
        refine V_callI 30 (runVO (k := 119) (rest := []) 30 C (kX12_reads  k68) cf_X12_reads wk_8_100 (ltl (by rfl) rfl) (ceR_X12 (by rfl)) rfl rfl rfl rfl dX12_readsS_30 rfl rfl (Nat.zero_le _) (Nat.zero_le _)) ?_
        refine V_ifeq_b 33 47 C dX12_readsS_33 (by decide) (fun c70 => ?_) (fun c70 => ?_)
        · replace h := ite_f c70 h
          refine V_iconst 47 C dX12_readsS_47 ic0 ?_
          exact V_zreth 48 C hQ h dX12_readsS_48
        · replace h := ite_t c70 h
          refine V_aload_n 36 C 0 dX12_readsS_36 rfl ?_
          obtain ⟨r73, M71, k72, h⟩ := bindM_some h
          refine V_callI 37 (runVO (k := 119) (rest := []) 37 C (kX12_readsOne  k72) cf_X12_readsOne wk_8_108 (ltl (by rfl) rfl) (ceR_X12 (by rfl)) rfl rfl rfl rfl dX12_readsS_37 rfl rfl (Nat.zero_le _) (Nat.zero_le _)) ?_
          refine V_ifeq_b 40 47 C dX12_readsS_40 (by decide) (fun c74 => ?_) (fun c74 => ?_)
          · replace h := ite_f c74 h
            refine V_iconst 47 C dX12_readsS_47 ic0 ?_
            exact V_zreth 48 C hQ h dX12_readsS_48
          · replace h := ite_t c74 h
            refine V_iconst 43 C dX12_readsS_43 ic1 ?_
            refine V_goto 44 48 C dX12_readsS_44 (by decide) ?_
            exact V_zreth 48 C hQ h dX12_readsS_48
set_option maxHeartbeats 4000000 in
theorem kX12_readsCommand {G : GG} {l : Launch} {F : Nat}   {M M' : Mem} {r : Bool} (h : fX12_readsCommand F  M = some (r, M')) : Con G l yX12_readsCommand cX12_readsCommand 1 (some .boolean) rmX12_readsCommand [.ref (gad G 119)] M (QI G (b2i r) M') := by
  refine con_of pnX12 (Nat.le_of_ble_eq_true rfl) (fun κ C hQ => ?_)
  unfold fX12_readsCommand at h
  refine V_L (L1 := [(0, .ref (gad G 119))]) rfl ?_
  refine V_aload_n 0 C 0 dX12_readsCommand_0 rfl ?_
  refine V_aload_n 1 C 0 dX12_readsCommand_1 rfl ?_
  obtain ⟨r3, M1, k2, h⟩ := bindM_some h
  refine V_callI 2 (runVO (k := 119) (rest := [.ref (gad G 119)]) 2 C (kX12_nextChar  k2) cf_X12_nextChar wk_8_96 (ltl (by rfl) rfl) (ceR_X12 (by rfl)) rfl rfl rfl rfl dX12_readsCommand_2 rfl rfl (Nat.zero_le _) (Nat.zero_le _)) ?_
  obtain ⟨M4, e5, h⟩ := letM_some h
  refine V_put (ty := .int) (F := F_X12 G 119) 5 C dX12_readsCommand_5 (ltl (by rfl) rfl) (fun _ => ceR_X12 (by rfl)) rfl inX12 tyX12 tyX12_ok nmX12 22 rfl wk_6_156 rfl rfl r3 rfl rfl rfl rfl rfl ?_
  refine V_eqM e5 ?_
  refine V_aload_n 8 C 0 dX12_readsCommand_8 rfl ?_
  refine V_bipush 9 C dX12_readsCommand_9 bp115 ?_
  obtain ⟨r8, M6, k7, h⟩ := bindM_some h
  refine V_callI 11 (runVO (k := 119) (rest := []) 11 C (kX12_reads  k7) cf_X12_reads wk_8_100 (ltl (by rfl) rfl) (ceR_X12 (by rfl)) rfl rfl rfl rfl dX12_readsCommand_11 rfl rfl (Nat.zero_le _) (Nat.zero_le _)) ?_
  refine V_ifeq_b 14 22 C dX12_readsCommand_14 (by decide) (fun c9 => ?_) (fun c9 => ?_)
  · replace h := ite_f c9 h
    refine V_aload_n 22 C 0 dX12_readsCommand_22 rfl ?_
    refine V_bipush 23 C dX12_readsCommand_23 bp108 ?_
    obtain ⟨r12, M10, k11, h⟩ := bindM_some h
    refine V_callI 25 (runVO (k := 119) (rest := []) 25 C (kX12_reads  k11) cf_X12_reads wk_8_100 (ltl (by rfl) rfl) (ceR_X12 (by rfl)) rfl rfl rfl rfl dX12_readsCommand_25 rfl rfl (Nat.zero_le _) (Nat.zero_le _)) ?_
    refine V_ifeq_b 28 71 C dX12_readsCommand_28 (by decide) (fun c13 => ?_) (fun c13 => ?_)
    · replace h := ite_f c13 h
      refine V_aload_n 71 C 0 dX12_readsCommand_71 rfl ?_
      refine V_bipush 72 C dX12_readsCommand_72 bp99 ?_
      obtain ⟨r16, M14, k15, h⟩ := bindM_some h
      refine V_callI 74 (runVO (k := 119) (rest := []) 74 C (kX12_reads  k15) cf_X12_reads wk_8_100 (ltl (by rfl) rfl) (ceR_X12 (by rfl)) rfl rfl rfl rfl dX12_readsCommand_74 rfl rfl (Nat.zero_le _) (Nat.zero_le _)) ?_
      refine V_ifeq_b 77 111 C dX12_readsCommand_77 (by decide) (fun c17 => ?_) (fun c17 => ?_)
      · replace h := ite_f c17 h
        refine V_aload_n 111 C 0 dX12_readsCommand_111 rfl ?_
        refine V_bipush 112 C dX12_readsCommand_112 bp104 ?_
        obtain ⟨r20, M18, k19, h⟩ := bindM_some h
        refine V_callI 114 (runVO (k := 119) (rest := []) 114 C (kX12_reads  k19) cf_X12_reads wk_8_100 (ltl (by rfl) rfl) (ceR_X12 (by rfl)) rfl rfl rfl rfl dX12_readsCommand_114 rfl rfl (Nat.zero_le _) (Nat.zero_le _)) ?_
        refine V_ifeq_b 117 160 C dX12_readsCommand_117 (by decide) (fun c21 => ?_) (fun c21 => ?_)
        · replace h := ite_f c21 h
          refine V_aload_n 160 C 0 dX12_readsCommand_160 rfl ?_
          refine V_bipush 161 C dX12_readsCommand_161 bp102 ?_
          obtain ⟨r24, M22, k23, h⟩ := bindM_some h
          refine V_callI 163 (runVO (k := 119) (rest := []) 163 C (kX12_reads  k23) cf_X12_reads wk_8_100 (ltl (by rfl) rfl) (ceR_X12 (by rfl)) rfl rfl rfl rfl dX12_readsCommand_163 rfl rfl (Nat.zero_le _) (Nat.zero_le _)) ?_
          refine V_ifeq_b 166 227 C dX12_readsCommand_166 (by decide) (fun c25 => ?_) (fun c25 => ?_)
          · replace h := ite_f c25 h
            refine V_aload_n 227 C 0 dX12_readsCommand_227 rfl ?_
            refine V_bipush 228 C dX12_readsCommand_228 bp100 ?_
            obtain ⟨r28, M26, k27, h⟩ := bindM_some h
            refine V_callI 230 (runVO (k := 119) (rest := []) 230 C (kX12_reads  k27) cf_X12_reads wk_8_100 (ltl (by rfl) rfl) (ceR_X12 (by rfl)) rfl rfl rfl rfl dX12_readsCommand_230 rfl rfl (Nat.zero_le _) (Nat.zero_le _)) ?_
            refine V_ifeq_b 233 287 C dX12_readsCommand_233 (by decide) (fun c29 => ?_) (fun c29 => ?_)
            · replace h := ite_f c29 h
              refine V_aload_n 287 C 0 dX12_readsCommand_287 rfl ?_
              refine V_bipush 288 C dX12_readsCommand_288 bp114 ?_
              obtain ⟨r32, M30, k31, h⟩ := bindM_some h
              refine V_callI 290 (runVO (k := 119) (rest := []) 290 C (kX12_reads  k31) cf_X12_reads wk_8_100 (ltl (by rfl) rfl) (ceR_X12 (by rfl)) rfl rfl rfl rfl dX12_readsCommand_290 rfl rfl (Nat.zero_le _) (Nat.zero_le _)) ?_
              refine V_ifeq_b 293 336 C dX12_readsCommand_293 (by decide) (fun c33 => ?_) (fun c33 => ?_)
              · replace h := ite_f c33 h
                refine V_aload_n 336 C 0 dX12_readsCommand_336 rfl ?_
                refine V_bipush 337 C dX12_readsCommand_337 bp119 ?_
                obtain ⟨r36, M34, k35, h⟩ := bindM_some h
                refine V_callI 339 (runVO (k := 119) (rest := []) 339 C (kX12_reads  k35) cf_X12_reads wk_8_100 (ltl (by rfl) rfl) (ceR_X12 (by rfl)) rfl rfl rfl rfl dX12_readsCommand_339 rfl rfl (Nat.zero_le _) (Nat.zero_le _)) ?_
                refine V_ifeq_b 342 383 C dX12_readsCommand_342 (by decide) (fun c37 => ?_) (fun c37 => ?_)
                · replace h := ite_f c37 h
                  refine V_iconst 383 C dX12_readsCommand_383 ic0 ?_
                  exact V_zreth 384 C hQ h dX12_readsCommand_384
                · replace h := ite_t c37 h
                  refine V_aload_n 345 C 0 dX12_readsCommand_345 rfl ?_
                  refine V_bipush 346 C dX12_readsCommand_346 bp97 ?_
                  obtain ⟨r40, M38, k39, h⟩ := bindM_some h
                  refine V_callI 348 (runVO (k := 119) (rest := []) 348 C (kX12_reads  k39) cf_X12_reads wk_8_100 (ltl (by rfl) rfl) (ceR_X12 (by rfl)) rfl rfl rfl rfl dX12_readsCommand_348 rfl rfl (Nat.zero_le _) (Nat.zero_le _)) ?_
                  refine V_ifeq_b 351 383 C dX12_readsCommand_351 (by decide) (fun c41 => ?_) (fun c41 => ?_)
                  · replace h := ite_f c41 h
                    refine V_iconst 383 C dX12_readsCommand_383 ic0 ?_
                    exact V_zreth 384 C hQ h dX12_readsCommand_384
                  · replace h := ite_t c41 h
                    refine V_aload_n 354 C 0 dX12_readsCommand_354 rfl ?_
                    refine V_bipush 355 C dX12_readsCommand_355 bp105 ?_
                    obtain ⟨r44, M42, k43, h⟩ := bindM_some h
                    refine V_callI 357 (runVO (k := 119) (rest := []) 357 C (kX12_reads  k43) cf_X12_reads wk_8_100 (ltl (by rfl) rfl) (ceR_X12 (by rfl)) rfl rfl rfl rfl dX12_readsCommand_357 rfl rfl (Nat.zero_le _) (Nat.zero_le _)) ?_
                    refine V_ifeq_b 360 383 C dX12_readsCommand_360 (by decide) (fun c45 => ?_) (fun c45 => ?_)
                    · replace h := ite_f c45 h
                      refine V_iconst 383 C dX12_readsCommand_383 ic0 ?_
                      exact V_zreth 384 C hQ h dX12_readsCommand_384
                    · replace h := ite_t c45 h
                      refine V_aload_n 363 C 0 dX12_readsCommand_363 rfl ?_
                      refine V_bipush 364 C dX12_readsCommand_364 bp116 ?_
                      obtain ⟨r48, M46, k47, h⟩ := bindM_some h
                      refine V_callI 366 (runVO (k := 119) (rest := []) 366 C (kX12_reads  k47) cf_X12_reads wk_8_100 (ltl (by rfl) rfl) (ceR_X12 (by rfl)) rfl rfl rfl rfl dX12_readsCommand_366 rfl rfl (Nat.zero_le _) (Nat.zero_le _)) ?_
                      refine V_ifeq_b 369 383 C dX12_readsCommand_369 (by decide) (fun c49 => ?_) (fun c49 => ?_)
                      · replace h := ite_f c49 h
                        refine V_iconst 383 C dX12_readsCommand_383 ic0 ?_
                        exact V_zreth 384 C hQ h dX12_readsCommand_384
                      · replace h := ite_t c49 h
                        refine V_aload_n 372 C 0 dX12_readsCommand_372 rfl ?_
                        obtain ⟨r52, M50, k51, h⟩ := bindM_some h
                        refine V_callI 373 (runVO (k := 119) (rest := []) 373 C (kX12_readsOne  k51) cf_X12_readsOne wk_8_108 (ltl (by rfl) rfl) (ceR_X12 (by rfl)) rfl rfl rfl rfl dX12_readsCommand_373 rfl rfl (Nat.zero_le _) (Nat.zero_le _)) ?_
                        refine V_ifeq_b 376 383 C dX12_readsCommand_376 (by decide) (fun c53 => ?_) (fun c53 => ?_)
                        · replace h := ite_f c53 h
                          refine V_iconst 383 C dX12_readsCommand_383 ic0 ?_
                          exact V_zreth 384 C hQ h dX12_readsCommand_384
                        · replace h := ite_t c53 h
                          refine V_iconst 379 C dX12_readsCommand_379 ic1 ?_
                          refine V_goto 380 384 C dX12_readsCommand_380 (by decide) ?_
                          exact V_zreth 384 C hQ h dX12_readsCommand_384
              · replace h := ite_t c33 h
                refine V_aload_n 296 C 0 dX12_readsCommand_296 rfl ?_
                refine V_bipush 297 C dX12_readsCommand_297 bp97 ?_
                obtain ⟨r56, M54, k55, h⟩ := bindM_some h
                refine V_callI 299 (runVO (k := 119) (rest := []) 299 C (kX12_reads  k55) cf_X12_reads wk_8_100 (ltl (by rfl) rfl) (ceR_X12 (by rfl)) rfl rfl rfl rfl dX12_readsCommand_299 rfl rfl (Nat.zero_le _) (Nat.zero_le _)) ?_
                refine V_ifeq_b 302 334 C dX12_readsCommand_302 (by decide) (fun c57 => ?_) (fun c57 => ?_)
                · replace h := ite_f c57 h
                  refine V_iconst 334 C dX12_readsCommand_334 ic0 ?_
                  exact V_zreth 335 C hQ h dX12_readsCommand_335
                · replace h := ite_t c57 h
                  refine V_aload_n 305 C 0 dX12_readsCommand_305 rfl ?_
                  refine V_bipush 306 C dX12_readsCommand_306 bp116 ?_
                  obtain ⟨r60, M58, k59, h⟩ := bindM_some h
                  refine V_callI 308 (runVO (k := 119) (rest := []) 308 C (kX12_reads  k59) cf_X12_reads wk_8_100 (ltl (by rfl) rfl) (ceR_X12 (by rfl)) rfl rfl rfl rfl dX12_readsCommand_308 rfl rfl (Nat.zero_le _) (Nat.zero_le _)) ?_
                  refine V_ifeq_b 311 334 C dX12_readsCommand_311 (by decide) (fun c61 => ?_) (fun c61 => ?_)
                  · replace h := ite_f c61 h
                    refine V_iconst 334 C dX12_readsCommand_334 ic0 ?_
                    exact V_zreth 335 C hQ h dX12_readsCommand_335
                  · replace h := ite_t c61 h
                    refine V_aload_n 314 C 0 dX12_readsCommand_314 rfl ?_
                    refine V_bipush 315 C dX12_readsCommand_315 bp101 ?_
                    obtain ⟨r64, M62, k63, h⟩ := bindM_some h
                    refine V_callI 317 (runVO (k := 119) (rest := []) 317 C (kX12_reads  k63) cf_X12_reads wk_8_100 (ltl (by rfl) rfl) (ceR_X12 (by rfl)) rfl rfl rfl rfl dX12_readsCommand_317 rfl rfl (Nat.zero_le _) (Nat.zero_le _)) ?_
                    refine V_ifeq_b 320 334 C dX12_readsCommand_320 (by decide) (fun c65 => ?_) (fun c65 => ?_)
                    · replace h := ite_f c65 h
                      refine V_iconst 334 C dX12_readsCommand_334 ic0 ?_
                      exact V_zreth 335 C hQ h dX12_readsCommand_335
                    · replace h := ite_t c65 h
                      refine V_aload_n 323 C 0 dX12_readsCommand_323 rfl ?_
                      obtain ⟨r68, M66, k67, h⟩ := bindM_some h
                      refine V_callI 324 (runVO (k := 119) (rest := []) 324 C (kX12_readsOne  k67) cf_X12_readsOne wk_8_108 (ltl (by rfl) rfl) (ceR_X12 (by rfl)) rfl rfl rfl rfl dX12_readsCommand_324 rfl rfl (Nat.zero_le _) (Nat.zero_le _)) ?_
                      refine V_ifeq_b 327 334 C dX12_readsCommand_327 (by decide) (fun c69 => ?_) (fun c69 => ?_)
                      · replace h := ite_f c69 h
                        refine V_iconst 334 C dX12_readsCommand_334 ic0 ?_
                        exact V_zreth 335 C hQ h dX12_readsCommand_335
                      · replace h := ite_t c69 h
                        refine V_iconst 330 C dX12_readsCommand_330 ic1 ?_
                        refine V_goto 331 335 C dX12_readsCommand_331 (by decide) ?_
                        exact V_zreth 335 C hQ h dX12_readsCommand_335
            · replace h := ite_t c29 h
              refine V_aload_n 236 C 0 dX12_readsCommand_236 rfl ?_
              refine V_bipush 237 C dX12_readsCommand_237 bp114 ?_
              obtain ⟨r72, M70, k71, h⟩ := bindM_some h
              refine V_callI 239 (runVO (k := 119) (rest := []) 239 C (kX12_reads  k71) cf_X12_reads wk_8_100 (ltl (by rfl) rfl) (ceR_X12 (by rfl)) rfl rfl rfl rfl dX12_readsCommand_239 rfl rfl (Nat.zero_le _) (Nat.zero_le _)) ?_
              refine V_ifeq_b 242 285 C dX12_readsCommand_242 (by decide) (fun c73 => ?_) (fun c73 => ?_)
              · replace h := ite_f c73 h
                refine V_iconst 285 C dX12_readsCommand_285 ic0 ?_
                exact V_zreth 286 C hQ h dX12_readsCommand_286
              · replace h := ite_t c73 h
                refine V_aload_n 245 C 0 dX12_readsCommand_245 rfl ?_
                refine V_bipush 246 C dX12_readsCommand_246 bp111 ?_
                obtain ⟨r76, M74, k75, h⟩ := bindM_some h
                refine V_callI 248 (runVO (k := 119) (rest := []) 248 C (kX12_reads  k75) cf_X12_reads wk_8_100 (ltl (by rfl) rfl) (ceR_X12 (by rfl)) rfl rfl rfl rfl dX12_readsCommand_248 rfl rfl (Nat.zero_le _) (Nat.zero_le _)) ?_
                refine V_ifeq_b 251 285 C dX12_readsCommand_251 (by decide) (fun c77 => ?_) (fun c77 => ?_)
                · replace h := ite_f c77 h
                  refine V_iconst 285 C dX12_readsCommand_285 ic0 ?_
                  exact V_zreth 286 C hQ h dX12_readsCommand_286
                · replace h := ite_t c77 h
                  refine V_aload_n 254 C 0 dX12_readsCommand_254 rfl ?_
                  refine V_bipush 255 C dX12_readsCommand_255 bp112 ?_
                  obtain ⟨r80, M78, k79, h⟩ := bindM_some h
                  refine V_callI 257 (runVO (k := 119) (rest := []) 257 C (kX12_reads  k79) cf_X12_reads wk_8_100 (ltl (by rfl) rfl) (ceR_X12 (by rfl)) rfl rfl rfl rfl dX12_readsCommand_257 rfl rfl (Nat.zero_le _) (Nat.zero_le _)) ?_
                  refine V_ifeq_b 260 285 C dX12_readsCommand_260 (by decide) (fun c81 => ?_) (fun c81 => ?_)
                  · replace h := ite_f c81 h
                    refine V_iconst 285 C dX12_readsCommand_285 ic0 ?_
                    exact V_zreth 286 C hQ h dX12_readsCommand_286
                  · replace h := ite_t c81 h
                    refine V_aload_n 263 C 0 dX12_readsCommand_263 rfl ?_
                    refine V_bipush 264 C dX12_readsCommand_264 bp32 ?_
                    obtain ⟨r84, M82, k83, h⟩ := bindM_some h
                    refine V_callI 266 (runVO (k := 119) (rest := []) 266 C (kX12_reads  k83) cf_X12_reads wk_8_100 (ltl (by rfl) rfl) (ceR_X12 (by rfl)) rfl rfl rfl rfl dX12_readsCommand_266 rfl rfl (Nat.zero_le _) (Nat.zero_le _)) ?_
                    refine V_ifeq_b 269 285 C dX12_readsCommand_269 (by decide) (fun c85 => ?_) (fun c85 => ?_)
                    · replace h := ite_f c85 h
                      refine V_iconst 285 C dX12_readsCommand_285 ic0 ?_
                      exact V_zreth 286 C hQ h dX12_readsCommand_286
                    · replace h := ite_t c85 h
                      refine V_aload_n 272 C 0 dX12_readsCommand_272 rfl ?_
                      refine V_iconst 273 C dX12_readsCommand_273 ic0 ?_
                      refine V_iconst 274 C dX12_readsCommand_274 ic1 ?_
                      obtain ⟨r88, M86, k87, h⟩ := bindM_some h
                      refine V_callI 275 (runVO (k := 119) (rest := []) 275 C (kX12_readsNumber  k87) cf_X12_readsNumber wk_8_112 (ltl (by rfl) rfl) (ceR_X12 (by rfl)) rfl rfl rfl rfl dX12_readsCommand_275 rfl rfl (Nat.zero_le _) (Nat.zero_le _)) ?_
                      refine V_ifeq_b 278 285 C dX12_readsCommand_278 (by decide) (fun c89 => ?_) (fun c89 => ?_)
                      · replace h := ite_f c89 h
                        refine V_iconst 285 C dX12_readsCommand_285 ic0 ?_
                        exact V_zreth 286 C hQ h dX12_readsCommand_286
                      · replace h := ite_t c89 h
                        refine V_iconst 281 C dX12_readsCommand_281 ic1 ?_
                        refine V_goto 282 286 C dX12_readsCommand_282 (by decide) ?_
                        exact V_zreth 286 C hQ h dX12_readsCommand_286
          · replace h := ite_t c25 h
            refine V_aload_n 169 C 0 dX12_readsCommand_169 rfl ?_
            refine V_bipush 170 C dX12_readsCommand_170 bp105 ?_
            obtain ⟨r92, M90, k91, h⟩ := bindM_some h
            refine V_callI 172 (runVO (k := 119) (rest := []) 172 C (kX12_reads  k91) cf_X12_reads wk_8_100 (ltl (by rfl) rfl) (ceR_X12 (by rfl)) rfl rfl rfl rfl dX12_readsCommand_172 rfl rfl (Nat.zero_le _) (Nat.zero_le _)) ?_
            refine V_ifeq_b 175 225 C dX12_readsCommand_175 (by decide) (fun c93 => ?_) (fun c93 => ?_)
            · replace h := ite_f c93 h
              refine V_iconst 225 C dX12_readsCommand_225 ic0 ?_
              exact V_zreth 226 C hQ h dX12_readsCommand_226
            · replace h := ite_t c93 h
              refine V_aload_n 178 C 0 dX12_readsCommand_178 rfl ?_
              refine V_bipush 179 C dX12_readsCommand_179 bp108 ?_
              obtain ⟨r96, M94, k95, h⟩ := bindM_some h
              refine V_callI 181 (runVO (k := 119) (rest := []) 181 C (kX12_reads  k95) cf_X12_reads wk_8_100 (ltl (by rfl) rfl) (ceR_X12 (by rfl)) rfl rfl rfl rfl dX12_readsCommand_181 rfl rfl (Nat.zero_le _) (Nat.zero_le _)) ?_
              refine V_ifeq_b 184 225 C dX12_readsCommand_184 (by decide) (fun c97 => ?_) (fun c97 => ?_)
              · replace h := ite_f c97 h
                refine V_iconst 225 C dX12_readsCommand_225 ic0 ?_
                exact V_zreth 226 C hQ h dX12_readsCommand_226
              · replace h := ite_t c97 h
                refine V_aload_n 187 C 0 dX12_readsCommand_187 rfl ?_
                refine V_bipush 188 C dX12_readsCommand_188 bp108 ?_
                obtain ⟨r100, M98, k99, h⟩ := bindM_some h
                refine V_callI 190 (runVO (k := 119) (rest := []) 190 C (kX12_reads  k99) cf_X12_reads wk_8_100 (ltl (by rfl) rfl) (ceR_X12 (by rfl)) rfl rfl rfl rfl dX12_readsCommand_190 rfl rfl (Nat.zero_le _) (Nat.zero_le _)) ?_
                refine V_ifeq_b 193 225 C dX12_readsCommand_193 (by decide) (fun c101 => ?_) (fun c101 => ?_)
                · replace h := ite_f c101 h
                  refine V_iconst 225 C dX12_readsCommand_225 ic0 ?_
                  exact V_zreth 226 C hQ h dX12_readsCommand_226
                · replace h := ite_t c101 h
                  refine V_aload_n 196 C 0 dX12_readsCommand_196 rfl ?_
                  obtain ⟨r104, M102, k103, h⟩ := bindM_some h
                  refine V_callI 197 (runVO (k := 119) (rest := []) 197 C (kX12_readsOne  k103) cf_X12_readsOne wk_8_108 (ltl (by rfl) rfl) (ceR_X12 (by rfl)) rfl rfl rfl rfl dX12_readsCommand_197 rfl rfl (Nat.zero_le _) (Nat.zero_le _)) ?_
                  refine V_ifeq_b 200 225 C dX12_readsCommand_200 (by decide) (fun c105 => ?_) (fun c105 => ?_)
                  · replace h := ite_f c105 h
                    refine V_iconst 225 C dX12_readsCommand_225 ic0 ?_
                    exact V_zreth 226 C hQ h dX12_readsCommand_226
                  · replace h := ite_t c105 h
                    refine V_aload_n 203 C 0 dX12_readsCommand_203 rfl ?_
                    refine V_bipush 204 C dX12_readsCommand_204 bp32 ?_
                    obtain ⟨r108, M106, k107, h⟩ := bindM_some h
                    refine V_callI 206 (runVO (k := 119) (rest := []) 206 C (kX12_reads  k107) cf_X12_reads wk_8_100 (ltl (by rfl) rfl) (ceR_X12 (by rfl)) rfl rfl rfl rfl dX12_readsCommand_206 rfl rfl (Nat.zero_le _) (Nat.zero_le _)) ?_
                    refine V_ifeq_b 209 225 C dX12_readsCommand_209 (by decide) (fun c109 => ?_) (fun c109 => ?_)
                    · replace h := ite_f c109 h
                      refine V_iconst 225 C dX12_readsCommand_225 ic0 ?_
                      exact V_zreth 226 C hQ h dX12_readsCommand_226
                    · replace h := ite_t c109 h
                      refine V_aload_n 212 C 0 dX12_readsCommand_212 rfl ?_
                      refine V_iconst 213 C dX12_readsCommand_213 ic1 ?_
                      refine V_iconst 214 C dX12_readsCommand_214 ic2 ?_
                      obtain ⟨r112, M110, k111, h⟩ := bindM_some h
                      refine V_callI 215 (runVO (k := 119) (rest := []) 215 C (kX12_readsNumber  k111) cf_X12_readsNumber wk_8_112 (ltl (by rfl) rfl) (ceR_X12 (by rfl)) rfl rfl rfl rfl dX12_readsCommand_215 rfl rfl (Nat.zero_le _) (Nat.zero_le _)) ?_
                      refine V_ifeq_b 218 225 C dX12_readsCommand_218 (by decide) (fun c113 => ?_) (fun c113 => ?_)
                      · replace h := ite_f c113 h
                        refine V_iconst 225 C dX12_readsCommand_225 ic0 ?_
                        exact V_zreth 226 C hQ h dX12_readsCommand_226
                      · replace h := ite_t c113 h
                        refine V_iconst 221 C dX12_readsCommand_221 ic1 ?_
                        refine V_goto 222 226 C dX12_readsCommand_222 (by decide) ?_
                        exact V_zreth 226 C hQ h dX12_readsCommand_226
        · replace h := ite_t c21 h
          refine V_aload_n 120 C 0 dX12_readsCommand_120 rfl ?_
          refine V_bipush 121 C dX12_readsCommand_121 bp105 ?_
          obtain ⟨r116, M114, k115, h⟩ := bindM_some h
          refine V_callI 123 (runVO (k := 119) (rest := []) 123 C (kX12_reads  k115) cf_X12_reads wk_8_100 (ltl (by rfl) rfl) (ceR_X12 (by rfl)) rfl rfl rfl rfl dX12_readsCommand_123 rfl rfl (Nat.zero_le _) (Nat.zero_le _)) ?_
          refine V_ifeq_b 126 158 C dX12_readsCommand_126 (by decide) (fun c117 => ?_) (fun c117 => ?_)
          · replace h := ite_f c117 h
            refine V_iconst 158 C dX12_readsCommand_158 ic0 ?_
            exact V_zreth 159 C hQ h dX12_readsCommand_159
          · replace h := ite_t c117 h
            refine V_aload_n 129 C 0 dX12_readsCommand_129 rfl ?_
            refine V_bipush 130 C dX12_readsCommand_130 bp100 ?_
            obtain ⟨r120, M118, k119, h⟩ := bindM_some h
            refine V_callI 132 (runVO (k := 119) (rest := []) 132 C (kX12_reads  k119) cf_X12_reads wk_8_100 (ltl (by rfl) rfl) (ceR_X12 (by rfl)) rfl rfl rfl rfl dX12_readsCommand_132 rfl rfl (Nat.zero_le _) (Nat.zero_le _)) ?_
            refine V_ifeq_b 135 158 C dX12_readsCommand_135 (by decide) (fun c121 => ?_) (fun c121 => ?_)
            · replace h := ite_f c121 h
              refine V_iconst 158 C dX12_readsCommand_158 ic0 ?_
              exact V_zreth 159 C hQ h dX12_readsCommand_159
            · replace h := ite_t c121 h
              refine V_aload_n 138 C 0 dX12_readsCommand_138 rfl ?_
              refine V_bipush 139 C dX12_readsCommand_139 bp101 ?_
              obtain ⟨r124, M122, k123, h⟩ := bindM_some h
              refine V_callI 141 (runVO (k := 119) (rest := []) 141 C (kX12_reads  k123) cf_X12_reads wk_8_100 (ltl (by rfl) rfl) (ceR_X12 (by rfl)) rfl rfl rfl rfl dX12_readsCommand_141 rfl rfl (Nat.zero_le _) (Nat.zero_le _)) ?_
              refine V_ifeq_b 144 158 C dX12_readsCommand_144 (by decide) (fun c125 => ?_) (fun c125 => ?_)
              · replace h := ite_f c125 h
                refine V_iconst 158 C dX12_readsCommand_158 ic0 ?_
                exact V_zreth 159 C hQ h dX12_readsCommand_159
              · replace h := ite_t c125 h
                refine V_aload_n 147 C 0 dX12_readsCommand_147 rfl ?_
                obtain ⟨r128, M126, k127, h⟩ := bindM_some h
                refine V_callI 148 (runVO (k := 119) (rest := []) 148 C (kX12_readsOne  k127) cf_X12_readsOne wk_8_108 (ltl (by rfl) rfl) (ceR_X12 (by rfl)) rfl rfl rfl rfl dX12_readsCommand_148 rfl rfl (Nat.zero_le _) (Nat.zero_le _)) ?_
                refine V_ifeq_b 151 158 C dX12_readsCommand_151 (by decide) (fun c129 => ?_) (fun c129 => ?_)
                · replace h := ite_f c129 h
                  refine V_iconst 158 C dX12_readsCommand_158 ic0 ?_
                  exact V_zreth 159 C hQ h dX12_readsCommand_159
                · replace h := ite_t c129 h
                  refine V_iconst 154 C dX12_readsCommand_154 ic1 ?_
                  refine V_goto 155 159 C dX12_readsCommand_155 (by decide) ?_
                  exact V_zreth 159 C hQ h dX12_readsCommand_159
      · replace h := ite_t c17 h
        refine V_aload_n 80 C 0 dX12_readsCommand_80 rfl ?_
        refine V_bipush 81 C dX12_readsCommand_81 bp117 ?_
        obtain ⟨r132, M130, k131, h⟩ := bindM_some h
        refine V_callI 83 (runVO (k := 119) (rest := []) 83 C (kX12_reads  k131) cf_X12_reads wk_8_100 (ltl (by rfl) rfl) (ceR_X12 (by rfl)) rfl rfl rfl rfl dX12_readsCommand_83 rfl rfl (Nat.zero_le _) (Nat.zero_le _)) ?_
        refine V_ifeq_b 86 109 C dX12_readsCommand_86 (by decide) (fun c133 => ?_) (fun c133 => ?_)
        · replace h := ite_f c133 h
          refine V_iconst 109 C dX12_readsCommand_109 ic0 ?_
          exact V_zreth 110 C hQ h dX12_readsCommand_110
        · replace h := ite_t c133 h
          refine V_aload_n 89 C 0 dX12_readsCommand_89 rfl ?_
          refine V_bipush 90 C dX12_readsCommand_90 bp116 ?_
          obtain ⟨r136, M134, k135, h⟩ := bindM_some h
          refine V_callI 92 (runVO (k := 119) (rest := []) 92 C (kX12_reads  k135) cf_X12_reads wk_8_100 (ltl (by rfl) rfl) (ceR_X12 (by rfl)) rfl rfl rfl rfl dX12_readsCommand_92 rfl rfl (Nat.zero_le _) (Nat.zero_le _)) ?_
          refine V_ifeq_b 95 109 C dX12_readsCommand_95 (by decide) (fun c137 => ?_) (fun c137 => ?_)
          · replace h := ite_f c137 h
            refine V_iconst 109 C dX12_readsCommand_109 ic0 ?_
            exact V_zreth 110 C hQ h dX12_readsCommand_110
          · replace h := ite_t c137 h
            refine V_aload_n 98 C 0 dX12_readsCommand_98 rfl ?_
            obtain ⟨r140, M138, k139, h⟩ := bindM_some h
            refine V_callI 99 (runVO (k := 119) (rest := []) 99 C (kX12_readsPair  k139) cf_X12_readsPair wk_8_120 (ltl (by rfl) rfl) (ceR_X12 (by rfl)) rfl rfl rfl rfl dX12_readsCommand_99 rfl rfl (Nat.zero_le _) (Nat.zero_le _)) ?_
            refine V_ifeq_b 102 109 C dX12_readsCommand_102 (by decide) (fun c141 => ?_) (fun c141 => ?_)
            · replace h := ite_f c141 h
              refine V_iconst 109 C dX12_readsCommand_109 ic0 ?_
              exact V_zreth 110 C hQ h dX12_readsCommand_110
            · replace h := ite_t c141 h
              refine V_iconst 105 C dX12_readsCommand_105 ic1 ?_
              refine V_goto 106 110 C dX12_readsCommand_106 (by decide) ?_
              exact V_zreth 110 C hQ h dX12_readsCommand_110
    · replace h := ite_t c13 h
      refine V_aload_n 31 C 0 dX12_readsCommand_31 rfl ?_
      refine V_bipush 32 C dX12_readsCommand_32 bp105 ?_
      obtain ⟨r144, M142, k143, h⟩ := bindM_some h
      refine V_callI 34 (runVO (k := 119) (rest := []) 34 C (kX12_reads  k143) cf_X12_reads wk_8_100 (ltl (by rfl) rfl) (ceR_X12 (by rfl)) rfl rfl rfl rfl dX12_readsCommand_34 rfl rfl (Nat.zero_le _) (Nat.zero_le _)) ?_
      refine V_ifeq_b 37 69 C dX12_readsCommand_37 (by decide) (fun c145 => ?_) (fun c145 => ?_)
      · replace h := ite_f c145 h
        refine V_iconst 69 C dX12_readsCommand_69 ic0 ?_
        exact V_zreth 70 C hQ h dX12_readsCommand_70
      · replace h := ite_t c145 h
        refine V_aload_n 40 C 0 dX12_readsCommand_40 rfl ?_
        refine V_bipush 41 C dX12_readsCommand_41 bp110 ?_
        obtain ⟨r148, M146, k147, h⟩ := bindM_some h
        refine V_callI 43 (runVO (k := 119) (rest := []) 43 C (kX12_reads  k147) cf_X12_reads wk_8_100 (ltl (by rfl) rfl) (ceR_X12 (by rfl)) rfl rfl rfl rfl dX12_readsCommand_43 rfl rfl (Nat.zero_le _) (Nat.zero_le _)) ?_
        refine V_ifeq_b 46 69 C dX12_readsCommand_46 (by decide) (fun c149 => ?_) (fun c149 => ?_)
        · replace h := ite_f c149 h
          refine V_iconst 69 C dX12_readsCommand_69 ic0 ?_
          exact V_zreth 70 C hQ h dX12_readsCommand_70
        · replace h := ite_t c149 h
          refine V_aload_n 49 C 0 dX12_readsCommand_49 rfl ?_
          refine V_bipush 50 C dX12_readsCommand_50 bp107 ?_
          obtain ⟨r152, M150, k151, h⟩ := bindM_some h
          refine V_callI 52 (runVO (k := 119) (rest := []) 52 C (kX12_reads  k151) cf_X12_reads wk_8_100 (ltl (by rfl) rfl) (ceR_X12 (by rfl)) rfl rfl rfl rfl dX12_readsCommand_52 rfl rfl (Nat.zero_le _) (Nat.zero_le _)) ?_
          refine V_ifeq_b 55 69 C dX12_readsCommand_55 (by decide) (fun c153 => ?_) (fun c153 => ?_)
          · replace h := ite_f c153 h
            refine V_iconst 69 C dX12_readsCommand_69 ic0 ?_
            exact V_zreth 70 C hQ h dX12_readsCommand_70
          · replace h := ite_t c153 h
            refine V_aload_n 58 C 0 dX12_readsCommand_58 rfl ?_
            obtain ⟨r156, M154, k155, h⟩ := bindM_some h
            refine V_callI 59 (runVO (k := 119) (rest := []) 59 C (kX12_readsPair  k155) cf_X12_readsPair wk_8_120 (ltl (by rfl) rfl) (ceR_X12 (by rfl)) rfl rfl rfl rfl dX12_readsCommand_59 rfl rfl (Nat.zero_le _) (Nat.zero_le _)) ?_
            refine V_ifeq_b 62 69 C dX12_readsCommand_62 (by decide) (fun c157 => ?_) (fun c157 => ?_)
            · replace h := ite_f c157 h
              refine V_iconst 69 C dX12_readsCommand_69 ic0 ?_
              exact V_zreth 70 C hQ h dX12_readsCommand_70
            · replace h := ite_t c157 h
              refine V_iconst 65 C dX12_readsCommand_65 ic1 ?_
              refine V_goto 66 70 C dX12_readsCommand_66 (by decide) ?_
              exact V_zreth 70 C hQ h dX12_readsCommand_70
  · replace h := ite_t c9 h
    refine V_aload_n 17 C 0 dX12_readsCommand_17 rfl ?_
    obtain ⟨r160, M158, k159, h⟩ := bindM_some h
    refine V_callI 18 (runVO (k := 119) (rest := []) 18 C (kX12_readsS  k159) cf_X12_readsS wk_8_104 (ltl (by rfl) rfl) (ceR_X12 (by rfl)) rfl rfl rfl rfl dX12_readsCommand_18 rfl rfl (Nat.zero_le _) (Nat.zero_le _)) ?_
    exact V_zreth 21 C hQ h dX12_readsCommand_21
set_option maxHeartbeats 4000000 in
theorem vX12_readsAll_7 {G : GG} {κ : KK} {F : Nat}  (C : Cx G κ cX12_readsAll RX12 (some .boolean) 2 rmX12_readsAll) {M' : Mem} {r : Bool} (hQ : HQ G κ (QI G (b2i r) M') 0 0)  {kx : Mem → Option (Bool × Mem)} (hk : ∀  (M : Mem), kx  M = some (r, M') → V G κ 2 0 0 M 30 [(0, .ref (gad G 119))] []) : ∀ (n : Nat) (v1 : Int32) (M : Mem), fX12_readsAll_7 F  kx n v1 M = some (r, M') → V G κ 2 0 0 M 7 [(0, .ref (gad G 119)), (1, .int v1)] [] := by
  intro n
  induction n with
  | zero => intro v1 M h; rw [fX12_readsAll_7] at h; cases h
  | succ n ih =>
    intro v1 M h
    rw [fX12_readsAll_7] at h
    refine V_iload_n 7 C 1 dX12_readsAll_7 rfl ?_
    refine V_if_eq 8 30 C dX12_readsAll_8 (by decide) (fun c3 => ?_) (fun c3 => ?_)
    · replace h := ite_t c3 h
      refine V_sub [0] rfl ?_
      exact hk  _ h
    · replace h := ite_f c3 h
      refine V_aload_n 11 C 0 dX12_readsAll_11 rfl ?_
      obtain ⟨r6, M4, k5, h⟩ := bindM_some h
      refine V_callI 12 (runVO (k := 119) (rest := []) 12 C (kX12_readsCommand  k5) cf_X12_readsCommand wk_8_92 (ltl (by rfl) rfl) (ceR_X12 (by rfl)) rfl rfl rfl rfl dX12_readsAll_12 rfl rfl (Nat.zero_le _) (Nat.zero_le _)) ?_
      refine V_ifne_b 15 20 C dX12_readsAll_15 (by decide) (fun c7 => ?_) (fun c7 => ?_)
      · replace h := ite_t c7 h
        refine V_aload_n 20 C 0 dX12_readsAll_20 rfl ?_
        refine V_bipush 21 C dX12_readsAll_21 bp59 ?_
        obtain ⟨r10, M8, k9, h⟩ := bindM_some h
        refine V_callI 23 (runVO (k := 119) (rest := []) 23 C (kX12_reads  k9) cf_X12_reads wk_8_100 (ltl (by rfl) rfl) (ceR_X12 (by rfl)) rfl rfl rfl rfl dX12_readsAll_23 rfl rfl (Nat.zero_le _) (Nat.zero_le _)) ?_
        refine V_istore_n 26 C [(1, .int (b2i r10)), (0, .ref (gad G 119))] dX12_readsAll_26 rfl rfl rfl ?_
        refine V_goto 27 7 C dX12_readsAll_27 (by decide) ?_
        refine V_sub [1, 0] rfl ?_
        exact ih _ _ h
      · replace h := ite_f c7 h
        refine V_iconst 18 C dX12_readsAll_18 ic0 ?_
        exact V_zreth 19 C hQ h dX12_readsAll_19
set_option maxHeartbeats 4000000 in
theorem kX12_readsAll {G : GG} {l : Launch} {F : Nat}   {M M' : Mem} {r : Bool} (h : fX12_readsAll F  M = some (r, M')) : Con G l yX12_readsAll cX12_readsAll 2 (some .boolean) rmX12_readsAll [.ref (gad G 119)] M (QI G (b2i r) M') := by
  refine con_of pnX12 (Nat.le_of_ble_eq_true rfl) (fun κ C hQ => ?_)
  unfold fX12_readsAll at h
  refine V_L (L1 := [(0, .ref (gad G 119))]) rfl ?_
  refine V_aload_n 0 C 0 dX12_readsAll_0 rfl ?_
  refine V_iconst 1 C dX12_readsAll_1 ic0 ?_
  obtain ⟨M1, e2, h⟩ := letM_some h
  refine V_put (ty := .int) (F := F_X12 G 119) 2 C dX12_readsAll_2 (ltl (by rfl) rfl) (fun _ => ceR_X12 (by rfl)) rfl inX12 tyX12 tyX12_ok nmX12 19 rfl wk_6_153 rfl rfl 0 rfl rfl rfl rfl rfl ?_
  refine V_eqM e2 ?_
  refine V_iconst 5 C dX12_readsAll_5 ic1 ?_
  refine V_istore_n 6 C [(1, .int 1), (0, .ref (gad G 119))] dX12_readsAll_6 rfl rfl rfl ?_
  refine V_sub [1, 0] rfl ?_
  refine vX12_readsAll_7  C hQ ?_ _ _ _ h
  intro M11 h
  refine V_aload_n 30 C 0 dX12_readsAll_30 rfl ?_
  refine V_get (v := .int (M11 119 19)) 31 C dX12_readsAll_31 (ltl (by rfl) rfl) (ceR_X12 (by rfl)) rfl inX12 19 rfl wk_6_153 rfl rfl ?_
  refine V_aload_n 34 C 0 dX12_readsAll_34 rfl ?_
  refine V_get (v := .int (M11 119 18)) 35 C dX12_readsAll_35 (ltl (by rfl) rfl) (ceR_X12 (by rfl)) rfl inX12 18 rfl wk_6_152 rfl rfl ?_
  refine V_icmp_ne 38 45 C dX12_readsAll_38 (by decide) (fun c12 => ?_) (fun c12 => ?_)
  · replace h := ite_f c12 h
    refine V_iconst 45 C dX12_readsAll_45 ic0 ?_
    exact V_zreth 46 C hQ h dX12_readsAll_46
  · replace h := ite_t c12 h
    refine V_iconst 41 C dX12_readsAll_41 ic1 ?_
    refine V_goto 42 46 C dX12_readsAll_42 (by decide) ?_
    exact V_zreth 46 C hQ h dX12_readsAll_46
set_option maxHeartbeats 4000000 in
theorem kX12_notNow {G : GG} {l : Launch} {F : Nat}   {M M' : Mem} {r : Int32} (h : fX12_notNow F  M = some (r, M')) : Con G l yX12_notNow cX12_notNow 3 (some .int) rmX12_notNow [.ref (gad G 119)] M (QI G r M') := by
  refine con_of pnX12 (Nat.le_of_ble_eq_true rfl) (fun κ C hQ => ?_)
  unfold fX12_notNow at h
  refine V_L (L1 := [(0, .ref (gad G 119))]) rfl ?_
  refine V_aload_n 0 C 0 dX12_notNow_0 rfl ?_
  refine V_get (v := .ref (gad G 128)) 1 C dX12_notNow_1 (ltl (by rfl) rfl) (ceR_X12 (by rfl)) rfl inX12 21 rfl wk_6_155 rfl rfl ?_
  refine V_iconst 4 C dX12_notNow_4 ic0 ?_
  refine V_ialdJ 5 C dX12_notNow_5 (akI_29 (by rfl)) (al_29 (by rfl)) (by decide) (j := 0) (by decide) ?_
  obtain ⟨x2, e3, h⟩ := letM_some h
  refine V_top e3 ?_
  refine V_istore_n 6 C [(1, .int x2), (0, .ref (gad G 119))] dX12_notNow_6 rfl rfl rfl ?_
  refine V_aload_n 7 C 1 dX12_notNow_7 rfl ?_
  refine V_get (v := .ref (gad G 128)) 8 C dX12_notNow_8 (ltl (by rfl) rfl) (ceR_X12 (by rfl)) rfl inX12 21 rfl wk_6_155 rfl rfl ?_
  refine V_iconst 11 C dX12_notNow_11 ic1 ?_
  refine V_ialdJ 12 C dX12_notNow_12 (akI_29 (by rfl)) (al_29 (by rfl)) (by decide) (j := 1) (by decide) ?_
  obtain ⟨x5, e6, h⟩ := letM_some h
  refine V_top e6 ?_
  refine V_istore_n 13 C [(2, .int x5), (1, .int x2), (0, .ref (gad G 119))] dX12_notNow_13 rfl rfl rfl ?_
  refine V_aload_n 14 C 2 dX12_notNow_14 rfl ?_
  refine V_get (v := .int (M 119 22)) 15 C dX12_notNow_15 (ltl (by rfl) rfl) (ceR_X12 (by rfl)) rfl inX12 22 rfl wk_6_156 rfl rfl ?_
  obtain ⟨x7, e8, h⟩ := letM_some h
  refine V_top e8 ?_
  by_cases c9 : x7 = 99
  · replace h := ite_t c9 h
    rw [c9]
    refine V_tswIn 18 117 C dX12_notNow_18 (by decide) (by decide) rfl (by decide) ?_
    refine V_aload_n 117 C 2 dX12_notNow_117 rfl ?_
    refine V_iload_n 118 C 1 dX12_notNow_118 rfl ?_
    refine V_iload_n 119 C 0 dX12_notNow_119 rfl ?_
    obtain ⟨r12, M10, k11, h⟩ := bindM_some h
    refine V_callI 120 (runVO (k := 119) (rest := []) 120 C (kX12_notUnlink  k11) cf_X12_notUnlink wk_7_34 (ltl (by rfl) rfl) (ceR_X12 (by rfl)) rfl rfl rfl rfl dX12_notNow_120 rfl rfl (Nat.zero_le _) (Nat.zero_le _)) ?_
    exact V_ireth 123 C hQ h dX12_notNow_123
  replace h := ite_f c9 h
  by_cases c13 : x7 = 100
  · replace h := ite_t c13 h
    rw [c13]
    refine V_tswIn 18 151 C dX12_notNow_18 (by decide) (by decide) rfl (by decide) ?_
    refine V_aload_n 151 C 2 dX12_notNow_151 rfl ?_
    refine V_iload_n 152 C 1 dX12_notNow_152 rfl ?_
    obtain ⟨r16, M14, k15, h⟩ := bindM_some h
    refine V_callI 153 (runVO (k := 119) (rest := []) 153 C (kX12_notDrop  k15) cf_X12_notDrop wk_7_82 (ltl (by rfl) rfl) (ceR_X12 (by rfl)) rfl rfl rfl rfl dX12_notNow_153 rfl rfl (Nat.zero_le _) (Nat.zero_le _)) ?_
    exact V_ireth 156 C hQ h dX12_notNow_156
  replace h := ite_f c13 h
  by_cases c17 : x7 = 101
  · replace h := ite_t c17 h
    rw [c17]
    refine V_tswIn 18 162 C dX12_notNow_18 (by decide) (by decide) rfl (by decide) ?_
    refine V_iload_n 162 C 1 dX12_notNow_162 rfl ?_
    obtain ⟨r20, M18, k19, h⟩ := bindM_some h
    refine V_callI 163 (runSO (rest := []) 163 C (kX12_notSeed  k19) cf_X12_notSeed wk_7_160 rfl rfl dX12_notNow_163 rfl rfl (Nat.zero_le _) (Nat.zero_le _)) ?_
    exact V_ireth 166 C hQ h dX12_notNow_166
  replace h := ite_f c17 h
  by_cases c21 : x7 = 102
  · replace h := ite_t c21 h
    rw [c21]
    refine V_tswIn 18 138 C dX12_notNow_18 (by decide) (by decide) rfl (by decide) ?_
    refine V_aload_n 138 C 2 dX12_notNow_138 rfl ?_
    refine V_iload_n 139 C 1 dX12_notNow_139 rfl ?_
    refine V_iload_n 140 C 0 dX12_notNow_140 rfl ?_
    obtain ⟨r24, M22, k23, h⟩ := bindM_some h
    refine V_callI 141 (runVO (k := 119) (rest := []) 141 C (kX12_notFill  k23) cf_X12_notFill wk_7_58 (ltl (by rfl) rfl) (ceR_X12 (by rfl)) rfl rfl rfl rfl dX12_notNow_141 rfl rfl (Nat.zero_le _) (Nat.zero_le _)) ?_
    exact V_ireth 144 C hQ h dX12_notNow_144
  replace h := ite_f c21 h
  by_cases c25 : x7 = 104
  · replace h := ite_t c25 h
    rw [c25]
    refine V_tswIn 18 124 C dX12_notNow_18 (by decide) (by decide) rfl (by decide) ?_
    refine V_aload_n 124 C 2 dX12_notNow_124 rfl ?_
    refine V_iload_n 125 C 1 dX12_notNow_125 rfl ?_
    refine V_iconst 126 C dX12_notNow_126 ic1 ?_
    obtain ⟨r28, M26, k27, h⟩ := bindM_some h
    refine V_callI 127 (runVO (k := 119) (rest := []) 127 C (kX12_notBlind  k27) cf_X12_notBlind wk_7_46 (ltl (by rfl) rfl) (ceR_X12 (by rfl)) rfl rfl rfl rfl dX12_notNow_127 rfl rfl (Nat.zero_le _) (Nat.zero_le _)) ?_
    exact V_ireth 130 C hQ h dX12_notNow_130
  replace h := ite_f c25 h
  by_cases c29 : x7 = 108
  · replace h := ite_t c29 h
    rw [c29]
    refine V_tswIn 18 110 C dX12_notNow_18 (by decide) (by decide) rfl (by decide) ?_
    refine V_aload_n 110 C 2 dX12_notNow_110 rfl ?_
    refine V_iload_n 111 C 1 dX12_notNow_111 rfl ?_
    refine V_iload_n 112 C 0 dX12_notNow_112 rfl ?_
    obtain ⟨r32, M30, k31, h⟩ := bindM_some h
    refine V_callI 113 (runVO (k := 119) (rest := []) 113 C (kX12_notLink  k31) cf_X12_notLink wk_7_10 (ltl (by rfl) rfl) (ceR_X12 (by rfl)) rfl rfl rfl rfl dX12_notNow_113 rfl rfl (Nat.zero_le _) (Nat.zero_le _)) ?_
    exact V_ireth 116 C hQ h dX12_notNow_116
  replace h := ite_f c29 h
  by_cases c33 : x7 = 111
  · replace h := ite_t c33 h
    rw [c33]
    refine V_tswIn 18 131 C dX12_notNow_18 (by decide) (by decide) rfl (by decide) ?_
    refine V_aload_n 131 C 2 dX12_notNow_131 rfl ?_
    refine V_iload_n 132 C 1 dX12_notNow_132 rfl ?_
    refine V_iconst 133 C dX12_notNow_133 ic0 ?_
    obtain ⟨r36, M34, k35, h⟩ := bindM_some h
    refine V_callI 134 (runVO (k := 119) (rest := []) 134 C (kX12_notBlind  k35) cf_X12_notBlind wk_7_46 (ltl (by rfl) rfl) (ceR_X12 (by rfl)) rfl rfl rfl rfl dX12_notNow_134 rfl rfl (Nat.zero_le _) (Nat.zero_le _)) ?_
    exact V_ireth 137 C hQ h dX12_notNow_137
  replace h := ite_f c33 h
  by_cases c37 : x7 = 114
  · replace h := ite_t c37 h
    rw [c37]
    refine V_tswIn 18 157 C dX12_notNow_18 (by decide) (by decide) rfl (by decide) ?_
    refine V_iload_n 157 C 1 dX12_notNow_157 rfl ?_
    obtain ⟨r40, M38, k39, h⟩ := bindM_some h
    refine V_callI 158 (runSO (rest := []) 158 C (kX12_notRate  k39) cf_X12_notRate wk_7_149 rfl rfl dX12_notNow_158 rfl rfl (Nat.zero_le _) (Nat.zero_le _)) ?_
    exact V_ireth 161 C hQ h dX12_notNow_161
  replace h := ite_f c37 h
  by_cases c41 : x7 = 115
  · replace h := ite_t c41 h
    rw [c41]
    refine V_tswIn 18 104 C dX12_notNow_18 (by decide) (by decide) rfl (by decide) ?_
    refine V_aload_n 104 C 2 dX12_notNow_104 rfl ?_
    refine V_iload_n 105 C 1 dX12_notNow_105 rfl ?_
    obtain ⟨r44, M42, k43, h⟩ := bindM_some h
    refine V_callI 106 (runVO (k := 119) (rest := []) 106 C (kX12_notShelf  k43) cf_X12_notShelf wk_6_211 (ltl (by rfl) rfl) (ceR_X12 (by rfl)) rfl rfl rfl rfl dX12_notNow_106 rfl rfl (Nat.zero_le _) (Nat.zero_le _)) ?_
    exact V_ireth 109 C hQ h dX12_notNow_109
  replace h := ite_f c41 h
  by_cases c45 : x7 = 116
  · replace h := ite_t c45 h
    rw [c45]
    refine V_tswIn 18 145 C dX12_notNow_18 (by decide) (by decide) rfl (by decide) ?_
    refine V_aload_n 145 C 2 dX12_notNow_145 rfl ?_
    refine V_iload_n 146 C 1 dX12_notNow_146 rfl ?_
    obtain ⟨r48, M46, k47, h⟩ := bindM_some h
    refine V_callI 147 (runVO (k := 119) (rest := []) 147 C (kX12_notStop  k47) cf_X12_notStop wk_7_70 (ltl (by rfl) rfl) (ceR_X12 (by rfl)) rfl rfl rfl rfl dX12_notNow_147 rfl rfl (Nat.zero_le _) (Nat.zero_le _)) ?_
    exact V_ireth 150 C hQ h dX12_notNow_150
  replace h := ite_f c45 h
  by_cases g52 : x7.toInt < 99 ∨ 116 < x7.toInt
  · refine V_tswOut 18 167 C dX12_notNow_18 g52 (by decide) ?_
    refine V_iload_n 167 C 1 dX12_notNow_167 rfl ?_
    obtain ⟨r51, M49, k50, h⟩ := bindM_some h
    refine V_callI 168 (runSO (rest := []) 168 C (kX12_notPass  k50) cf_X12_notPass wk_7_94 rfl rfl dX12_notNow_168 rfl rfl (Nat.zero_le _) (Nat.zero_le _)) ?_
    exact V_ireth 171 C hQ h dX12_notNow_171
  by_cases c53 : x7 = 103
  · rw [c53]
    refine V_tswIn 18 167 C dX12_notNow_18 (by decide) (by decide) rfl (by decide) ?_
    refine V_iload_n 167 C 1 dX12_notNow_167 rfl ?_
    obtain ⟨r51, M49, k50, h⟩ := bindM_some h
    refine V_callI 168 (runSO (rest := []) 168 C (kX12_notPass  k50) cf_X12_notPass wk_7_94 rfl rfl dX12_notNow_168 rfl rfl (Nat.zero_le _) (Nat.zero_le _)) ?_
    exact V_ireth 171 C hQ h dX12_notNow_171
  by_cases c57 : x7 = 105
  · rw [c57]
    refine V_tswIn 18 167 C dX12_notNow_18 (by decide) (by decide) rfl (by decide) ?_
    refine V_iload_n 167 C 1 dX12_notNow_167 rfl ?_
    obtain ⟨r51, M49, k50, h⟩ := bindM_some h
    refine V_callI 168 (runSO (rest := []) 168 C (kX12_notPass  k50) cf_X12_notPass wk_7_94 rfl rfl dX12_notNow_168 rfl rfl (Nat.zero_le _) (Nat.zero_le _)) ?_
    exact V_ireth 171 C hQ h dX12_notNow_171
  by_cases c61 : x7 = 106
  · rw [c61]
    refine V_tswIn 18 167 C dX12_notNow_18 (by decide) (by decide) rfl (by decide) ?_
    refine V_iload_n 167 C 1 dX12_notNow_167 rfl ?_
    obtain ⟨r51, M49, k50, h⟩ := bindM_some h
    refine V_callI 168 (runSO (rest := []) 168 C (kX12_notPass  k50) cf_X12_notPass wk_7_94 rfl rfl dX12_notNow_168 rfl rfl (Nat.zero_le _) (Nat.zero_le _)) ?_
    exact V_ireth 171 C hQ h dX12_notNow_171
  by_cases c65 : x7 = 107
  · rw [c65]
    refine V_tswIn 18 167 C dX12_notNow_18 (by decide) (by decide) rfl (by decide) ?_
    refine V_iload_n 167 C 1 dX12_notNow_167 rfl ?_
    obtain ⟨r51, M49, k50, h⟩ := bindM_some h
    refine V_callI 168 (runSO (rest := []) 168 C (kX12_notPass  k50) cf_X12_notPass wk_7_94 rfl rfl dX12_notNow_168 rfl rfl (Nat.zero_le _) (Nat.zero_le _)) ?_
    exact V_ireth 171 C hQ h dX12_notNow_171
  by_cases c69 : x7 = 109
  · rw [c69]
    refine V_tswIn 18 167 C dX12_notNow_18 (by decide) (by decide) rfl (by decide) ?_
    refine V_iload_n 167 C 1 dX12_notNow_167 rfl ?_
    obtain ⟨r51, M49, k50, h⟩ := bindM_some h
    refine V_callI 168 (runSO (rest := []) 168 C (kX12_notPass  k50) cf_X12_notPass wk_7_94 rfl rfl dX12_notNow_168 rfl rfl (Nat.zero_le _) (Nat.zero_le _)) ?_
    exact V_ireth 171 C hQ h dX12_notNow_171
  by_cases c73 : x7 = 110
  · rw [c73]
    refine V_tswIn 18 167 C dX12_notNow_18 (by decide) (by decide) rfl (by decide) ?_
    refine V_iload_n 167 C 1 dX12_notNow_167 rfl ?_
    obtain ⟨r51, M49, k50, h⟩ := bindM_some h
    refine V_callI 168 (runSO (rest := []) 168 C (kX12_notPass  k50) cf_X12_notPass wk_7_94 rfl rfl dX12_notNow_168 rfl rfl (Nat.zero_le _) (Nat.zero_le _)) ?_
    exact V_ireth 171 C hQ h dX12_notNow_171
  by_cases c77 : x7 = 112
  · rw [c77]
    refine V_tswIn 18 167 C dX12_notNow_18 (by decide) (by decide) rfl (by decide) ?_
    refine V_iload_n 167 C 1 dX12_notNow_167 rfl ?_
    obtain ⟨r51, M49, k50, h⟩ := bindM_some h
    refine V_callI 168 (runSO (rest := []) 168 C (kX12_notPass  k50) cf_X12_notPass wk_7_94 rfl rfl dX12_notNow_168 rfl rfl (Nat.zero_le _) (Nat.zero_le _)) ?_
    exact V_ireth 171 C hQ h dX12_notNow_171
  by_cases c81 : x7 = 113
  · rw [c81]
    refine V_tswIn 18 167 C dX12_notNow_18 (by decide) (by decide) rfl (by decide) ?_
    refine V_iload_n 167 C 1 dX12_notNow_167 rfl ?_
    obtain ⟨r51, M49, k50, h⟩ := bindM_some h
    refine V_callI 168 (runSO (rest := []) 168 C (kX12_notPass  k50) cf_X12_notPass wk_7_94 rfl rfl dX12_notNow_168 rfl rfl (Nat.zero_le _) (Nat.zero_le _)) ?_
    exact V_ireth 171 C hQ h dX12_notNow_171
  exfalso
  have nc9 : x7.toInt ≠ 99 := fun q => c9 (Int32.toInt_inj.mp (by rw [q]; rfl))
  have nc13 : x7.toInt ≠ 100 := fun q => c13 (Int32.toInt_inj.mp (by rw [q]; rfl))
  have nc17 : x7.toInt ≠ 101 := fun q => c17 (Int32.toInt_inj.mp (by rw [q]; rfl))
  have nc21 : x7.toInt ≠ 102 := fun q => c21 (Int32.toInt_inj.mp (by rw [q]; rfl))
  have nc25 : x7.toInt ≠ 104 := fun q => c25 (Int32.toInt_inj.mp (by rw [q]; rfl))
  have nc29 : x7.toInt ≠ 108 := fun q => c29 (Int32.toInt_inj.mp (by rw [q]; rfl))
  have nc33 : x7.toInt ≠ 111 := fun q => c33 (Int32.toInt_inj.mp (by rw [q]; rfl))
  have nc37 : x7.toInt ≠ 114 := fun q => c37 (Int32.toInt_inj.mp (by rw [q]; rfl))
  have nc41 : x7.toInt ≠ 115 := fun q => c41 (Int32.toInt_inj.mp (by rw [q]; rfl))
  have nc45 : x7.toInt ≠ 116 := fun q => c45 (Int32.toInt_inj.mp (by rw [q]; rfl))
  have nc53 : x7.toInt ≠ 103 := fun q => c53 (Int32.toInt_inj.mp (by rw [q]; rfl))
  have nc57 : x7.toInt ≠ 105 := fun q => c57 (Int32.toInt_inj.mp (by rw [q]; rfl))
  have nc61 : x7.toInt ≠ 106 := fun q => c61 (Int32.toInt_inj.mp (by rw [q]; rfl))
  have nc65 : x7.toInt ≠ 107 := fun q => c65 (Int32.toInt_inj.mp (by rw [q]; rfl))
  have nc69 : x7.toInt ≠ 109 := fun q => c69 (Int32.toInt_inj.mp (by rw [q]; rfl))
  have nc73 : x7.toInt ≠ 110 := fun q => c73 (Int32.toInt_inj.mp (by rw [q]; rfl))
  have nc77 : x7.toInt ≠ 112 := fun q => c77 (Int32.toInt_inj.mp (by rw [q]; rfl))
  have nc81 : x7.toInt ≠ 113 := fun q => c81 (Int32.toInt_inj.mp (by rw [q]; rfl))
  omega
set_option maxHeartbeats 4000000 in
theorem kX12_doesNow {G : GG} {l : Launch} {F : Nat}   {M M' : Mem} {r : Int32} (h : fX12_doesNow F  M = some (r, M')) : Con G l yX12_doesNow cX12_doesNow 3 (some .int) rmX12_doesNow [.ref (gad G 119)] M (QI G r M') := by
  refine con_of pnX12 (Nat.le_of_ble_eq_true rfl) (fun κ C hQ => ?_)
  unfold fX12_doesNow at h
  refine V_L (L1 := [(0, .ref (gad G 119))]) rfl ?_
  refine V_aload_n 0 C 0 dX12_doesNow_0 rfl ?_
  refine V_get (v := .ref (gad G 128)) 1 C dX12_doesNow_1 (ltl (by rfl) rfl) (ceR_X12 (by rfl)) rfl inX12 21 rfl wk_6_155 rfl rfl ?_
  refine V_iconst 4 C dX12_doesNow_4 ic0 ?_
  refine V_ialdJ 5 C dX12_doesNow_5 (akI_29 (by rfl)) (al_29 (by rfl)) (by decide) (j := 0) (by decide) ?_
  obtain ⟨x2, e3, h⟩ := letM_some h
  refine V_top e3 ?_
  refine V_istore_n 6 C [(1, .int x2), (0, .ref (gad G 119))] dX12_doesNow_6 rfl rfl rfl ?_
  refine V_aload_n 7 C 1 dX12_doesNow_7 rfl ?_
  refine V_get (v := .ref (gad G 128)) 8 C dX12_doesNow_8 (ltl (by rfl) rfl) (ceR_X12 (by rfl)) rfl inX12 21 rfl wk_6_155 rfl rfl ?_
  refine V_iconst 11 C dX12_doesNow_11 ic1 ?_
  refine V_ialdJ 12 C dX12_doesNow_12 (akI_29 (by rfl)) (al_29 (by rfl)) (by decide) (j := 1) (by decide) ?_
  obtain ⟨x5, e6, h⟩ := letM_some h
  refine V_top e6 ?_
  refine V_istore_n 13 C [(2, .int x5), (1, .int x2), (0, .ref (gad G 119))] dX12_doesNow_13 rfl rfl rfl ?_
  refine V_aload_n 14 C 2 dX12_doesNow_14 rfl ?_
  refine V_get (v := .int (M 119 22)) 15 C dX12_doesNow_15 (ltl (by rfl) rfl) (ceR_X12 (by rfl)) rfl inX12 22 rfl wk_6_156 rfl rfl ?_
  obtain ⟨x7, e8, h⟩ := letM_some h
  refine V_top e8 ?_
  by_cases c9 : x7 = 99
  · replace h := ite_t c9 h
    rw [c9]
    refine V_tswIn 18 117 C dX12_doesNow_18 (by decide) (by decide) rfl (by decide) ?_
    refine V_aload_n 117 C 2 dX12_doesNow_117 rfl ?_
    refine V_iload_n 118 C 1 dX12_doesNow_118 rfl ?_
    refine V_iload_n 119 C 0 dX12_doesNow_119 rfl ?_
    obtain ⟨r12, M10, k11, h⟩ := bindM_some h
    refine V_callI 120 (runVO (k := 119) (rest := []) 120 C (kX12_unlinks  k11) cf_X12_unlinks wk_7_38 (ltl (by rfl) rfl) (ceR_X12 (by rfl)) rfl rfl rfl rfl dX12_doesNow_120 rfl rfl (Nat.zero_le _) (Nat.zero_le _)) ?_
    exact V_ireth 123 C hQ h dX12_doesNow_123
  replace h := ite_f c9 h
  by_cases c13 : x7 = 100
  · replace h := ite_t c13 h
    rw [c13]
    refine V_tswIn 18 151 C dX12_doesNow_18 (by decide) (by decide) rfl (by decide) ?_
    refine V_aload_n 151 C 2 dX12_doesNow_151 rfl ?_
    refine V_iload_n 152 C 1 dX12_doesNow_152 rfl ?_
    obtain ⟨r16, M14, k15, h⟩ := bindM_some h
    refine V_callI 153 (runVO (k := 119) (rest := []) 153 C (kX12_drops  k15) cf_X12_drops wk_7_86 (ltl (by rfl) rfl) (ceR_X12 (by rfl)) rfl rfl rfl rfl dX12_doesNow_153 rfl rfl (Nat.zero_le _) (Nat.zero_le _)) ?_
    exact V_ireth 156 C hQ h dX12_doesNow_156
  replace h := ite_f c13 h
  by_cases c17 : x7 = 101
  · replace h := ite_t c17 h
    rw [c17]
    refine V_tswIn 18 164 C dX12_doesNow_18 (by decide) (by decide) rfl (by decide) ?_
    refine V_aload_n 164 C 2 dX12_doesNow_164 rfl ?_
    refine V_bipush 165 C dX12_doesNow_165 bp6 ?_
    refine V_iload_n 167 C 1 dX12_doesNow_167 rfl ?_
    obtain ⟨r20, M18, k19, h⟩ := bindM_some h
    refine V_callI 168 (runVO (k := 119) (rest := []) 168 C (kX12_sets  k19) cf_X12_sets wk_7_152 (ltl (by rfl) rfl) (ceR_X12 (by rfl)) rfl rfl rfl rfl dX12_doesNow_168 rfl rfl (Nat.zero_le _) (Nat.zero_le _)) ?_
    exact V_ireth 171 C hQ h dX12_doesNow_171
  replace h := ite_f c17 h
  by_cases c21 : x7 = 102
  · replace h := ite_t c21 h
    rw [c21]
    refine V_tswIn 18 138 C dX12_doesNow_18 (by decide) (by decide) rfl (by decide) ?_
    refine V_aload_n 138 C 2 dX12_doesNow_138 rfl ?_
    refine V_iload_n 139 C 1 dX12_doesNow_139 rfl ?_
    refine V_iload_n 140 C 0 dX12_doesNow_140 rfl ?_
    obtain ⟨r24, M22, k23, h⟩ := bindM_some h
    refine V_callI 141 (runVO (k := 119) (rest := []) 141 C (kX12_fills  k23) cf_X12_fills wk_7_62 (ltl (by rfl) rfl) (ceR_X12 (by rfl)) rfl rfl rfl rfl dX12_doesNow_141 rfl rfl (Nat.zero_le _) (Nat.zero_le _)) ?_
    exact V_ireth 144 C hQ h dX12_doesNow_144
  replace h := ite_f c21 h
  by_cases c25 : x7 = 104
  · replace h := ite_t c25 h
    rw [c25]
    refine V_tswIn 18 124 C dX12_doesNow_18 (by decide) (by decide) rfl (by decide) ?_
    refine V_aload_n 124 C 2 dX12_doesNow_124 rfl ?_
    refine V_iload_n 125 C 1 dX12_doesNow_125 rfl ?_
    refine V_iconst 126 C dX12_doesNow_126 ic1 ?_
    obtain ⟨r28, M26, k27, h⟩ := bindM_some h
    refine V_callI 127 (runVO (k := 119) (rest := []) 127 C (kX12_blinds  k27) cf_X12_blinds wk_7_50 (ltl (by rfl) rfl) (ceR_X12 (by rfl)) rfl rfl rfl rfl dX12_doesNow_127 rfl rfl (Nat.zero_le _) (Nat.zero_le _)) ?_
    exact V_ireth 130 C hQ h dX12_doesNow_130
  replace h := ite_f c25 h
  by_cases c29 : x7 = 108
  · replace h := ite_t c29 h
    rw [c29]
    refine V_tswIn 18 110 C dX12_doesNow_18 (by decide) (by decide) rfl (by decide) ?_
    refine V_aload_n 110 C 2 dX12_doesNow_110 rfl ?_
    refine V_iload_n 111 C 1 dX12_doesNow_111 rfl ?_
    refine V_iload_n 112 C 0 dX12_doesNow_112 rfl ?_
    obtain ⟨r32, M30, k31, h⟩ := bindM_some h
    refine V_callI 113 (runVO (k := 119) (rest := []) 113 C (kX12_links  k31) cf_X12_links wk_7_22 (ltl (by rfl) rfl) (ceR_X12 (by rfl)) rfl rfl rfl rfl dX12_doesNow_113 rfl rfl (Nat.zero_le _) (Nat.zero_le _)) ?_
    exact V_ireth 116 C hQ h dX12_doesNow_116
  replace h := ite_f c29 h
  by_cases c33 : x7 = 111
  · replace h := ite_t c33 h
    rw [c33]
    refine V_tswIn 18 131 C dX12_doesNow_18 (by decide) (by decide) rfl (by decide) ?_
    refine V_aload_n 131 C 2 dX12_doesNow_131 rfl ?_
    refine V_iload_n 132 C 1 dX12_doesNow_132 rfl ?_
    refine V_iconst 133 C dX12_doesNow_133 ic0 ?_
    obtain ⟨r36, M34, k35, h⟩ := bindM_some h
    refine V_callI 134 (runVO (k := 119) (rest := []) 134 C (kX12_blinds  k35) cf_X12_blinds wk_7_50 (ltl (by rfl) rfl) (ceR_X12 (by rfl)) rfl rfl rfl rfl dX12_doesNow_134 rfl rfl (Nat.zero_le _) (Nat.zero_le _)) ?_
    exact V_ireth 137 C hQ h dX12_doesNow_137
  replace h := ite_f c33 h
  by_cases c37 : x7 = 114
  · replace h := ite_t c37 h
    rw [c37]
    refine V_tswIn 18 157 C dX12_doesNow_18 (by decide) (by decide) rfl (by decide) ?_
    refine V_aload_n 157 C 2 dX12_doesNow_157 rfl ?_
    refine V_iconst 158 C dX12_doesNow_158 ic5 ?_
    refine V_iload_n 159 C 1 dX12_doesNow_159 rfl ?_
    obtain ⟨r40, M38, k39, h⟩ := bindM_some h
    refine V_callI 160 (runVO (k := 119) (rest := []) 160 C (kX12_sets  k39) cf_X12_sets wk_7_152 (ltl (by rfl) rfl) (ceR_X12 (by rfl)) rfl rfl rfl rfl dX12_doesNow_160 rfl rfl (Nat.zero_le _) (Nat.zero_le _)) ?_
    exact V_ireth 163 C hQ h dX12_doesNow_163
  replace h := ite_f c37 h
  by_cases c41 : x7 = 115
  · replace h := ite_t c41 h
    rw [c41]
    refine V_tswIn 18 104 C dX12_doesNow_18 (by decide) (by decide) rfl (by decide) ?_
    refine V_aload_n 104 C 2 dX12_doesNow_104 rfl ?_
    refine V_iload_n 105 C 1 dX12_doesNow_105 rfl ?_
    obtain ⟨r44, M42, k43, h⟩ := bindM_some h
    refine V_callI 106 (runVO (k := 119) (rest := []) 106 C (kX12_addsShelf  k43) cf_X12_addsShelf wk_7_2 (ltl (by rfl) rfl) (ceR_X12 (by rfl)) rfl rfl rfl rfl dX12_doesNow_106 rfl rfl (Nat.zero_le _) (Nat.zero_le _)) ?_
    exact V_ireth 109 C hQ h dX12_doesNow_109
  replace h := ite_f c41 h
  by_cases c45 : x7 = 116
  · replace h := ite_t c45 h
    rw [c45]
    refine V_tswIn 18 145 C dX12_doesNow_18 (by decide) (by decide) rfl (by decide) ?_
    refine V_aload_n 145 C 2 dX12_doesNow_145 rfl ?_
    refine V_iload_n 146 C 1 dX12_doesNow_146 rfl ?_
    obtain ⟨r48, M46, k47, h⟩ := bindM_some h
    refine V_callI 147 (runVO (k := 119) (rest := []) 147 C (kX12_addsStop  k47) cf_X12_addsStop wk_7_74 (ltl (by rfl) rfl) (ceR_X12 (by rfl)) rfl rfl rfl rfl dX12_doesNow_147 rfl rfl (Nat.zero_le _) (Nat.zero_le _)) ?_
    exact V_ireth 150 C hQ h dX12_doesNow_150
  replace h := ite_f c45 h
  by_cases g52 : x7.toInt < 99 ∨ 116 < x7.toInt
  · refine V_tswOut 18 172 C dX12_doesNow_18 g52 (by decide) ?_
    refine V_aload_n 172 C 2 dX12_doesNow_172 rfl ?_
    refine V_iload_n 173 C 1 dX12_doesNow_173 rfl ?_
    obtain ⟨r51, M49, k50, h⟩ := bindM_some h
    refine V_callI 174 (runVO (k := 119) (rest := []) 174 C (kX12_passes  k50) cf_X12_passes wk_7_97 (ltl (by rfl) rfl) (ceR_X12 (by rfl)) rfl rfl rfl rfl dX12_doesNow_174 rfl rfl (Nat.zero_le _) (Nat.zero_le _)) ?_
    exact V_ireth 177 C hQ h dX12_doesNow_177
  by_cases c53 : x7 = 103
  · rw [c53]
    refine V_tswIn 18 172 C dX12_doesNow_18 (by decide) (by decide) rfl (by decide) ?_
    refine V_aload_n 172 C 2 dX12_doesNow_172 rfl ?_
    refine V_iload_n 173 C 1 dX12_doesNow_173 rfl ?_
    obtain ⟨r51, M49, k50, h⟩ := bindM_some h
    refine V_callI 174 (runVO (k := 119) (rest := []) 174 C (kX12_passes  k50) cf_X12_passes wk_7_97 (ltl (by rfl) rfl) (ceR_X12 (by rfl)) rfl rfl rfl rfl dX12_doesNow_174 rfl rfl (Nat.zero_le _) (Nat.zero_le _)) ?_
    exact V_ireth 177 C hQ h dX12_doesNow_177
  by_cases c57 : x7 = 105
  · rw [c57]
    refine V_tswIn 18 172 C dX12_doesNow_18 (by decide) (by decide) rfl (by decide) ?_
    refine V_aload_n 172 C 2 dX12_doesNow_172 rfl ?_
    refine V_iload_n 173 C 1 dX12_doesNow_173 rfl ?_
    obtain ⟨r51, M49, k50, h⟩ := bindM_some h
    refine V_callI 174 (runVO (k := 119) (rest := []) 174 C (kX12_passes  k50) cf_X12_passes wk_7_97 (ltl (by rfl) rfl) (ceR_X12 (by rfl)) rfl rfl rfl rfl dX12_doesNow_174 rfl rfl (Nat.zero_le _) (Nat.zero_le _)) ?_
    exact V_ireth 177 C hQ h dX12_doesNow_177
  by_cases c61 : x7 = 106
  · rw [c61]
    refine V_tswIn 18 172 C dX12_doesNow_18 (by decide) (by decide) rfl (by decide) ?_
    refine V_aload_n 172 C 2 dX12_doesNow_172 rfl ?_
    refine V_iload_n 173 C 1 dX12_doesNow_173 rfl ?_
    obtain ⟨r51, M49, k50, h⟩ := bindM_some h
    refine V_callI 174 (runVO (k := 119) (rest := []) 174 C (kX12_passes  k50) cf_X12_passes wk_7_97 (ltl (by rfl) rfl) (ceR_X12 (by rfl)) rfl rfl rfl rfl dX12_doesNow_174 rfl rfl (Nat.zero_le _) (Nat.zero_le _)) ?_
    exact V_ireth 177 C hQ h dX12_doesNow_177
  by_cases c65 : x7 = 107
  · rw [c65]
    refine V_tswIn 18 172 C dX12_doesNow_18 (by decide) (by decide) rfl (by decide) ?_
    refine V_aload_n 172 C 2 dX12_doesNow_172 rfl ?_
    refine V_iload_n 173 C 1 dX12_doesNow_173 rfl ?_
    obtain ⟨r51, M49, k50, h⟩ := bindM_some h
    refine V_callI 174 (runVO (k := 119) (rest := []) 174 C (kX12_passes  k50) cf_X12_passes wk_7_97 (ltl (by rfl) rfl) (ceR_X12 (by rfl)) rfl rfl rfl rfl dX12_doesNow_174 rfl rfl (Nat.zero_le _) (Nat.zero_le _)) ?_
    exact V_ireth 177 C hQ h dX12_doesNow_177
  by_cases c69 : x7 = 109
  · rw [c69]
    refine V_tswIn 18 172 C dX12_doesNow_18 (by decide) (by decide) rfl (by decide) ?_
    refine V_aload_n 172 C 2 dX12_doesNow_172 rfl ?_
    refine V_iload_n 173 C 1 dX12_doesNow_173 rfl ?_
    obtain ⟨r51, M49, k50, h⟩ := bindM_some h
    refine V_callI 174 (runVO (k := 119) (rest := []) 174 C (kX12_passes  k50) cf_X12_passes wk_7_97 (ltl (by rfl) rfl) (ceR_X12 (by rfl)) rfl rfl rfl rfl dX12_doesNow_174 rfl rfl (Nat.zero_le _) (Nat.zero_le _)) ?_
    exact V_ireth 177 C hQ h dX12_doesNow_177
  by_cases c73 : x7 = 110
  · rw [c73]
    refine V_tswIn 18 172 C dX12_doesNow_18 (by decide) (by decide) rfl (by decide) ?_
    refine V_aload_n 172 C 2 dX12_doesNow_172 rfl ?_
    refine V_iload_n 173 C 1 dX12_doesNow_173 rfl ?_
    obtain ⟨r51, M49, k50, h⟩ := bindM_some h
    refine V_callI 174 (runVO (k := 119) (rest := []) 174 C (kX12_passes  k50) cf_X12_passes wk_7_97 (ltl (by rfl) rfl) (ceR_X12 (by rfl)) rfl rfl rfl rfl dX12_doesNow_174 rfl rfl (Nat.zero_le _) (Nat.zero_le _)) ?_
    exact V_ireth 177 C hQ h dX12_doesNow_177
  by_cases c77 : x7 = 112
  · rw [c77]
    refine V_tswIn 18 172 C dX12_doesNow_18 (by decide) (by decide) rfl (by decide) ?_
    refine V_aload_n 172 C 2 dX12_doesNow_172 rfl ?_
    refine V_iload_n 173 C 1 dX12_doesNow_173 rfl ?_
    obtain ⟨r51, M49, k50, h⟩ := bindM_some h
    refine V_callI 174 (runVO (k := 119) (rest := []) 174 C (kX12_passes  k50) cf_X12_passes wk_7_97 (ltl (by rfl) rfl) (ceR_X12 (by rfl)) rfl rfl rfl rfl dX12_doesNow_174 rfl rfl (Nat.zero_le _) (Nat.zero_le _)) ?_
    exact V_ireth 177 C hQ h dX12_doesNow_177
  by_cases c81 : x7 = 113
  · rw [c81]
    refine V_tswIn 18 172 C dX12_doesNow_18 (by decide) (by decide) rfl (by decide) ?_
    refine V_aload_n 172 C 2 dX12_doesNow_172 rfl ?_
    refine V_iload_n 173 C 1 dX12_doesNow_173 rfl ?_
    obtain ⟨r51, M49, k50, h⟩ := bindM_some h
    refine V_callI 174 (runVO (k := 119) (rest := []) 174 C (kX12_passes  k50) cf_X12_passes wk_7_97 (ltl (by rfl) rfl) (ceR_X12 (by rfl)) rfl rfl rfl rfl dX12_doesNow_174 rfl rfl (Nat.zero_le _) (Nat.zero_le _)) ?_
    exact V_ireth 177 C hQ h dX12_doesNow_177
  exfalso
  have nc9 : x7.toInt ≠ 99 := fun q => c9 (Int32.toInt_inj.mp (by rw [q]; rfl))
  have nc13 : x7.toInt ≠ 100 := fun q => c13 (Int32.toInt_inj.mp (by rw [q]; rfl))
  have nc17 : x7.toInt ≠ 101 := fun q => c17 (Int32.toInt_inj.mp (by rw [q]; rfl))
  have nc21 : x7.toInt ≠ 102 := fun q => c21 (Int32.toInt_inj.mp (by rw [q]; rfl))
  have nc25 : x7.toInt ≠ 104 := fun q => c25 (Int32.toInt_inj.mp (by rw [q]; rfl))
  have nc29 : x7.toInt ≠ 108 := fun q => c29 (Int32.toInt_inj.mp (by rw [q]; rfl))
  have nc33 : x7.toInt ≠ 111 := fun q => c33 (Int32.toInt_inj.mp (by rw [q]; rfl))
  have nc37 : x7.toInt ≠ 114 := fun q => c37 (Int32.toInt_inj.mp (by rw [q]; rfl))
  have nc41 : x7.toInt ≠ 115 := fun q => c41 (Int32.toInt_inj.mp (by rw [q]; rfl))
  have nc45 : x7.toInt ≠ 116 := fun q => c45 (Int32.toInt_inj.mp (by rw [q]; rfl))
  have nc53 : x7.toInt ≠ 103 := fun q => c53 (Int32.toInt_inj.mp (by rw [q]; rfl))
  have nc57 : x7.toInt ≠ 105 := fun q => c57 (Int32.toInt_inj.mp (by rw [q]; rfl))
  have nc61 : x7.toInt ≠ 106 := fun q => c61 (Int32.toInt_inj.mp (by rw [q]; rfl))
  have nc65 : x7.toInt ≠ 107 := fun q => c65 (Int32.toInt_inj.mp (by rw [q]; rfl))
  have nc69 : x7.toInt ≠ 109 := fun q => c69 (Int32.toInt_inj.mp (by rw [q]; rfl))
  have nc73 : x7.toInt ≠ 110 := fun q => c73 (Int32.toInt_inj.mp (by rw [q]; rfl))
  have nc77 : x7.toInt ≠ 112 := fun q => c77 (Int32.toInt_inj.mp (by rw [q]; rfl))
  have nc81 : x7.toInt ≠ 113 := fun q => c81 (Int32.toInt_inj.mp (by rw [q]; rfl))
  omega
set_option maxHeartbeats 4000000 in
theorem vX12_doesAll_12 {G : GG} {κ : KK} {F : Nat}  (C : Cx G κ cX12_doesAll RX12 (some .boolean) 2 rmX12_doesAll) {M' : Mem} {r : Bool} (hQ : HQ G κ (QI G (b2i r) M') 0 0)  {kx : Mem → Option (Bool × Mem)} (hk : ∀  (M : Mem), kx  M = some (r, M') → V G κ 2 0 0 M 55 [] []) : ∀ (n : Nat) (v1 : Int32) (M : Mem), fX12_doesAll_12 F  kx n v1 M = some (r, M') → V G κ 2 0 0 M 12 [(0, .ref (gad G 119)), (1, .int v1)] [] := by
  intro n
  induction n with
  | zero => intro v1 M h; rw [fX12_doesAll_12] at h; cases h
  | succ n ih =>
    intro v1 M h
    rw [fX12_doesAll_12] at h
    refine V_iload_n 12 C 1 dX12_doesAll_12 rfl ?_
    refine V_if_eq 13 55 C dX12_doesAll_13 (by decide) (fun c5 => ?_) (fun c5 => ?_)
    · replace h := ite_t c5 h
      refine V_sub [] rfl ?_
      exact hk  _ h
    · replace h := ite_f c5 h
      refine V_aload_n 16 C 0 dX12_doesAll_16 rfl ?_
      obtain ⟨r8, M6, k7, h⟩ := bindM_some h
      refine V_callI 17 (runVO (k := 119) (rest := []) 17 C (kX12_readsCommand  k7) cf_X12_readsCommand wk_8_92 (ltl (by rfl) rfl) (ceR_X12 (by rfl)) rfl rfl rfl rfl dX12_doesAll_17 rfl rfl (Nat.zero_le _) (Nat.zero_le _)) ?_
      refine V_pop 20 C dX12_doesAll_20 rfl ?_
      refine V_aload_n 21 C 0 dX12_doesAll_21 rfl ?_
      obtain ⟨r11, M9, k10, h⟩ := bindM_some h
      refine V_callI 22 (runVO (k := 119) (rest := []) 22 C (kX12_notNow  k10) cf_X12_notNow wk_8_128 (ltl (by rfl) rfl) (ceR_X12 (by rfl)) rfl rfl rfl rfl dX12_doesAll_22 rfl rfl (Nat.zero_le _) (Nat.zero_le _)) ?_
      refine V_if_eq 25 30 C dX12_doesAll_25 (by decide) (fun c12 => ?_) (fun c12 => ?_)
      · replace h := ite_t c12 h
        refine V_aload_n 30 C 0 dX12_doesAll_30 rfl ?_
        obtain ⟨r15, M13, k14, h⟩ := bindM_some h
        refine V_callI 31 (runVO (k := 119) (rest := []) 31 C (kX12_doesNow  k14) cf_X12_doesNow wk_8_132 (ltl (by rfl) rfl) (ceR_X12 (by rfl)) rfl rfl rfl rfl dX12_doesAll_31 rfl rfl (Nat.zero_le _) (Nat.zero_le _)) ?_
        refine V_pop 34 C dX12_doesAll_34 rfl ?_
        refine V_aload_n 35 C 0 dX12_doesAll_35 rfl ?_
        refine V_dup 36 C dX12_doesAll_36 rfl ?_
        refine V_get (v := .int (M13 119 23)) 37 C dX12_doesAll_37 (ltl (by rfl) rfl) (ceR_X12 (by rfl)) rfl inX12 23 rfl wk_6_157 rfl rfl ?_
        refine V_iconst 40 C dX12_doesAll_40 ic1 ?_
        refine V_iadd 41 C dX12_doesAll_41 ?_
        obtain ⟨M16, e17, h⟩ := letM_some h
        refine V_put (ty := .int) (F := F_X12 G 119) 42 C dX12_doesAll_42 (ltl (by rfl) rfl) (fun _ => ceR_X12 (by rfl)) rfl inX12 tyX12 tyX12_ok nmX12 23 rfl wk_6_157 rfl rfl ((M13 119 23) + 1) rfl rfl rfl rfl rfl ?_
        refine V_eqM e17 ?_
        refine V_aload_n 45 C 0 dX12_doesAll_45 rfl ?_
        refine V_bipush 46 C dX12_doesAll_46 bp59 ?_
        obtain ⟨r20, M18, k19, h⟩ := bindM_some h
        refine V_callI 48 (runVO (k := 119) (rest := []) 48 C (kX12_reads  k19) cf_X12_reads wk_8_100 (ltl (by rfl) rfl) (ceR_X12 (by rfl)) rfl rfl rfl rfl dX12_doesAll_48 rfl rfl (Nat.zero_le _) (Nat.zero_le _)) ?_
        refine V_istore_n 51 C [(1, .int (b2i r20)), (0, .ref (gad G 119))] dX12_doesAll_51 rfl rfl rfl ?_
        refine V_goto 52 12 C dX12_doesAll_52 (by decide) ?_
        refine V_sub [1, 0] rfl ?_
        exact ih _ _ h
      · replace h := ite_f c12 h
        refine V_iconst 28 C dX12_doesAll_28 ic0 ?_
        exact V_zreth 29 C hQ h dX12_doesAll_29
set_option maxHeartbeats 4000000 in
theorem kX12_doesAll {G : GG} {l : Launch} {F : Nat}   {M M' : Mem} {r : Bool} (h : fX12_doesAll F  M = some (r, M')) : Con G l yX12_doesAll cX12_doesAll 2 (some .boolean) rmX12_doesAll [.ref (gad G 119)] M (QI G (b2i r) M') := by
  refine con_of pnX12 (Nat.le_of_ble_eq_true rfl) (fun κ C hQ => ?_)
  unfold fX12_doesAll at h
  refine V_L (L1 := [(0, .ref (gad G 119))]) rfl ?_
  refine V_aload_n 0 C 0 dX12_doesAll_0 rfl ?_
  refine V_iconst 1 C dX12_doesAll_1 ic0 ?_
  obtain ⟨M1, e2, h⟩ := letM_some h
  refine V_put (ty := .int) (F := F_X12 G 119) 2 C dX12_doesAll_2 (ltl (by rfl) rfl) (fun _ => ceR_X12 (by rfl)) rfl inX12 tyX12 tyX12_ok nmX12 23 rfl wk_6_157 rfl rfl 0 rfl rfl rfl rfl rfl ?_
  refine V_eqM e2 ?_
  refine V_aload_n 5 C 0 dX12_doesAll_5 rfl ?_
  refine V_iconst 6 C dX12_doesAll_6 ic0 ?_
  obtain ⟨M3, e4, h⟩ := letM_some h
  refine V_put (ty := .int) (F := F_X12 G 119) 7 C dX12_doesAll_7 (ltl (by rfl) rfl) (fun _ => ceR_X12 (by rfl)) rfl inX12 tyX12 tyX12_ok nmX12 19 rfl wk_6_153 rfl rfl 0 rfl rfl rfl rfl rfl ?_
  refine V_eqM e4 ?_
  refine V_iconst 10 C dX12_doesAll_10 ic1 ?_
  refine V_istore_n 11 C [(1, .int 1), (0, .ref (gad G 119))] dX12_doesAll_11 rfl rfl rfl ?_
  refine V_sub [1, 0] rfl ?_
  refine vX12_doesAll_12  C hQ ?_ _ _ _ h
  intro M21 h
  refine V_iconst 55 C dX12_doesAll_55 ic1 ?_
  exact V_zreth 56 C hQ h dX12_doesAll_56
set_option maxHeartbeats 4000000 in
theorem kX12_execute {G : GG} {l : Launch} {F : Nat}   {M M' : Mem} {r : Int32} (h : fX12_execute F  M = some (r, M')) : Con G l yX12_execute cX12_execute 2 (some .int) rmX12_execute [.ref (gad G 119)] M (QI G r M') := by
  refine con_of pnX12 (Nat.le_of_ble_eq_true rfl) (fun κ C hQ => ?_)
  unfold fX12_execute at h
  refine V_L (L1 := [(0, .ref (gad G 119))]) rfl ?_
  refine V_aload_n 0 C 0 dX12_execute_0 rfl ?_
  refine V_iconst 1 C dX12_execute_1 ic0 ?_
  obtain ⟨M1, e2, h⟩ := letM_some h
  refine V_put (ty := .int) (F := F_X12 G 119) 2 C dX12_execute_2 (ltl (by rfl) rfl) (fun _ => ceR_X12 (by rfl)) rfl inX12 tyX12 tyX12_ok nmX12 0 rfl wk_6_134 rfl rfl 0 rfl rfl rfl rfl rfl ?_
  refine V_eqM e2 ?_
  refine V_aload_n 5 C 0 dX12_execute_5 rfl ?_
  obtain ⟨r5, M3, k4, h⟩ := bindM_some h
  refine V_callI 6 (runVO (k := 119) (rest := []) 6 C (kX12_readsAll  k4) cf_X12_readsAll wk_8_88 (ltl (by rfl) rfl) (ceR_X12 (by rfl)) rfl rfl rfl rfl dX12_execute_6 rfl rfl (Nat.zero_le _) (Nat.zero_le _)) ?_
  refine V_ifne_b 9 31 C dX12_execute_9 (by decide) (fun c6 => ?_) (fun c6 => ?_)
  · replace h := ite_t c6 h
    refine V_aload_n 31 C 0 dX12_execute_31 rfl ?_
    obtain ⟨M7, k8, h⟩ := bindV_some h
    refine V_callV 32 (runVO (k := 119) (rest := []) 32 C (kX12_copies  k8) cf_X12_copies wk_6_234 (ltl (by rfl) rfl) (ceR_X12 (by rfl)) rfl rfl rfl rfl dX12_execute_32 rfl rfl (Nat.zero_le _) (Nat.zero_le _)) ?_
    refine V_aload_n 35 C 0 dX12_execute_35 rfl ?_
    refine V_iconst 36 C dX12_execute_36 ic0 ?_
    obtain ⟨M9, e10, h⟩ := letM_some h
    refine V_put (ty := .int) (F := F_X12 G 119) 37 C dX12_execute_37 (ltl (by rfl) rfl) (fun _ => ceR_X12 (by rfl)) rfl inX12 tyX12 tyX12_ok nmX12 1 rfl wk_6_135 rfl rfl 0 rfl rfl rfl rfl rfl ?_
    refine V_eqM e10 ?_
    refine V_aload_n 40 C 0 dX12_execute_40 rfl ?_
    obtain ⟨r13, M11, k12, h⟩ := bindM_some h
    refine V_callI 41 (runVO (k := 119) (rest := []) 41 C (kX12_doesAll  k12) cf_X12_doesAll wk_8_124 (ltl (by rfl) rfl) (ceR_X12 (by rfl)) rfl rfl rfl rfl dX12_execute_41 rfl rfl (Nat.zero_le _) (Nat.zero_le _)) ?_
    refine V_istore_n 44 C [(1, .int (b2i r13)), (0, .ref (gad G 119))] dX12_execute_44 rfl rfl rfl ?_
    refine V_aload_n 45 C 1 dX12_execute_45 rfl ?_
    refine V_iconst 46 C dX12_execute_46 ic0 ?_
    obtain ⟨M14, e15, h⟩ := letM_some h
    refine V_put (ty := .int) (F := F_X12 G 119) 47 C dX12_execute_47 (ltl (by rfl) rfl) (fun _ => ceR_X12 (by rfl)) rfl inX12 tyX12 tyX12_ok nmX12 18 rfl wk_6_152 rfl rfl 0 rfl rfl rfl rfl rfl ?_
    refine V_eqM e15 ?_
    refine V_iload_n 50 C 0 dX12_execute_50 rfl ?_
    refine V_ifeq_b 51 63 C dX12_execute_51 (by decide) (fun c16 => ?_) (fun c16 => ?_)
    · replace h := ite_f c16 h
      refine V_aload_n 63 C 1 dX12_execute_63 rfl ?_
      obtain ⟨M17, k18, h⟩ := bindV_some h
      refine V_callV 64 (runVO (k := 119) (rest := []) 64 C (kX12_goesBack  k18) cf_X12_goesBack wk_8_136 (ltl (by rfl) rfl) (ceR_X12 (by rfl)) rfl rfl rfl rfl dX12_execute_64 rfl rfl (Nat.zero_le _) (Nat.zero_le _)) ?_
      refine V_aload_n 67 C 1 dX12_execute_67 rfl ?_
      refine V_aload_n 68 C 1 dX12_execute_68 rfl ?_
      refine V_get (v := .int (M17 119 1)) 69 C dX12_execute_69 (ltl (by rfl) rfl) (ceR_X12 (by rfl)) rfl inX12 1 rfl wk_6_135 rfl rfl ?_
      refine V_if_le 72 82 C dX12_execute_72 (by decide) (fun c19 => ?_) (fun c19 => ?_)
      · replace h := ite_t c19 h
        refine V_bipush 82 C dX12_execute_82 bp7 ?_
        obtain ⟨M20, e21, h⟩ := letM_some h
        refine V_put (ty := .int) (F := F_X12 G 119) 84 C dX12_execute_84 (ltl (by rfl) rfl) (fun _ => ceR_X12 (by rfl)) rfl inX12 tyX12 tyX12_ok nmX12 5 rfl wk_6_139 rfl rfl 7 rfl rfl rfl rfl rfl ?_
        refine V_eqM e21 ?_
        refine V_aload_n 87 C 1 dX12_execute_87 rfl ?_
        refine V_iconst 88 C dX12_execute_88 ic0 ?_
        obtain ⟨M22, e23, h⟩ := letM_some h
        refine V_put (ty := .int) (F := F_X12 G 119) 89 C dX12_execute_89 (ltl (by rfl) rfl) (fun _ => ceR_X12 (by rfl)) rfl inX12 tyX12 tyX12_ok nmX12 1 rfl wk_6_135 rfl rfl 0 rfl rfl rfl rfl rfl ?_
        refine V_eqM e23 ?_
        refine V_aload_n 92 C 1 dX12_execute_92 rfl ?_
        refine V_bipush 93 C dX12_execute_93 bp6 ?_
        obtain ⟨M24, e25, h⟩ := letM_some h
        refine V_put (ty := .int) (F := F_X12 G 119) 95 C dX12_execute_95 (ltl (by rfl) rfl) (fun _ => ceR_X12 (by rfl)) rfl inX12 tyX12 tyX12_ok nmX12 3 rfl wk_6_137 rfl rfl 6 rfl rfl rfl rfl rfl ?_
        refine V_eqM e25 ?_
        refine V_aload_n 98 C 1 dX12_execute_98 rfl ?_
        refine V_aload_n 99 C 1 dX12_execute_99 rfl ?_
        refine V_get (v := .int (M24 119 23)) 100 C dX12_execute_100 (ltl (by rfl) rfl) (ceR_X12 (by rfl)) rfl inX12 23 rfl wk_6_157 rfl rfl ?_
        obtain ⟨M26, e27, h⟩ := letM_some h
        refine V_put (ty := .int) (F := F_X12 G 119) 103 C dX12_execute_103 (ltl (by rfl) rfl) (fun _ => ceR_X12 (by rfl)) rfl inX12 tyX12 tyX12_ok nmX12 4 rfl wk_6_138 rfl rfl (M24 119 23) rfl rfl rfl rfl rfl ?_
        refine V_eqM e27 ?_
        refine V_aload_n 106 C 1 dX12_execute_106 rfl ?_
        refine V_iconst 107 C dX12_execute_107 ic2 ?_
        obtain ⟨r30, M28, k29, h⟩ := bindM_some h
        refine V_callI 108 (runVO (k := 119) (rest := []) 108 C (kX12_fails  k29) cf_X12_fails wk_6_226 (ltl (by rfl) rfl) (ceR_X12 (by rfl)) rfl rfl rfl rfl dX12_execute_108 rfl rfl (Nat.zero_le _) (Nat.zero_le _)) ?_
        exact V_ireth 111 C hQ h dX12_execute_111
      · replace h := ite_f c19 h
        refine V_aload_n 75 C 1 dX12_execute_75 rfl ?_
        refine V_get (v := .int (M17 119 1)) 76 C dX12_execute_76 (ltl (by rfl) rfl) (ceR_X12 (by rfl)) rfl inX12 1 rfl wk_6_135 rfl rfl ?_
        refine V_goto 79 84 C dX12_execute_79 (by decide) ?_
        obtain ⟨M31, e32, h⟩ := letM_some h
        refine V_put (ty := .int) (F := F_X12 G 119) 84 C dX12_execute_84 (ltl (by rfl) rfl) (fun _ => ceR_X12 (by rfl)) rfl inX12 tyX12 tyX12_ok nmX12 5 rfl wk_6_139 rfl rfl (M17 119 1) rfl rfl rfl rfl rfl ?_
        refine V_eqM e32 ?_
        refine V_aload_n 87 C 1 dX12_execute_87 rfl ?_
        refine V_iconst 88 C dX12_execute_88 ic0 ?_
        obtain ⟨M33, e34, h⟩ := letM_some h
        refine V_put (ty := .int) (F := F_X12 G 119) 89 C dX12_execute_89 (ltl (by rfl) rfl) (fun _ => ceR_X12 (by rfl)) rfl inX12 tyX12 tyX12_ok nmX12 1 rfl wk_6_135 rfl rfl 0 rfl rfl rfl rfl rfl ?_
        refine V_eqM e34 ?_
        refine V_aload_n 92 C 1 dX12_execute_92 rfl ?_
        refine V_bipush 93 C dX12_execute_93 bp6 ?_
        obtain ⟨M35, e36, h⟩ := letM_some h
        refine V_put (ty := .int) (F := F_X12 G 119) 95 C dX12_execute_95 (ltl (by rfl) rfl) (fun _ => ceR_X12 (by rfl)) rfl inX12 tyX12 tyX12_ok nmX12 3 rfl wk_6_137 rfl rfl 6 rfl rfl rfl rfl rfl ?_
        refine V_eqM e36 ?_
        refine V_aload_n 98 C 1 dX12_execute_98 rfl ?_
        refine V_aload_n 99 C 1 dX12_execute_99 rfl ?_
        refine V_get (v := .int (M35 119 23)) 100 C dX12_execute_100 (ltl (by rfl) rfl) (ceR_X12 (by rfl)) rfl inX12 23 rfl wk_6_157 rfl rfl ?_
        obtain ⟨M37, e38, h⟩ := letM_some h
        refine V_put (ty := .int) (F := F_X12 G 119) 103 C dX12_execute_103 (ltl (by rfl) rfl) (fun _ => ceR_X12 (by rfl)) rfl inX12 tyX12 tyX12_ok nmX12 4 rfl wk_6_138 rfl rfl (M35 119 23) rfl rfl rfl rfl rfl ?_
        refine V_eqM e38 ?_
        refine V_aload_n 106 C 1 dX12_execute_106 rfl ?_
        refine V_iconst 107 C dX12_execute_107 ic2 ?_
        obtain ⟨r41, M39, k40, h⟩ := bindM_some h
        refine V_callI 108 (runVO (k := 119) (rest := []) 108 C (kX12_fails  k40) cf_X12_fails wk_6_226 (ltl (by rfl) rfl) (ceR_X12 (by rfl)) rfl rfl rfl rfl dX12_execute_108 rfl rfl (Nat.zero_le _) (Nat.zero_le _)) ?_
        exact V_ireth 111 C hQ h dX12_execute_111
    · replace h := ite_t c16 h
      refine V_aload_n 54 C 1 dX12_execute_54 rfl ?_
      obtain ⟨M42, k43, h⟩ := bindV_some h
      refine V_callV 55 (runVO (k := 119) (rest := []) 55 C (kX12_keeps  k43) cf_X12_keeps wk_6_238 (ltl (by rfl) rfl) (ceR_X12 (by rfl)) rfl rfl rfl rfl dX12_execute_55 rfl rfl (Nat.zero_le _) (Nat.zero_le _)) ?_
      refine V_aload_n 58 C 1 dX12_execute_58 rfl ?_
      refine V_get (v := .int (M42 119 23)) 59 C dX12_execute_59 (ltl (by rfl) rfl) (ceR_X12 (by rfl)) rfl inX12 23 rfl wk_6_157 rfl rfl ?_
      exact V_ireth 62 C hQ h dX12_execute_62
  · replace h := ite_f c6 h
    refine V_aload_n 12 C 0 dX12_execute_12 rfl ?_
    refine V_aload_n 13 C 0 dX12_execute_13 rfl ?_
    refine V_get (v := .int (M3 119 19)) 14 C dX12_execute_14 (ltl (by rfl) rfl) (ceR_X12 (by rfl)) rfl inX12 19 rfl wk_6_153 rfl rfl ?_
    obtain ⟨M44, e45, h⟩ := letM_some h
    refine V_put (ty := .int) (F := F_X12 G 119) 17 C dX12_execute_17 (ltl (by rfl) rfl) (fun _ => ceR_X12 (by rfl)) rfl inX12 tyX12 tyX12_ok nmX12 20 rfl wk_6_154 rfl rfl (M3 119 19) rfl rfl rfl rfl rfl ?_
    refine V_eqM e45 ?_
    refine V_aload_n 20 C 0 dX12_execute_20 rfl ?_
    refine V_iconst 21 C dX12_execute_21 ic0 ?_
    obtain ⟨M46, e47, h⟩ := letM_some h
    refine V_put (ty := .int) (F := F_X12 G 119) 22 C dX12_execute_22 (ltl (by rfl) rfl) (fun _ => ceR_X12 (by rfl)) rfl inX12 tyX12 tyX12_ok nmX12 18 rfl wk_6_152 rfl rfl 0 rfl rfl rfl rfl rfl ?_
    refine V_eqM e47 ?_
    refine V_aload_n 25 C 0 dX12_execute_25 rfl ?_
    refine V_iconst 26 C dX12_execute_26 ic1 ?_
    obtain ⟨r50, M48, k49, h⟩ := bindM_some h
    refine V_callI 27 (runVO (k := 119) (rest := []) 27 C (kX12_fails  k49) cf_X12_fails wk_6_226 (ltl (by rfl) rfl) (ceR_X12 (by rfl)) rfl rfl rfl rfl dX12_execute_27 rfl rfl (Nat.zero_le _) (Nat.zero_le _)) ?_
    exact V_ireth 30 C hQ h dX12_execute_30
set_option maxHeartbeats 4000000 in
theorem kX12_faultPosition {G : GG} {l : Launch} {F : Nat}   {M M' : Mem} {r : Int32} (h : fX12_faultPosition F  M = some (r, M')) : Con G l yX12_faultPosition cX12_faultPosition 1 (some .int) rmX12_faultPosition [.ref (gad G 119)] M (QI G r M') := by
  refine con_of pnX12 (Nat.le_of_ble_eq_true rfl) (fun κ C hQ => ?_)
  unfold fX12_faultPosition at h
  refine V_L (L1 := [(0, .ref (gad G 119))]) rfl ?_
  refine V_aload_n 0 C 0 dX12_faultPosition_0 rfl ?_
  refine V_iconst 1 C dX12_faultPosition_1 ic0 ?_
  obtain ⟨M1, e2, h⟩ := letM_some h
  refine V_put (ty := .int) (F := F_X12 G 119) 2 C dX12_faultPosition_2 (ltl (by rfl) rfl) (fun _ => ceR_X12 (by rfl)) rfl inX12 tyX12 tyX12_ok nmX12 0 rfl wk_6_134 rfl rfl 0 rfl rfl rfl rfl rfl ?_
  refine V_eqM e2 ?_
  refine V_aload_n 5 C 0 dX12_faultPosition_5 rfl ?_
  refine V_get (v := .int (M1 119 20)) 6 C dX12_faultPosition_6 (ltl (by rfl) rfl) (ceR_X12 (by rfl)) rfl inX12 20 rfl wk_6_154 rfl rfl ?_
  refine V_if_ge 9 20 C dX12_faultPosition_9 (by decide) (fun c3 => ?_) (fun c3 => ?_)
  · replace h := ite_t c3 h
    refine V_aload_n 20 C 0 dX12_faultPosition_20 rfl ?_
    refine V_get (v := .int (M1 119 20)) 21 C dX12_faultPosition_21 (ltl (by rfl) rfl) (ceR_X12 (by rfl)) rfl inX12 20 rfl wk_6_154 rfl rfl ?_
    exact V_ireth 24 C hQ h dX12_faultPosition_24
  · replace h := ite_f c3 h
    refine V_aload_n 12 C 0 dX12_faultPosition_12 rfl ?_
    refine V_iconst 13 C dX12_faultPosition_13 ic1 ?_
    obtain ⟨r6, M4, k5, h⟩ := bindM_some h
    refine V_callI 14 (runVO (k := 119) (rest := []) 14 C (kX12_fails  k5) cf_X12_fails wk_6_226 (ltl (by rfl) rfl) (ceR_X12 (by rfl)) rfl rfl rfl rfl dX12_faultPosition_14 rfl rfl (Nat.zero_le _) (Nat.zero_le _)) ?_
    refine V_goto 17 24 C dX12_faultPosition_17 (by decide) ?_
    exact V_ireth 24 C hQ h dX12_faultPosition_24
set_option maxHeartbeats 4000000 in
theorem kX12_denial {G : GG} {l : Launch} {F : Nat}   {M M' : Mem} {r : Int32} (h : fX12_denial F  M = some (r, M')) : Con G l yX12_denial cX12_denial 1 (some .int) rmX12_denial [.ref (gad G 119)] M (QI G r M') := by
  refine con_of pnX12 (Nat.le_of_ble_eq_true rfl) (fun κ C hQ => ?_)
  unfold fX12_denial at h
  refine V_L (L1 := [(0, .ref (gad G 119))]) rfl ?_
  refine V_aload_n 0 C 0 dX12_denial_0 rfl ?_
  refine V_iconst 1 C dX12_denial_1 ic0 ?_
  obtain ⟨M1, e2, h⟩ := letM_some h
  refine V_put (ty := .int) (F := F_X12 G 119) 2 C dX12_denial_2 (ltl (by rfl) rfl) (fun _ => ceR_X12 (by rfl)) rfl inX12 tyX12 tyX12_ok nmX12 0 rfl wk_6_134 rfl rfl 0 rfl rfl rfl rfl rfl ?_
  refine V_eqM e2 ?_
  refine V_aload_n 5 C 0 dX12_denial_5 rfl ?_
  refine V_get (v := .int (M1 119 3)) 6 C dX12_denial_6 (ltl (by rfl) rfl) (ceR_X12 (by rfl)) rfl inX12 3 rfl wk_6_137 rfl rfl ?_
  refine V_if_ne 9 20 C dX12_denial_9 (by decide) (fun c3 => ?_) (fun c3 => ?_)
  · replace h := ite_f c3 h
    refine V_aload_n 20 C 0 dX12_denial_20 rfl ?_
    refine V_get (v := .int (M1 119 3)) 21 C dX12_denial_21 (ltl (by rfl) rfl) (ceR_X12 (by rfl)) rfl inX12 3 rfl wk_6_137 rfl rfl ?_
    exact V_ireth 24 C hQ h dX12_denial_24
  · replace h := ite_t c3 h
    refine V_aload_n 12 C 0 dX12_denial_12 rfl ?_
    refine V_iconst 13 C dX12_denial_13 ic1 ?_
    obtain ⟨r6, M4, k5, h⟩ := bindM_some h
    refine V_callI 14 (runVO (k := 119) (rest := []) 14 C (kX12_fails  k5) cf_X12_fails wk_6_226 (ltl (by rfl) rfl) (ceR_X12 (by rfl)) rfl rfl rfl rfl dX12_denial_14 rfl rfl (Nat.zero_le _) (Nat.zero_le _)) ?_
    refine V_goto 17 24 C dX12_denial_17 (by decide) ?_
    exact V_ireth 24 C hQ h dX12_denial_24
set_option maxHeartbeats 4000000 in
theorem kX12_denialDetail {G : GG} {l : Launch} {F : Nat}   {M M' : Mem} {r : Int32} (h : fX12_denialDetail F  M = some (r, M')) : Con G l yX12_denialDetail cX12_denialDetail 1 (some .int) rmX12_denialDetail [.ref (gad G 119)] M (QI G r M') := by
  refine con_of pnX12 (Nat.le_of_ble_eq_true rfl) (fun κ C hQ => ?_)
  unfold fX12_denialDetail at h
  refine V_L (L1 := [(0, .ref (gad G 119))]) rfl ?_
  refine V_aload_n 0 C 0 dX12_denialDetail_0 rfl ?_
  refine V_iconst 1 C dX12_denialDetail_1 ic0 ?_
  obtain ⟨M1, e2, h⟩ := letM_some h
  refine V_put (ty := .int) (F := F_X12 G 119) 2 C dX12_denialDetail_2 (ltl (by rfl) rfl) (fun _ => ceR_X12 (by rfl)) rfl inX12 tyX12 tyX12_ok nmX12 0 rfl wk_6_134 rfl rfl 0 rfl rfl rfl rfl rfl ?_
  refine V_eqM e2 ?_
  refine V_aload_n 5 C 0 dX12_denialDetail_5 rfl ?_
  refine V_get (v := .int (M1 119 3)) 6 C dX12_denialDetail_6 (ltl (by rfl) rfl) (ceR_X12 (by rfl)) rfl inX12 3 rfl wk_6_137 rfl rfl ?_
  refine V_if_ne 9 20 C dX12_denialDetail_9 (by decide) (fun c3 => ?_) (fun c3 => ?_)
  · replace h := ite_f c3 h
    refine V_aload_n 20 C 0 dX12_denialDetail_20 rfl ?_
    refine V_get (v := .int (M1 119 4)) 21 C dX12_denialDetail_21 (ltl (by rfl) rfl) (ceR_X12 (by rfl)) rfl inX12 4 rfl wk_6_138 rfl rfl ?_
    exact V_ireth 24 C hQ h dX12_denialDetail_24
  · replace h := ite_t c3 h
    refine V_aload_n 12 C 0 dX12_denialDetail_12 rfl ?_
    refine V_iconst 13 C dX12_denialDetail_13 ic1 ?_
    obtain ⟨r6, M4, k5, h⟩ := bindM_some h
    refine V_callI 14 (runVO (k := 119) (rest := []) 14 C (kX12_fails  k5) cf_X12_fails wk_6_226 (ltl (by rfl) rfl) (ceR_X12 (by rfl)) rfl rfl rfl rfl dX12_denialDetail_14 rfl rfl (Nat.zero_le _) (Nat.zero_le _)) ?_
    refine V_goto 17 24 C dX12_denialDetail_17 (by decide) ?_
    exact V_ireth 24 C hQ h dX12_denialDetail_24
set_option maxHeartbeats 4000000 in
theorem kX12_denialCause {G : GG} {l : Launch} {F : Nat}   {M M' : Mem} {r : Int32} (h : fX12_denialCause F  M = some (r, M')) : Con G l yX12_denialCause cX12_denialCause 1 (some .int) rmX12_denialCause [.ref (gad G 119)] M (QI G r M') := by
  refine con_of pnX12 (Nat.le_of_ble_eq_true rfl) (fun κ C hQ => ?_)
  unfold fX12_denialCause at h
  refine V_L (L1 := [(0, .ref (gad G 119))]) rfl ?_
  refine V_aload_n 0 C 0 dX12_denialCause_0 rfl ?_
  refine V_iconst 1 C dX12_denialCause_1 ic0 ?_
  obtain ⟨M1, e2, h⟩ := letM_some h
  refine V_put (ty := .int) (F := F_X12 G 119) 2 C dX12_denialCause_2 (ltl (by rfl) rfl) (fun _ => ceR_X12 (by rfl)) rfl inX12 tyX12 tyX12_ok nmX12 0 rfl wk_6_134 rfl rfl 0 rfl rfl rfl rfl rfl ?_
  refine V_eqM e2 ?_
  refine V_aload_n 5 C 0 dX12_denialCause_5 rfl ?_
  refine V_get (v := .int (M1 119 5)) 6 C dX12_denialCause_6 (ltl (by rfl) rfl) (ceR_X12 (by rfl)) rfl inX12 5 rfl wk_6_139 rfl rfl ?_
  refine V_if_ne 9 20 C dX12_denialCause_9 (by decide) (fun c3 => ?_) (fun c3 => ?_)
  · replace h := ite_f c3 h
    refine V_aload_n 20 C 0 dX12_denialCause_20 rfl ?_
    refine V_get (v := .int (M1 119 5)) 21 C dX12_denialCause_21 (ltl (by rfl) rfl) (ceR_X12 (by rfl)) rfl inX12 5 rfl wk_6_139 rfl rfl ?_
    exact V_ireth 24 C hQ h dX12_denialCause_24
  · replace h := ite_t c3 h
    refine V_aload_n 12 C 0 dX12_denialCause_12 rfl ?_
    refine V_iconst 13 C dX12_denialCause_13 ic1 ?_
    obtain ⟨r6, M4, k5, h⟩ := bindM_some h
    refine V_callI 14 (runVO (k := 119) (rest := []) 14 C (kX12_fails  k5) cf_X12_fails wk_6_226 (ltl (by rfl) rfl) (ceR_X12 (by rfl)) rfl rfl rfl rfl dX12_denialCause_14 rfl rfl (Nat.zero_le _) (Nat.zero_le _)) ?_
    refine V_goto 17 24 C dX12_denialCause_17 (by decide) ?_
    exact V_ireth 24 C hQ h dX12_denialCause_24
set_option maxHeartbeats 4000000 in
theorem vX12_undo_43 {G : GG} {κ : KK} {F : Nat}  (C : Cx G κ cX12_undo RX12 (some .int) 3 rmX12_undo) {M' : Mem} {r : Int32} (hQ : HQ G κ (QI G r M') 0 0) {q1 : Int32} {kx : Mem → Option (Int32 × Mem)} (hk : ∀  (M : Mem), kx  M = some (r, M') → V G κ 3 0 0 M 74 [(0, .ref (gad G 119))] []) : ∀ (n : Nat) (v2 : Int32) (M : Mem), fX12_undo_43 F q1 kx n v2 M = some (r, M') → V G κ 3 0 0 M 43 [(0, .ref (gad G 119)), (1, .int q1), (2, .int v2)] [] := by
  intro n
  induction n with
  | zero => intro v2 M h; rw [fX12_undo_43] at h; cases h
  | succ n ih =>
    intro v2 M h
    rw [fX12_undo_43] at h
    refine V_iload_n 43 C 2 dX12_undo_43 rfl ?_
    refine V_sipush 44 C dX12_undo_44 sp216 ?_
    refine V_icmp_ge 47 74 C dX12_undo_47 (by decide) (fun c8 => ?_) (fun c8 => ?_)
    · replace h := ite_t c8 h
      refine V_sub [0] rfl ?_
      exact hk  _ h
    · replace h := ite_f c8 h
      refine V_aload_n 50 C 0 dX12_undo_50 rfl ?_
      refine V_get (v := .ref (gad G 120)) 51 C dX12_undo_51 (ltl (by rfl) rfl) (ceR_X12 (by rfl)) rfl inX12 6 rfl wk_6_140 rfl rfl ?_
      refine V_iload_n 54 C 2 dX12_undo_54 rfl ?_
      refine V_aload_n 55 C 0 dX12_undo_55 rfl ?_
      refine V_get (v := .ref (gad G 121)) 56 C dX12_undo_56 (ltl (by rfl) rfl) (ceR_X12 (by rfl)) rfl inX12 7 rfl wk_6_141 rfl rfl ?_
      refine V_sipush 59 C dX12_undo_59 sp216 ?_
      refine V_iload_n 62 C 1 dX12_undo_62 rfl ?_
      refine V_imul 63 C dX12_undo_63 ?_
      refine V_iload_n 64 C 2 dX12_undo_64 rfl ?_
      refine V_iadd 65 C dX12_undo_65 ?_
      obtain ⟨c9, h⟩ := chk_some h
      refine V_iald 66 C dX12_undo_66 (akI_27 (by rfl)) (al_27 (by rfl)) c9 ?_
      obtain ⟨c10, h⟩ := chk_some h
      obtain ⟨M11, e12, h⟩ := letM_some h
      refine V_iast 67 C dX12_undo_67 (akI_26 (by rfl)) (al_26 (by rfl)) c10 ?_
      refine V_eqM e12 ?_
      obtain ⟨x13, e14, h⟩ := letM_some h
      refine V_iinc 68 C [(2, .int x13), (0, .ref (gad G 119)), (1, .int q1)] 2 x13 dX12_undo_68 rfl (by rw [e14]; rfl) rfl rfl ?_
      refine V_goto 71 43 C dX12_undo_71 (by decide) ?_
      refine V_sub [1, 2, 0] rfl ?_
      exact ih _ _ h
set_option maxHeartbeats 4000000 in
theorem kX12_undo {G : GG} {l : Launch} {F : Nat}   {M M' : Mem} {r : Int32} (h : fX12_undo F  M = some (r, M')) : Con G l yX12_undo cX12_undo 3 (some .int) rmX12_undo [.ref (gad G 119)] M (QI G r M') := by
  refine con_of pnX12 (Nat.le_of_ble_eq_true rfl) (fun κ C hQ => ?_)
  unfold fX12_undo at h
  refine V_L (L1 := [(0, .ref (gad G 119))]) rfl ?_
  refine V_aload_n 0 C 0 dX12_undo_0 rfl ?_
  refine V_iconst 1 C dX12_undo_1 ic0 ?_
  obtain ⟨M1, e2, h⟩ := letM_some h
  refine V_put (ty := .int) (F := F_X12 G 119) 2 C dX12_undo_2 (ltl (by rfl) rfl) (fun _ => ceR_X12 (by rfl)) rfl inX12 tyX12 tyX12_ok nmX12 0 rfl wk_6_134 rfl rfl 0 rfl rfl rfl rfl rfl ?_
  refine V_eqM e2 ?_
  refine V_aload_n 5 C 0 dX12_undo_5 rfl ?_
  refine V_get (v := .int (M1 119 11)) 6 C dX12_undo_6 (ltl (by rfl) rfl) (ceR_X12 (by rfl)) rfl inX12 11 rfl wk_6_145 rfl rfl ?_
  refine V_if_ne 9 18 C dX12_undo_9 (by decide) (fun c3 => ?_) (fun c3 => ?_)
  · replace h := ite_f c3 h
    refine V_aload_n 18 C 0 dX12_undo_18 rfl ?_
    refine V_dup 19 C dX12_undo_19 rfl ?_
    refine V_get (v := .int (M1 119 11)) 20 C dX12_undo_20 (ltl (by rfl) rfl) (ceR_X12 (by rfl)) rfl inX12 11 rfl wk_6_145 rfl rfl ?_
    refine V_iconst 23 C dX12_undo_23 ic1 ?_
    refine V_isub 24 C dX12_undo_24 ?_
    obtain ⟨M4, e5, h⟩ := letM_some h
    refine V_put (ty := .int) (F := F_X12 G 119) 25 C dX12_undo_25 (ltl (by rfl) rfl) (fun _ => ceR_X12 (by rfl)) rfl inX12 tyX12 tyX12_ok nmX12 11 rfl wk_6_145 rfl rfl ((M1 119 11) - 1) rfl rfl rfl rfl rfl ?_
    refine V_eqM e5 ?_
    refine V_aload_n 28 C 0 dX12_undo_28 rfl ?_
    refine V_get (v := .int (M4 119 12)) 29 C dX12_undo_29 (ltl (by rfl) rfl) (ceR_X12 (by rfl)) rfl inX12 12 rfl wk_6_146 rfl rfl ?_
    refine V_aload_n 32 C 0 dX12_undo_32 rfl ?_
    refine V_get (v := .int (M4 119 11)) 33 C dX12_undo_33 (ltl (by rfl) rfl) (ceR_X12 (by rfl)) rfl inX12 11 rfl wk_6_145 rfl rfl ?_
    refine V_iadd 36 C dX12_undo_36 ?_
    refine V_bipush 37 C dX12_undo_37 bp8 ?_
    refine V_irem 39 C dX12_undo_39 (by decide) ?_
    obtain ⟨x6, e7, h⟩ := letM_some h
    refine V_top e7 ?_
    refine V_istore_n 40 C [(1, .int x6), (0, .ref (gad G 119))] dX12_undo_40 rfl rfl rfl ?_
    refine V_iconst 41 C dX12_undo_41 ic0 ?_
    refine V_istore_n 42 C [(2, .int 0), (1, .int x6), (0, .ref (gad G 119))] dX12_undo_42 rfl rfl rfl ?_
    refine V_sub [2, 1, 0] rfl ?_
    refine vX12_undo_43  C hQ ?_ _ _ _ h
    intro M15 h
    refine V_aload_n 74 C 0 dX12_undo_74 rfl ?_
    refine V_get (v := .int (M15 119 11)) 75 C dX12_undo_75 (ltl (by rfl) rfl) (ceR_X12 (by rfl)) rfl inX12 11 rfl wk_6_145 rfl rfl ?_
    exact V_ireth 78 C hQ h dX12_undo_78
  · replace h := ite_t c3 h
    refine V_aload_n 12 C 0 dX12_undo_12 rfl ?_
    refine V_iconst 13 C dX12_undo_13 ic1 ?_
    obtain ⟨r18, M16, k17, h⟩ := bindM_some h
    refine V_callI 14 (runVO (k := 119) (rest := []) 14 C (kX12_fails  k17) cf_X12_fails wk_6_226 (ltl (by rfl) rfl) (ceR_X12 (by rfl)) rfl rfl rfl rfl dX12_undo_14 rfl rfl (Nat.zero_le _) (Nat.zero_le _)) ?_
    exact V_ireth 17 C hQ h dX12_undo_17
