def rmX11_stopCount : Room := { frames := 0, cells := 0, slots := 0, locals := 0 }
def fX11_stopCount (F : Nat)  (M : Mem) : Option (Int32 × Mem) := some ((M 5 1), M)
def rmX3_countLapSteps : Room := { frames := 3, cells := 0, slots := 0, locals := 69 }
def fX3_countLapSteps_4 (F : Nat) (b : Nat)  (kx : Int32 → Mem → Option (Int32 × Mem)) : Nat → Int32 → Int32 → Mem → Option (Int32 × Mem)
  | 0, _, _, _ => none
  | n + 1, v1, v2, M => if (M (b + 4) 1) ≤ v2 then kx v1 M else bindM (fX11_at F (b + 5) v2 M) (fun r4 M2 => bindM (fX6_stopAfter F (b + 4) v2 M2) (fun r7 M5 => bindM (fX11_at F (b + 5) r7 M5) (fun r10 M8 => bindM (fX9_stepsBetween F (b + 1) r4 r10 M8) (fun r13 M11 => if r13 = (-1) then some ((-1), M11) else letM (v1 + r13) (fun x15 => letM (v2 + 1) (fun x17 => fX3_countLapSteps_4 F b kx n x15 x17 M11))))))
def fX3_countLapSteps (F : Nat) (b : Nat) (M : Mem) : Option (Int32 × Mem) := fX3_countLapSteps_4 F b (fun w20 M19 => some (w20, M19)) F 0 0 M
def rmX11_seed : Room := { frames := 0, cells := 0, slots := 0, locals := 0 }
def fX11_seed (F : Nat)  (M : Mem) : Option (Int32 × Mem) := some ((M 1 4), M)
def rmX11_minute : Room := { frames := 0, cells := 0, slots := 0, locals := 0 }
def fX11_minute (F : Nat)  (M : Mem) : Option (Int32 × Mem) := some ((M 1 5), M)
def rmX11_mouseCount : Room := { frames := 0, cells := 0, slots := 0, locals := 0 }
def fX11_mouseCount (F : Nat)  (M : Mem) : Option (Int32 × Mem) := some ((M 7 3), M)
def rmX5_countOn : Room := { frames := 1, cells := 0, slots := 0, locals := 21 }
def fX5_countOn_4 (F : Nat) (b : Nat) (q1 : Int32) (kx : Int32 → Mem → Option (Int32 × Mem)) : Nat → Int32 → Int32 → Mem → Option (Int32 × Mem)
  | 0, _, _, _ => none
  | n + 1, v2, v3, M => if (M b 3) ≤ v3 then kx v2 M else bindM (fX11_at F (b + 1) v3 M) (fun r4 M2 => if r4 = q1 then letM (v2 + 1) (fun x8 => letM (v3 + 1) (fun x10 => fX5_countOn_4 F b q1 kx n x8 x10 M2)) else letM (v3 + 1) (fun x6 => fX5_countOn_4 F b q1 kx n v2 x6 M2))
def fX5_countOn (F : Nat) (b : Nat) (p0 : Int32) (M : Mem) : Option (Int32 × Mem) := fX5_countOn_4 F b p0 (fun w13 M12 => some (w13, M12)) F 0 0 M
def rmX9_sumOfGrams : Room := { frames := 1, cells := 0, slots := 0, locals := 21 }
def fX9_sumOfGrams_4 (F : Nat) (b : Nat)  (kx : Int32 → Mem → Option (Int32 × Mem)) : Nat → Int32 → Int32 → Mem → Option (Int32 × Mem)
  | 0, _, _, _ => none
  | n + 1, v1, v2, M => if (M b 3) ≤ v2 then kx v1 M else bindM (fX11_at F (b + 1) v2 M) (fun r4 M2 => letM (v1 + r4) (fun x5 => letM (v2 + 1) (fun x7 => fX9_sumOfGrams_4 F b kx n x5 x7 M2)))
def fX9_sumOfGrams (F : Nat) (b : Nat) (M : Mem) : Option (Int32 × Mem) := fX9_sumOfGrams_4 F b (fun w10 M9 => some (w10, M9)) F 0 0 M
def rmX11_totalCheese : Room := { frames := 2, cells := 0, slots := 0, locals := 43 }
def fX11_totalCheese (F : Nat)  (M : Mem) : Option (Int32 × Mem) := bindM (fX9_sumOfGrams F 2 M) (fun r3 M1 => some (r3, M1))
def rmX11_totalCheeseByAccounts : Room := { frames := 0, cells := 0, slots := 0, locals := 0 }
def fX11_totalCheeseByAccounts (F : Nat)  (M : Mem) : Option (Int32 × Mem) := some (((M 1 6) - (M 1 7)), M)
def rmX11_eaten : Room := { frames := 0, cells := 0, slots := 0, locals := 0 }
def fX11_eaten (F : Nat)  (M : Mem) : Option (Int32 × Mem) := some ((M 1 7), M)
def rmX11_caught : Room := { frames := 0, cells := 0, slots := 0, locals := 0 }
def fX11_caught (F : Nat)  (M : Mem) : Option (Int32 × Mem) := some ((M 1 8), M)
def rmX11_gone : Room := { frames := 0, cells := 0, slots := 0, locals := 0 }
def fX11_gone (F : Nat)  (M : Mem) : Option (Int32 × Mem) := some ((M 1 9), M)
def rmX11_rinds : Room := { frames := 0, cells := 0, slots := 0, locals := 0 }
def fX11_rinds (F : Nat)  (M : Mem) : Option (Int32 × Mem) := some ((M 1 10), M)
def rmX8_append : Room := { frames := 0, cells := 0, slots := 0, locals := 0 }
def fX8_append (F : Nat) (b : Nat) (p0 : Int32) (M : Mem) : Option Mem := if (M b 1) < 0 then some M else if 60 ≤ (M b 1) then some M else chk (inb (M b 1) 60) (letM (up2 M (b + 1) (M b 1).toNatClampNeg (vp_nar .char p0)) (fun M4 => letM (up2 M4 b 1 ((M4 b 1) + 1)) (fun M6 => some M6)))
def rmX8_mostDigits : Room := { frames := 0, cells := 0, slots := 0, locals := 0 }
def fX8_mostDigits (F : Nat) (b : Nat) (p0 : Int32) (M : Mem) : Option (Int32 × Mem) := if p0 = 68 then some (1, M) else if p0 = 78 then some (2, M) else if p0 = 76 then some (4, M) else some (0, M)
def rmX8_isDigit : Room := { frames := 0, cells := 0, slots := 0, locals := 0 }
def fX8_isDigit (F : Nat) (b : Nat) (p0 : Int32) (M : Mem) : Option (Bool × Mem) := if p0 < 48 then some (false, M) else if 57 < p0 then some (false, M) else some (true, M)
def rmX8_presentSign : Room := { frames := 0, cells := 0, slots := 0, locals := 0 }
def fX8_presentSign (F : Nat) (b : Nat) (M : Mem) : Option (Int32 × Mem) := if (M b 2) < 0 then chk (nrc 0) (some (0, M)) else if (M b 1) ≤ (M b 2) then chk (nrc 0) (some (0, M)) else if 60 ≤ (M b 2) then chk (nrc 0) (some (0, M)) else chk (inb (M b 2) 60) (chk (nrc (M (b + 1) (M b 2).toNatClampNeg)) (some ((M (b + 1) (M b 2).toNatClampNeg), M)))
def rmX8_readNumber : Room := { frames := 1, cells := 0, slots := 0, locals := 21 }
def fX8_readNumber_4 (F : Nat) (b : Nat) (q1 : Int32) (kx : Int32 → Int32 → Mem → Option (Bool × Mem)) : Nat → Int32 → Int32 → Mem → Option (Bool × Mem)
  | 0, _, _, _ => none
  | n + 1, v2, v3, M => if q1 ≤ v3 then kx v2 v3 M else bindM (fX8_presentSign F b M) (fun r4 M2 => bindM (fX8_isDigit F b r4 M2) (fun r7 M5 => if r7 = true then bindM (fX8_presentSign F b M5) (fun r11 M9 => letM ((v2 * 10) + (r11 - 48)) (fun x12 => letM (up2 M9 b 2 ((M9 b 2) + 1)) (fun M14 => letM (v3 + 1) (fun x16 => fX8_readNumber_4 F b q1 kx n x12 x16 M14)))) else kx v2 v3 M5))
def fX8_readNumber (F : Nat) (b : Nat) (p0 : Int32) (M : Mem) : Option (Bool × Mem) := fX8_readNumber_4 F b p0 (fun w19 w20 M18 => if (M18 b 5) = (-1) then letM (up2 M18 b 5 w19) (fun M25 => if w20 ≤ 0 then some (false, M25) else some (true, M25)) else letM (up2 M18 b 6 w19) (fun M22 => if w20 ≤ 0 then some (false, M22) else some (true, M22))) F 0 0 M
def rmX8_readSign : Room := { frames := 1, cells := 0, slots := 0, locals := 21 }
def fX8_readSign (F : Nat) (b : Nat) (p0 : Int32) (M : Mem) : Option (Bool × Mem) := bindM (fX8_presentSign F b M) (fun r3 M1 => if r3 = p0 then letM (up2 M1 b 2 ((M1 b 2) + 1)) (fun M5 => some (true, M5)) else some (false, M1))
def rmX8_readPattern : Room := { frames := 4, cells := 0, slots := 0, locals := 85 }
def fX8_readPattern_12 (F : Nat) (b : Nat) (q1 : Nat) (kx : Mem → Option (Bool × Mem)) : Nat → Int32 → Mem → Option (Bool × Mem)
  | 0, _, _ => none
  | n + 1, v2, M => if (plen q1) ≤ v2 then kx  M else chk (inb v2 (plenN q1)) (letM (pch q1 v2) (fun x7 => bindM (fX8_mostDigits F b x7 M) (fun r11 M9 => if r11 = 0 then bindM (fX8_readSign F b x7 M9) (fun r21 M19 => if r21 = true then letM (v2 + 1) (fun x23 => fX8_readPattern_12 F b q1 kx n x23 M19) else some (false, M19)) else bindM (fX8_readNumber F b r11 M9) (fun r15 M13 => if r15 = true then letM (v2 + 1) (fun x17 => fX8_readPattern_12 F b q1 kx n x17 M13) else some (false, M13)))))
def fX8_readPattern (F : Nat) (b : Nat) (p0 : Nat) (M : Mem) : Option (Bool × Mem) := letM (up2 M b 5 (-1)) (fun M1 => letM (up2 M1 b 6 (-1)) (fun M3 => fX8_readPattern_12 F b p0 (fun M25 => some (true, M25)) F 0 M3))
def rmX8_readPatterns : Room := { frames := 5, cells := 0, slots := 0, locals := 110 }
def fX8_readPatterns_9 (F : Nat) (b : Nat) (q1 : Int32) (kx : Int32 → Mem → Option (Bool × Mem)) : Nat → Int32 → Int32 → Mem → Option (Bool × Mem)
  | 0, _, _, _ => none
  | n + 1, v2, v3, M => if 11 ≤ v3 then kx v2 M else letM (up2 M b 2 q1) (fun M4 => chk (inb v3 11) (bindM (fX8_readPattern F b v3.toNatClampNeg M4) (fun r9 M7 => if r9 = true then chk (inb v3 11) (letM (up2 M7 b 4 (nI v3.toNatClampNeg)) (fun M16 => some (true, M16))) else letM (imx v2 (M7 b 2)) (fun x11 => letM (v3 + 1) (fun x13 => fX8_readPatterns_9 F b q1 kx n x11 x13 M7)))))
def fX8_readPatterns (F : Nat) (b : Nat) (M : Mem) : Option (Bool × Mem) := letM (M b 2) (fun x1 => fX8_readPatterns_9 F b x1 (fun w19 M18 => letM (up2 M18 b 2 w19) (fun M20 => some (false, M20))) F x1 0 M)
def rmX8_readCommand : Room := { frames := 6, cells := 0, slots := 0, locals := 133 }
def fX8_readCommand (F : Nat) (b : Nat) (M : Mem) : Option Mem := bindM (fX8_readPatterns F b M) (fun r3 M1 => bindM (fX8_readSign F b 59 M1) (fun r6 M4 => some M4))
def rmX8_rewind : Room := { frames := 0, cells := 0, slots := 0, locals := 0 }
def fX8_rewind (F : Nat) (b : Nat) (M : Mem) : Option Mem := letM (up2 M b 2 0) (fun M1 => some M1)
def rmX11_tryCommands : Room := { frames := 7, cells := 0, slots := 0, locals := 153 }
def fX11_tryCommands_20 (F : Nat)   (kx : Mem → Option (Bool × Mem)) : Nat → Int32 → Mem → Option (Bool × Mem)
  | 0, _, _ => none
  | n + 1, v1, M => if (M 115 3) ≤ v1 then kx  M else bindV (fX8_readCommand F 115 M) (fun M6 => chk (decide ((M6 115 4).toNatClampNeg < 11)) (bindM (fX3_refusalOf F 11 ((M6 115 4).toNatClampNeg) (M6 115 5) (M6 115 6) M6) (fun r11 M9 => chk (decide (r11 < 8)) (if r11 = 0 then chk (decide ((M9 115 4).toNatClampNeg < 11)) (bindM (fX3_carryOut F 11 ((M9 115 4).toNatClampNeg) (M9 115 5) (M9 115 6) M9) (fun r17 M15 => letM (v1 + 1) (fun x18 => fX11_tryCommands_20 F  kx n x18 M15))) else chk (decide (r11 < 8)) (bindV (fX11_keepDenial F 6 v1 (rnum r11) M9) (fun M21 => some (false, M21)))))))
def fX11_tryCommands (F : Nat)  (M : Mem) : Option (Bool × Mem) := bindV (fX3_copyFrom F 11 1 M) (fun M1 => bindV (fX8_rewind F 115 M1) (fun M3 => fX11_tryCommands_20 F  (fun M23 => some (true, M23)) F 0 M3))
def rmX8_clear : Room := { frames := 0, cells := 0, slots := 0, locals := 0 }
def fX8_clear (F : Nat) (b : Nat) (M : Mem) : Option Mem := letM (up2 M b 1 0) (fun M1 => some M1)
def rmX8_findFault : Room := { frames := 6, cells := 0, slots := 0, locals := 133 }
def fX8_findFault_12 (F : Nat) (b : Nat)  (kx : Mem → Option (Int32 × Mem)) : Nat → Int32 → Mem → Option (Int32 × Mem)
  | 0, _, _ => none
  | n + 1, v1, M => if 60 ≤ v1 then kx  M else bindM (fX8_readPatterns F b M) (fun r8 M6 => if r8 = true then letM (up2 M6 b 3 ((M6 b 3) + 1)) (fun M10 => if (M10 b 2) < (M10 b 1) then bindM (fX8_readSign F b 59 M10) (fun r15 M13 => if r15 = true then letM (v1 + 1) (fun x17 => fX8_findFault_12 F b kx n x17 M13) else some ((M13 b 2), M13)) else some ((-1), M10)) else some ((M6 b 2), M6))
def fX8_findFault (F : Nat) (b : Nat) (M : Mem) : Option (Int32 × Mem) := letM (up2 M b 2 0) (fun M1 => letM (up2 M1 b 3 0) (fun M3 => fX8_findFault_12 F b (fun M19 => some ((M19 b 2), M19)) F 0 M3))
def rmX4_append : Room := { frames := 0, cells := 0, slots := 0, locals := 0 }
def fX4_append (F : Nat) (b : Nat) (p0 : Int32) (M : Mem) : Option Mem := if (M b 1) < 0 then some M else if 64 ≤ (M b 1) then some M else chk (inb (M b 1) 64) (letM (up2 M (b + 1) (M b 1).toNatClampNeg (vp_nar .char p0)) (fun M4 => letM (up2 M4 b 1 ((M4 b 1) + 1)) (fun M6 => some M6)))
def rmX4_appendIf : Room := { frames := 1, cells := 0, slots := 0, locals := 21 }
def fX4_appendIf (F : Nat) (b : Nat) (p0 : Bool) (p1 : Int32) (M : Mem) : Option Mem := if p0 = true then bindV (fX4_append F b p1 M) (fun M2 => some M2) else some M
def rmX4_appendNumber : Room := { frames := 2, cells := 0, slots := 0, locals := 43 }
def fX4_appendNumber (F : Nat) (b : Nat) (p0 : Int32) (M : Mem) : Option Mem := if p0 < 10 then bindV (fX4_appendIf F b false (i2c (48 + (p0 / 10))) M) (fun M2 => bindV (fX4_append F b (i2c (48 + (irm p0 10))) M2) (fun M4 => some M4)) else bindV (fX4_appendIf F b true (i2c (48 + (p0 / 10))) M) (fun M6 => bindV (fX4_append F b (i2c (48 + (irm p0 10))) M6) (fun M8 => some M8))
def rmX4_showShelf : Room := { frames := 3, cells := 0, slots := 0, locals := 64 }
def fX4_showShelf_82 (F : Nat) (b : Nat) (p0 : Nat) (q2 : Int32) (q4 : Int32) (kx : Mem → Option Mem) : Nat → Int32 → Mem → Option Mem
  | 0, _, _ => none
  | n + 1, v5, M => if q4 ≤ v5 then kx  M else bindV (fX4_append F b 109 M) (fun M24 => letM (v5 + 1) (fun x26 => fX4_showShelf_82 F b p0 q2 q4 kx n x26 M24))
def fX4_showShelf_104 (F : Nat) (b : Nat) (p0 : Nat) (q2 : Int32) (kx : Mem → Option Mem) : Nat → Int32 → Mem → Option Mem
  | 0, _, _ => none
  | n + 1, v5, M => if (M (p0 + 1) 3) ≤ v5 then kx  M else bindM (fX9_areConnected F (p0 + 1) q2 v5 M) (fun r32 M30 => if r32 = true then bindV (fX4_append F b 45 M30) (fun M36 => bindV (fX4_appendNumber F b v5 M36) (fun M38 => letM (v5 + 1) (fun x40 => fX4_showShelf_104 F b p0 q2 kx n x40 M38))) else letM (v5 + 1) (fun x34 => fX4_showShelf_104 F b p0 q2 kx n x34 M30))
def fX4_showShelf (F : Nat) (b : Nat) (p0 : Nat) (p1 : Int32) (M : Mem) : Option Mem := letM (up2 M b 1 0) (fun M1 => bindV (fX4_appendNumber F b p1 M1) (fun M3 => bindV (fX4_append F b 58 M3) (fun M5 => bindM (fX11_at F (p0 + 2) p1 M5) (fun r9 M7 => bindV (fX4_appendNumber F b r9 M7) (fun M10 => bindM (fX11_holds F (M10 (p0 + 1) 2) p1 M10) (fun r14 M12 => bindV (fX4_appendIf F b r14 98 M12) (fun M15 => if (M15 (p0 + 4) 2) = p1 then bindV (fX4_appendIf F b true 67 M15) (fun M43 => bindM (fX5_countOn F (p0 + 6) p1 M43) (fun r47 M45 => fX4_showShelf_82 F b p0 p1 r47 (fun M48 => fX4_showShelf_104 F b p0 p1 (fun M49 => some M49) F 0 M48) F 0 M45)) else bindV (fX4_appendIf F b false 67 M15) (fun M18 => bindM (fX5_countOn F (p0 + 6) p1 M18) (fun r22 M20 => fX4_showShelf_82 F b p0 p1 r22 (fun M28 => fX4_showShelf_104 F b p0 p1 (fun M42 => some M42) F 0 M28) F 0 M20)))))))))
def rmX4_showStops : Room := { frames := 3, cells := 0, slots := 0, locals := 64 }
def fX4_showStops_7 (F : Nat) (b : Nat) (p0 : Nat)  (kx : Mem → Option Mem) : Nat → Int32 → Mem → Option Mem
  | 0, _, _ => none
  | n + 1, v2, M => if (M p0 1) ≤ v2 then kx  M else if v2 ≤ 0 then bindV (fX4_appendIf F b false 32 M) (fun M5 => bindM (fX11_at F (p0 + 1) v2 M5) (fun r9 M7 => bindV (fX4_appendNumber F b r9 M7) (fun M10 => if v2 = (M10 p0 3) then bindV (fX4_appendIf F b true 42 M10) (fun M17 => letM (v2 + 1) (fun x19 => fX4_showStops_7 F b p0 kx n x19 M17)) else bindV (fX4_appendIf F b false 42 M10) (fun M13 => letM (v2 + 1) (fun x15 => fX4_showStops_7 F b p0 kx n x15 M13))))) else bindV (fX4_appendIf F b true 32 M) (fun M21 => bindM (fX11_at F (p0 + 1) v2 M21) (fun r25 M23 => bindV (fX4_appendNumber F b r25 M23) (fun M26 => if v2 = (M26 p0 3) then bindV (fX4_appendIf F b true 42 M26) (fun M33 => letM (v2 + 1) (fun x35 => fX4_showStops_7 F b p0 kx n x35 M33)) else bindV (fX4_appendIf F b false 42 M26) (fun M29 => letM (v2 + 1) (fun x31 => fX4_showStops_7 F b p0 kx n x31 M29)))))
def fX4_showStops (F : Nat) (b : Nat) (p0 : Nat) (M : Mem) : Option Mem := letM (up2 M b 1 0) (fun M1 => fX4_showStops_7 F b p0 (fun M37 => some M37) F 0 M1)
def rmX11_writePatrol : Room := { frames := 4, cells := 0, slots := 0, locals := 86 }
def fX11_writePatrol (F : Nat)  (M : Mem) : Option (Int32 × Mem) := bindV (fX4_showStops F 117 5 M) (fun M1 => some ((M1 117 1), M1))
def rmX2_pop : Room := { frames := 4, cells := 0, slots := 0, locals := 123 }
def fX2_pop (F : Nat) (b : Nat) (p0 : Nat) (M : Mem) : Option Mem := letM (up2 M b 2 ((M b 2) - 1)) (fun M1 => bindM (fX2_earlierAt F b (M1 b 2) M1) (fun r5 M3 => (match r5 with | none => some M3 | some q6 => chk (decide (lay q6 = 1)) (bindV (fX3_copyFrom F p0 q6 M3) (fun M7 => some M7)))))
def rmX11_undoCount : Room := { frames := 0, cells := 0, slots := 0, locals := 0 }
def fX11_undoCount (F : Nat)  (M : Mem) : Option (Int32 × Mem) := some ((M 31 2), M)
def rmX11_saveSnapshot : Room := { frames := 4, cells := 0, slots := 0, locals := 123 }
def fX11_saveSnapshot (F : Nat)  (M : Mem) : Option (Int32 × Mem) := bindV (fX3_copyFrom F 21 1 M) (fun M1 => letM (up2 M1 0 3 1) (fun M3 => some ((M3 2 3), M3)))
def rmX2_clear : Room := { frames := 0, cells := 0, slots := 0, locals := 0 }
def fX2_clear (F : Nat) (b : Nat) (M : Mem) : Option Mem := letM (up2 M b 1 0) (fun M1 => letM (up2 M1 b 2 0) (fun M3 => some M3))
def rmX12_thrown : Room := { frames := 0, cells := 0, slots := 0, locals := 0 }
def fX12_thrown (F : Nat)  (M : Mem) : Option (Int32 × Mem) := some ((M 119 0), M)
def rmX12_fails : Room := { frames := 0, cells := 0, slots := 0, locals := 0 }
def fX12_fails (F : Nat) (p0 : Int32) (M : Mem) : Option (Int32 × Mem) := letM (up2 M 119 0 p0) (fun M1 => some (0, M1))
set_option maxHeartbeats 4000000 in
theorem kX11_stopCount {G : GG} {l : Launch} {F : Nat}   {M M' : Mem} {r : Int32} (h : fX11_stopCount F  M = some (r, M')) : Con G l yX11_stopCount cX11_stopCount 1 (some .int) rmX11_stopCount [.ref (gad G 0)] M (QI G r M') := by
  refine con_of pnX11 (Nat.le_of_ble_eq_true rfl) (fun κ C hQ => ?_)
  unfold fX11_stopCount at h
  refine V_L (L1 := [(0, .ref (gad G 0))]) rfl ?_
  refine V_aload_n 0 C 0 dX11_stopCount_0 rfl ?_
  refine V_get (v := .ref (gad G 1)) 1 C dX11_stopCount_1 (ltl (by rfl) rfl) (ceR_X11 (by rfl)) rfl inX11 0 rfl wk_2_27 rfl rfl ?_
  refine V_getN (v := .ref (gad G 5)) 4 C dX11_stopCount_4 (ltl (by rfl) rfl) (ceR_X3 (by rfl)) rfl inX3 1 rfl wk_1_144 rfl rfl ?_
  refine V_getN (v := .int (M 5 1)) 7 C dX11_stopCount_7 (ltl (by rfl) rfl) (ceR_X6 (by rfl)) rfl inX6 1 rfl wk_1_95 rfl rfl ?_
  exact V_ireth 10 C hQ h dX11_stopCount_10
set_option maxHeartbeats 4000000 in
theorem vX3_countLapSteps_4 {G : GG} {κ : KK} {F : Nat} {b : Nat} (hb : lay b = 1) (C : Cx G κ cX3_countLapSteps RX3 (some .int) 6 rmX3_countLapSteps) {M' : Mem} {r : Int32} (hQ : HQ G κ (QI G r M') 0 0)  {kx : Int32 → Mem → Option (Int32 × Mem)} (hk : ∀ (v1 : Int32) (M : Mem), kx v1 M = some (r, M') → V G κ 6 0 0 M 78 [(1, .int v1)] []) : ∀ (n : Nat) (v1 : Int32) (v2 : Int32) (M : Mem), fX3_countLapSteps_4 F b kx n v1 v2 M = some (r, M') → V G κ 6 0 0 M 4 [(0, .ref (gad G b)), (1, .int v1), (2, .int v2)] [] := by
  intro n
  induction n with
  | zero => intro v1 v2 M h; rw [fX3_countLapSteps_4] at h; cases h
  | succ n ih =>
    intro v1 v2 M h
    rw [fX3_countLapSteps_4] at h
    refine V_iload_n 4 C 2 dX3_countLapSteps_4 rfl ?_
    refine V_aload_n 5 C 0 dX3_countLapSteps_5 rfl ?_
    refine V_get (v := .ref (gad G (b + 4))) 6 C dX3_countLapSteps_6 (ltl hb rfl) (ceR_X3 hb) rfl inX3 1 rfl wk_1_142 rfl rfl ?_
    refine V_getN (v := .int (M (b + 4) 1)) 9 C dX3_countLapSteps_9 (ltl (ly1_4 hb) rfl) (ceR_X6 (ly1_4 hb)) rfl inX6 1 rfl wk_1_94 rfl rfl ?_
    refine V_icmp_ge 12 78 C dX3_countLapSteps_12 (by decide) (fun c1 => ?_) (fun c1 => ?_)
    · replace h := ite_t c1 h
      refine V_sub [1] rfl ?_
      exact hk _ _ h
    · replace h := ite_f c1 h
      refine V_aload_n 15 C 0 dX3_countLapSteps_15 rfl ?_
      refine V_get (v := .ref (gad G (b + 4))) 16 C dX3_countLapSteps_16 (ltl hb rfl) (ceR_X3 hb) rfl inX3 1 rfl wk_1_142 rfl rfl ?_
      refine V_getN (v := .ref (gad G (b + 5))) 19 C dX3_countLapSteps_19 (ltl (ly1_4 hb) rfl) (ceR_X6 (ly1_4 hb)) rfl inX6 0 rfl wk_1_91 rfl rfl ?_
      refine V_iload_n 22 C 2 dX3_countLapSteps_22 rfl ?_
      obtain ⟨r4, M2, k3, h⟩ := bindM_some h
      refine V_callI 23 (runSN (rest := []) 23 C (kX11_at (akI_21 (ly1_5 hb)) k3) cf_X11_at wk_3_31 rfl rfl dX3_countLapSteps_23 rfl rfl (Nat.zero_le _) (Nat.zero_le _)) ?_
      refine V_istore_n 26 C [(3, .int r4), (0, .ref (gad G b)), (1, .int v1), (2, .int v2)] dX3_countLapSteps_26 rfl rfl rfl ?_
      refine V_aload_n 27 C 1 dX3_countLapSteps_27 rfl ?_
      refine V_get (v := .ref (gad G (b + 4))) 28 C dX3_countLapSteps_28 (ltl hb rfl) (ceR_X3 hb) rfl inX3 1 rfl wk_1_142 rfl rfl ?_
      refine V_getN (v := .ref (gad G (b + 5))) 31 C dX3_countLapSteps_31 (ltl (ly1_4 hb) rfl) (ceR_X6 (ly1_4 hb)) rfl inX6 0 rfl wk_1_91 rfl rfl ?_
      refine V_aload_n 34 C 1 dX3_countLapSteps_34 rfl ?_
      refine V_get (v := .ref (gad G (b + 4))) 35 C dX3_countLapSteps_35 (ltl hb rfl) (ceR_X3 hb) rfl inX3 1 rfl wk_1_142 rfl rfl ?_
      refine V_iload_n 38 C 3 dX3_countLapSteps_38 rfl ?_
      obtain ⟨r7, M5, k6, h⟩ := bindM_some h
      refine V_callI 39 (runVN (k := (b + 4)) (rest := [.ref (gad G (b + 5))]) 39 C (kX6_stopAfter (ly1_4 hb) k6) cf_X6_stopAfter wk_5_37 (ltl (ly1_4 hb) rfl) (ceR_X6 (ly1_4 hb)) rfl rfl rfl rfl dX3_countLapSteps_39 rfl rfl (Nat.zero_le _) (Nat.zero_le _)) ?_
      obtain ⟨r10, M8, k9, h⟩ := bindM_some h
      refine V_callI 42 (runSN (rest := []) 42 C (kX11_at (akI_21 (ly1_5 hb)) k9) cf_X11_at wk_3_31 rfl rfl dX3_countLapSteps_42 rfl rfl (Nat.zero_le _) (Nat.zero_le _)) ?_
      refine V_istore 45 C [(4, .int r10), (3, .int r4), (0, .ref (gad G b)), (1, .int v1), (2, .int v2)] dX3_countLapSteps_45 rfl rfl ?_
      refine V_aload_n 47 C 2 dX3_countLapSteps_47 rfl ?_
      refine V_get (v := .ref (gad G (b + 1))) 48 C dX3_countLapSteps_48 (ltl hb rfl) (ceR_X3 hb) rfl inX3 0 rfl wk_1_139 rfl rfl ?_
      refine V_iload_n 51 C 1 dX3_countLapSteps_51 rfl ?_
      refine V_iload 52 C 0 dX3_countLapSteps_52 rfl ?_
      obtain ⟨r13, M11, k12, h⟩ := bindM_some h
      refine V_callI 54 (runVN (k := (b + 1)) (rest := []) 54 C (kX9_stepsBetween (ly1_1 hb) k12) cf_X9_stepsBetween wk_5_38 (ltl (ly1_1 hb) rfl) (ceR_X9 (ly1_1 hb)) rfl rfl rfl rfl dX3_countLapSteps_54 rfl rfl (Nat.zero_le _) (Nat.zero_le _)) ?_
      refine V_istore 57 C [(5, .int r13), (4, .int r10), (3, .int r4), (0, .ref (gad G b)), (1, .int v1), (2, .int v2)] dX3_countLapSteps_57 rfl rfl ?_
      refine V_iload 59 C 0 dX3_countLapSteps_59 rfl ?_
      refine V_iconst 61 C dX3_countLapSteps_61 icm1 ?_
      refine V_icmp_ne 62 67 C dX3_countLapSteps_62 (by decide) (fun c14 => ?_) (fun c14 => ?_)
      · replace h := ite_f c14 h
        refine V_iload_n 67 C 4 dX3_countLapSteps_67 rfl ?_
        refine V_iload 68 C 0 dX3_countLapSteps_68 rfl ?_
        refine V_iadd 70 C dX3_countLapSteps_70 ?_
        obtain ⟨x15, e16, h⟩ := letM_some h
        refine V_top e16 ?_
        refine V_istore_n 71 C [(1, .int x15), (5, .int r13), (4, .int r10), (3, .int r4), (0, .ref (gad G b)), (2, .int v2)] dX3_countLapSteps_71 rfl rfl rfl ?_
        obtain ⟨x17, e18, h⟩ := letM_some h
        refine V_iinc 72 C [(2, .int x17), (1, .int x15), (5, .int r13), (4, .int r10), (3, .int r4), (0, .ref (gad G b))] 5 x17 dX3_countLapSteps_72 rfl (by rw [e18]; rfl) rfl rfl ?_
        refine V_goto 75 4 C dX3_countLapSteps_75 (by decide) ?_
        refine V_sub [5, 1, 0] rfl ?_
        exact ih _ _ _ h
      · replace h := ite_t c14 h
        refine V_iconst 65 C dX3_countLapSteps_65 icm1 ?_
        exact V_ireth 66 C hQ h dX3_countLapSteps_66
set_option maxHeartbeats 4000000 in
theorem kX3_countLapSteps {G : GG} {l : Launch} {F : Nat} {b : Nat} (hb : lay b = 1)  {M M' : Mem} {r : Int32} (h : fX3_countLapSteps F b M = some (r, M')) : Con G l yX3_countLapSteps cX3_countLapSteps 6 (some .int) rmX3_countLapSteps [.ref (gad G b)] M (QI G r M') := by
  refine con_of pnX3 (Nat.le_of_ble_eq_true rfl) (fun κ C hQ => ?_)
  unfold fX3_countLapSteps at h
  refine V_L (L1 := [(0, .ref (gad G b))]) rfl ?_
  refine V_iconst 0 C dX3_countLapSteps_0 ic0 ?_
  refine V_istore_n 1 C [(1, .int 0), (0, .ref (gad G b))] dX3_countLapSteps_1 rfl rfl rfl ?_
  refine V_iconst 2 C dX3_countLapSteps_2 ic0 ?_
  refine V_istore_n 3 C [(2, .int 0), (1, .int 0), (0, .ref (gad G b))] dX3_countLapSteps_3 rfl rfl rfl ?_
  refine V_sub [2, 1, 0] rfl ?_
  refine vX3_countLapSteps_4 hb C hQ ?_ _ _ _ _ h
  intro w20 M19 h
  refine V_iload_n 78 C 0 dX3_countLapSteps_78 rfl ?_
  exact V_ireth 79 C hQ h dX3_countLapSteps_79
set_option maxHeartbeats 4000000 in
theorem kX11_seed {G : GG} {l : Launch} {F : Nat}   {M M' : Mem} {r : Int32} (h : fX11_seed F  M = some (r, M')) : Con G l yX11_seed cX11_seed 1 (some .int) rmX11_seed [.ref (gad G 0)] M (QI G r M') := by
  refine con_of pnX11 (Nat.le_of_ble_eq_true rfl) (fun κ C hQ => ?_)
  unfold fX11_seed at h
  refine V_L (L1 := [(0, .ref (gad G 0))]) rfl ?_
  refine V_aload_n 0 C 0 dX11_seed_0 rfl ?_
  refine V_get (v := .ref (gad G 1)) 1 C dX11_seed_1 (ltl (by rfl) rfl) (ceR_X11 (by rfl)) rfl inX11 0 rfl wk_2_27 rfl rfl ?_
  refine V_getN (v := .int (M 1 4)) 4 C dX11_seed_4 (ltl (by rfl) rfl) (ceR_X3 (by rfl)) rfl inX3 4 rfl wk_1_150 rfl rfl ?_
  exact V_ireth 7 C hQ h dX11_seed_7
set_option maxHeartbeats 4000000 in
theorem kX11_minute {G : GG} {l : Launch} {F : Nat}   {M M' : Mem} {r : Int32} (h : fX11_minute F  M = some (r, M')) : Con G l yX11_minute cX11_minute 1 (some .int) rmX11_minute [.ref (gad G 0)] M (QI G r M') := by
  refine con_of pnX11 (Nat.le_of_ble_eq_true rfl) (fun κ C hQ => ?_)
  unfold fX11_minute at h
  refine V_L (L1 := [(0, .ref (gad G 0))]) rfl ?_
  refine V_aload_n 0 C 0 dX11_minute_0 rfl ?_
  refine V_get (v := .ref (gad G 1)) 1 C dX11_minute_1 (ltl (by rfl) rfl) (ceR_X11 (by rfl)) rfl inX11 0 rfl wk_2_27 rfl rfl ?_
  refine V_getN (v := .int (M 1 5)) 4 C dX11_minute_4 (ltl (by rfl) rfl) (ceR_X3 (by rfl)) rfl inX3 5 rfl wk_1_152 rfl rfl ?_
  exact V_ireth 7 C hQ h dX11_minute_7
set_option maxHeartbeats 4000000 in
theorem kX11_mouseCount {G : GG} {l : Launch} {F : Nat}   {M M' : Mem} {r : Int32} (h : fX11_mouseCount F  M = some (r, M')) : Con G l yX11_mouseCount cX11_mouseCount 1 (some .int) rmX11_mouseCount [.ref (gad G 0)] M (QI G r M') := by
  refine con_of pnX11 (Nat.le_of_ble_eq_true rfl) (fun κ C hQ => ?_)
  unfold fX11_mouseCount at h
  refine V_L (L1 := [(0, .ref (gad G 0))]) rfl ?_
  refine V_aload_n 0 C 0 dX11_mouseCount_0 rfl ?_
  refine V_get (v := .ref (gad G 1)) 1 C dX11_mouseCount_1 (ltl (by rfl) rfl) (ceR_X11 (by rfl)) rfl inX11 0 rfl wk_2_27 rfl rfl ?_
  refine V_getN (v := .ref (gad G 7)) 4 C dX11_mouseCount_4 (ltl (by rfl) rfl) (ceR_X3 (by rfl)) rfl inX3 2 rfl wk_1_147 rfl rfl ?_
  refine V_getN (v := .int (M 7 3)) 7 C dX11_mouseCount_7 (ltl (by rfl) rfl) (ceR_X5 (by rfl)) rfl inX5 3 rfl wk_1_129 rfl rfl ?_
  exact V_ireth 10 C hQ h dX11_mouseCount_10
set_option maxHeartbeats 4000000 in
theorem vX5_countOn_4 {G : GG} {κ : KK} {F : Nat} {b : Nat} (hb : lay b = 4) (C : Cx G κ cX5_countOn RX5 (some .int) 4 rmX5_countOn) {M' : Mem} {r : Int32} (hQ : HQ G κ (QI G r M') 0 0) {q1 : Int32} {kx : Int32 → Mem → Option (Int32 × Mem)} (hk : ∀ (v2 : Int32) (M : Mem), kx v2 M = some (r, M') → V G κ 4 0 0 M 33 [(2, .int v2)] []) : ∀ (n : Nat) (v2 : Int32) (v3 : Int32) (M : Mem), fX5_countOn_4 F b q1 kx n v2 v3 M = some (r, M') → V G κ 4 0 0 M 4 [(0, .ref (gad G b)), (1, .int q1), (2, .int v2), (3, .int v3)] [] := by
  intro n
  induction n with
  | zero => intro v2 v3 M h; rw [fX5_countOn_4] at h; cases h
  | succ n ih =>
    intro v2 v3 M h
    rw [fX5_countOn_4] at h
    refine V_iload_n 4 C 3 dX5_countOn_4 rfl ?_
    refine V_aload_n 5 C 0 dX5_countOn_5 rfl ?_
    refine V_get (v := .int (M b 3)) 6 C dX5_countOn_6 (ltl hb rfl) (ceR_X5 hb) rfl inX5 3 rfl wk_1_127 rfl rfl ?_
    refine V_icmp_ge 9 33 C dX5_countOn_9 (by decide) (fun c1 => ?_) (fun c1 => ?_)
    · replace h := ite_t c1 h
      refine V_sub [2] rfl ?_
      exact hk _ _ h
    · replace h := ite_f c1 h
      refine V_aload_n 12 C 0 dX5_countOn_12 rfl ?_
      refine V_get (v := .ref (gad G (b + 1))) 13 C dX5_countOn_13 (ltl hb rfl) (ceR_X5 hb) rfl inX5 0 rfl wk_1_118 rfl rfl ?_
      refine V_iload_n 16 C 3 dX5_countOn_16 rfl ?_
      obtain ⟨r4, M2, k3, h⟩ := bindM_some h
      refine V_callI 17 (runSN (rest := []) 17 C (kX11_at (akI_22 (ly4_1 hb)) k3) cf_X11_at wk_4_25 rfl rfl dX5_countOn_17 rfl rfl (Nat.zero_le _) (Nat.zero_le _)) ?_
      refine V_iload_n 20 C 1 dX5_countOn_20 rfl ?_
      refine V_icmp_ne 21 27 C dX5_countOn_21 (by decide) (fun c5 => ?_) (fun c5 => ?_)
      · replace h := ite_f c5 h
        obtain ⟨x6, e7, h⟩ := letM_some h
        refine V_iinc 27 C [(3, .int x6), (0, .ref (gad G b)), (1, .int q1), (2, .int v2)] 3 x6 dX5_countOn_27 rfl (by rw [e7]; rfl) rfl rfl ?_
        refine V_goto 30 4 C dX5_countOn_30 (by decide) ?_
        refine V_sub [1, 2, 3, 0] rfl ?_
        exact ih _ _ _ h
      · replace h := ite_t c5 h
        obtain ⟨x8, e9, h⟩ := letM_some h
        refine V_iinc 24 C [(2, .int x8), (0, .ref (gad G b)), (1, .int q1), (3, .int v3)] 2 x8 dX5_countOn_24 rfl (by rw [e9]; rfl) rfl rfl ?_
        obtain ⟨x10, e11, h⟩ := letM_some h
        refine V_iinc 27 C [(3, .int x10), (2, .int x8), (0, .ref (gad G b)), (1, .int q1)] 3 x10 dX5_countOn_27 rfl (by rw [e11]; rfl) rfl rfl ?_
        refine V_goto 30 4 C dX5_countOn_30 (by decide) ?_
        refine V_sub [2, 3, 1, 0] rfl ?_
        exact ih _ _ _ h
set_option maxHeartbeats 4000000 in
theorem kX5_countOn {G : GG} {l : Launch} {F : Nat} {b : Nat} (hb : lay b = 4) {p0 : Int32} {M M' : Mem} {r : Int32} (h : fX5_countOn F b p0 M = some (r, M')) : Con G l yX5_countOn cX5_countOn 4 (some .int) rmX5_countOn [.ref (gad G b), .int p0] M (QI G r M') := by
  refine con_of pnX5 (Nat.le_of_ble_eq_true rfl) (fun κ C hQ => ?_)
  unfold fX5_countOn at h
  refine V_L (L1 := [(0, .ref (gad G b)), (1, .int p0)]) rfl ?_
  refine V_iconst 0 C dX5_countOn_0 ic0 ?_
  refine V_istore_n 1 C [(2, .int 0), (0, .ref (gad G b)), (1, .int p0)] dX5_countOn_1 rfl rfl rfl ?_
  refine V_iconst 2 C dX5_countOn_2 ic0 ?_
  refine V_istore_n 3 C [(3, .int 0), (2, .int 0), (0, .ref (gad G b)), (1, .int p0)] dX5_countOn_3 rfl rfl rfl ?_
  refine V_sub [2, 3, 1, 0] rfl ?_
  refine vX5_countOn_4 hb C hQ ?_ _ _ _ _ h
  intro w13 M12 h
  refine V_iload_n 33 C 0 dX5_countOn_33 rfl ?_
  exact V_ireth 34 C hQ h dX5_countOn_34
set_option maxHeartbeats 4000000 in
theorem vX9_sumOfGrams_4 {G : GG} {κ : KK} {F : Nat} {b : Nat} (hb : lay b = 2) (C : Cx G κ cX9_sumOfGrams RX9 (some .int) 3 rmX9_sumOfGrams) {M' : Mem} {r : Int32} (hQ : HQ G κ (QI G r M') 0 0)  {kx : Int32 → Mem → Option (Int32 × Mem)} (hk : ∀ (v1 : Int32) (M : Mem), kx v1 M = some (r, M') → V G κ 3 0 0 M 29 [(1, .int v1)] []) : ∀ (n : Nat) (v1 : Int32) (v2 : Int32) (M : Mem), fX9_sumOfGrams_4 F b kx n v1 v2 M = some (r, M') → V G κ 3 0 0 M 4 [(0, .ref (gad G b)), (1, .int v1), (2, .int v2)] [] := by
  intro n
  induction n with
  | zero => intro v1 v2 M h; rw [fX9_sumOfGrams_4] at h; cases h
  | succ n ih =>
    intro v1 v2 M h
    rw [fX9_sumOfGrams_4] at h
    refine V_iload_n 4 C 2 dX9_sumOfGrams_4 rfl ?_
    refine V_aload_n 5 C 0 dX9_sumOfGrams_5 rfl ?_
    refine V_get (v := .int (M b 3)) 6 C dX9_sumOfGrams_6 (ltl hb rfl) (ceR_X9 hb) rfl inX9 3 rfl wk_1_63 rfl rfl ?_
    refine V_icmp_ge 9 29 C dX9_sumOfGrams_9 (by decide) (fun c1 => ?_) (fun c1 => ?_)
    · replace h := ite_t c1 h
      refine V_sub [1] rfl ?_
      exact hk _ _ h
    · replace h := ite_f c1 h
      refine V_iload_n 12 C 1 dX9_sumOfGrams_12 rfl ?_
      refine V_aload_n 13 C 0 dX9_sumOfGrams_13 rfl ?_
      refine V_get (v := .ref (gad G (b + 1))) 14 C dX9_sumOfGrams_14 (ltl hb rfl) (ceR_X9 hb) rfl inX9 0 rfl wk_1_52 rfl rfl ?_
      refine V_iload_n 17 C 2 dX9_sumOfGrams_17 rfl ?_
      obtain ⟨r4, M2, k3, h⟩ := bindM_some h
      refine V_callI 18 (runSN (rest := [.int v1]) 18 C (kX11_at (akI_20 (ly2_1 hb)) k3) cf_X11_at wk_2_118 rfl rfl dX9_sumOfGrams_18 rfl rfl (Nat.zero_le _) (Nat.zero_le _)) ?_
      refine V_iadd 21 C dX9_sumOfGrams_21 ?_
      obtain ⟨x5, e6, h⟩ := letM_some h
      refine V_top e6 ?_
      refine V_istore_n 22 C [(1, .int x5), (0, .ref (gad G b)), (2, .int v2)] dX9_sumOfGrams_22 rfl rfl rfl ?_
      obtain ⟨x7, e8, h⟩ := letM_some h
      refine V_iinc 23 C [(2, .int x7), (1, .int x5), (0, .ref (gad G b))] 2 x7 dX9_sumOfGrams_23 rfl (by rw [e8]; rfl) rfl rfl ?_
      refine V_goto 26 4 C dX9_sumOfGrams_26 (by decide) ?_
      refine V_sub [2, 1, 0] rfl ?_
      exact ih _ _ _ h
set_option maxHeartbeats 4000000 in
theorem kX9_sumOfGrams {G : GG} {l : Launch} {F : Nat} {b : Nat} (hb : lay b = 2)  {M M' : Mem} {r : Int32} (h : fX9_sumOfGrams F b M = some (r, M')) : Con G l yX9_sumOfGrams cX9_sumOfGrams 3 (some .int) rmX9_sumOfGrams [.ref (gad G b)] M (QI G r M') := by
  refine con_of pnX9 (Nat.le_of_ble_eq_true rfl) (fun κ C hQ => ?_)
  unfold fX9_sumOfGrams at h
  refine V_L (L1 := [(0, .ref (gad G b))]) rfl ?_
  refine V_iconst 0 C dX9_sumOfGrams_0 ic0 ?_
  refine V_istore_n 1 C [(1, .int 0), (0, .ref (gad G b))] dX9_sumOfGrams_1 rfl rfl rfl ?_
  refine V_iconst 2 C dX9_sumOfGrams_2 ic0 ?_
  refine V_istore_n 3 C [(2, .int 0), (1, .int 0), (0, .ref (gad G b))] dX9_sumOfGrams_3 rfl rfl rfl ?_
  refine V_sub [2, 1, 0] rfl ?_
  refine vX9_sumOfGrams_4 hb C hQ ?_ _ _ _ _ h
  intro w10 M9 h
  refine V_iload_n 29 C 0 dX9_sumOfGrams_29 rfl ?_
  exact V_ireth 30 C hQ h dX9_sumOfGrams_30
set_option maxHeartbeats 4000000 in
theorem kX11_totalCheese {G : GG} {l : Launch} {F : Nat}   {M M' : Mem} {r : Int32} (h : fX11_totalCheese F  M = some (r, M')) : Con G l yX11_totalCheese cX11_totalCheese 1 (some .int) rmX11_totalCheese [.ref (gad G 0)] M (QI G r M') := by
  refine con_of pnX11 (Nat.le_of_ble_eq_true rfl) (fun κ C hQ => ?_)
  unfold fX11_totalCheese at h
  refine V_L (L1 := [(0, .ref (gad G 0))]) rfl ?_
  refine V_aload_n 0 C 0 dX11_totalCheese_0 rfl ?_
  refine V_get (v := .ref (gad G 1)) 1 C dX11_totalCheese_1 (ltl (by rfl) rfl) (ceR_X11 (by rfl)) rfl inX11 0 rfl wk_2_27 rfl rfl ?_
  refine V_getN (v := .ref (gad G 2)) 4 C dX11_totalCheese_4 (ltl (by rfl) rfl) (ceR_X3 (by rfl)) rfl inX3 0 rfl wk_1_141 rfl rfl ?_
  obtain ⟨r3, M1, k2, h⟩ := bindM_some h
  refine V_callI 7 (runVN (k := 2) (rest := []) 7 C (kX9_sumOfGrams (by rfl) k2) cf_X9_sumOfGrams wk_2_114 (ltl (by rfl) rfl) (ceR_X9 (by rfl)) rfl rfl rfl rfl dX11_totalCheese_7 rfl rfl (Nat.zero_le _) (Nat.zero_le _)) ?_
  exact V_ireth 10 C hQ h dX11_totalCheese_10
set_option maxHeartbeats 4000000 in
theorem kX11_totalCheeseByAccounts {G : GG} {l : Launch} {F : Nat}   {M M' : Mem} {r : Int32} (h : fX11_totalCheeseByAccounts F  M = some (r, M')) : Con G l yX11_totalCheeseByAccounts cX11_totalCheeseByAccounts 1 (some .int) rmX11_totalCheeseByAccounts [.ref (gad G 0)] M (QI G r M') := by
  refine con_of pnX11 (Nat.le_of_ble_eq_true rfl) (fun κ C hQ => ?_)
  unfold fX11_totalCheeseByAccounts at h
  refine V_L (L1 := [(0, .ref (gad G 0))]) rfl ?_
  refine V_aload_n 0 C 0 dX11_totalCheeseByAccounts_0 rfl ?_
  refine V_get (v := .ref (gad G 1)) 1 C dX11_totalCheeseByAccounts_1 (ltl (by rfl) rfl) (ceR_X11 (by rfl)) rfl inX11 0 rfl wk_2_27 rfl rfl ?_
  refine V_getN (v := .int (M 1 6)) 4 C dX11_totalCheeseByAccounts_4 (ltl (by rfl) rfl) (ceR_X3 (by rfl)) rfl inX3 6 rfl wk_1_154 rfl rfl ?_
  refine V_aload_n 7 C 0 dX11_totalCheeseByAccounts_7 rfl ?_
  refine V_get (v := .ref (gad G 1)) 8 C dX11_totalCheeseByAccounts_8 (ltl (by rfl) rfl) (ceR_X11 (by rfl)) rfl inX11 0 rfl wk_2_27 rfl rfl ?_
  refine V_getN (v := .int (M 1 7)) 11 C dX11_totalCheeseByAccounts_11 (ltl (by rfl) rfl) (ceR_X3 (by rfl)) rfl inX3 7 rfl wk_1_156 rfl rfl ?_
  refine V_isub 14 C dX11_totalCheeseByAccounts_14 ?_
  exact V_ireth 15 C hQ h dX11_totalCheeseByAccounts_15
set_option maxHeartbeats 4000000 in
theorem kX11_eaten {G : GG} {l : Launch} {F : Nat}   {M M' : Mem} {r : Int32} (h : fX11_eaten F  M = some (r, M')) : Con G l yX11_eaten cX11_eaten 1 (some .int) rmX11_eaten [.ref (gad G 0)] M (QI G r M') := by
  refine con_of pnX11 (Nat.le_of_ble_eq_true rfl) (fun κ C hQ => ?_)
  unfold fX11_eaten at h
  refine V_L (L1 := [(0, .ref (gad G 0))]) rfl ?_
  refine V_aload_n 0 C 0 dX11_eaten_0 rfl ?_
  refine V_get (v := .ref (gad G 1)) 1 C dX11_eaten_1 (ltl (by rfl) rfl) (ceR_X11 (by rfl)) rfl inX11 0 rfl wk_2_27 rfl rfl ?_
  refine V_getN (v := .int (M 1 7)) 4 C dX11_eaten_4 (ltl (by rfl) rfl) (ceR_X3 (by rfl)) rfl inX3 7 rfl wk_1_156 rfl rfl ?_
  exact V_ireth 7 C hQ h dX11_eaten_7
set_option maxHeartbeats 4000000 in
theorem kX11_caught {G : GG} {l : Launch} {F : Nat}   {M M' : Mem} {r : Int32} (h : fX11_caught F  M = some (r, M')) : Con G l yX11_caught cX11_caught 1 (some .int) rmX11_caught [.ref (gad G 0)] M (QI G r M') := by
  refine con_of pnX11 (Nat.le_of_ble_eq_true rfl) (fun κ C hQ => ?_)
  unfold fX11_caught at h
  refine V_L (L1 := [(0, .ref (gad G 0))]) rfl ?_
  refine V_aload_n 0 C 0 dX11_caught_0 rfl ?_
  refine V_get (v := .ref (gad G 1)) 1 C dX11_caught_1 (ltl (by rfl) rfl) (ceR_X11 (by rfl)) rfl inX11 0 rfl wk_2_27 rfl rfl ?_
  refine V_getN (v := .int (M 1 8)) 4 C dX11_caught_4 (ltl (by rfl) rfl) (ceR_X3 (by rfl)) rfl inX3 8 rfl wk_1_158 rfl rfl ?_
  exact V_ireth 7 C hQ h dX11_caught_7
set_option maxHeartbeats 4000000 in
theorem kX11_gone {G : GG} {l : Launch} {F : Nat}   {M M' : Mem} {r : Int32} (h : fX11_gone F  M = some (r, M')) : Con G l yX11_gone cX11_gone 1 (some .int) rmX11_gone [.ref (gad G 0)] M (QI G r M') := by
  refine con_of pnX11 (Nat.le_of_ble_eq_true rfl) (fun κ C hQ => ?_)
  unfold fX11_gone at h
  refine V_L (L1 := [(0, .ref (gad G 0))]) rfl ?_
  refine V_aload_n 0 C 0 dX11_gone_0 rfl ?_
  refine V_get (v := .ref (gad G 1)) 1 C dX11_gone_1 (ltl (by rfl) rfl) (ceR_X11 (by rfl)) rfl inX11 0 rfl wk_2_27 rfl rfl ?_
  refine V_getN (v := .int (M 1 9)) 4 C dX11_gone_4 (ltl (by rfl) rfl) (ceR_X3 (by rfl)) rfl inX3 9 rfl wk_1_160 rfl rfl ?_
  exact V_ireth 7 C hQ h dX11_gone_7
set_option maxHeartbeats 4000000 in
theorem kX11_rinds {G : GG} {l : Launch} {F : Nat}   {M M' : Mem} {r : Int32} (h : fX11_rinds F  M = some (r, M')) : Con G l yX11_rinds cX11_rinds 1 (some .int) rmX11_rinds [.ref (gad G 0)] M (QI G r M') := by
  refine con_of pnX11 (Nat.le_of_ble_eq_true rfl) (fun κ C hQ => ?_)
  unfold fX11_rinds at h
  refine V_L (L1 := [(0, .ref (gad G 0))]) rfl ?_
  refine V_aload_n 0 C 0 dX11_rinds_0 rfl ?_
  refine V_get (v := .ref (gad G 1)) 1 C dX11_rinds_1 (ltl (by rfl) rfl) (ceR_X11 (by rfl)) rfl inX11 0 rfl wk_2_27 rfl rfl ?_
  refine V_getN (v := .int (M 1 10)) 4 C dX11_rinds_4 (ltl (by rfl) rfl) (ceR_X3 (by rfl)) rfl inX3 10 rfl wk_1_162 rfl rfl ?_
  exact V_ireth 7 C hQ h dX11_rinds_7
set_option maxHeartbeats 4000000 in
theorem kX8_append {G : GG} {l : Launch} {F : Nat} {b : Nat} (hb : lay b = 7) {p0 : Int32} {M M' : Mem}  (h : fX8_append F b p0 M = some M') : Con G l yX8_append cX8_append 2 none rmX8_append [.ref (gad G b), .int p0] M (QV G M') := by
  refine con_of pnX8 (Nat.le_of_ble_eq_true rfl) (fun κ C hQ => ?_)
  unfold fX8_append at h
  refine V_L (L1 := [(0, .ref (gad G b)), (1, .int p0)]) rfl ?_
  refine V_aload_n 0 C 0 dX8_append_0 rfl ?_
  refine V_get (v := .int (M b 1)) 1 C dX8_append_1 (ltl hb rfl) (ceR_X8 hb) rfl inX8 1 rfl wk_1_225 rfl rfl ?_
  refine V_if_lt 4 39 C dX8_append_4 (by decide) (fun c1 => ?_) (fun c1 => ?_)
  · replace h := ite_t c1 h
    exact V_vreth 39 C hQ h dX8_append_39
  · replace h := ite_f c1 h
    refine V_aload_n 7 C 0 dX8_append_7 rfl ?_
    refine V_get (v := .int (M b 1)) 8 C dX8_append_8 (ltl hb rfl) (ceR_X8 hb) rfl inX8 1 rfl wk_1_225 rfl rfl ?_
    refine V_aload_n 11 C 0 dX8_append_11 rfl ?_
    refine V_get (v := .ref (gad G (b + 1))) 12 C dX8_append_12 (ltl hb rfl) (ceR_X8 hb) rfl inX8 0 rfl wk_1_224 rfl rfl ?_
    refine V_alenC 15 C dX8_append_15 (akC_24 (ly7_1 hb)) (congrArg nI (al_24 (ly7_1 hb))) ?_
    refine V_icmp_ge 16 39 C dX8_append_16 (by decide) (fun c2 => ?_) (fun c2 => ?_)
    · replace h := ite_t c2 h
      exact V_vreth 39 C hQ h dX8_append_39
    · replace h := ite_f c2 h
      refine V_aload_n 19 C 0 dX8_append_19 rfl ?_
      refine V_get (v := .ref (gad G (b + 1))) 20 C dX8_append_20 (ltl hb rfl) (ceR_X8 hb) rfl inX8 0 rfl wk_1_224 rfl rfl ?_
      refine V_aload_n 23 C 0 dX8_append_23 rfl ?_
      refine V_get (v := .int (M b 1)) 24 C dX8_append_24 (ltl hb rfl) (ceR_X8 hb) rfl inX8 1 rfl wk_1_225 rfl rfl ?_
      refine V_iload_n 27 C 1 dX8_append_27 rfl ?_
      obtain ⟨c3, h⟩ := chk_some h
      obtain ⟨M4, e5, h⟩ := letM_some h
      refine V_cast 28 C dX8_append_28 (akC_24 (ly7_1 hb)) (al_24 (ly7_1 hb)) c3 ?_
      refine V_eqM e5 ?_
      refine V_aload_n 29 C 0 dX8_append_29 rfl ?_
      refine V_dup 30 C dX8_append_30 rfl ?_
      refine V_get (v := .int (M4 b 1)) 31 C dX8_append_31 (ltl hb rfl) (ceR_X8 hb) rfl inX8 1 rfl wk_1_225 rfl rfl ?_
      refine V_iconst 34 C dX8_append_34 ic1 ?_
      refine V_iadd 35 C dX8_append_35 ?_
      obtain ⟨M6, e7, h⟩ := letM_some h
      refine V_put (ty := .int) (F := F_X8 G b) 36 C dX8_append_36 (ltl hb rfl) (fun _ => ceR_X8 hb) rfl inX8 tyX8 tyX8_ok nmX8 1 rfl wk_1_225 rfl rfl ((M4 b 1) + 1) rfl rfl rfl rfl rfl ?_
      refine V_eqM e7 ?_
      exact V_vreth 39 C hQ h dX8_append_39
set_option maxHeartbeats 4000000 in
theorem kX8_mostDigits {G : GG} {l : Launch} {F : Nat} {b : Nat} (hb : lay b = 7) {p0 : Int32} {M M' : Mem} {r : Int32} (h : fX8_mostDigits F b p0 M = some (r, M')) : Con G l yX8_mostDigits cX8_mostDigits 2 (some .int) rmX8_mostDigits [.ref (gad G b), .int p0] M (QI G r M') := by
  refine con_of pnX8 (Nat.le_of_ble_eq_true rfl) (fun κ C hQ => ?_)
  unfold fX8_mostDigits at h
  refine V_L (L1 := [(0, .ref (gad G b)), (1, .int p0)]) rfl ?_
  refine V_iload_n 0 C 1 dX8_mostDigits_0 rfl ?_
  refine V_bipush 1 C dX8_mostDigits_1 bp68 ?_
  refine V_icmp_ne 3 8 C dX8_mostDigits_3 (by decide) (fun c1 => ?_) (fun c1 => ?_)
  · replace h := ite_f c1 h
    refine V_iload_n 8 C 1 dX8_mostDigits_8 rfl ?_
    refine V_bipush 9 C dX8_mostDigits_9 bp78 ?_
    refine V_icmp_ne 11 16 C dX8_mostDigits_11 (by decide) (fun c2 => ?_) (fun c2 => ?_)
    · replace h := ite_f c2 h
      refine V_iload_n 16 C 1 dX8_mostDigits_16 rfl ?_
      refine V_bipush 17 C dX8_mostDigits_17 bp76 ?_
      refine V_icmp_ne 19 26 C dX8_mostDigits_19 (by decide) (fun c3 => ?_) (fun c3 => ?_)
      · replace h := ite_f c3 h
        refine V_iconst 26 C dX8_mostDigits_26 ic0 ?_
        exact V_ireth 27 C hQ h dX8_mostDigits_27
      · replace h := ite_t c3 h
        refine V_iconst 22 C dX8_mostDigits_22 ic4 ?_
        refine V_goto 23 27 C dX8_mostDigits_23 (by decide) ?_
        exact V_ireth 27 C hQ h dX8_mostDigits_27
    · replace h := ite_t c2 h
      refine V_iconst 14 C dX8_mostDigits_14 ic2 ?_
      exact V_ireth 15 C hQ h dX8_mostDigits_15
  · replace h := ite_t c1 h
    refine V_iconst 6 C dX8_mostDigits_6 ic1 ?_
    exact V_ireth 7 C hQ h dX8_mostDigits_7
set_option maxHeartbeats 4000000 in
theorem kX8_isDigit {G : GG} {l : Launch} {F : Nat} {b : Nat} (hb : lay b = 7) {p0 : Int32} {M M' : Mem} {r : Bool} (h : fX8_isDigit F b p0 M = some (r, M')) : Con G l yX8_isDigit cX8_isDigit 2 (some .boolean) rmX8_isDigit [.ref (gad G b), .int p0] M (QI G (b2i r) M') := by
  refine con_of pnX8 (Nat.le_of_ble_eq_true rfl) (fun κ C hQ => ?_)
  unfold fX8_isDigit at h
  refine V_L (L1 := [(0, .ref (gad G b)), (1, .int p0)]) rfl ?_
  refine V_iload_n 0 C 1 dX8_isDigit_0 rfl ?_
  refine V_bipush 1 C dX8_isDigit_1 bp48 ?_
  refine V_icmp_lt 3 16 C dX8_isDigit_3 (by decide) (fun c1 => ?_) (fun c1 => ?_)
  · replace h := ite_t c1 h
    refine V_iconst 16 C dX8_isDigit_16 ic0 ?_
    exact V_zreth 17 C hQ h dX8_isDigit_17
  · replace h := ite_f c1 h
    refine V_iload_n 6 C 1 dX8_isDigit_6 rfl ?_
    refine V_bipush 7 C dX8_isDigit_7 bp57 ?_
    refine V_icmp_gt 9 16 C dX8_isDigit_9 (by decide) (fun c2 => ?_) (fun c2 => ?_)
    · replace h := ite_t c2 h
      refine V_iconst 16 C dX8_isDigit_16 ic0 ?_
      exact V_zreth 17 C hQ h dX8_isDigit_17
    · replace h := ite_f c2 h
      refine V_iconst 12 C dX8_isDigit_12 ic1 ?_
      refine V_goto 13 17 C dX8_isDigit_13 (by decide) ?_
      exact V_zreth 17 C hQ h dX8_isDigit_17
set_option maxHeartbeats 4000000 in
theorem kX8_presentSign {G : GG} {l : Launch} {F : Nat} {b : Nat} (hb : lay b = 7)  {M M' : Mem} {r : Int32} (h : fX8_presentSign F b M = some (r, M')) : Con G l yX8_presentSign cX8_presentSign 2 (some .char) rmX8_presentSign [.ref (gad G b)] M (QI G r M') := by
  refine con_of pnX8 (Nat.le_of_ble_eq_true rfl) (fun κ C hQ => ?_)
  unfold fX8_presentSign at h
  refine V_L (L1 := [(0, .ref (gad G b))]) rfl ?_
  refine V_aload_n 0 C 0 dX8_presentSign_0 rfl ?_
  refine V_get (v := .int (M b 2)) 1 C dX8_presentSign_1 (ltl hb rfl) (ceR_X8 hb) rfl inX8 2 rfl wk_1_227 rfl rfl ?_
  refine V_if_lt 4 34 C dX8_presentSign_4 (by decide) (fun c1 => ?_) (fun c1 => ?_)
  · replace h := ite_t c1 h
    refine V_iconst 34 C dX8_presentSign_34 ic0 ?_
    refine V_istore_n 35 C [(1, .int 0), (0, .ref (gad G b))] dX8_presentSign_35 rfl rfl rfl ?_
    refine V_iload_n 36 C 0 dX8_presentSign_36 rfl ?_
    refine V_if_eq 37 52 C dX8_presentSign_37 (by decide) (fun _ => ?_) (fun q => Not.elim q (by decide))
    refine V_iconst 52 C dX8_presentSign_52 ic0 ?_
    obtain ⟨c2, h⟩ := chk_some h
    exact V_creth 53 C hQ h dX8_presentSign_53 c2
  · replace h := ite_f c1 h
    refine V_aload_n 7 C 0 dX8_presentSign_7 rfl ?_
    refine V_get (v := .int (M b 2)) 8 C dX8_presentSign_8 (ltl hb rfl) (ceR_X8 hb) rfl inX8 2 rfl wk_1_227 rfl rfl ?_
    refine V_aload_n 11 C 0 dX8_presentSign_11 rfl ?_
    refine V_get (v := .int (M b 1)) 12 C dX8_presentSign_12 (ltl hb rfl) (ceR_X8 hb) rfl inX8 1 rfl wk_1_225 rfl rfl ?_
    refine V_icmp_ge 15 34 C dX8_presentSign_15 (by decide) (fun c3 => ?_) (fun c3 => ?_)
    · replace h := ite_t c3 h
      refine V_iconst 34 C dX8_presentSign_34 ic0 ?_
      refine V_istore_n 35 C [(1, .int 0), (0, .ref (gad G b))] dX8_presentSign_35 rfl rfl rfl ?_
      refine V_iload_n 36 C 0 dX8_presentSign_36 rfl ?_
      refine V_if_eq 37 52 C dX8_presentSign_37 (by decide) (fun _ => ?_) (fun q => Not.elim q (by decide))
      refine V_iconst 52 C dX8_presentSign_52 ic0 ?_
      obtain ⟨c4, h⟩ := chk_some h
      exact V_creth 53 C hQ h dX8_presentSign_53 c4
    · replace h := ite_f c3 h
      refine V_aload_n 18 C 0 dX8_presentSign_18 rfl ?_
      refine V_get (v := .int (M b 2)) 19 C dX8_presentSign_19 (ltl hb rfl) (ceR_X8 hb) rfl inX8 2 rfl wk_1_227 rfl rfl ?_
      refine V_aload_n 22 C 0 dX8_presentSign_22 rfl ?_
      refine V_get (v := .ref (gad G (b + 1))) 23 C dX8_presentSign_23 (ltl hb rfl) (ceR_X8 hb) rfl inX8 0 rfl wk_1_224 rfl rfl ?_
      refine V_alenC 26 C dX8_presentSign_26 (akC_24 (ly7_1 hb)) (congrArg nI (al_24 (ly7_1 hb))) ?_
      refine V_icmp_ge 27 34 C dX8_presentSign_27 (by decide) (fun c5 => ?_) (fun c5 => ?_)
      · replace h := ite_t c5 h
        refine V_iconst 34 C dX8_presentSign_34 ic0 ?_
        refine V_istore_n 35 C [(1, .int 0), (0, .ref (gad G b))] dX8_presentSign_35 rfl rfl rfl ?_
        refine V_iload_n 36 C 0 dX8_presentSign_36 rfl ?_
        refine V_if_eq 37 52 C dX8_presentSign_37 (by decide) (fun _ => ?_) (fun q => Not.elim q (by decide))
        refine V_iconst 52 C dX8_presentSign_52 ic0 ?_
        obtain ⟨c6, h⟩ := chk_some h
        exact V_creth 53 C hQ h dX8_presentSign_53 c6
      · replace h := ite_f c5 h
        refine V_iconst 30 C dX8_presentSign_30 ic1 ?_
        refine V_goto 31 35 C dX8_presentSign_31 (by decide) ?_
        refine V_istore_n 35 C [(1, .int 1), (0, .ref (gad G b))] dX8_presentSign_35 rfl rfl rfl ?_
        refine V_iload_n 36 C 0 dX8_presentSign_36 rfl ?_
        refine V_if_eq 37 52 C dX8_presentSign_37 (by decide) (fun q => absurd q (by decide)) (fun _ => ?_)
        refine V_aload_n 40 C 1 dX8_presentSign_40 rfl ?_
        refine V_get (v := .ref (gad G (b + 1))) 41 C dX8_presentSign_41 (ltl hb rfl) (ceR_X8 hb) rfl inX8 0 rfl wk_1_224 rfl rfl ?_
        refine V_aload_n 44 C 1 dX8_presentSign_44 rfl ?_
        refine V_get (v := .int (M b 2)) 45 C dX8_presentSign_45 (ltl hb rfl) (ceR_X8 hb) rfl inX8 2 rfl wk_1_227 rfl rfl ?_
        obtain ⟨c7, h⟩ := chk_some h
        refine V_cald 48 C dX8_presentSign_48 (akC_24 (ly7_1 hb)) (al_24 (ly7_1 hb)) c7 ?_
        refine V_goto 49 53 C dX8_presentSign_49 (by decide) ?_
        obtain ⟨c8, h⟩ := chk_some h
        exact V_creth 53 C hQ h dX8_presentSign_53 c8
set_option maxHeartbeats 4000000 in
theorem vX8_readNumber_4 {G : GG} {κ : KK} {F : Nat} {b : Nat} (hb : lay b = 7) (C : Cx G κ cX8_readNumber RX8 (some .boolean) 4 rmX8_readNumber) {M' : Mem} {r : Bool} (hQ : HQ G κ (QI G (b2i r) M') 0 0) {q1 : Int32} {kx : Int32 → Int32 → Mem → Option (Bool × Mem)} (hk : ∀ (v2 : Int32) (v3 : Int32) (M : Mem), kx v2 v3 M = some (r, M') → V G κ 4 0 0 M 49 [(0, .ref (gad G b)), (2, .int v2), (3, .int v3)] []) : ∀ (n : Nat) (v2 : Int32) (v3 : Int32) (M : Mem), fX8_readNumber_4 F b q1 kx n v2 v3 M = some (r, M') → V G κ 4 0 0 M 4 [(0, .ref (gad G b)), (1, .int q1), (2, .int v2), (3, .int v3)] [] := by
  intro n
  induction n with
  | zero => intro v2 v3 M h; rw [fX8_readNumber_4] at h; cases h
  | succ n ih =>
    intro v2 v3 M h
    rw [fX8_readNumber_4] at h
    refine V_iload_n 4 C 3 dX8_readNumber_4 rfl ?_
    refine V_iload_n 5 C 1 dX8_readNumber_5 rfl ?_
    refine V_icmp_ge 6 49 C dX8_readNumber_6 (by decide) (fun c1 => ?_) (fun c1 => ?_)
    · replace h := ite_t c1 h
      refine V_sub [0, 2, 3] rfl ?_
      exact hk _ _ _ h
    · replace h := ite_f c1 h
      refine V_aload_n 9 C 0 dX8_readNumber_9 rfl ?_
      refine V_aload_n 10 C 0 dX8_readNumber_10 rfl ?_
      obtain ⟨r4, M2, k3, h⟩ := bindM_some h
      refine V_callI 11 (runVO (k := b) (rest := [.ref (gad G b)]) 11 C (kX8_presentSign hb k3) cf_X8_presentSign wk_6_10 (ltl hb rfl) (ceR_X8 hb) rfl rfl rfl rfl dX8_readNumber_11 rfl rfl (Nat.zero_le _) (Nat.zero_le _)) ?_
      obtain ⟨r7, M5, k6, h⟩ := bindM_some h
      refine V_callI 14 (runVO (k := b) (rest := []) 14 C (kX8_isDigit hb k6) cf_X8_isDigit wk_6_18 (ltl hb rfl) (ceR_X8 hb) rfl rfl rfl rfl dX8_readNumber_14 rfl rfl (Nat.zero_le _) (Nat.zero_le _)) ?_
      refine V_ifeq_b 17 49 C dX8_readNumber_17 (by decide) (fun c8 => ?_) (fun c8 => ?_)
      · replace h := ite_f c8 h
        refine V_sub [0, 2, 3] rfl ?_
        exact hk _ _ _ h
      · replace h := ite_t c8 h
        refine V_iload_n 20 C 2 dX8_readNumber_20 rfl ?_
        refine V_bipush 21 C dX8_readNumber_21 bp10 ?_
        refine V_imul 23 C dX8_readNumber_23 ?_
        refine V_aload_n 24 C 0 dX8_readNumber_24 rfl ?_
        obtain ⟨r11, M9, k10, h⟩ := bindM_some h
        refine V_callI 25 (runVO (k := b) (rest := [.int (v2 * 10)]) 25 C (kX8_presentSign hb k10) cf_X8_presentSign wk_6_10 (ltl hb rfl) (ceR_X8 hb) rfl rfl rfl rfl dX8_readNumber_25 rfl rfl (Nat.zero_le _) (Nat.zero_le _)) ?_
        refine V_bipush 28 C dX8_readNumber_28 bp48 ?_
        refine V_isub 30 C dX8_readNumber_30 ?_
        refine V_iadd 31 C dX8_readNumber_31 ?_
        obtain ⟨x12, e13, h⟩ := letM_some h
        refine V_top e13 ?_
        refine V_istore_n 32 C [(2, .int x12), (0, .ref (gad G b)), (1, .int q1), (3, .int v3)] dX8_readNumber_32 rfl rfl rfl ?_
        refine V_aload_n 33 C 1 dX8_readNumber_33 rfl ?_
        refine V_dup 34 C dX8_readNumber_34 rfl ?_
        refine V_get (v := .int (M9 b 2)) 35 C dX8_readNumber_35 (ltl hb rfl) (ceR_X8 hb) rfl inX8 2 rfl wk_1_227 rfl rfl ?_
        refine V_iconst 38 C dX8_readNumber_38 ic1 ?_
        refine V_iadd 39 C dX8_readNumber_39 ?_
        obtain ⟨M14, e15, h⟩ := letM_some h
        refine V_put (ty := .int) (F := F_X8 G b) 40 C dX8_readNumber_40 (ltl hb rfl) (fun _ => ceR_X8 hb) rfl inX8 tyX8 tyX8_ok nmX8 2 rfl wk_1_227 rfl rfl ((M9 b 2) + 1) rfl rfl rfl rfl rfl ?_
        refine V_eqM e15 ?_
        obtain ⟨x16, e17, h⟩ := letM_some h
        refine V_iinc 43 C [(3, .int x16), (2, .int x12), (0, .ref (gad G b)), (1, .int q1)] 3 x16 dX8_readNumber_43 rfl (by rw [e17]; rfl) rfl rfl ?_
        refine V_goto 46 4 C dX8_readNumber_46 (by decide) ?_
        refine V_sub [2, 3, 1, 0] rfl ?_
        exact ih _ _ _ h
set_option maxHeartbeats 4000000 in
theorem kX8_readNumber {G : GG} {l : Launch} {F : Nat} {b : Nat} (hb : lay b = 7) {p0 : Int32} {M M' : Mem} {r : Bool} (h : fX8_readNumber F b p0 M = some (r, M')) : Con G l yX8_readNumber cX8_readNumber 4 (some .boolean) rmX8_readNumber [.ref (gad G b), .int p0] M (QI G (b2i r) M') := by
  refine con_of pnX8 (Nat.le_of_ble_eq_true rfl) (fun κ C hQ => ?_)
  unfold fX8_readNumber at h
  refine V_L (L1 := [(0, .ref (gad G b)), (1, .int p0)]) rfl ?_
  refine V_iconst 0 C dX8_readNumber_0 ic0 ?_
  refine V_istore_n 1 C [(2, .int 0), (0, .ref (gad G b)), (1, .int p0)] dX8_readNumber_1 rfl rfl rfl ?_
  refine V_iconst 2 C dX8_readNumber_2 ic0 ?_
  refine V_istore_n 3 C [(3, .int 0), (2, .int 0), (0, .ref (gad G b)), (1, .int p0)] dX8_readNumber_3 rfl rfl rfl ?_
  refine V_sub [2, 3, 1, 0] rfl ?_
  refine vX8_readNumber_4 hb C hQ ?_ _ _ _ _ h
  intro w19 w20 M18 h
  refine V_aload_n 49 C 0 dX8_readNumber_49 rfl ?_
  refine V_get (v := .int (M18 b 5)) 50 C dX8_readNumber_50 (ltl hb rfl) (ceR_X8 hb) rfl inX8 5 rfl wk_1_232 rfl rfl ?_
  refine V_iconst 53 C dX8_readNumber_53 icm1 ?_
  refine V_icmp_ne 54 65 C dX8_readNumber_54 (by decide) (fun c21 => ?_) (fun c21 => ?_)
  · replace h := ite_f c21 h
    refine V_aload_n 65 C 0 dX8_readNumber_65 rfl ?_
    refine V_iload_n 66 C 1 dX8_readNumber_66 rfl ?_
    obtain ⟨M22, e23, h⟩ := letM_some h
    refine V_put (ty := .int) (F := F_X8 G b) 67 C dX8_readNumber_67 (ltl hb rfl) (fun _ => ceR_X8 hb) rfl inX8 tyX8 tyX8_ok nmX8 6 rfl wk_1_234 rfl rfl w19 rfl rfl rfl rfl rfl ?_
    refine V_eqM e23 ?_
    refine V_iload_n 70 C 2 dX8_readNumber_70 rfl ?_
    refine V_if_le 71 78 C dX8_readNumber_71 (by decide) (fun c24 => ?_) (fun c24 => ?_)
    · replace h := ite_t c24 h
      refine V_iconst 78 C dX8_readNumber_78 ic0 ?_
      exact V_zreth 79 C hQ h dX8_readNumber_79
    · replace h := ite_f c24 h
      refine V_iconst 74 C dX8_readNumber_74 ic1 ?_
      refine V_goto 75 79 C dX8_readNumber_75 (by decide) ?_
      exact V_zreth 79 C hQ h dX8_readNumber_79
  · replace h := ite_t c21 h
    refine V_aload_n 57 C 0 dX8_readNumber_57 rfl ?_
    refine V_iload_n 58 C 1 dX8_readNumber_58 rfl ?_
    obtain ⟨M25, e26, h⟩ := letM_some h
    refine V_put (ty := .int) (F := F_X8 G b) 59 C dX8_readNumber_59 (ltl hb rfl) (fun _ => ceR_X8 hb) rfl inX8 tyX8 tyX8_ok nmX8 5 rfl wk_1_232 rfl rfl w19 rfl rfl rfl rfl rfl ?_
    refine V_eqM e26 ?_
    refine V_goto 62 70 C dX8_readNumber_62 (by decide) ?_
    refine V_iload_n 70 C 2 dX8_readNumber_70 rfl ?_
    refine V_if_le 71 78 C dX8_readNumber_71 (by decide) (fun c27 => ?_) (fun c27 => ?_)
    · replace h := ite_t c27 h
      refine V_iconst 78 C dX8_readNumber_78 ic0 ?_
      exact V_zreth 79 C hQ h dX8_readNumber_79
    · replace h := ite_f c27 h
      refine V_iconst 74 C dX8_readNumber_74 ic1 ?_
      refine V_goto 75 79 C dX8_readNumber_75 (by decide) ?_
      exact V_zreth 79 C hQ h dX8_readNumber_79
set_option maxHeartbeats 4000000 in
theorem kX8_readSign {G : GG} {l : Launch} {F : Nat} {b : Nat} (hb : lay b = 7) {p0 : Int32} {M M' : Mem} {r : Bool} (h : fX8_readSign F b p0 M = some (r, M')) : Con G l yX8_readSign cX8_readSign 2 (some .boolean) rmX8_readSign [.ref (gad G b), .int p0] M (QI G (b2i r) M') := by
  refine con_of pnX8 (Nat.le_of_ble_eq_true rfl) (fun κ C hQ => ?_)
  unfold fX8_readSign at h
  refine V_L (L1 := [(0, .ref (gad G b)), (1, .int p0)]) rfl ?_
  refine V_aload_n 0 C 0 dX8_readSign_0 rfl ?_
  obtain ⟨r3, M1, k2, h⟩ := bindM_some h
  refine V_callI 1 (runVO (k := b) (rest := []) 1 C (kX8_presentSign hb k2) cf_X8_presentSign wk_6_10 (ltl hb rfl) (ceR_X8 hb) rfl rfl rfl rfl dX8_readSign_1 rfl rfl (Nat.zero_le _) (Nat.zero_le _)) ?_
  refine V_iload_n 4 C 1 dX8_readSign_4 rfl ?_
  refine V_icmp_eq 5 10 C dX8_readSign_5 (by decide) (fun c4 => ?_) (fun c4 => ?_)
  · replace h := ite_t c4 h
    refine V_aload_n 10 C 0 dX8_readSign_10 rfl ?_
    refine V_dup 11 C dX8_readSign_11 rfl ?_
    refine V_get (v := .int (M1 b 2)) 12 C dX8_readSign_12 (ltl hb rfl) (ceR_X8 hb) rfl inX8 2 rfl wk_1_227 rfl rfl ?_
    refine V_iconst 15 C dX8_readSign_15 ic1 ?_
    refine V_iadd 16 C dX8_readSign_16 ?_
    obtain ⟨M5, e6, h⟩ := letM_some h
    refine V_put (ty := .int) (F := F_X8 G b) 17 C dX8_readSign_17 (ltl hb rfl) (fun _ => ceR_X8 hb) rfl inX8 tyX8 tyX8_ok nmX8 2 rfl wk_1_227 rfl rfl ((M1 b 2) + 1) rfl rfl rfl rfl rfl ?_
    refine V_eqM e6 ?_
    refine V_iconst 20 C dX8_readSign_20 ic1 ?_
    exact V_zreth 21 C hQ h dX8_readSign_21
  · replace h := ite_f c4 h
    refine V_iconst 8 C dX8_readSign_8 ic0 ?_
    exact V_zreth 9 C hQ h dX8_readSign_9
set_option maxHeartbeats 4000000 in
theorem vX8_readPattern_12 {G : GG} {κ : KK} {F : Nat} {b : Nat} (hb : lay b = 7) {p0 : Nat} (hp0 : p0 < 11) {q1 : Nat} (hq1 : q1 < 11) (C : Cx G κ cX8_readPattern RX8 (some .boolean) 6 rmX8_readPattern) {M' : Mem} {r : Bool} (hQ : HQ G κ (QI G (b2i r) M') 0 0)  {kx : Mem → Option (Bool × Mem)} (hk : ∀  (M : Mem), kx  M = some (r, M') → V G κ 6 0 0 M 67 [] []) : ∀ (n : Nat) (v2 : Int32) (M : Mem), fX8_readPattern_12 F b q1 kx n v2 M = some (r, M') → V G κ 6 0 0 M 12 [(0, .ref (gad G b)), (1, .ref (gk G q1)), (2, .int v2)] [] := by
  intro n
  induction n with
  | zero => intro v2 M h; rw [fX8_readPattern_12] at h; cases h
  | succ n ih =>
    intro v2 M h
    rw [fX8_readPattern_12] at h
    refine V_iload_n 12 C 2 dX8_readPattern_12 rfl ?_
    refine V_aload_n 13 C 1 dX8_readPattern_13 rfl ?_
    refine V_slen 14 C dX8_readPattern_14 wk_5_194 hq1 rfl rfl ?_
    refine V_icmp_ge 17 67 C dX8_readPattern_17 (by decide) (fun c5 => ?_) (fun c5 => ?_)
    · replace h := ite_t c5 h
      refine V_sub [] rfl ?_
      exact hk  _ h
    · replace h := ite_f c5 h
      refine V_aload_n 20 C 1 dX8_readPattern_20 rfl ?_
      refine V_iload_n 21 C 2 dX8_readPattern_21 rfl ?_
      obtain ⟨c6, h⟩ := chk_some h
      refine V_schar 22 C dX8_readPattern_22 wk_5_204 hq1 c6 rfl rfl ?_
      obtain ⟨x7, e8, h⟩ := letM_some h
      refine V_top e8 ?_
      refine V_istore_n 25 C [(3, .int x7), (0, .ref (gad G b)), (1, .ref (gk G q1)), (2, .int v2)] dX8_readPattern_25 rfl rfl rfl ?_
      refine V_aload_n 26 C 1 dX8_readPattern_26 rfl ?_
      refine V_iload_n 27 C 0 dX8_readPattern_27 rfl ?_
      obtain ⟨r11, M9, k10, h⟩ := bindM_some h
      refine V_callI 28 (runVO (k := b) (rest := []) 28 C (kX8_mostDigits hb k10) cf_X8_mostDigits wk_6_2 (ltl hb rfl) (ceR_X8 hb) rfl rfl rfl rfl dX8_readPattern_28 rfl rfl (Nat.zero_le _) (Nat.zero_le _)) ?_
      refine V_istore 31 C [(4, .int r11), (3, .int x7), (0, .ref (gad G b)), (1, .ref (gk G q1)), (2, .int v2)] dX8_readPattern_31 rfl rfl ?_
      refine V_iload 33 C 0 dX8_readPattern_33 rfl ?_
      refine V_if_ne 35 46 C dX8_readPattern_35 (by decide) (fun c12 => ?_) (fun c12 => ?_)
      · replace h := ite_f c12 h
        refine V_aload_n 46 C 2 dX8_readPattern_46 rfl ?_
        refine V_iload 47 C 0 dX8_readPattern_47 rfl ?_
        obtain ⟨r15, M13, k14, h⟩ := bindM_some h
        refine V_callI 49 (runVO (k := b) (rest := []) 49 C (kX8_readNumber hb k14) cf_X8_readNumber wk_6_14 (ltl hb rfl) (ceR_X8 hb) rfl rfl rfl rfl dX8_readPattern_49 rfl rfl (Nat.zero_le _) (Nat.zero_le _)) ?_
        refine V_istore 52 C [(5, .int (b2i r15)), (4, .int r11), (3, .int x7), (0, .ref (gad G b)), (1, .ref (gk G q1)), (2, .int v2)] dX8_readPattern_52 rfl rfl ?_
        refine V_iload 54 C 0 dX8_readPattern_54 rfl ?_
        refine V_ifne_b 56 61 C dX8_readPattern_56 (by decide) (fun c16 => ?_) (fun c16 => ?_)
        · replace h := ite_t c16 h
          obtain ⟨x17, e18, h⟩ := letM_some h
          refine V_iinc 61 C [(2, .int x17), (5, .int (b2i r15)), (4, .int r11), (3, .int x7), (0, .ref (gad G b)), (1, .ref (gk G q1))] 5 x17 dX8_readPattern_61 rfl (by rw [e18]; rfl) rfl rfl ?_
          refine V_goto 64 12 C dX8_readPattern_64 (by decide) ?_
          refine V_sub [4, 5, 0] rfl ?_
          exact ih _ _ h
        · replace h := ite_f c16 h
          refine V_iconst 59 C dX8_readPattern_59 ic0 ?_
          exact V_zreth 60 C hQ h dX8_readPattern_60
      · replace h := ite_t c12 h
        refine V_aload_n 38 C 2 dX8_readPattern_38 rfl ?_
        refine V_iload_n 39 C 1 dX8_readPattern_39 rfl ?_
        obtain ⟨r21, M19, k20, h⟩ := bindM_some h
        refine V_callI 40 (runVO (k := b) (rest := []) 40 C (kX8_readSign hb k20) cf_X8_readSign wk_6_6 (ltl hb rfl) (ceR_X8 hb) rfl rfl rfl rfl dX8_readPattern_40 rfl rfl (Nat.zero_le _) (Nat.zero_le _)) ?_
        refine V_goto 43 52 C dX8_readPattern_43 (by decide) ?_
        refine V_istore 52 C [(5, .int (b2i r21)), (4, .int r11), (3, .int x7), (0, .ref (gad G b)), (1, .ref (gk G q1)), (2, .int v2)] dX8_readPattern_52 rfl rfl ?_
        refine V_iload 54 C 0 dX8_readPattern_54 rfl ?_
        refine V_ifne_b 56 61 C dX8_readPattern_56 (by decide) (fun c22 => ?_) (fun c22 => ?_)
        · replace h := ite_t c22 h
          obtain ⟨x23, e24, h⟩ := letM_some h
          refine V_iinc 61 C [(2, .int x23), (5, .int (b2i r21)), (4, .int r11), (3, .int x7), (0, .ref (gad G b)), (1, .ref (gk G q1))] 5 x23 dX8_readPattern_61 rfl (by rw [e24]; rfl) rfl rfl ?_
          refine V_goto 64 12 C dX8_readPattern_64 (by decide) ?_
          refine V_sub [4, 5, 0] rfl ?_
          exact ih _ _ h
        · replace h := ite_f c22 h
          refine V_iconst 59 C dX8_readPattern_59 ic0 ?_
          exact V_zreth 60 C hQ h dX8_readPattern_60
set_option maxHeartbeats 4000000 in
theorem kX8_readPattern {G : GG} {l : Launch} {F : Nat} {b : Nat} (hb : lay b = 7) {p0 : Nat} (hp0 : p0 < 11)  {M M' : Mem} {r : Bool} (h : fX8_readPattern F b p0 M = some (r, M')) : Con G l yX8_readPattern cX8_readPattern 6 (some .boolean) rmX8_readPattern [.ref (gad G b), .ref (gk G p0)] M (QI G (b2i r) M') := by
  refine con_of pnX8 (Nat.le_of_ble_eq_true rfl) (fun κ C hQ => ?_)
  unfold fX8_readPattern at h
  refine V_L (L1 := [(0, .ref (gad G b)), (1, .ref (gk G p0))]) rfl ?_
  refine V_aload_n 0 C 0 dX8_readPattern_0 rfl ?_
  refine V_iconst 1 C dX8_readPattern_1 icm1 ?_
  obtain ⟨M1, e2, h⟩ := letM_some h
  refine V_put (ty := .int) (F := F_X8 G b) 2 C dX8_readPattern_2 (ltl hb rfl) (fun _ => ceR_X8 hb) rfl inX8 tyX8 tyX8_ok nmX8 5 rfl wk_1_232 rfl rfl (-1) rfl rfl rfl rfl rfl ?_
  refine V_eqM e2 ?_
  refine V_aload_n 5 C 0 dX8_readPattern_5 rfl ?_
  refine V_iconst 6 C dX8_readPattern_6 icm1 ?_
  obtain ⟨M3, e4, h⟩ := letM_some h
  refine V_put (ty := .int) (F := F_X8 G b) 7 C dX8_readPattern_7 (ltl hb rfl) (fun _ => ceR_X8 hb) rfl inX8 tyX8 tyX8_ok nmX8 6 rfl wk_1_234 rfl rfl (-1) rfl rfl rfl rfl rfl ?_
  refine V_eqM e4 ?_
  refine V_iconst 10 C dX8_readPattern_10 ic0 ?_
  refine V_istore_n 11 C [(2, .int 0), (0, .ref (gad G b)), (1, .ref (gk G p0))] dX8_readPattern_11 rfl rfl rfl ?_
  refine V_sub [1, 2, 0] rfl ?_
  refine vX8_readPattern_12 hb hp0 hp0 C hQ ?_ _ _ _ h
  intro M25 h
  refine V_iconst 67 C dX8_readPattern_67 ic1 ?_
  exact V_zreth 68 C hQ h dX8_readPattern_68
set_option maxHeartbeats 4000000 in
theorem vX8_readPatterns_9 {G : GG} {κ : KK} {F : Nat} {b : Nat} (hb : lay b = 7) (C : Cx G κ cX8_readPatterns RX8 (some .boolean) 4 rmX8_readPatterns) {M' : Mem} {r : Bool} (hQ : HQ G κ (QI G (b2i r) M') 0 0) {q1 : Int32} {kx : Int32 → Mem → Option (Bool × Mem)} (hk : ∀ (v2 : Int32) (M : Mem), kx v2 M = some (r, M') → V G κ 4 0 0 M 63 [(0, .ref (gad G b)), (2, .int v2)] []) : ∀ (n : Nat) (v2 : Int32) (v3 : Int32) (M : Mem), fX8_readPatterns_9 F b q1 kx n v2 v3 M = some (r, M') → V G κ 4 0 0 M 9 [(0, .ref (gad G b)), (1, .int q1), (2, .int v2), (3, .int v3)] [] := by
  intro n
  induction n with
  | zero => intro v2 v3 M h; rw [fX8_readPatterns_9] at h; cases h
  | succ n ih =>
    intro v2 v3 M h
    rw [fX8_readPatterns_9] at h
    refine V_iload_n 9 C 3 dX8_readPatterns_9 rfl ?_
    refine V_gsV 10 C dX8_readPatterns_10 wk_5_188 ?_
    refine V_vlen 13 C dX8_readPatterns_13 ?_
    refine V_icmp_ge 14 63 C dX8_readPatterns_14 (by decide) (fun c3 => ?_) (fun c3 => ?_)
    · replace h := ite_t c3 h
      refine V_sub [0, 2] rfl ?_
      exact hk _ _ h
    · replace h := ite_f c3 h
      refine V_aload_n 17 C 0 dX8_readPatterns_17 rfl ?_
      refine V_iload_n 18 C 1 dX8_readPatterns_18 rfl ?_
      obtain ⟨M4, e5, h⟩ := letM_some h
      refine V_put (ty := .int) (F := F_X8 G b) 19 C dX8_readPatterns_19 (ltl hb rfl) (fun _ => ceR_X8 hb) rfl inX8 tyX8 tyX8_ok nmX8 2 rfl wk_1_227 rfl rfl q1 rfl rfl rfl rfl rfl ?_
      refine V_eqM e5 ?_
      refine V_aload_n 22 C 0 dX8_readPatterns_22 rfl ?_
      refine V_gsV 23 C dX8_readPatterns_23 wk_5_188 ?_
      refine V_iload_n 26 C 3 dX8_readPatterns_26 rfl ?_
      obtain ⟨c6, h⟩ := chk_some h
      refine V_vald 27 C dX8_readPatterns_27 c6 ?_
      refine V_patN 28 C dX8_readPatterns_28 wk_8_200 (inb_lt c6) ?_
      obtain ⟨r9, M7, k8, h⟩ := bindM_some h
      refine V_callI 31 (runVO (k := b) (rest := []) 31 C (kX8_readPattern hb (inb_lt c6) k8) cf_X8_readPattern wk_5_190 (ltl hb rfl) (ceR_X8 hb) rfl rfl rfl rfl dX8_readPatterns_31 rfl rfl (Nat.zero_le _) (Nat.zero_le _)) ?_
      refine V_ifeq_b 34 48 C dX8_readPatterns_34 (by decide) (fun c10 => ?_) (fun c10 => ?_)
      · replace h := ite_f c10 h
        refine V_iload_n 48 C 2 dX8_readPatterns_48 rfl ?_
        refine V_aload_n 49 C 0 dX8_readPatterns_49 rfl ?_
        refine V_get (v := .int (M7 b 2)) 50 C dX8_readPatterns_50 (ltl hb rfl) (ceR_X8 hb) rfl inX8 2 rfl wk_1_227 rfl rfl ?_
        refine V_mx 53 C dX8_readPatterns_53 wk_6_22 wk_6_23 wk_1_21 wk_6_24 rfl ?_
        obtain ⟨x11, e12, h⟩ := letM_some h
        refine V_top e12 ?_
        refine V_istore_n 56 C [(2, .int x11), (0, .ref (gad G b)), (1, .int q1), (3, .int v3)] dX8_readPatterns_56 rfl rfl rfl ?_
        obtain ⟨x13, e14, h⟩ := letM_some h
        refine V_iinc 57 C [(3, .int x13), (2, .int x11), (0, .ref (gad G b)), (1, .int q1)] 3 x13 dX8_readPatterns_57 rfl (by rw [e14]; rfl) rfl rfl ?_
        refine V_goto 60 9 C dX8_readPatterns_60 (by decide) ?_
        refine V_sub [2, 3, 1, 0] rfl ?_
        exact ih _ _ _ h
      · replace h := ite_t c10 h
        refine V_aload_n 37 C 0 dX8_readPatterns_37 rfl ?_
        refine V_gsV 38 C dX8_readPatterns_38 wk_5_188 ?_
        refine V_iload_n 41 C 3 dX8_readPatterns_41 rfl ?_
        obtain ⟨c15, h⟩ := chk_some h
        refine V_vald 42 C dX8_readPatterns_42 c15 ?_
        obtain ⟨M16, e17, h⟩ := letM_some h
        refine V_put (ty := .object "LarderPatrol$Verb") (F := F_X8 G b) 43 C dX8_readPatterns_43 (ltl hb rfl) (fun _ => ceR_X8 hb) rfl inX8 tyX8 tyX8_ok nmX8 4 rfl wk_1_230 rfl rfl (nI v3.toNatClampNeg) (F_verb (inb_lt c15)) rfl rfl rfl rfl ?_
        refine V_eqM e17 ?_
        refine V_iconst 46 C dX8_readPatterns_46 ic1 ?_
        exact V_zreth 47 C hQ h dX8_readPatterns_47
set_option maxHeartbeats 4000000 in
theorem kX8_readPatterns {G : GG} {l : Launch} {F : Nat} {b : Nat} (hb : lay b = 7)  {M M' : Mem} {r : Bool} (h : fX8_readPatterns F b M = some (r, M')) : Con G l yX8_readPatterns cX8_readPatterns 4 (some .boolean) rmX8_readPatterns [.ref (gad G b)] M (QI G (b2i r) M') := by
  refine con_of pnX8 (Nat.le_of_ble_eq_true rfl) (fun κ C hQ => ?_)
  unfold fX8_readPatterns at h
  refine V_L (L1 := [(0, .ref (gad G b))]) rfl ?_
  refine V_aload_n 0 C 0 dX8_readPatterns_0 rfl ?_
  refine V_get (v := .int (M b 2)) 1 C dX8_readPatterns_1 (ltl hb rfl) (ceR_X8 hb) rfl inX8 2 rfl wk_1_227 rfl rfl ?_
  obtain ⟨x1, e2, h⟩ := letM_some h
  refine V_top e2 ?_
  refine V_istore_n 4 C [(1, .int x1), (0, .ref (gad G b))] dX8_readPatterns_4 rfl rfl rfl ?_
  refine V_iload_n 5 C 0 dX8_readPatterns_5 rfl ?_
  refine V_istore_n 6 C [(2, .int x1), (1, .int x1), (0, .ref (gad G b))] dX8_readPatterns_6 rfl rfl rfl ?_
  refine V_iconst 7 C dX8_readPatterns_7 ic0 ?_
  refine V_istore_n 8 C [(3, .int 0), (2, .int x1), (1, .int x1), (0, .ref (gad G b))] dX8_readPatterns_8 rfl rfl rfl ?_
  refine V_sub [3, 2, 1, 0] rfl ?_
  refine vX8_readPatterns_9 hb C hQ ?_ _ _ _ _ h
  intro w19 M18 h
  refine V_aload_n 63 C 0 dX8_readPatterns_63 rfl ?_
  refine V_iload_n 64 C 1 dX8_readPatterns_64 rfl ?_
  obtain ⟨M20, e21, h⟩ := letM_some h
  refine V_put (ty := .int) (F := F_X8 G b) 65 C dX8_readPatterns_65 (ltl hb rfl) (fun _ => ceR_X8 hb) rfl inX8 tyX8 tyX8_ok nmX8 2 rfl wk_1_227 rfl rfl w19 rfl rfl rfl rfl rfl ?_
  refine V_eqM e21 ?_
  refine V_iconst 68 C dX8_readPatterns_68 ic0 ?_
  exact V_zreth 69 C hQ h dX8_readPatterns_69
set_option maxHeartbeats 4000000 in
theorem kX8_readCommand {G : GG} {l : Launch} {F : Nat} {b : Nat} (hb : lay b = 7)  {M M' : Mem}  (h : fX8_readCommand F b M = some M') : Con G l yX8_readCommand cX8_readCommand 1 none rmX8_readCommand [.ref (gad G b)] M (QV G M') := by
  refine con_of pnX8 (Nat.le_of_ble_eq_true rfl) (fun κ C hQ => ?_)
  unfold fX8_readCommand at h
  refine V_L (L1 := [(0, .ref (gad G b))]) rfl ?_
  refine V_aload_n 0 C 0 dX8_readCommand_0 rfl ?_
  obtain ⟨r3, M1, k2, h⟩ := bindM_some h
  refine V_callI 1 (runVO (k := b) (rest := []) 1 C (kX8_readPatterns hb k2) cf_X8_readPatterns wk_5_184 (ltl hb rfl) (ceR_X8 hb) rfl rfl rfl rfl dX8_readCommand_1 rfl rfl (Nat.zero_le _) (Nat.zero_le _)) ?_
  refine V_pop 4 C dX8_readCommand_4 rfl ?_
  refine V_aload_n 5 C 0 dX8_readCommand_5 rfl ?_
  refine V_bipush 6 C dX8_readCommand_6 bp59 ?_
  obtain ⟨r6, M4, k5, h⟩ := bindM_some h
  refine V_callI 8 (runVO (k := b) (rest := []) 8 C (kX8_readSign hb k5) cf_X8_readSign wk_6_6 (ltl hb rfl) (ceR_X8 hb) rfl rfl rfl rfl dX8_readCommand_8 rfl rfl (Nat.zero_le _) (Nat.zero_le _)) ?_
  refine V_pop 11 C dX8_readCommand_11 rfl ?_
  exact V_vreth 12 C hQ h dX8_readCommand_12
set_option maxHeartbeats 4000000 in
theorem kX8_rewind {G : GG} {l : Launch} {F : Nat} {b : Nat} (hb : lay b = 7)  {M M' : Mem}  (h : fX8_rewind F b M = some M') : Con G l yX8_rewind cX8_rewind 1 none rmX8_rewind [.ref (gad G b)] M (QV G M') := by
  refine con_of pnX8 (Nat.le_of_ble_eq_true rfl) (fun κ C hQ => ?_)
  unfold fX8_rewind at h
  refine V_L (L1 := [(0, .ref (gad G b))]) rfl ?_
  refine V_aload_n 0 C 0 dX8_rewind_0 rfl ?_
  refine V_iconst 1 C dX8_rewind_1 ic0 ?_
  obtain ⟨M1, e2, h⟩ := letM_some h
  refine V_put (ty := .int) (F := F_X8 G b) 2 C dX8_rewind_2 (ltl hb rfl) (fun _ => ceR_X8 hb) rfl inX8 tyX8 tyX8_ok nmX8 2 rfl wk_1_227 rfl rfl 0 rfl rfl rfl rfl rfl ?_
  refine V_eqM e2 ?_
  exact V_vreth 5 C hQ h dX8_rewind_5
set_option maxHeartbeats 4000000 in
theorem vX11_tryCommands_20 {G : GG} {κ : KK} {F : Nat}  (C : Cx G κ cX11_tryCommands RX11 (some .boolean) 3 rmX11_tryCommands) {M' : Mem} {r : Bool} (hQ : HQ G κ (QI G (b2i r) M') 0 0)  {kx : Mem → Option (Bool × Mem)} (hk : ∀  (M : Mem), kx  M = some (r, M') → V G κ 3 0 0 M 122 [] []) : ∀ (n : Nat) (v1 : Int32) (M : Mem), fX11_tryCommands_20 F  kx n v1 M = some (r, M') → V G κ 3 0 0 M 20 [(0, .ref (gad G 0)), (1, .int v1)] [] := by
  intro n
  induction n with
  | zero => intro v1 M h; rw [fX11_tryCommands_20] at h; cases h
  | succ n ih =>
    intro v1 M h
    rw [fX11_tryCommands_20] at h
    refine V_iload_n 20 C 1 dX11_tryCommands_20 rfl ?_
    refine V_aload_n 21 C 0 dX11_tryCommands_21 rfl ?_
    refine V_get (v := .ref (gad G 115)) 22 C dX11_tryCommands_22 (ltl (by rfl) rfl) (ceR_X11 (by rfl)) rfl inX11 6 rfl wk_2_33 rfl rfl ?_
    refine V_getN (v := .int (M 115 3)) 25 C dX11_tryCommands_25 (ltl (by rfl) rfl) (ceR_X8 (by rfl)) rfl inX8 3 rfl wk_1_229 rfl rfl ?_
    refine V_icmp_ge 28 122 C dX11_tryCommands_28 (by decide) (fun c5 => ?_) (fun c5 => ?_)
    · replace h := ite_t c5 h
      refine V_sub [] rfl ?_
      exact hk  _ h
    · replace h := ite_f c5 h
      refine V_aload_n 31 C 0 dX11_tryCommands_31 rfl ?_
      refine V_get (v := .ref (gad G 115)) 32 C dX11_tryCommands_32 (ltl (by rfl) rfl) (ceR_X11 (by rfl)) rfl inX11 6 rfl wk_2_33 rfl rfl ?_
      obtain ⟨M6, k7, h⟩ := bindV_some h
      refine V_callV 35 (runVN (k := 115) (rest := []) 35 C (kX8_readCommand (by rfl) k7) cf_X8_readCommand wk_6_38 (ltl (by rfl) rfl) (ceR_X8 (by rfl)) rfl rfl rfl rfl dX11_tryCommands_35 rfl rfl (Nat.zero_le _) (Nat.zero_le _)) ?_
      refine V_aload_n 38 C 0 dX11_tryCommands_38 rfl ?_
      refine V_get (v := .ref (gad G 11)) 39 C dX11_tryCommands_39 (ltl (by rfl) rfl) (ceR_X11 (by rfl)) rfl inX11 1 rfl wk_2_28 rfl rfl ?_
      refine V_aload_n 42 C 0 dX11_tryCommands_42 rfl ?_
      refine V_get (v := .ref (gad G 115)) 43 C dX11_tryCommands_43 (ltl (by rfl) rfl) (ceR_X11 (by rfl)) rfl inX11 6 rfl wk_2_33 rfl rfl ?_
      refine V_getN (v := .ref (gv G ((M6 115 4).toNatClampNeg))) 46 C dX11_tryCommands_46 (ltl (by rfl) rfl) (ceR_X8 (by rfl)) rfl inX8 4 rfl wk_1_231 rfl rfl ?_
      refine V_aload_n 49 C 0 dX11_tryCommands_49 rfl ?_
      refine V_get (v := .ref (gad G 115)) 50 C dX11_tryCommands_50 (ltl (by rfl) rfl) (ceR_X11 (by rfl)) rfl inX11 6 rfl wk_2_33 rfl rfl ?_
      refine V_getN (v := .int (M6 115 5)) 53 C dX11_tryCommands_53 (ltl (by rfl) rfl) (ceR_X8 (by rfl)) rfl inX8 5 rfl wk_1_233 rfl rfl ?_
      refine V_aload_n 56 C 0 dX11_tryCommands_56 rfl ?_
      refine V_get (v := .ref (gad G 115)) 57 C dX11_tryCommands_57 (ltl (by rfl) rfl) (ceR_X11 (by rfl)) rfl inX11 6 rfl wk_2_33 rfl rfl ?_
      refine V_getN (v := .int (M6 115 6)) 60 C dX11_tryCommands_60 (ltl (by rfl) rfl) (ceR_X8 (by rfl)) rfl inX8 6 rfl wk_1_235 rfl rfl ?_
      obtain ⟨g8, h⟩ := chk_some h
      obtain ⟨r11, M9, k10, h⟩ := bindM_some h
      refine V_callR 63 (runVN (k := 11) (rest := []) 63 C (kX3_refusalOf (by rfl) (of_decide_eq_true g8) k10) cf_X3_refusalOf wk_2_211 (ltl (by rfl) rfl) (ceR_X3 (by rfl)) rfl rfl rfl rfl dX11_tryCommands_63 rfl rfl (Nat.zero_le _) (Nat.zero_le _)) ?_
      refine V_astore_n 66 C [(2, .ref (gr G r11)), (0, .ref (gad G 0)), (1, .int v1)] dX11_tryCommands_66 rfl rfl rfl ?_
      refine V_aload_n 67 C 0 dX11_tryCommands_67 rfl ?_
      refine V_gsr 68 C dX11_tryCommands_68 0 rfl wk_3_135 ?_
      obtain ⟨g13, h⟩ := chk_some h
      refine V_acmpeq_r 71 87 C dX11_tryCommands_71 (by decide) (of_decide_eq_true g13) (by decide) (fun c12 => ?_) (fun c12 => ?_)
      · replace h := ite_t c12 h
        refine V_aload_n 87 C 1 dX11_tryCommands_87 rfl ?_
        refine V_get (v := .ref (gad G 11)) 88 C dX11_tryCommands_88 (ltl (by rfl) rfl) (ceR_X11 (by rfl)) rfl inX11 1 rfl wk_2_28 rfl rfl ?_
        refine V_aload_n 91 C 1 dX11_tryCommands_91 rfl ?_
        refine V_get (v := .ref (gad G 115)) 92 C dX11_tryCommands_92 (ltl (by rfl) rfl) (ceR_X11 (by rfl)) rfl inX11 6 rfl wk_2_33 rfl rfl ?_
        refine V_getN (v := .ref (gv G ((M9 115 4).toNatClampNeg))) 95 C dX11_tryCommands_95 (ltl (by rfl) rfl) (ceR_X8 (by rfl)) rfl inX8 4 rfl wk_1_231 rfl rfl ?_
        refine V_aload_n 98 C 1 dX11_tryCommands_98 rfl ?_
        refine V_get (v := .ref (gad G 115)) 99 C dX11_tryCommands_99 (ltl (by rfl) rfl) (ceR_X11 (by rfl)) rfl inX11 6 rfl wk_2_33 rfl rfl ?_
        refine V_getN (v := .int (M9 115 5)) 102 C dX11_tryCommands_102 (ltl (by rfl) rfl) (ceR_X8 (by rfl)) rfl inX8 5 rfl wk_1_233 rfl rfl ?_
        refine V_aload_n 105 C 1 dX11_tryCommands_105 rfl ?_
        refine V_get (v := .ref (gad G 115)) 106 C dX11_tryCommands_106 (ltl (by rfl) rfl) (ceR_X11 (by rfl)) rfl inX11 6 rfl wk_2_33 rfl rfl ?_
        refine V_getN (v := .int (M9 115 6)) 109 C dX11_tryCommands_109 (ltl (by rfl) rfl) (ceR_X8 (by rfl)) rfl inX8 6 rfl wk_1_235 rfl rfl ?_
        obtain ⟨g14, h⟩ := chk_some h
        obtain ⟨r17, M15, k16, h⟩ := bindM_some h
        refine V_callI 112 (runVN (k := 11) (rest := []) 112 C (kX3_carryOut (by rfl) (of_decide_eq_true g14) k16) cf_X3_carryOut wk_3_176 (ltl (by rfl) rfl) (ceR_X3 (by rfl)) rfl rfl rfl rfl dX11_tryCommands_112 rfl rfl (Nat.zero_le _) (Nat.zero_le _)) ?_
        refine V_pop 115 C dX11_tryCommands_115 rfl ?_
        obtain ⟨x18, e19, h⟩ := letM_some h
        refine V_iinc 116 C [(1, .int x18), (2, .ref (gr G r11)), (0, .ref (gad G 0))] 2 x18 dX11_tryCommands_116 rfl (by rw [e19]; rfl) rfl rfl ?_
        refine V_goto 119 20 C dX11_tryCommands_119 (by decide) ?_
        refine V_sub [2, 0] rfl ?_
        exact ih _ _ h
      · replace h := ite_f c12 h
        refine V_aload_n 74 C 1 dX11_tryCommands_74 rfl ?_
        refine V_bipush 75 C dX11_tryCommands_75 bp6 ?_
        refine V_iload_n 77 C 2 dX11_tryCommands_77 rfl ?_
        refine V_aload_n 78 C 0 dX11_tryCommands_78 rfl ?_
        obtain ⟨g20, h⟩ := chk_some h
        refine V_numN 79 C dX11_tryCommands_79 wk_8_198 (of_decide_eq_true g20) ?_
        obtain ⟨M21, k22, h⟩ := bindV_some h
        refine V_callV 82 (runVO (k := 0) (rest := []) 82 C (kX11_keepDenial  k22) cf_X11_keepDenial wk_3_147 (ltl (by rfl) rfl) (ceR_X11 (by rfl)) rfl rfl rfl rfl dX11_tryCommands_82 rfl rfl (Nat.zero_le _) (Nat.zero_le _)) ?_
        refine V_iconst 85 C dX11_tryCommands_85 ic0 ?_
        exact V_zreth 86 C hQ h dX11_tryCommands_86
set_option maxHeartbeats 4000000 in
theorem kX11_tryCommands {G : GG} {l : Launch} {F : Nat}   {M M' : Mem} {r : Bool} (h : fX11_tryCommands F  M = some (r, M')) : Con G l yX11_tryCommands cX11_tryCommands 3 (some .boolean) rmX11_tryCommands [.ref (gad G 0)] M (QI G (b2i r) M') := by
  refine con_of pnX11 (Nat.le_of_ble_eq_true rfl) (fun κ C hQ => ?_)
  unfold fX11_tryCommands at h
  refine V_L (L1 := [(0, .ref (gad G 0))]) rfl ?_
  refine V_aload_n 0 C 0 dX11_tryCommands_0 rfl ?_
  refine V_get (v := .ref (gad G 11)) 1 C dX11_tryCommands_1 (ltl (by rfl) rfl) (ceR_X11 (by rfl)) rfl inX11 1 rfl wk_2_28 rfl rfl ?_
  refine V_aload_n 4 C 0 dX11_tryCommands_4 rfl ?_
  refine V_get (v := .ref (gad G 1)) 5 C dX11_tryCommands_5 (ltl (by rfl) rfl) (ceR_X11 (by rfl)) rfl inX11 0 rfl wk_2_27 rfl rfl ?_
  obtain ⟨M1, k2, h⟩ := bindV_some h
  refine V_callV 8 (runVN (k := 11) (rest := []) 8 C (kX3_copyFrom (by rfl) (by rfl) k2) cf_X3_copyFrom wk_2_170 (ltl (by rfl) rfl) (ceR_X3 (by rfl)) rfl rfl rfl rfl dX11_tryCommands_8 rfl rfl (Nat.zero_le _) (Nat.zero_le _)) ?_
  refine V_aload_n 11 C 0 dX11_tryCommands_11 rfl ?_
  refine V_get (v := .ref (gad G 115)) 12 C dX11_tryCommands_12 (ltl (by rfl) rfl) (ceR_X11 (by rfl)) rfl inX11 6 rfl wk_2_33 rfl rfl ?_
  obtain ⟨M3, k4, h⟩ := bindV_some h
  refine V_callV 15 (runVN (k := 115) (rest := []) 15 C (kX8_rewind (by rfl) k4) cf_X8_rewind wk_6_34 (ltl (by rfl) rfl) (ceR_X8 (by rfl)) rfl rfl rfl rfl dX11_tryCommands_15 rfl rfl (Nat.zero_le _) (Nat.zero_le _)) ?_
  refine V_iconst 18 C dX11_tryCommands_18 ic0 ?_
  refine V_istore_n 19 C [(1, .int 0), (0, .ref (gad G 0))] dX11_tryCommands_19 rfl rfl rfl ?_
  refine V_sub [1, 0] rfl ?_
  refine vX11_tryCommands_20  C hQ ?_ _ _ _ h
  intro M23 h
  refine V_iconst 122 C dX11_tryCommands_122 ic1 ?_
  exact V_zreth 123 C hQ h dX11_tryCommands_123
set_option maxHeartbeats 4000000 in
theorem kX8_clear {G : GG} {l : Launch} {F : Nat} {b : Nat} (hb : lay b = 7)  {M M' : Mem}  (h : fX8_clear F b M = some M') : Con G l yX8_clear cX8_clear 1 none rmX8_clear [.ref (gad G b)] M (QV G M') := by
  refine con_of pnX8 (Nat.le_of_ble_eq_true rfl) (fun κ C hQ => ?_)
  unfold fX8_clear at h
  refine V_L (L1 := [(0, .ref (gad G b))]) rfl ?_
  refine V_aload_n 0 C 0 dX8_clear_0 rfl ?_
  refine V_iconst 1 C dX8_clear_1 ic0 ?_
  obtain ⟨M1, e2, h⟩ := letM_some h
  refine V_put (ty := .int) (F := F_X8 G b) 2 C dX8_clear_2 (ltl hb rfl) (fun _ => ceR_X8 hb) rfl inX8 tyX8 tyX8_ok nmX8 1 rfl wk_1_225 rfl rfl 0 rfl rfl rfl rfl rfl ?_
  refine V_eqM e2 ?_
  exact V_vreth 5 C hQ h dX8_clear_5
set_option maxHeartbeats 4000000 in
theorem vX8_findFault_12 {G : GG} {κ : KK} {F : Nat} {b : Nat} (hb : lay b = 7) (C : Cx G κ cX8_findFault RX8 (some .int) 2 rmX8_findFault) {M' : Mem} {r : Int32} (hQ : HQ G κ (QI G r M') 0 0)  {kx : Mem → Option (Int32 × Mem)} (hk : ∀  (M : Mem), kx  M = some (r, M') → V G κ 2 0 0 M 73 [(0, .ref (gad G b))] []) : ∀ (n : Nat) (v1 : Int32) (M : Mem), fX8_findFault_12 F b kx n v1 M = some (r, M') → V G κ 2 0 0 M 12 [(0, .ref (gad G b)), (1, .int v1)] [] := by
  intro n
  induction n with
  | zero => intro v1 M h; rw [fX8_findFault_12] at h; cases h
  | succ n ih =>
    intro v1 M h
    rw [fX8_findFault_12] at h
    refine V_iload_n 12 C 1 dX8_findFault_12 rfl ?_
    refine V_bipush 13 C dX8_findFault_13 bp60 ?_
    refine V_icmp_ge 15 73 C dX8_findFault_15 (by decide) (fun c5 => ?_) (fun c5 => ?_)
    · replace h := ite_t c5 h
      refine V_sub [0] rfl ?_
      exact hk  _ h
    · replace h := ite_f c5 h
      refine V_aload_n 18 C 0 dX8_findFault_18 rfl ?_
      obtain ⟨r8, M6, k7, h⟩ := bindM_some h
      refine V_callI 19 (runVO (k := b) (rest := []) 19 C (kX8_readPatterns hb k7) cf_X8_readPatterns wk_5_184 (ltl hb rfl) (ceR_X8 hb) rfl rfl rfl rfl dX8_findFault_19 rfl rfl (Nat.zero_le _) (Nat.zero_le _)) ?_
      refine V_ifne_b 22 30 C dX8_findFault_22 (by decide) (fun c9 => ?_) (fun c9 => ?_)
      · replace h := ite_t c9 h
        refine V_aload_n 30 C 0 dX8_findFault_30 rfl ?_
        refine V_dup 31 C dX8_findFault_31 rfl ?_
        refine V_get (v := .int (M6 b 3)) 32 C dX8_findFault_32 (ltl hb rfl) (ceR_X8 hb) rfl inX8 3 rfl wk_1_228 rfl rfl ?_
        refine V_iconst 35 C dX8_findFault_35 ic1 ?_
        refine V_iadd 36 C dX8_findFault_36 ?_
        obtain ⟨M10, e11, h⟩ := letM_some h
        refine V_put (ty := .int) (F := F_X8 G b) 37 C dX8_findFault_37 (ltl hb rfl) (fun _ => ceR_X8 hb) rfl inX8 tyX8 tyX8_ok nmX8 3 rfl wk_1_228 rfl rfl ((M6 b 3) + 1) rfl rfl rfl rfl rfl ?_
        refine V_eqM e11 ?_
        refine V_aload_n 40 C 0 dX8_findFault_40 rfl ?_
        refine V_get (v := .int (M10 b 2)) 41 C dX8_findFault_41 (ltl hb rfl) (ceR_X8 hb) rfl inX8 2 rfl wk_1_227 rfl rfl ?_
        refine V_aload_n 44 C 0 dX8_findFault_44 rfl ?_
        refine V_get (v := .int (M10 b 1)) 45 C dX8_findFault_45 (ltl hb rfl) (ceR_X8 hb) rfl inX8 1 rfl wk_1_225 rfl rfl ?_
        refine V_icmp_lt 48 53 C dX8_findFault_48 (by decide) (fun c12 => ?_) (fun c12 => ?_)
        · replace h := ite_t c12 h
          refine V_aload_n 53 C 0 dX8_findFault_53 rfl ?_
          refine V_bipush 54 C dX8_findFault_54 bp59 ?_
          obtain ⟨r15, M13, k14, h⟩ := bindM_some h
          refine V_callI 56 (runVO (k := b) (rest := []) 56 C (kX8_readSign hb k14) cf_X8_readSign wk_6_6 (ltl hb rfl) (ceR_X8 hb) rfl rfl rfl rfl dX8_findFault_56 rfl rfl (Nat.zero_le _) (Nat.zero_le _)) ?_
          refine V_ifne_b 59 67 C dX8_findFault_59 (by decide) (fun c16 => ?_) (fun c16 => ?_)
          · replace h := ite_t c16 h
            obtain ⟨x17, e18, h⟩ := letM_some h
            refine V_iinc 67 C [(1, .int x17), (0, .ref (gad G b))] 1 x17 dX8_findFault_67 rfl (by rw [e18]; rfl) rfl rfl ?_
            refine V_goto 70 12 C dX8_findFault_70 (by decide) ?_
            refine V_sub [1, 0] rfl ?_
            exact ih _ _ h
          · replace h := ite_f c16 h
            refine V_aload_n 62 C 0 dX8_findFault_62 rfl ?_
            refine V_get (v := .int (M13 b 2)) 63 C dX8_findFault_63 (ltl hb rfl) (ceR_X8 hb) rfl inX8 2 rfl wk_1_227 rfl rfl ?_
            exact V_ireth 66 C hQ h dX8_findFault_66
        · replace h := ite_f c12 h
          refine V_iconst 51 C dX8_findFault_51 icm1 ?_
          exact V_ireth 52 C hQ h dX8_findFault_52
      · replace h := ite_f c9 h
        refine V_aload_n 25 C 0 dX8_findFault_25 rfl ?_
        refine V_get (v := .int (M6 b 2)) 26 C dX8_findFault_26 (ltl hb rfl) (ceR_X8 hb) rfl inX8 2 rfl wk_1_227 rfl rfl ?_
        exact V_ireth 29 C hQ h dX8_findFault_29
set_option maxHeartbeats 4000000 in
theorem kX8_findFault {G : GG} {l : Launch} {F : Nat} {b : Nat} (hb : lay b = 7)  {M M' : Mem} {r : Int32} (h : fX8_findFault F b M = some (r, M')) : Con G l yX8_findFault cX8_findFault 2 (some .int) rmX8_findFault [.ref (gad G b)] M (QI G r M') := by
  refine con_of pnX8 (Nat.le_of_ble_eq_true rfl) (fun κ C hQ => ?_)
  unfold fX8_findFault at h
  refine V_L (L1 := [(0, .ref (gad G b))]) rfl ?_
  refine V_aload_n 0 C 0 dX8_findFault_0 rfl ?_
  refine V_iconst 1 C dX8_findFault_1 ic0 ?_
  obtain ⟨M1, e2, h⟩ := letM_some h
  refine V_put (ty := .int) (F := F_X8 G b) 2 C dX8_findFault_2 (ltl hb rfl) (fun _ => ceR_X8 hb) rfl inX8 tyX8 tyX8_ok nmX8 2 rfl wk_1_227 rfl rfl 0 rfl rfl rfl rfl rfl ?_
  refine V_eqM e2 ?_
  refine V_aload_n 5 C 0 dX8_findFault_5 rfl ?_
  refine V_iconst 6 C dX8_findFault_6 ic0 ?_
  obtain ⟨M3, e4, h⟩ := letM_some h
  refine V_put (ty := .int) (F := F_X8 G b) 7 C dX8_findFault_7 (ltl hb rfl) (fun _ => ceR_X8 hb) rfl inX8 tyX8 tyX8_ok nmX8 3 rfl wk_1_228 rfl rfl 0 rfl rfl rfl rfl rfl ?_
  refine V_eqM e4 ?_
  refine V_iconst 10 C dX8_findFault_10 ic0 ?_
  refine V_istore_n 11 C [(1, .int 0), (0, .ref (gad G b))] dX8_findFault_11 rfl rfl rfl ?_
  refine V_sub [1, 0] rfl ?_
  refine vX8_findFault_12 hb C hQ ?_ _ _ _ h
  intro M19 h
  refine V_aload_n 73 C 0 dX8_findFault_73 rfl ?_
  refine V_get (v := .int (M19 b 2)) 74 C dX8_findFault_74 (ltl hb rfl) (ceR_X8 hb) rfl inX8 2 rfl wk_1_227 rfl rfl ?_
  exact V_ireth 77 C hQ h dX8_findFault_77
set_option maxHeartbeats 4000000 in
theorem kX4_append {G : GG} {l : Launch} {F : Nat} {b : Nat} (hb : lay b = 8) {p0 : Int32} {M M' : Mem}  (h : fX4_append F b p0 M = some M') : Con G l yX4_append cX4_append 2 none rmX4_append [.ref (gad G b), .int p0] M (QV G M') := by
  refine con_of pnX4 (Nat.le_of_ble_eq_true rfl) (fun κ C hQ => ?_)
  unfold fX4_append at h
  refine V_L (L1 := [(0, .ref (gad G b)), (1, .int p0)]) rfl ?_
  refine V_aload_n 0 C 0 dX4_append_0 rfl ?_
  refine V_get (v := .int (M b 1)) 1 C dX4_append_1 (ltl hb rfl) (ceR_X4 hb) rfl inX4 1 rfl wk_2_20 rfl rfl ?_
  refine V_if_lt 4 39 C dX4_append_4 (by decide) (fun c1 => ?_) (fun c1 => ?_)
  · replace h := ite_t c1 h
    exact V_vreth 39 C hQ h dX4_append_39
  · replace h := ite_f c1 h
    refine V_aload_n 7 C 0 dX4_append_7 rfl ?_
    refine V_get (v := .int (M b 1)) 8 C dX4_append_8 (ltl hb rfl) (ceR_X4 hb) rfl inX4 1 rfl wk_2_20 rfl rfl ?_
    refine V_aload_n 11 C 0 dX4_append_11 rfl ?_
    refine V_get (v := .ref (gad G (b + 1))) 12 C dX4_append_12 (ltl hb rfl) (ceR_X4 hb) rfl inX4 0 rfl wk_2_18 rfl rfl ?_
    refine V_alenC 15 C dX4_append_15 (akC_25 (ly8_1 hb)) (congrArg nI (al_25 (ly8_1 hb))) ?_
    refine V_icmp_ge 16 39 C dX4_append_16 (by decide) (fun c2 => ?_) (fun c2 => ?_)
    · replace h := ite_t c2 h
      exact V_vreth 39 C hQ h dX4_append_39
    · replace h := ite_f c2 h
      refine V_aload_n 19 C 0 dX4_append_19 rfl ?_
      refine V_get (v := .ref (gad G (b + 1))) 20 C dX4_append_20 (ltl hb rfl) (ceR_X4 hb) rfl inX4 0 rfl wk_2_18 rfl rfl ?_
      refine V_aload_n 23 C 0 dX4_append_23 rfl ?_
      refine V_get (v := .int (M b 1)) 24 C dX4_append_24 (ltl hb rfl) (ceR_X4 hb) rfl inX4 1 rfl wk_2_20 rfl rfl ?_
      refine V_iload_n 27 C 1 dX4_append_27 rfl ?_
      obtain ⟨c3, h⟩ := chk_some h
      obtain ⟨M4, e5, h⟩ := letM_some h
      refine V_cast 28 C dX4_append_28 (akC_25 (ly8_1 hb)) (al_25 (ly8_1 hb)) c3 ?_
      refine V_eqM e5 ?_
      refine V_aload_n 29 C 0 dX4_append_29 rfl ?_
      refine V_dup 30 C dX4_append_30 rfl ?_
      refine V_get (v := .int (M4 b 1)) 31 C dX4_append_31 (ltl hb rfl) (ceR_X4 hb) rfl inX4 1 rfl wk_2_20 rfl rfl ?_
      refine V_iconst 34 C dX4_append_34 ic1 ?_
      refine V_iadd 35 C dX4_append_35 ?_
      obtain ⟨M6, e7, h⟩ := letM_some h
      refine V_put (ty := .int) (F := F_X4 G b) 36 C dX4_append_36 (ltl hb rfl) (fun _ => ceR_X4 hb) rfl inX4 tyX4 tyX4_ok nmX4 1 rfl wk_2_20 rfl rfl ((M4 b 1) + 1) rfl rfl rfl rfl rfl ?_
      refine V_eqM e7 ?_
      exact V_vreth 39 C hQ h dX4_append_39
set_option maxHeartbeats 4000000 in
theorem kX4_appendIf {G : GG} {l : Launch} {F : Nat} {b : Nat} (hb : lay b = 8) {p0 : Bool} {p1 : Int32} {M M' : Mem}  (h : fX4_appendIf F b p0 p1 M = some M') : Con G l yX4_appendIf cX4_appendIf 3 none rmX4_appendIf [.ref (gad G b), .int (b2i p0), .int p1] M (QV G M') := by
  refine con_of pnX4 (Nat.le_of_ble_eq_true rfl) (fun κ C hQ => ?_)
  unfold fX4_appendIf at h
  refine V_L (L1 := [(0, .ref (gad G b)), (1, .int (b2i p0)), (2, .int p1)]) rfl ?_
  refine V_iload_n 0 C 1 dX4_appendIf_0 rfl ?_
  refine V_ifeq_b 1 9 C dX4_appendIf_1 (by decide) (fun c1 => ?_) (fun c1 => ?_)
  · replace h := ite_f c1 h
    exact V_vreth 9 C hQ h dX4_appendIf_9
  · replace h := ite_t c1 h
    refine V_aload_n 4 C 0 dX4_appendIf_4 rfl ?_
    refine V_iload_n 5 C 2 dX4_appendIf_5 rfl ?_
    obtain ⟨M2, k3, h⟩ := bindV_some h
    refine V_callV 6 (runVO (k := b) (rest := []) 6 C (kX4_append hb k3) cf_X4_append wk_2_153 (ltl hb rfl) (ceR_X4 hb) rfl rfl rfl rfl dX4_appendIf_6 rfl rfl (Nat.zero_le _) (Nat.zero_le _)) ?_
    exact V_vreth 9 C hQ h dX4_appendIf_9
set_option maxHeartbeats 4000000 in
theorem kX4_appendNumber {G : GG} {l : Launch} {F : Nat} {b : Nat} (hb : lay b = 8) {p0 : Int32} {M M' : Mem}  (h : fX4_appendNumber F b p0 M = some M') : Con G l yX4_appendNumber cX4_appendNumber 2 none rmX4_appendNumber [.ref (gad G b), .int p0] M (QV G M') := by
  refine con_of pnX4 (Nat.le_of_ble_eq_true rfl) (fun κ C hQ => ?_)
  unfold fX4_appendNumber at h
  refine V_L (L1 := [(0, .ref (gad G b)), (1, .int p0)]) rfl ?_
  refine V_aload_n 0 C 0 dX4_appendNumber_0 rfl ?_
  refine V_iload_n 1 C 1 dX4_appendNumber_1 rfl ?_
  refine V_bipush 2 C dX4_appendNumber_2 bp10 ?_
  refine V_icmp_lt 4 11 C dX4_appendNumber_4 (by decide) (fun c1 => ?_) (fun c1 => ?_)
  · replace h := ite_t c1 h
    refine V_iconst 11 C dX4_appendNumber_11 ic0 ?_
    refine V_bipush 12 C dX4_appendNumber_12 bp48 ?_
    refine V_iload_n 14 C 1 dX4_appendNumber_14 rfl ?_
    refine V_bipush 15 C dX4_appendNumber_15 bp10 ?_
    refine V_idiv 17 C dX4_appendNumber_17 (by decide) ?_
    refine V_iadd 18 C dX4_appendNumber_18 ?_
    refine V_i2c 19 C dX4_appendNumber_19 ?_
    obtain ⟨M2, k3, h⟩ := bindV_some h
    refine V_callV 20 (runVO (k := b) (rest := []) 20 C (kX4_appendIf hb k3) cf_X4_appendIf wk_2_149 (ltl hb rfl) (ceR_X4 hb) rfl rfl rfl rfl dX4_appendNumber_20 rfl rfl (Nat.zero_le _) (Nat.zero_le _)) ?_
    refine V_aload_n 23 C 0 dX4_appendNumber_23 rfl ?_
    refine V_bipush 24 C dX4_appendNumber_24 bp48 ?_
    refine V_iload_n 26 C 1 dX4_appendNumber_26 rfl ?_
    refine V_bipush 27 C dX4_appendNumber_27 bp10 ?_
    refine V_irem 29 C dX4_appendNumber_29 (by decide) ?_
    refine V_iadd 30 C dX4_appendNumber_30 ?_
    refine V_i2c 31 C dX4_appendNumber_31 ?_
    obtain ⟨M4, k5, h⟩ := bindV_some h
    refine V_callV 32 (runVO (k := b) (rest := []) 32 C (kX4_append hb k5) cf_X4_append wk_2_153 (ltl hb rfl) (ceR_X4 hb) rfl rfl rfl rfl dX4_appendNumber_32 rfl rfl (Nat.zero_le _) (Nat.zero_le _)) ?_
    exact V_vreth 35 C hQ h dX4_appendNumber_35
  · replace h := ite_f c1 h
    refine V_iconst 7 C dX4_appendNumber_7 ic1 ?_
    refine V_goto 8 12 C dX4_appendNumber_8 (by decide) ?_
    refine V_bipush 12 C dX4_appendNumber_12 bp48 ?_
    refine V_iload_n 14 C 1 dX4_appendNumber_14 rfl ?_
    refine V_bipush 15 C dX4_appendNumber_15 bp10 ?_
    refine V_idiv 17 C dX4_appendNumber_17 (by decide) ?_
    refine V_iadd 18 C dX4_appendNumber_18 ?_
    refine V_i2c 19 C dX4_appendNumber_19 ?_
    obtain ⟨M6, k7, h⟩ := bindV_some h
    refine V_callV 20 (runVO (k := b) (rest := []) 20 C (kX4_appendIf hb k7) cf_X4_appendIf wk_2_149 (ltl hb rfl) (ceR_X4 hb) rfl rfl rfl rfl dX4_appendNumber_20 rfl rfl (Nat.zero_le _) (Nat.zero_le _)) ?_
    refine V_aload_n 23 C 0 dX4_appendNumber_23 rfl ?_
    refine V_bipush 24 C dX4_appendNumber_24 bp48 ?_
    refine V_iload_n 26 C 1 dX4_appendNumber_26 rfl ?_
    refine V_bipush 27 C dX4_appendNumber_27 bp10 ?_
    refine V_irem 29 C dX4_appendNumber_29 (by decide) ?_
    refine V_iadd 30 C dX4_appendNumber_30 ?_
    refine V_i2c 31 C dX4_appendNumber_31 ?_
    obtain ⟨M8, k9, h⟩ := bindV_some h
    refine V_callV 32 (runVO (k := b) (rest := []) 32 C (kX4_append hb k9) cf_X4_append wk_2_153 (ltl hb rfl) (ceR_X4 hb) rfl rfl rfl rfl dX4_appendNumber_32 rfl rfl (Nat.zero_le _) (Nat.zero_le _)) ?_
    exact V_vreth 35 C hQ h dX4_appendNumber_35
set_option maxHeartbeats 4000000 in
theorem vX4_showShelf_82 {G : GG} {κ : KK} {F : Nat} {b : Nat} (hb : lay b = 8) {p0 : Nat} (hp0 : lay p0 = 1) (C : Cx G κ cX4_showShelf RX4 none 6 rmX4_showShelf) {M' : Mem}  (hQ : HQ G κ (QV G M') 0 0) {q2 : Int32} {q4 : Int32} {kx : Mem → Option Mem} (hk : ∀  (M : Mem), kx  M = some M' → V G κ 6 0 0 M 101 [(0, .ref (gad G b)), (2, .int q2), (3, .ref (gad G (p0 + 1)))] []) : ∀ (n : Nat) (v5 : Int32) (M : Mem), fX4_showShelf_82 F b p0 q2 q4 kx n v5 M = some M' → V G κ 6 0 0 M 82 [(0, .ref (gad G b)), (2, .int q2), (3, .ref (gad G (p0 + 1))), (4, .int q4), (5, .int v5)] [] := by
  intro n
  induction n with
  | zero => intro v5 M h; rw [fX4_showShelf_82] at h; cases h
  | succ n ih =>
    intro v5 M h
    rw [fX4_showShelf_82] at h
    refine V_iload 82 C 4 dX4_showShelf_82 rfl ?_
    refine V_iload 84 C 3 dX4_showShelf_84 rfl ?_
    refine V_icmp_ge 86 101 C dX4_showShelf_86 (by decide) (fun c23 => ?_) (fun c23 => ?_)
    · replace h := ite_t c23 h
      refine V_sub [0, 1, 2] rfl ?_
      exact hk  _ h
    · replace h := ite_f c23 h
      refine V_aload_n 89 C 0 dX4_showShelf_89 rfl ?_
      refine V_bipush 90 C dX4_showShelf_90 bp109 ?_
      obtain ⟨M24, k25, h⟩ := bindV_some h
      refine V_callV 92 (runVO (k := b) (rest := []) 92 C (kX4_append hb k25) cf_X4_append wk_2_153 (ltl hb rfl) (ceR_X4 hb) rfl rfl rfl rfl dX4_showShelf_92 rfl rfl (Nat.zero_le _) (Nat.zero_le _)) ?_
      obtain ⟨x26, e27, h⟩ := letM_some h
      refine V_iinc 95 C [(5, .int x26), (0, .ref (gad G b)), (2, .int q2), (3, .ref (gad G (p0 + 1))), (4, .int q4)] 4 x26 dX4_showShelf_95 rfl (by rw [e27]; rfl) rfl rfl ?_
      refine V_goto 98 82 C dX4_showShelf_98 (by decide) ?_
      refine V_sub [1, 2, 3, 4, 0] rfl ?_
      exact ih _ _ h
set_option maxHeartbeats 4000000 in
theorem vX4_showShelf_104 {G : GG} {κ : KK} {F : Nat} {b : Nat} (hb : lay b = 8) {p0 : Nat} (hp0 : lay p0 = 1) (C : Cx G κ cX4_showShelf RX4 none 6 rmX4_showShelf) {M' : Mem}  (hQ : HQ G κ (QV G M') 0 0) {q2 : Int32} {kx : Mem → Option Mem} (hk : ∀  (M : Mem), kx  M = some M' → V G κ 6 0 0 M 141 [] []) : ∀ (n : Nat) (v5 : Int32) (M : Mem), fX4_showShelf_104 F b p0 q2 kx n v5 M = some M' → V G κ 6 0 0 M 104 [(0, .ref (gad G b)), (2, .int q2), (3, .ref (gad G (p0 + 1))), (5, .int v5)] [] := by
  intro n
  induction n with
  | zero => intro v5 M h; rw [fX4_showShelf_104] at h; cases h
  | succ n ih =>
    intro v5 M h
    rw [fX4_showShelf_104] at h
    refine V_iload 104 C 3 dX4_showShelf_104 rfl ?_
    refine V_aload_n 106 C 2 dX4_showShelf_106 rfl ?_
    refine V_getN (v := .int (M (p0 + 1) 3)) 107 C dX4_showShelf_107 (ltl (ly1_1 hp0) rfl) (ceR_X9 (ly1_1 hp0)) rfl inX9 3 rfl wk_1_64 rfl rfl ?_
    refine V_icmp_ge 110 141 C dX4_showShelf_110 (by decide) (fun c29 => ?_) (fun c29 => ?_)
    · replace h := ite_t c29 h
      refine V_sub [] rfl ?_
      exact hk  _ h
    · replace h := ite_f c29 h
      refine V_aload_n 113 C 2 dX4_showShelf_113 rfl ?_
      refine V_iload_n 114 C 1 dX4_showShelf_114 rfl ?_
      refine V_iload 115 C 3 dX4_showShelf_115 rfl ?_
      obtain ⟨r32, M30, k31, h⟩ := bindM_some h
      refine V_callI 117 (runVN (k := (p0 + 1)) (rest := []) 117 C (kX9_areConnected (ly1_1 hp0) k31) cf_X9_areConnected wk_6_64 (ltl (ly1_1 hp0) rfl) (ceR_X9 (ly1_1 hp0)) rfl rfl rfl rfl dX4_showShelf_117 rfl rfl (Nat.zero_le _) (Nat.zero_le _)) ?_
      refine V_ifeq_b 120 135 C dX4_showShelf_120 (by decide) (fun c33 => ?_) (fun c33 => ?_)
      · replace h := ite_f c33 h
        obtain ⟨x34, e35, h⟩ := letM_some h
        refine V_iinc 135 C [(5, .int x34), (0, .ref (gad G b)), (2, .int q2), (3, .ref (gad G (p0 + 1)))] 3 x34 dX4_showShelf_135 rfl (by rw [e35]; rfl) rfl rfl ?_
        refine V_goto 138 104 C dX4_showShelf_138 (by decide) ?_
        refine V_sub [1, 2, 3, 0] rfl ?_
        exact ih _ _ h
      · replace h := ite_t c33 h
        refine V_aload_n 123 C 0 dX4_showShelf_123 rfl ?_
        refine V_bipush 124 C dX4_showShelf_124 bp45 ?_
        obtain ⟨M36, k37, h⟩ := bindV_some h
        refine V_callV 126 (runVO (k := b) (rest := []) 126 C (kX4_append hb k37) cf_X4_append wk_2_153 (ltl hb rfl) (ceR_X4 hb) rfl rfl rfl rfl dX4_showShelf_126 rfl rfl (Nat.zero_le _) (Nat.zero_le _)) ?_
        refine V_aload_n 129 C 0 dX4_showShelf_129 rfl ?_
        refine V_iload 130 C 3 dX4_showShelf_130 rfl ?_
        obtain ⟨M38, k39, h⟩ := bindV_some h
        refine V_callV 132 (runVO (k := b) (rest := []) 132 C (kX4_appendNumber hb k39) cf_X4_appendNumber wk_2_158 (ltl hb rfl) (ceR_X4 hb) rfl rfl rfl rfl dX4_showShelf_132 rfl rfl (Nat.zero_le _) (Nat.zero_le _)) ?_
        obtain ⟨x40, e41, h⟩ := letM_some h
        refine V_iinc 135 C [(5, .int x40), (0, .ref (gad G b)), (2, .int q2), (3, .ref (gad G (p0 + 1)))] 3 x40 dX4_showShelf_135 rfl (by rw [e41]; rfl) rfl rfl ?_
        refine V_goto 138 104 C dX4_showShelf_138 (by decide) ?_
        refine V_sub [1, 2, 3, 0] rfl ?_
        exact ih _ _ h
set_option maxHeartbeats 4000000 in
theorem kX4_showShelf {G : GG} {l : Launch} {F : Nat} {b : Nat} (hb : lay b = 8) {p0 : Nat} (hp0 : lay p0 = 1) {p1 : Int32} {M M' : Mem}  (h : fX4_showShelf F b p0 p1 M = some M') : Con G l yX4_showShelf cX4_showShelf 6 none rmX4_showShelf [.ref (gad G b), .ref (gad G p0), .int p1] M (QV G M') := by
  refine con_of pnX4 (Nat.le_of_ble_eq_true rfl) (fun κ C hQ => ?_)
  unfold fX4_showShelf at h
  refine V_L (L1 := [(0, .ref (gad G b)), (1, .ref (gad G p0)), (2, .int p1)]) rfl ?_
  refine V_aload_n 0 C 1 dX4_showShelf_0 rfl ?_
  refine V_getN (v := .ref (gad G (p0 + 1))) 1 C dX4_showShelf_1 (ltl hp0 rfl) (ceR_X3 hp0) rfl inX3 0 rfl wk_1_140 rfl rfl ?_
  refine V_astore_n 4 C [(3, .ref (gad G (p0 + 1))), (0, .ref (gad G b)), (1, .ref (gad G p0)), (2, .int p1)] dX4_showShelf_4 rfl rfl rfl ?_
  refine V_aload_n 5 C 1 dX4_showShelf_5 rfl ?_
  refine V_iconst 6 C dX4_showShelf_6 ic0 ?_
  obtain ⟨M1, e2, h⟩ := letM_some h
  refine V_put (ty := .int) (F := F_X4 G b) 7 C dX4_showShelf_7 (ltl hb rfl) (fun _ => ceR_X4 hb) rfl inX4 tyX4 tyX4_ok nmX4 1 rfl wk_2_20 rfl rfl 0 rfl rfl rfl rfl rfl ?_
  refine V_eqM e2 ?_
  refine V_aload_n 10 C 1 dX4_showShelf_10 rfl ?_
  refine V_iload_n 11 C 3 dX4_showShelf_11 rfl ?_
  obtain ⟨M3, k4, h⟩ := bindV_some h
  refine V_callV 12 (runVO (k := b) (rest := []) 12 C (kX4_appendNumber hb k4) cf_X4_appendNumber wk_2_158 (ltl hb rfl) (ceR_X4 hb) rfl rfl rfl rfl dX4_showShelf_12 rfl rfl (Nat.zero_le _) (Nat.zero_le _)) ?_
  refine V_aload_n 15 C 1 dX4_showShelf_15 rfl ?_
  refine V_bipush 16 C dX4_showShelf_16 bp58 ?_
  obtain ⟨M5, k6, h⟩ := bindV_some h
  refine V_callV 18 (runVO (k := b) (rest := []) 18 C (kX4_append hb k6) cf_X4_append wk_2_153 (ltl hb rfl) (ceR_X4 hb) rfl rfl rfl rfl dX4_showShelf_18 rfl rfl (Nat.zero_le _) (Nat.zero_le _)) ?_
  refine V_aload_n 21 C 1 dX4_showShelf_21 rfl ?_
  refine V_aload_n 22 C 0 dX4_showShelf_22 rfl ?_
  refine V_getN (v := .ref (gad G (p0 + 2))) 23 C dX4_showShelf_23 (ltl (ly1_1 hp0) rfl) (ceR_X9 (ly1_1 hp0)) rfl inX9 0 rfl wk_1_53 rfl rfl ?_
  refine V_iload_n 26 C 3 dX4_showShelf_26 rfl ?_
  obtain ⟨r9, M7, k8, h⟩ := bindM_some h
  refine V_callI 27 (runSN (rest := [.ref (gad G b)]) 27 C (kX11_at (akI_20 (ly1_2 hp0)) k8) cf_X11_at wk_2_157 rfl rfl dX4_showShelf_27 rfl rfl (Nat.zero_le _) (Nat.zero_le _)) ?_
  obtain ⟨M10, k11, h⟩ := bindV_some h
  refine V_callV 30 (runVO (k := b) (rest := []) 30 C (kX4_appendNumber hb k11) cf_X4_appendNumber wk_2_158 (ltl hb rfl) (ceR_X4 hb) rfl rfl rfl rfl dX4_showShelf_30 rfl rfl (Nat.zero_le _) (Nat.zero_le _)) ?_
  refine V_aload_n 33 C 1 dX4_showShelf_33 rfl ?_
  refine V_aload_n 34 C 0 dX4_showShelf_34 rfl ?_
  refine V_getN (v := .int (M10 (p0 + 1) 2)) 35 C dX4_showShelf_35 (ltl (ly1_1 hp0) rfl) (ceR_X9 (ly1_1 hp0)) rfl inX9 2 rfl wk_1_59 rfl rfl ?_
  refine V_iload_n 38 C 3 dX4_showShelf_38 rfl ?_
  obtain ⟨r14, M12, k13, h⟩ := bindM_some h
  refine V_callI 39 (runSN (rest := [.ref (gad G b)]) 39 C (kX11_holds  k13) cf_X11_holds wk_6_62 rfl rfl dX4_showShelf_39 rfl rfl (Nat.zero_le _) (Nat.zero_le _)) ?_
  refine V_bipush 42 C dX4_showShelf_42 bp98 ?_
  obtain ⟨M15, k16, h⟩ := bindV_some h
  refine V_callV 44 (runVO (k := b) (rest := []) 44 C (kX4_appendIf hb k16) cf_X4_appendIf wk_2_149 (ltl hb rfl) (ceR_X4 hb) rfl rfl rfl rfl dX4_showShelf_44 rfl rfl (Nat.zero_le _) (Nat.zero_le _)) ?_
  refine V_aload_n 47 C 1 dX4_showShelf_47 rfl ?_
  refine V_aload_n 48 C 2 dX4_showShelf_48 rfl ?_
  refine V_getN (v := .ref (gad G (p0 + 4))) 49 C dX4_showShelf_49 (ltl hp0 rfl) (ceR_X3 hp0) rfl inX3 1 rfl wk_1_143 rfl rfl ?_
  refine V_getN (v := .int (M15 (p0 + 4) 2)) 52 C dX4_showShelf_52 (ltl (ly1_4 hp0) rfl) (ceR_X6 (ly1_4 hp0)) rfl inX6 2 rfl wk_1_97 rfl rfl ?_
  refine V_iload_n 55 C 3 dX4_showShelf_55 rfl ?_
  refine V_icmp_ne 56 63 C dX4_showShelf_56 (by decide) (fun c17 => ?_) (fun c17 => ?_)
  · replace h := ite_f c17 h
    refine V_iconst 63 C dX4_showShelf_63 ic0 ?_
    refine V_bipush 64 C dX4_showShelf_64 bp67 ?_
    obtain ⟨M18, k19, h⟩ := bindV_some h
    refine V_callV 66 (runVO (k := b) (rest := []) 66 C (kX4_appendIf hb k19) cf_X4_appendIf wk_2_149 (ltl hb rfl) (ceR_X4 hb) rfl rfl rfl rfl dX4_showShelf_66 rfl rfl (Nat.zero_le _) (Nat.zero_le _)) ?_
    refine V_aload_n 69 C 2 dX4_showShelf_69 rfl ?_
    refine V_getN (v := .ref (gad G (p0 + 6))) 70 C dX4_showShelf_70 (ltl hp0 rfl) (ceR_X3 hp0) rfl inX3 2 rfl wk_1_146 rfl rfl ?_
    refine V_iload_n 73 C 3 dX4_showShelf_73 rfl ?_
    obtain ⟨r22, M20, k21, h⟩ := bindM_some h
    refine V_callI 74 (runVN (k := (p0 + 6)) (rest := []) 74 C (kX5_countOn (ly1_6 hp0) k21) cf_X5_countOn wk_6_63 (ltl (ly1_6 hp0) rfl) (ceR_X5 (ly1_6 hp0)) rfl rfl rfl rfl dX4_showShelf_74 rfl rfl (Nat.zero_le _) (Nat.zero_le _)) ?_
    refine V_istore 77 C [(4, .int r22), (3, .ref (gad G (p0 + 1))), (0, .ref (gad G b)), (1, .ref (gad G p0)), (2, .int p1)] dX4_showShelf_77 rfl rfl ?_
    refine V_iconst 79 C dX4_showShelf_79 ic0 ?_
    refine V_istore 80 C [(5, .int 0), (4, .int r22), (3, .ref (gad G (p0 + 1))), (0, .ref (gad G b)), (1, .ref (gad G p0)), (2, .int p1)] dX4_showShelf_80 rfl rfl ?_
    refine V_sub [3, 5, 2, 1, 0] rfl ?_
    refine vX4_showShelf_82 hb hp0 C hQ ?_ _ _ _ h
    intro M28 h
    refine V_iconst 101 C dX4_showShelf_101 ic0 ?_
    refine V_istore 102 C [(5, .int 0), (0, .ref (gad G b)), (2, .int p1), (3, .ref (gad G (p0 + 1)))] dX4_showShelf_102 rfl rfl ?_
    refine V_sub [1, 2, 3, 0] rfl ?_
    refine vX4_showShelf_104 hb hp0 C hQ ?_ _ _ _ h
    intro M42 h
    exact V_vreth 141 C hQ h dX4_showShelf_141
  · replace h := ite_t c17 h
    refine V_iconst 59 C dX4_showShelf_59 ic1 ?_
    refine V_goto 60 64 C dX4_showShelf_60 (by decide) ?_
    refine V_bipush 64 C dX4_showShelf_64 bp67 ?_
    obtain ⟨M43, k44, h⟩ := bindV_some h
    refine V_callV 66 (runVO (k := b) (rest := []) 66 C (kX4_appendIf hb k44) cf_X4_appendIf wk_2_149 (ltl hb rfl) (ceR_X4 hb) rfl rfl rfl rfl dX4_showShelf_66 rfl rfl (Nat.zero_le _) (Nat.zero_le _)) ?_
    refine V_aload_n 69 C 2 dX4_showShelf_69 rfl ?_
    refine V_getN (v := .ref (gad G (p0 + 6))) 70 C dX4_showShelf_70 (ltl hp0 rfl) (ceR_X3 hp0) rfl inX3 2 rfl wk_1_146 rfl rfl ?_
    refine V_iload_n 73 C 3 dX4_showShelf_73 rfl ?_
    obtain ⟨r47, M45, k46, h⟩ := bindM_some h
    refine V_callI 74 (runVN (k := (p0 + 6)) (rest := []) 74 C (kX5_countOn (ly1_6 hp0) k46) cf_X5_countOn wk_6_63 (ltl (ly1_6 hp0) rfl) (ceR_X5 (ly1_6 hp0)) rfl rfl rfl rfl dX4_showShelf_74 rfl rfl (Nat.zero_le _) (Nat.zero_le _)) ?_
    refine V_istore 77 C [(4, .int r47), (3, .ref (gad G (p0 + 1))), (0, .ref (gad G b)), (1, .ref (gad G p0)), (2, .int p1)] dX4_showShelf_77 rfl rfl ?_
    refine V_iconst 79 C dX4_showShelf_79 ic0 ?_
    refine V_istore 80 C [(5, .int 0), (4, .int r47), (3, .ref (gad G (p0 + 1))), (0, .ref (gad G b)), (1, .ref (gad G p0)), (2, .int p1)] dX4_showShelf_80 rfl rfl ?_
    refine V_sub [3, 5, 2, 1, 0] rfl ?_
    refine vX4_showShelf_82 hb hp0 C hQ ?_ _ _ _ h
    intro M48 h
    refine V_iconst 101 C dX4_showShelf_101 ic0 ?_
    refine V_istore 102 C [(5, .int 0), (0, .ref (gad G b)), (2, .int p1), (3, .ref (gad G (p0 + 1)))] dX4_showShelf_102 rfl rfl ?_
    refine V_sub [1, 2, 3, 0] rfl ?_
    refine vX4_showShelf_104 hb hp0 C hQ ?_ _ _ _ h
    intro M49 h
    exact V_vreth 141 C hQ h dX4_showShelf_141
set_option maxHeartbeats 4000000 in
theorem vX4_showStops_7 {G : GG} {κ : KK} {F : Nat} {b : Nat} (hb : lay b = 8) {p0 : Nat} (hp0 : lay p0 = 3) (C : Cx G κ cX4_showStops RX4 none 3 rmX4_showStops) {M' : Mem}  (hQ : HQ G κ (QV G M') 0 0)  {kx : Mem → Option Mem} (hk : ∀  (M : Mem), kx  M = some M' → V G κ 3 0 0 M 67 [] []) : ∀ (n : Nat) (v2 : Int32) (M : Mem), fX4_showStops_7 F b p0 kx n v2 M = some M' → V G κ 3 0 0 M 7 [(0, .ref (gad G b)), (1, .ref (gad G p0)), (2, .int v2)] [] := by
  intro n
  induction n with
  | zero => intro v2 M h; rw [fX4_showStops_7] at h; cases h
  | succ n ih =>
    intro v2 M h
    rw [fX4_showStops_7] at h
    refine V_iload_n 7 C 2 dX4_showStops_7 rfl ?_
    refine V_aload_n 8 C 1 dX4_showStops_8 rfl ?_
    refine V_getN (v := .int (M p0 1)) 9 C dX4_showStops_9 (ltl hp0 rfl) (ceR_X6 hp0) rfl inX6 1 rfl wk_1_93 rfl rfl ?_
    refine V_icmp_ge 12 67 C dX4_showStops_12 (by decide) (fun c3 => ?_) (fun c3 => ?_)
    · replace h := ite_t c3 h
      refine V_sub [] rfl ?_
      exact hk  _ h
    · replace h := ite_f c3 h
      refine V_aload_n 15 C 0 dX4_showStops_15 rfl ?_
      refine V_iload_n 16 C 2 dX4_showStops_16 rfl ?_
      refine V_if_le 17 24 C dX4_showStops_17 (by decide) (fun c4 => ?_) (fun c4 => ?_)
      · replace h := ite_t c4 h
        refine V_iconst 24 C dX4_showStops_24 ic0 ?_
        refine V_bipush 25 C dX4_showStops_25 bp32 ?_
        obtain ⟨M5, k6, h⟩ := bindV_some h
        refine V_callV 27 (runVO (k := b) (rest := []) 27 C (kX4_appendIf hb k6) cf_X4_appendIf wk_2_149 (ltl hb rfl) (ceR_X4 hb) rfl rfl rfl rfl dX4_showStops_27 rfl rfl (Nat.zero_le _) (Nat.zero_le _)) ?_
        refine V_aload_n 30 C 0 dX4_showStops_30 rfl ?_
        refine V_aload_n 31 C 1 dX4_showStops_31 rfl ?_
        refine V_getN (v := .ref (gad G (p0 + 1))) 32 C dX4_showStops_32 (ltl hp0 rfl) (ceR_X6 hp0) rfl inX6 0 rfl wk_1_89 rfl rfl ?_
        refine V_iload_n 35 C 2 dX4_showStops_35 rfl ?_
        obtain ⟨r9, M7, k8, h⟩ := bindM_some h
        refine V_callI 36 (runSN (rest := [.ref (gad G b)]) 36 C (kX11_at (akI_21 (ly3_1 hp0)) k8) cf_X11_at wk_2_157 rfl rfl dX4_showStops_36 rfl rfl (Nat.zero_le _) (Nat.zero_le _)) ?_
        obtain ⟨M10, k11, h⟩ := bindV_some h
        refine V_callV 39 (runVO (k := b) (rest := []) 39 C (kX4_appendNumber hb k11) cf_X4_appendNumber wk_2_158 (ltl hb rfl) (ceR_X4 hb) rfl rfl rfl rfl dX4_showStops_39 rfl rfl (Nat.zero_le _) (Nat.zero_le _)) ?_
        refine V_aload_n 42 C 0 dX4_showStops_42 rfl ?_
        refine V_iload_n 43 C 2 dX4_showStops_43 rfl ?_
        refine V_aload_n 44 C 1 dX4_showStops_44 rfl ?_
        refine V_getN (v := .int (M10 p0 3)) 45 C dX4_showStops_45 (ltl hp0 rfl) (ceR_X6 hp0) rfl inX6 3 rfl wk_1_101 rfl rfl ?_
        refine V_icmp_ne 48 55 C dX4_showStops_48 (by decide) (fun c12 => ?_) (fun c12 => ?_)
        · replace h := ite_f c12 h
          refine V_iconst 55 C dX4_showStops_55 ic0 ?_
          refine V_bipush 56 C dX4_showStops_56 bp42 ?_
          obtain ⟨M13, k14, h⟩ := bindV_some h
          refine V_callV 58 (runVO (k := b) (rest := []) 58 C (kX4_appendIf hb k14) cf_X4_appendIf wk_2_149 (ltl hb rfl) (ceR_X4 hb) rfl rfl rfl rfl dX4_showStops_58 rfl rfl (Nat.zero_le _) (Nat.zero_le _)) ?_
          obtain ⟨x15, e16, h⟩ := letM_some h
          refine V_iinc 61 C [(2, .int x15), (0, .ref (gad G b)), (1, .ref (gad G p0))] 2 x15 dX4_showStops_61 rfl (by rw [e16]; rfl) rfl rfl ?_
          refine V_goto 64 7 C dX4_showStops_64 (by decide) ?_
          refine V_sub [1, 2, 0] rfl ?_
          exact ih _ _ h
        · replace h := ite_t c12 h
          refine V_iconst 51 C dX4_showStops_51 ic1 ?_
          refine V_goto 52 56 C dX4_showStops_52 (by decide) ?_
          refine V_bipush 56 C dX4_showStops_56 bp42 ?_
          obtain ⟨M17, k18, h⟩ := bindV_some h
          refine V_callV 58 (runVO (k := b) (rest := []) 58 C (kX4_appendIf hb k18) cf_X4_appendIf wk_2_149 (ltl hb rfl) (ceR_X4 hb) rfl rfl rfl rfl dX4_showStops_58 rfl rfl (Nat.zero_le _) (Nat.zero_le _)) ?_
          obtain ⟨x19, e20, h⟩ := letM_some h
          refine V_iinc 61 C [(2, .int x19), (0, .ref (gad G b)), (1, .ref (gad G p0))] 2 x19 dX4_showStops_61 rfl (by rw [e20]; rfl) rfl rfl ?_
          refine V_goto 64 7 C dX4_showStops_64 (by decide) ?_
          refine V_sub [1, 2, 0] rfl ?_
          exact ih _ _ h
      · replace h := ite_f c4 h
        refine V_iconst 20 C dX4_showStops_20 ic1 ?_
        refine V_goto 21 25 C dX4_showStops_21 (by decide) ?_
        refine V_bipush 25 C dX4_showStops_25 bp32 ?_
        obtain ⟨M21, k22, h⟩ := bindV_some h
        refine V_callV 27 (runVO (k := b) (rest := []) 27 C (kX4_appendIf hb k22) cf_X4_appendIf wk_2_149 (ltl hb rfl) (ceR_X4 hb) rfl rfl rfl rfl dX4_showStops_27 rfl rfl (Nat.zero_le _) (Nat.zero_le _)) ?_
        refine V_aload_n 30 C 0 dX4_showStops_30 rfl ?_
        refine V_aload_n 31 C 1 dX4_showStops_31 rfl ?_
        refine V_getN (v := .ref (gad G (p0 + 1))) 32 C dX4_showStops_32 (ltl hp0 rfl) (ceR_X6 hp0) rfl inX6 0 rfl wk_1_89 rfl rfl ?_
        refine V_iload_n 35 C 2 dX4_showStops_35 rfl ?_
        obtain ⟨r25, M23, k24, h⟩ := bindM_some h
        refine V_callI 36 (runSN (rest := [.ref (gad G b)]) 36 C (kX11_at (akI_21 (ly3_1 hp0)) k24) cf_X11_at wk_2_157 rfl rfl dX4_showStops_36 rfl rfl (Nat.zero_le _) (Nat.zero_le _)) ?_
        obtain ⟨M26, k27, h⟩ := bindV_some h
        refine V_callV 39 (runVO (k := b) (rest := []) 39 C (kX4_appendNumber hb k27) cf_X4_appendNumber wk_2_158 (ltl hb rfl) (ceR_X4 hb) rfl rfl rfl rfl dX4_showStops_39 rfl rfl (Nat.zero_le _) (Nat.zero_le _)) ?_
        refine V_aload_n 42 C 0 dX4_showStops_42 rfl ?_
        refine V_iload_n 43 C 2 dX4_showStops_43 rfl ?_
        refine V_aload_n 44 C 1 dX4_showStops_44 rfl ?_
        refine V_getN (v := .int (M26 p0 3)) 45 C dX4_showStops_45 (ltl hp0 rfl) (ceR_X6 hp0) rfl inX6 3 rfl wk_1_101 rfl rfl ?_
        refine V_icmp_ne 48 55 C dX4_showStops_48 (by decide) (fun c28 => ?_) (fun c28 => ?_)
        · replace h := ite_f c28 h
          refine V_iconst 55 C dX4_showStops_55 ic0 ?_
          refine V_bipush 56 C dX4_showStops_56 bp42 ?_
          obtain ⟨M29, k30, h⟩ := bindV_some h
          refine V_callV 58 (runVO (k := b) (rest := []) 58 C (kX4_appendIf hb k30) cf_X4_appendIf wk_2_149 (ltl hb rfl) (ceR_X4 hb) rfl rfl rfl rfl dX4_showStops_58 rfl rfl (Nat.zero_le _) (Nat.zero_le _)) ?_
          obtain ⟨x31, e32, h⟩ := letM_some h
          refine V_iinc 61 C [(2, .int x31), (0, .ref (gad G b)), (1, .ref (gad G p0))] 2 x31 dX4_showStops_61 rfl (by rw [e32]; rfl) rfl rfl ?_
          refine V_goto 64 7 C dX4_showStops_64 (by decide) ?_
          refine V_sub [1, 2, 0] rfl ?_
          exact ih _ _ h
        · replace h := ite_t c28 h
          refine V_iconst 51 C dX4_showStops_51 ic1 ?_
          refine V_goto 52 56 C dX4_showStops_52 (by decide) ?_
          refine V_bipush 56 C dX4_showStops_56 bp42 ?_
          obtain ⟨M33, k34, h⟩ := bindV_some h
          refine V_callV 58 (runVO (k := b) (rest := []) 58 C (kX4_appendIf hb k34) cf_X4_appendIf wk_2_149 (ltl hb rfl) (ceR_X4 hb) rfl rfl rfl rfl dX4_showStops_58 rfl rfl (Nat.zero_le _) (Nat.zero_le _)) ?_
          obtain ⟨x35, e36, h⟩ := letM_some h
          refine V_iinc 61 C [(2, .int x35), (0, .ref (gad G b)), (1, .ref (gad G p0))] 2 x35 dX4_showStops_61 rfl (by rw [e36]; rfl) rfl rfl ?_
          refine V_goto 64 7 C dX4_showStops_64 (by decide) ?_
          refine V_sub [1, 2, 0] rfl ?_
          exact ih _ _ h
set_option maxHeartbeats 4000000 in
theorem kX4_showStops {G : GG} {l : Launch} {F : Nat} {b : Nat} (hb : lay b = 8) {p0 : Nat} (hp0 : lay p0 = 3)  {M M' : Mem}  (h : fX4_showStops F b p0 M = some M') : Con G l yX4_showStops cX4_showStops 3 none rmX4_showStops [.ref (gad G b), .ref (gad G p0)] M (QV G M') := by
  refine con_of pnX4 (Nat.le_of_ble_eq_true rfl) (fun κ C hQ => ?_)
  unfold fX4_showStops at h
  refine V_L (L1 := [(0, .ref (gad G b)), (1, .ref (gad G p0))]) rfl ?_
  refine V_aload_n 0 C 0 dX4_showStops_0 rfl ?_
  refine V_iconst 1 C dX4_showStops_1 ic0 ?_
  obtain ⟨M1, e2, h⟩ := letM_some h
  refine V_put (ty := .int) (F := F_X4 G b) 2 C dX4_showStops_2 (ltl hb rfl) (fun _ => ceR_X4 hb) rfl inX4 tyX4 tyX4_ok nmX4 1 rfl wk_2_20 rfl rfl 0 rfl rfl rfl rfl rfl ?_
  refine V_eqM e2 ?_
  refine V_iconst 5 C dX4_showStops_5 ic0 ?_
  refine V_istore_n 6 C [(2, .int 0), (0, .ref (gad G b)), (1, .ref (gad G p0))] dX4_showStops_6 rfl rfl rfl ?_
  refine V_sub [1, 2, 0] rfl ?_
  refine vX4_showStops_7 hb hp0 C hQ ?_ _ _ _ h
  intro M37 h
  exact V_vreth 67 C hQ h dX4_showStops_67
set_option maxHeartbeats 4000000 in
theorem kX11_writePatrol {G : GG} {l : Launch} {F : Nat}   {M M' : Mem} {r : Int32} (h : fX11_writePatrol F  M = some (r, M')) : Con G l yX11_writePatrol cX11_writePatrol 1 (some .int) rmX11_writePatrol [.ref (gad G 0)] M (QI G r M') := by
  refine con_of pnX11 (Nat.le_of_ble_eq_true rfl) (fun κ C hQ => ?_)
  unfold fX11_writePatrol at h
  refine V_L (L1 := [(0, .ref (gad G 0))]) rfl ?_
  refine V_aload_n 0 C 0 dX11_writePatrol_0 rfl ?_
  refine V_get (v := .ref (gad G 117)) 1 C dX11_writePatrol_1 (ltl (by rfl) rfl) (ceR_X11 (by rfl)) rfl inX11 7 rfl wk_2_34 rfl rfl ?_
  refine V_aload_n 4 C 0 dX11_writePatrol_4 rfl ?_
  refine V_get (v := .ref (gad G 1)) 5 C dX11_writePatrol_5 (ltl (by rfl) rfl) (ceR_X11 (by rfl)) rfl inX11 0 rfl wk_2_27 rfl rfl ?_
  refine V_getN (v := .ref (gad G 5)) 8 C dX11_writePatrol_8 (ltl (by rfl) rfl) (ceR_X3 (by rfl)) rfl inX3 1 rfl wk_1_144 rfl rfl ?_
  obtain ⟨M1, k2, h⟩ := bindV_some h
  refine V_callV 11 (runVN (k := 117) (rest := []) 11 C (kX4_showStops (by rfl) (by rfl) k2) cf_X4_showStops wk_2_145 (ltl (by rfl) rfl) (ceR_X4 (by rfl)) rfl rfl rfl rfl dX11_writePatrol_11 rfl rfl (Nat.zero_le _) (Nat.zero_le _)) ?_
  refine V_aload_n 14 C 0 dX11_writePatrol_14 rfl ?_
  refine V_get (v := .ref (gad G 117)) 15 C dX11_writePatrol_15 (ltl (by rfl) rfl) (ceR_X11 (by rfl)) rfl inX11 7 rfl wk_2_34 rfl rfl ?_
  refine V_getN (v := .int (M1 117 1)) 18 C dX11_writePatrol_18 (ltl (by rfl) rfl) (ceR_X4 (by rfl)) rfl inX4 1 rfl wk_2_21 rfl rfl ?_
  exact V_ireth 21 C hQ h dX11_writePatrol_21
set_option maxHeartbeats 4000000 in
theorem kX2_pop {G : GG} {l : Launch} {F : Nat} {b : Nat} (hb : lay b = 5) {p0 : Nat} (hp0 : lay p0 = 1)  {M M' : Mem}  (h : fX2_pop F b p0 M = some M') : Con G l yX2_pop cX2_pop 3 none rmX2_pop [.ref (gad G b), .ref (gad G p0)] M (QV G M') := by
  refine con_of pnX2 (Nat.le_of_ble_eq_true rfl) (fun κ C hQ => ?_)
  unfold fX2_pop at h
  refine V_L (L1 := [(0, .ref (gad G b)), (1, .ref (gad G p0))]) rfl ?_
  refine V_aload_n 0 C 0 dX2_pop_0 rfl ?_
  refine V_dup 1 C dX2_pop_1 rfl ?_
  refine V_get (v := .int (M b 2)) 2 C dX2_pop_2 (ltl hb rfl) (ceR_X2 hb) rfl inX2 2 rfl wk_1_197 rfl rfl ?_
  refine V_iconst 5 C dX2_pop_5 ic1 ?_
  refine V_isub 6 C dX2_pop_6 ?_
  obtain ⟨M1, e2, h⟩ := letM_some h
  refine V_put (ty := .int) (F := F_X2 G b) 7 C dX2_pop_7 (ltl hb rfl) (fun _ => ceR_X2 hb) rfl inX2 tyX2 tyX2_ok nmX2 2 rfl wk_1_197 rfl rfl ((M b 2) - 1) rfl rfl rfl rfl rfl ?_
  refine V_eqM e2 ?_
  refine V_aload_n 10 C 0 dX2_pop_10 rfl ?_
  refine V_aload_n 11 C 0 dX2_pop_11 rfl ?_
  refine V_get (v := .int (M1 b 2)) 12 C dX2_pop_12 (ltl hb rfl) (ceR_X2 hb) rfl inX2 2 rfl wk_1_197 rfl rfl ?_
  obtain ⟨r5, M3, k4, h⟩ := bindM_some h
  refine V_callQ 15 (runVO (k := b) (rest := []) 15 C (kX2_earlierAt hb k4) cf_X2_earlierAt wk_3_171 (ltl hb rfl) (ceR_X2 hb) rfl rfl rfl rfl dX2_pop_15 rfl rfl (Nat.zero_le _) (Nat.zero_le _)) ?_
  refine V_astoreQ_n 18 C [(2, va_rf ((r5).map (gad G))), (0, .ref (gad G b)), (1, .ref (gad G p0))] dX2_pop_18 rfl rfl rfl ?_
  refine V_aloadQ_n 19 C 0 dX2_pop_19 rfl ?_
  cases hq : r5 with
  | none =>
    rw [hq] at h
    try dsimp only at h
    refine V_ifnullN 20 28 C dX2_pop_20 (by decide) ?_
    exact V_vreth 28 C hQ h dX2_pop_28
  | some q6 =>
    rw [hq] at h
    try dsimp only at h
    obtain ⟨g9, h⟩ := chk_some h
    have hq6 : lay q6 = 1 := of_decide_eq_true g9
    refine V_ifnullS 20 28 C dX2_pop_20 (by decide) ?_
    refine V_aload_n 23 C 2 dX2_pop_23 rfl ?_
    refine V_aload_n 24 C 0 dX2_pop_24 rfl ?_
    obtain ⟨M7, k8, h⟩ := bindV_some h
    refine V_callV 25 (runVN (k := p0) (rest := []) 25 C (kX3_copyFrom hp0 hq6 k8) cf_X3_copyFrom wk_3_175 (ltl hp0 rfl) (ceR_X3 hp0) rfl rfl rfl rfl dX2_pop_25 rfl rfl (Nat.zero_le _) (Nat.zero_le _)) ?_
    exact V_vreth 28 C hQ h dX2_pop_28
set_option maxHeartbeats 4000000 in
theorem kX11_undoCount {G : GG} {l : Launch} {F : Nat}   {M M' : Mem} {r : Int32} (h : fX11_undoCount F  M = some (r, M')) : Con G l yX11_undoCount cX11_undoCount 1 (some .int) rmX11_undoCount [.ref (gad G 0)] M (QI G r M') := by
  refine con_of pnX11 (Nat.le_of_ble_eq_true rfl) (fun κ C hQ => ?_)
  unfold fX11_undoCount at h
  refine V_L (L1 := [(0, .ref (gad G 0))]) rfl ?_
  refine V_aload_n 0 C 0 dX11_undoCount_0 rfl ?_
  refine V_get (v := .ref (gad G 31)) 1 C dX11_undoCount_1 (ltl (by rfl) rfl) (ceR_X11 (by rfl)) rfl inX11 4 rfl wk_2_31 rfl rfl ?_
  refine V_getN (v := .int (M 31 2)) 4 C dX11_undoCount_4 (ltl (by rfl) rfl) (ceR_X2 (by rfl)) rfl inX2 2 rfl wk_1_198 rfl rfl ?_
  exact V_ireth 7 C hQ h dX11_undoCount_7
set_option maxHeartbeats 4000000 in
theorem kX11_saveSnapshot {G : GG} {l : Launch} {F : Nat}   {M M' : Mem} {r : Int32} (h : fX11_saveSnapshot F  M = some (r, M')) : Con G l yX11_saveSnapshot cX11_saveSnapshot 1 (some .int) rmX11_saveSnapshot [.ref (gad G 0)] M (QI G r M') := by
  refine con_of pnX11 (Nat.le_of_ble_eq_true rfl) (fun κ C hQ => ?_)
  unfold fX11_saveSnapshot at h
  refine V_L (L1 := [(0, .ref (gad G 0))]) rfl ?_
  refine V_aload_n 0 C 0 dX11_saveSnapshot_0 rfl ?_
  refine V_get (v := .ref (gad G 21)) 1 C dX11_saveSnapshot_1 (ltl (by rfl) rfl) (ceR_X11 (by rfl)) rfl inX11 2 rfl wk_2_29 rfl rfl ?_
  refine V_aload_n 4 C 0 dX11_saveSnapshot_4 rfl ?_
  refine V_get (v := .ref (gad G 1)) 5 C dX11_saveSnapshot_5 (ltl (by rfl) rfl) (ceR_X11 (by rfl)) rfl inX11 0 rfl wk_2_27 rfl rfl ?_
  obtain ⟨M1, k2, h⟩ := bindV_some h
  refine V_callV 8 (runVN (k := 21) (rest := []) 8 C (kX3_copyFrom (by rfl) (by rfl) k2) cf_X3_copyFrom wk_2_170 (ltl (by rfl) rfl) (ceR_X3 (by rfl)) rfl rfl rfl rfl dX11_saveSnapshot_8 rfl rfl (Nat.zero_le _) (Nat.zero_le _)) ?_
  refine V_aload_n 11 C 0 dX11_saveSnapshot_11 rfl ?_
  refine V_iconst 12 C dX11_saveSnapshot_12 ic1 ?_
  obtain ⟨M3, e4, h⟩ := letM_some h
  refine V_put (ty := .boolean) (F := F_X11 G 0) 13 C dX11_saveSnapshot_13 (ltl (by rfl) rfl) (fun _ => ceR_X11 (by rfl)) rfl inX11 tyX11 tyX11_ok nmX11 3 rfl wk_2_30 rfl rfl 1 rfl rfl rfl rfl rfl ?_
  refine V_eqM e4 ?_
  refine V_aload_n 16 C 0 dX11_saveSnapshot_16 rfl ?_
  refine V_get (v := .ref (gad G 1)) 17 C dX11_saveSnapshot_17 (ltl (by rfl) rfl) (ceR_X11 (by rfl)) rfl inX11 0 rfl wk_2_27 rfl rfl ?_
  refine V_getN (v := .ref (gad G 2)) 20 C dX11_saveSnapshot_20 (ltl (by rfl) rfl) (ceR_X3 (by rfl)) rfl inX3 0 rfl wk_1_141 rfl rfl ?_
  refine V_getN (v := .int (M3 2 3)) 23 C dX11_saveSnapshot_23 (ltl (by rfl) rfl) (ceR_X9 (by rfl)) rfl inX9 3 rfl wk_1_66 rfl rfl ?_
  exact V_ireth 26 C hQ h dX11_saveSnapshot_26
set_option maxHeartbeats 4000000 in
theorem kX2_clear {G : GG} {l : Launch} {F : Nat} {b : Nat} (hb : lay b = 5)  {M M' : Mem}  (h : fX2_clear F b M = some M') : Con G l yX2_clear cX2_clear 1 none rmX2_clear [.ref (gad G b)] M (QV G M') := by
  refine con_of pnX2 (Nat.le_of_ble_eq_true rfl) (fun κ C hQ => ?_)
  unfold fX2_clear at h
  refine V_L (L1 := [(0, .ref (gad G b))]) rfl ?_
  refine V_aload_n 0 C 0 dX2_clear_0 rfl ?_
  refine V_iconst 1 C dX2_clear_1 ic0 ?_
  obtain ⟨M1, e2, h⟩ := letM_some h
  refine V_put (ty := .int) (F := F_X2 G b) 2 C dX2_clear_2 (ltl hb rfl) (fun _ => ceR_X2 hb) rfl inX2 tyX2 tyX2_ok nmX2 1 rfl wk_1_196 rfl rfl 0 rfl rfl rfl rfl rfl ?_
  refine V_eqM e2 ?_
  refine V_aload_n 5 C 0 dX2_clear_5 rfl ?_
  refine V_iconst 6 C dX2_clear_6 ic0 ?_
  obtain ⟨M3, e4, h⟩ := letM_some h
  refine V_put (ty := .int) (F := F_X2 G b) 7 C dX2_clear_7 (ltl hb rfl) (fun _ => ceR_X2 hb) rfl inX2 tyX2 tyX2_ok nmX2 2 rfl wk_1_197 rfl rfl 0 rfl rfl rfl rfl rfl ?_
  refine V_eqM e4 ?_
  exact V_vreth 10 C hQ h dX2_clear_10
set_option maxHeartbeats 4000000 in
theorem kX12_thrown {G : GG} {l : Launch} {F : Nat}   {M M' : Mem} {r : Int32} (h : fX12_thrown F  M = some (r, M')) : Con G l yX12_thrown cX12_thrown 1 (some .int) rmX12_thrown [.ref (gad G 119)] M (QI G r M') := by
  refine con_of pnX12 (Nat.le_of_ble_eq_true rfl) (fun κ C hQ => ?_)
  unfold fX12_thrown at h
  refine V_L (L1 := [(0, .ref (gad G 119))]) rfl ?_
  refine V_aload_n 0 C 0 dX12_thrown_0 rfl ?_
  refine V_get (v := .int (M 119 0)) 1 C dX12_thrown_1 (ltl (by rfl) rfl) (ceR_X12 (by rfl)) rfl inX12 0 rfl wk_6_134 rfl rfl ?_
  exact V_ireth 4 C hQ h dX12_thrown_4
set_option maxHeartbeats 4000000 in
theorem kX12_fails {G : GG} {l : Launch} {F : Nat}  {p0 : Int32} {M M' : Mem} {r : Int32} (h : fX12_fails F p0 M = some (r, M')) : Con G l yX12_fails cX12_fails 2 (some .int) rmX12_fails [.ref (gad G 119), .int p0] M (QI G r M') := by
  refine con_of pnX12 (Nat.le_of_ble_eq_true rfl) (fun κ C hQ => ?_)
  unfold fX12_fails at h
  refine V_L (L1 := [(0, .ref (gad G 119)), (1, .int p0)]) rfl ?_
  refine V_aload_n 0 C 0 dX12_fails_0 rfl ?_
  refine V_iload_n 1 C 1 dX12_fails_1 rfl ?_
  obtain ⟨M1, e2, h⟩ := letM_some h
  refine V_put (ty := .int) (F := F_X12 G 119) 2 C dX12_fails_2 (ltl (by rfl) rfl) (fun _ => ceR_X12 (by rfl)) rfl inX12 tyX12 tyX12_ok nmX12 0 rfl wk_6_134 rfl rfl p0 rfl rfl rfl rfl rfl ?_
  refine V_eqM e2 ?_
  refine V_iconst 5 C dX12_fails_5 ic0 ?_
  exact V_ireth 6 C hQ h dX12_fails_6
