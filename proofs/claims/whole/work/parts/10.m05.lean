def rmX12_shelfByCheese : Room := { frames := 1, cells := 0, slots := 0, locals := 21 }
def fX12_shelfByCheese_22 (F : Nat)  (q1 : Int32) (q2 : Int32) (kx : Int32 → Mem → Option (Int32 × Mem)) : Nat → Int32 → Int32 → Mem → Option (Int32 × Mem)
  | 0, _, _, _ => none
  | n + 1, v3, v4, M => if (M 120 0) ≤ v4 then kx v3 M else chk (inb (14 + v4) 216) (chk (inb (14 + q2) 216) (letM ((M 120 (14 + v4).toNatClampNeg) - (M 120 (14 + q2).toNatClampNeg)) (fun x9 => if 0 < x9 then letM (v3 + 1) (fun x12 => letM (v4 + 1) (fun x14 => fX12_shelfByCheese_22 F q1 q2 kx n x12 x14 M)) else if x9 = 0 then if q2 ≤ v4 then letM (v3 + 0) (fun x22 => letM (v4 + 1) (fun x24 => fX12_shelfByCheese_22 F q1 q2 kx n x22 x24 M)) else letM (v3 + 1) (fun x26 => letM (v4 + 1) (fun x28 => fX12_shelfByCheese_22 F q1 q2 kx n x26 x28 M)) else letM (v3 + 0) (fun x17 => letM (v4 + 1) (fun x19 => fX12_shelfByCheese_22 F q1 q2 kx n x17 x19 M)))))
def fX12_shelfByCheese_7 (F : Nat)  (q1 : Int32) (kx : Mem → Option (Int32 × Mem)) : Nat → Int32 → Mem → Option (Int32 × Mem)
  | 0, _, _ => none
  | n + 1, v2, M => if (M 120 0) ≤ v2 then kx  M else fX12_shelfByCheese_22 F q1 v2 (fun w31 M30 => if w31 = q1 then some (v2, M30) else letM (v2 + 1) (fun x33 => fX12_shelfByCheese_7 F q1 kx n x33 M30)) F 0 0 M
def fX12_shelfByCheese (F : Nat) (p0 : Int32) (M : Mem) : Option (Int32 × Mem) := letM (up2 M 119 0 0) (fun M1 => fX12_shelfByCheese_7 F p0 (fun M35 => bindM (fX12_fails F 1 M35) (fun r38 M36 => some (r38, M36))) F 0 M1)
def rmX12_stopCount : Room := { frames := 1, cells := 0, slots := 0, locals := 21 }
def fX12_stopCount (F : Nat)  (M : Mem) : Option (Int32 × Mem) := bindM (fX12_asks F 2 M) (fun r3 M1 => some (r3, M1))
def rmX12_shelfOfStop : Room := { frames := 1, cells := 0, slots := 0, locals := 22 }
def fX12_shelfOfStop (F : Nat) (p0 : Int32) (M : Mem) : Option (Int32 × Mem) := letM (up2 M 119 0 0) (fun M1 => bindM (fX12_isBetween F p0 0 ((M1 120 2) - 1) M1) (fun r6 M4 => if r6 = true then chk (inb (182 + p0) 216) (some ((M4 120 (182 + p0).toNatClampNeg), M4)) else bindM (fX12_fails F 1 M4) (fun r10 M8 => some (r10, M8))))
def rmX12_catShelf : Room := { frames := 1, cells := 0, slots := 0, locals := 21 }
def fX12_catShelf (F : Nat)  (M : Mem) : Option (Int32 × Mem) := letM (up2 M 119 0 0) (fun M1 => if (M1 120 0) = 0 then bindM (fX12_fails F 1 M1) (fun r8 M6 => some (r8, M6)) else some ((M1 120 3), M1))
def rmX12_goal : Room := { frames := 1, cells := 0, slots := 0, locals := 21 }
def fX12_goal (F : Nat)  (M : Mem) : Option (Int32 × Mem) := letM (up2 M 119 0 0) (fun M1 => if (M1 120 2) = 0 then bindM (fX12_fails F 1 M1) (fun r8 M6 => some (r8, M6)) else some ((M1 120 4), M1))
def rmX12_nextShelf : Room := { frames := 3, cells := 0, slots := 0, locals := 68 }
def fX12_nextShelf (F : Nat)  (M : Mem) : Option (Int32 × Mem) := letM (up2 M 119 0 0) (fun M1 => if (M1 120 0) = 0 then bindM (fX12_fails F 1 M1) (fun r10 M8 => some (r10, M8)) else bindM (fX12_walked F  M1) (fun r7 M5 => some (r7, M5)))
def rmX12_lapLength : Room := { frames := 2, cells := 0, slots := 0, locals := 46 }
def fX12_lapLength_9 (F : Nat)   (kx : Int32 → Mem → Option (Int32 × Mem)) : Nat → Int32 → Int32 → Mem → Option (Int32 × Mem)
  | 0, _, _, _ => none
  | n + 1, v1, v2, M => if (M 120 2) ≤ v2 then kx v1 M else chk (decide (¬ (M 120 2) = 0)) (chk (inb (182 + (irm (v2 + 1) (M 120 2))) 216) (bindV (fX12_distancesTo F (M 120 (182 + (irm (v2 + 1) (M 120 2))).toNatClampNeg) M) (fun M8 => chk (inb (182 + v2) 216) (chk (inb (M8 120 (182 + v2).toNatClampNeg) 12) (if (M8 125 (M8 120 (182 + v2).toNatClampNeg).toNatClampNeg) = 99 then bindM (fX12_fails F 1 M8) (fun r21 M19 => some (r21, M19)) else chk (inb (182 + v2) 216) (chk (inb (M8 120 (182 + v2).toNatClampNeg) 12) (letM (v1 + (M8 125 (M8 120 (182 + v2).toNatClampNeg).toNatClampNeg)) (fun x15 => letM (v2 + 1) (fun x17 => fX12_lapLength_9 F  kx n x15 x17 M8)))))))))
def fX12_lapLength (F : Nat)  (M : Mem) : Option (Int32 × Mem) := letM (up2 M 119 0 0) (fun M1 => fX12_lapLength_9 F  (fun w23 M22 => some (w23, M22)) F 0 0 M1)
def rmX12_seed : Room := { frames := 1, cells := 0, slots := 0, locals := 21 }
def fX12_seed (F : Nat)  (M : Mem) : Option (Int32 × Mem) := bindM (fX12_asks F 6 M) (fun r3 M1 => some (r3, M1))
def rmX12_minute : Room := { frames := 1, cells := 0, slots := 0, locals := 21 }
def fX12_minute (F : Nat)  (M : Mem) : Option (Int32 × Mem) := bindM (fX12_asks F 7 M) (fun r3 M1 => some (r3, M1))
def rmX12_mouseCount : Room := { frames := 1, cells := 0, slots := 0, locals := 21 }
def fX12_mouseCount (F : Nat)  (M : Mem) : Option (Int32 × Mem) := bindM (fX12_asks F 8 M) (fun r3 M1 => some (r3, M1))
def rmX12_asksMouse : Room := { frames := 1, cells := 0, slots := 0, locals := 22 }
def fX12_asksMouse (F : Nat) (p0 : Int32) (p1 : Int32) (M : Mem) : Option (Int32 × Mem) := letM (up2 M 119 0 0) (fun M1 => bindM (fX12_isBetween F p0 0 ((M1 120 8) - 1) M1) (fun r6 M4 => if r6 = true then bindM (fX12_mouse F p0 p1 M4) (fun r13 M11 => some (r13, M11)) else bindM (fX12_fails F 1 M4) (fun r10 M8 => some (r10, M8))))
def rmX12_mouseShelf : Room := { frames := 2, cells := 0, slots := 0, locals := 44 }
def fX12_mouseShelf (F : Nat) (p0 : Int32) (M : Mem) : Option (Int32 × Mem) := bindM (fX12_asksMouse F p0 0 M) (fun r3 M1 => some (r3, M1))
def rmX12_mouseEaten : Room := { frames := 2, cells := 0, slots := 0, locals := 44 }
def fX12_mouseEaten (F : Nat) (p0 : Int32) (M : Mem) : Option (Int32 × Mem) := bindM (fX12_asksMouse F p0 1 M) (fun r3 M1 => some (r3, M1))
def rmX12_mouseHunger : Room := { frames := 2, cells := 0, slots := 0, locals := 44 }
def fX12_mouseHunger (F : Nat) (p0 : Int32) (M : Mem) : Option (Int32 × Mem) := bindM (fX12_asksMouse F p0 2 M) (fun r3 M1 => some (r3, M1))
def rmX12_miceAt : Room := { frames := 1, cells := 0, slots := 0, locals := 22 }
def fX12_miceAt_4 (F : Nat)  (q1 : Int32) (kx : Int32 → Mem → Option (Int32 × Mem)) : Nat → Int32 → Int32 → Mem → Option (Int32 × Mem)
  | 0, _, _, _ => none
  | n + 1, v2, v3, M => if (M 120 8) ≤ v3 then kx v2 M else bindM (fX12_mouse F v3 0 M) (fun r5 M3 => if r5 = q1 then letM (v2 + 1) (fun x11 => letM (v3 + 1) (fun x13 => fX12_miceAt_4 F q1 kx n x11 x13 M3)) else letM (v2 + 0) (fun x7 => letM (v3 + 1) (fun x9 => fX12_miceAt_4 F q1 kx n x7 x9 M3)))
def fX12_miceAt (F : Nat) (p0 : Int32) (M : Mem) : Option (Int32 × Mem) := fX12_miceAt_4 F p0 (fun w16 M15 => some (w16, M15)) F 0 0 M
def rmX12_miceOn : Room := { frames := 2, cells := 0, slots := 0, locals := 45 }
def fX12_miceOn (F : Nat) (p0 : Int32) (M : Mem) : Option (Int32 × Mem) := letM (up2 M 119 0 0) (fun M1 => bindM (fX12_isShelf F p0 M1) (fun r5 M3 => if r5 = true then bindM (fX12_miceAt F p0 M3) (fun r12 M10 => some (r12, M10)) else bindM (fX12_fails F 1 M3) (fun r9 M7 => some (r9, M7))))
def rmX12_cheeseAll : Room := { frames := 0, cells := 0, slots := 0, locals := 0 }
def fX12_cheeseAll_4 (F : Nat)   (kx : Int32 → Mem → Option (Int32 × Mem)) : Nat → Int32 → Int32 → Mem → Option (Int32 × Mem)
  | 0, _, _, _ => none
  | n + 1, v1, v2, M => if (M 120 0) ≤ v2 then kx v1 M else chk (inb (14 + v2) 216) (letM (v1 + (M 120 (14 + v2).toNatClampNeg)) (fun x4 => letM (v2 + 1) (fun x6 => fX12_cheeseAll_4 F  kx n x4 x6 M)))
def fX12_cheeseAll (F : Nat)  (M : Mem) : Option (Int32 × Mem) := fX12_cheeseAll_4 F  (fun w9 M8 => some (w9, M8)) F 0 0 M
def rmX12_totalCheese : Room := { frames := 1, cells := 0, slots := 0, locals := 22 }
def fX12_totalCheese (F : Nat)  (M : Mem) : Option (Int32 × Mem) := letM (up2 M 119 0 0) (fun M1 => bindM (fX12_cheeseAll F  M1) (fun r5 M3 => some (r5, M3)))
def rmX12_totalCheeseByAccounts : Room := { frames := 0, cells := 0, slots := 0, locals := 0 }
def fX12_totalCheeseByAccounts (F : Nat)  (M : Mem) : Option (Int32 × Mem) := letM (up2 M 119 0 0) (fun M1 => some (((M1 120 13) - (M1 120 12)), M1))
def rmX12_eaten : Room := { frames := 1, cells := 0, slots := 0, locals := 21 }
def fX12_eaten (F : Nat)  (M : Mem) : Option (Int32 × Mem) := bindM (fX12_asks F 12 M) (fun r3 M1 => some (r3, M1))
def rmX12_caught : Room := { frames := 1, cells := 0, slots := 0, locals := 21 }
def fX12_caught (F : Nat)  (M : Mem) : Option (Int32 × Mem) := bindM (fX12_asks F 9 M) (fun r3 M1 => some (r3, M1))
def rmX12_gone : Room := { frames := 1, cells := 0, slots := 0, locals := 21 }
def fX12_gone (F : Nat)  (M : Mem) : Option (Int32 × Mem) := bindM (fX12_asks F 10 M) (fun r3 M1 => some (r3, M1))
def rmX12_rinds : Room := { frames := 1, cells := 0, slots := 0, locals := 21 }
def fX12_rinds (F : Nat)  (M : Mem) : Option (Int32 × Mem) := bindM (fX12_asks F 11 M) (fun r3 M1 => some (r3, M1))
def rmX12_meanCheese : Room := { frames := 1, cells := 0, slots := 0, locals := 22 }
def fX12_meanCheese (F : Nat)  (M : Mem) : Option (UInt64 × Mem) := letM (up2 M 119 0 0) (fun M1 => if (M1 120 0) = 0 then bindM (fX12_fails F 1 M1) (fun r12 M10 => some ((FP.i2d r12), M10)) else bindM (fX12_cheeseAll F  M1) (fun r7 M5 => chk (nn64 (FP.ddiv (FP.i2d r7) (FP.i2d (M5 120 0)))) (some ((FP.ddiv (FP.i2d r7) (FP.i2d (M5 120 0))), M5))))
def rmX12_caughtShare : Room := { frames := 1, cells := 0, slots := 0, locals := 21 }
def fX12_caughtShare (F : Nat)  (M : Mem) : Option (UInt32 × Mem) := letM (up2 M 119 0 0) (fun M1 => letM ((M1 120 9) + (M1 120 10)) (fun x5 => if x5 = 0 then bindM (fX12_fails F 1 M1) (fun r12 M10 => some ((FP.i2f r12), M10)) else chk (nn32 (FP.fdiv (FP.i2f (M1 120 9)) (FP.i2f x5))) (some ((FP.fdiv (FP.i2f (M1 120 9)) (FP.i2f x5)), M1))))
def rmX12_writes : Room := { frames := 0, cells := 0, slots := 0, locals := 0 }
def fX12_writes (F : Nat) (p0 : Int32) (M : Mem) : Option Mem := chk (inb (M 119 16) 80) (letM (up2 M 126 (M 119 16).toNatClampNeg (vp_nar .char (i2c p0))) (fun M2 => letM (up2 M2 119 16 ((M2 119 16) + 1)) (fun M4 => some M4)))
def rmX12_writesNumber : Room := { frames := 1, cells := 0, slots := 0, locals := 21 }
def fX12_writesNumber (F : Nat) (p0 : Int32) (M : Mem) : Option Mem := if p0 ≤ 9 then bindV (fX12_writes F (48 + (irm p0 10)) M) (fun M2 => some M2) else bindV (fX12_writes F (48 + (p0 / 10)) M) (fun M4 => bindV (fX12_writes F (48 + (irm p0 10)) M4) (fun M6 => some M6))
def rmX12_writeShelf : Room := { frames := 2, cells := 0, slots := 0, locals := 45 }
def fX12_writeShelf_89 (F : Nat)  (q1 : Int32) (kx : Mem → Option (Int32 × Mem)) : Nat → Int32 → Mem → Option (Int32 × Mem)
  | 0, _, _ => none
  | n + 1, v2, M => if v2 ≤ 0 then kx  M else bindV (fX12_writes F 109 M) (fun M24 => letM (v2 + (-1)) (fun x26 => fX12_writeShelf_89 F q1 kx n x26 M24))
def fX12_writeShelf_107 (F : Nat)  (q1 : Int32) (kx : Mem → Option (Int32 × Mem)) : Nat → Int32 → Mem → Option (Int32 × Mem)
  | 0, _, _ => none
  | n + 1, v2, M => if (M 120 0) ≤ v2 then kx  M else bindM (fX12_isLinked F q1 v2 M) (fun r33 M31 => if r33 = true then bindV (fX12_writes F 45 M31) (fun M35 => bindV (fX12_writesNumber F v2 M35) (fun M37 => letM (v2 + 1) (fun x39 => fX12_writeShelf_107 F q1 kx n x39 M37))) else letM (v2 + 1) (fun x41 => fX12_writeShelf_107 F q1 kx n x41 M31))
def fX12_writeShelf (F : Nat) (p0 : Int32) (M : Mem) : Option (Int32 × Mem) := letM (up2 M 119 0 0) (fun M1 => bindM (fX12_isShelf F p0 M1) (fun r5 M3 => if r5 = true then letM (up2 M3 119 16 0) (fun M7 => bindV (fX12_writesNumber F p0 M7) (fun M9 => bindV (fX12_writes F 58 M9) (fun M11 => chk (inb (14 + p0) 216) (bindV (fX12_writesNumber F (M11 120 (14 + p0).toNatClampNeg) M11) (fun M14 => chk (inb (26 + p0) 216) (if (M14 120 (26 + p0).toNatClampNeg) = 1 then bindV (fX12_writes F 98 M14) (fun M51 => if (M51 120 3) = p0 then bindV (fX12_writes F 67 M51) (fun M60 => bindM (fX12_miceAt F p0 M60) (fun r64 M62 => fX12_writeShelf_89 F p0 (fun M65 => fX12_writeShelf_107 F p0 (fun M66 => some ((M66 119 16), M66)) F 0 M65) F r64 M62)) else bindM (fX12_miceAt F p0 M51) (fun r57 M55 => fX12_writeShelf_89 F p0 (fun M58 => fX12_writeShelf_107 F p0 (fun M59 => some ((M59 119 16), M59)) F 0 M58) F r57 M55)) else if (M14 120 3) = p0 then bindV (fX12_writes F 67 M14) (fun M44 => bindM (fX12_miceAt F p0 M44) (fun r48 M46 => fX12_writeShelf_89 F p0 (fun M49 => fX12_writeShelf_107 F p0 (fun M50 => some ((M50 119 16), M50)) F 0 M49) F r48 M46)) else bindM (fX12_miceAt F p0 M14) (fun r22 M20 => fX12_writeShelf_89 F p0 (fun M28 => fX12_writeShelf_107 F p0 (fun M43 => some ((M43 119 16), M43)) F 0 M28) F r22 M20))))))) else bindM (fX12_fails F 1 M3) (fun r69 M67 => some (r69, M67))))
def rmX12_writePatrol : Room := { frames := 2, cells := 0, slots := 0, locals := 42 }
def fX12_writePatrol_12 (F : Nat)   (kx : Mem → Option (Int32 × Mem)) : Nat → Int32 → Mem → Option (Int32 × Mem)
  | 0, _, _ => none
  | n + 1, v1, M => if (M 120 2) ≤ v1 then kx  M else if v1 ≤ 0 then chk (inb (182 + v1) 216) (bindV (fX12_writesNumber F (M 120 (182 + v1).toNatClampNeg) M) (fun M9 => if v1 = (M9 120 4) then bindV (fX12_writes F 42 M9) (fun M15 => letM (v1 + 1) (fun x17 => fX12_writePatrol_12 F  kx n x17 M15)) else letM (v1 + 1) (fun x13 => fX12_writePatrol_12 F  kx n x13 M9))) else bindV (fX12_writes F 32 M) (fun M19 => chk (inb (182 + v1) 216) (bindV (fX12_writesNumber F (M19 120 (182 + v1).toNatClampNeg) M19) (fun M22 => if v1 = (M22 120 4) then bindV (fX12_writes F 42 M22) (fun M28 => letM (v1 + 1) (fun x30 => fX12_writePatrol_12 F  kx n x30 M28)) else letM (v1 + 1) (fun x26 => fX12_writePatrol_12 F  kx n x26 M22))))
def fX12_writePatrol (F : Nat)  (M : Mem) : Option (Int32 × Mem) := letM (up2 M 119 0 0) (fun M1 => letM (up2 M1 119 16 0) (fun M3 => fX12_writePatrol_12 F  (fun M32 => some ((M32 119 16), M32)) F 0 M3))
def rmX12_lineCharacter : Room := { frames := 1, cells := 0, slots := 0, locals := 22 }
def fX12_lineCharacter (F : Nat) (p0 : Int32) (M : Mem) : Option (Int32 × Mem) := letM (up2 M 119 0 0) (fun M1 => bindM (fX12_isBetween F p0 0 ((M1 119 16) - 1) M1) (fun r5 M3 => if r5 = true then chk (inb p0 80) (chk (nrc (M3 126 p0.toNatClampNeg)) (some ((M3 126 p0.toNatClampNeg), M3))) else bindM (fX12_fails F 1 M3) (fun r9 M7 => chk (nrc (i2c r9)) (some ((i2c r9), M7)))))
def rmX12_feed : Room := { frames := 1, cells := 0, slots := 0, locals := 21 }
def fX12_feed (F : Nat) (p0 : Int32) (M : Mem) : Option (Int32 × Mem) := letM (up2 M 119 0 0) (fun M1 => if (M1 119 18) = 60 then bindM (fX12_fails F 1 M1) (fun r11 M9 => some (r11, M9)) else chk (inb (M1 119 18) 60) (letM (up2 M1 127 (M1 119 18).toNatClampNeg (vp_nar .char p0)) (fun M5 => letM (up2 M5 119 18 ((M5 119 18) + 1)) (fun M7 => some ((M7 119 18), M7)))))
def rmX12_nextChar : Room := { frames := 0, cells := 0, slots := 0, locals := 0 }
def fX12_nextChar (F : Nat)  (M : Mem) : Option (Int32 × Mem) := if (M 119 18) ≤ (M 119 19) then some ((-1), M) else chk (inb (M 119 19) 60) (some ((M 127 (M 119 19).toNatClampNeg), M))
def rmX12_reads : Room := { frames := 1, cells := 0, slots := 0, locals := 20 }
def fX12_reads (F : Nat) (p0 : Int32) (M : Mem) : Option (Bool × Mem) := bindM (fX12_nextChar F  M) (fun r3 M1 => if r3 = p0 then letM (up2 M1 119 19 ((M1 119 19) + 1)) (fun M5 => some (true, M5)) else some (false, M1))
def rmX12_isDigitNext : Room := { frames := 1, cells := 0, slots := 0, locals := 22 }
def fX12_isDigitNext (F : Nat)  (M : Mem) : Option (Bool × Mem) := bindM (fX12_nextChar F  M) (fun r3 M1 => bindM (fX12_isBetween F r3 48 57 M1) (fun r6 M4 => some (r6, M4)))
def rmX12_readsNumber : Room := { frames := 2, cells := 0, slots := 0, locals := 42 }
def fX12_readsNumber_18 (F : Nat)  (q1 : Int32) (q2 : Int32) (kx : Mem → Option (Bool × Mem)) : Nat → Int32 → Mem → Option (Bool × Mem)
  | 0, _, _ => none
  | n + 1, v3, M => if q2 ≤ v3 then kx  M else bindM (fX12_isDigitNext F  M) (fun r11 M9 => if r11 = true then chk (inb q1 2) (bindM (fX12_nextChar F  M9) (fun r16 M14 => chk (inb q1 2) (letM (up2 M14 128 q1.toNatClampNeg (((10 * (M9 128 q1.toNatClampNeg)) + r16) - 48)) (fun M18 => letM (up2 M18 119 19 ((M18 119 19) + 1)) (fun M20 => letM (v3 + 1) (fun x22 => fX12_readsNumber_18 F q1 q2 kx n x22 M20)))))) else kx  M9)
def fX12_readsNumber (F : Nat) (p0 : Int32) (p1 : Int32) (M : Mem) : Option (Bool × Mem) := bindM (fX12_isDigitNext F  M) (fun r3 M1 => if r3 = true then chk (inb p0 2) (letM (up2 M1 128 p0.toNatClampNeg 0) (fun M6 => fX12_readsNumber_18 F p0 p1 (fun M24 => some (true, M24)) F 0 M6)) else some (false, M1))
def rmX12_readsOne : Room := { frames := 3, cells := 0, slots := 0, locals := 65 }
def fX12_readsOne (F : Nat)  (M : Mem) : Option (Bool × Mem) := bindM (fX12_reads F 32 M) (fun r3 M1 => if r3 = true then bindM (fX12_readsNumber F 0 2 M1) (fun r7 M5 => if r7 = true then some (true, M5) else some (false, M5)) else some (false, M1))
set_option maxHeartbeats 4000000 in
theorem vX12_shelfByCheese_22 {G : GG} {κ : KK} {F : Nat}  (C : Cx G κ cX12_shelfByCheese RX12 (some .int) 6 rmX12_shelfByCheese) {M' : Mem} {r : Int32} (hQ : HQ G κ (QI G r M') 0 0) {q1 : Int32} {q2 : Int32} {kx : Int32 → Mem → Option (Int32 × Mem)} (hk : ∀ (v3 : Int32) (M : Mem), kx v3 M = some (r, M') → V G κ 6 0 0 M 85 [(0, .ref (gad G 119)), (1, .int q1), (2, .int q2), (3, .int v3)] []) : ∀ (n : Nat) (v3 : Int32) (v4 : Int32) (M : Mem), fX12_shelfByCheese_22 F q1 q2 kx n v3 v4 M = some (r, M') → V G κ 6 0 0 M 22 [(0, .ref (gad G 119)), (1, .int q1), (2, .int q2), (3, .int v3), (4, .int v4)] [] := by
  intro n
  induction n with
  | zero => intro v3 v4 M h; rw [fX12_shelfByCheese_22] at h; cases h
  | succ n ih =>
    intro v3 v4 M h
    rw [fX12_shelfByCheese_22] at h
    refine V_iload 22 C 4 dX12_shelfByCheese_22 rfl ?_
    refine V_aload_n 24 C 0 dX12_shelfByCheese_24 rfl ?_
    refine V_get (v := .ref (gad G 120)) 25 C dX12_shelfByCheese_25 (ltl (by rfl) rfl) (ceR_X12 (by rfl)) rfl inX12 6 rfl wk_6_140 rfl rfl ?_
    refine V_iconst 28 C dX12_shelfByCheese_28 ic0 ?_
    refine V_ialdJ 29 C dX12_shelfByCheese_29 (akI_26 (by rfl)) (al_26 (by rfl)) (by decide) (j := 0) (by decide) ?_
    refine V_icmp_ge 30 85 C dX12_shelfByCheese_30 (by decide) (fun c6 => ?_) (fun c6 => ?_)
    · replace h := ite_t c6 h
      refine V_sub [0, 1, 2, 3] rfl ?_
      exact hk _ _ h
    · replace h := ite_f c6 h
      refine V_aload_n 33 C 0 dX12_shelfByCheese_33 rfl ?_
      refine V_get (v := .ref (gad G 120)) 34 C dX12_shelfByCheese_34 (ltl (by rfl) rfl) (ceR_X12 (by rfl)) rfl inX12 6 rfl wk_6_140 rfl rfl ?_
      refine V_bipush 37 C dX12_shelfByCheese_37 bp14 ?_
      refine V_iload 39 C 4 dX12_shelfByCheese_39 rfl ?_
      refine V_iadd 41 C dX12_shelfByCheese_41 ?_
      obtain ⟨c7, h⟩ := chk_some h
      refine V_iald 42 C dX12_shelfByCheese_42 (akI_26 (by rfl)) (al_26 (by rfl)) c7 ?_
      refine V_aload_n 43 C 0 dX12_shelfByCheese_43 rfl ?_
      refine V_get (v := .ref (gad G 120)) 44 C dX12_shelfByCheese_44 (ltl (by rfl) rfl) (ceR_X12 (by rfl)) rfl inX12 6 rfl wk_6_140 rfl rfl ?_
      refine V_bipush 47 C dX12_shelfByCheese_47 bp14 ?_
      refine V_iload_n 49 C 2 dX12_shelfByCheese_49 rfl ?_
      refine V_iadd 50 C dX12_shelfByCheese_50 ?_
      obtain ⟨c8, h⟩ := chk_some h
      refine V_iald 51 C dX12_shelfByCheese_51 (akI_26 (by rfl)) (al_26 (by rfl)) c8 ?_
      refine V_isub 52 C dX12_shelfByCheese_52 ?_
      obtain ⟨x9, e10, h⟩ := letM_some h
      refine V_top e10 ?_
      refine V_istore 53 C [(5, .int x9), (0, .ref (gad G 119)), (1, .int q1), (2, .int q2), (3, .int v3), (4, .int v4)] dX12_shelfByCheese_53 rfl rfl ?_
      refine V_iload_n 55 C 4 dX12_shelfByCheese_55 rfl ?_
      refine V_iload 56 C 0 dX12_shelfByCheese_56 rfl ?_
      refine V_if_gt 58 72 C dX12_shelfByCheese_58 (by decide) (fun c11 => ?_) (fun c11 => ?_)
      · replace h := ite_t c11 h
        refine V_iconst 72 C dX12_shelfByCheese_72 ic1 ?_
        refine V_goto 73 77 C dX12_shelfByCheese_73 (by decide) ?_
        refine V_iadd 77 C dX12_shelfByCheese_77 ?_
        obtain ⟨x12, e13, h⟩ := letM_some h
        refine V_top e13 ?_
        refine V_istore_n 78 C [(3, .int x12), (5, .int x9), (0, .ref (gad G 119)), (1, .int q1), (2, .int q2), (4, .int v4)] dX12_shelfByCheese_78 rfl rfl rfl ?_
        obtain ⟨x14, e15, h⟩ := letM_some h
        refine V_iinc 79 C [(4, .int x14), (3, .int x12), (5, .int x9), (0, .ref (gad G 119)), (1, .int q1), (2, .int q2)] 5 x14 dX12_shelfByCheese_79 rfl (by rw [e15]; rfl) rfl rfl ?_
        refine V_goto 82 22 C dX12_shelfByCheese_82 (by decide) ?_
        refine V_sub [3, 4, 5, 1, 0] rfl ?_
        exact ih _ _ _ h
      · replace h := ite_f c11 h
        refine V_iload 61 C 0 dX12_shelfByCheese_61 rfl ?_
        refine V_if_ne 63 76 C dX12_shelfByCheese_63 (by decide) (fun c16 => ?_) (fun c16 => ?_)
        · replace h := ite_f c16 h
          refine V_iconst 76 C dX12_shelfByCheese_76 ic0 ?_
          refine V_iadd 77 C dX12_shelfByCheese_77 ?_
          obtain ⟨x17, e18, h⟩ := letM_some h
          refine V_top e18 ?_
          refine V_istore_n 78 C [(3, .int x17), (5, .int x9), (0, .ref (gad G 119)), (1, .int q1), (2, .int q2), (4, .int v4)] dX12_shelfByCheese_78 rfl rfl rfl ?_
          obtain ⟨x19, e20, h⟩ := letM_some h
          refine V_iinc 79 C [(4, .int x19), (3, .int x17), (5, .int x9), (0, .ref (gad G 119)), (1, .int q1), (2, .int q2)] 5 x19 dX12_shelfByCheese_79 rfl (by rw [e20]; rfl) rfl rfl ?_
          refine V_goto 82 22 C dX12_shelfByCheese_82 (by decide) ?_
          refine V_sub [3, 4, 5, 1, 0] rfl ?_
          exact ih _ _ _ h
        · replace h := ite_t c16 h
          refine V_iload 66 C 5 dX12_shelfByCheese_66 rfl ?_
          refine V_iload_n 68 C 3 dX12_shelfByCheese_68 rfl ?_
          refine V_icmp_ge 69 76 C dX12_shelfByCheese_69 (by decide) (fun c21 => ?_) (fun c21 => ?_)
          · replace h := ite_t c21 h
            refine V_iconst 76 C dX12_shelfByCheese_76 ic0 ?_
            refine V_iadd 77 C dX12_shelfByCheese_77 ?_
            obtain ⟨x22, e23, h⟩ := letM_some h
            refine V_top e23 ?_
            refine V_istore_n 78 C [(3, .int x22), (5, .int x9), (0, .ref (gad G 119)), (1, .int q1), (2, .int q2), (4, .int v4)] dX12_shelfByCheese_78 rfl rfl rfl ?_
            obtain ⟨x24, e25, h⟩ := letM_some h
            refine V_iinc 79 C [(4, .int x24), (3, .int x22), (5, .int x9), (0, .ref (gad G 119)), (1, .int q1), (2, .int q2)] 5 x24 dX12_shelfByCheese_79 rfl (by rw [e25]; rfl) rfl rfl ?_
            refine V_goto 82 22 C dX12_shelfByCheese_82 (by decide) ?_
            refine V_sub [3, 4, 5, 1, 0] rfl ?_
            exact ih _ _ _ h
          · replace h := ite_f c21 h
            refine V_iconst 72 C dX12_shelfByCheese_72 ic1 ?_
            refine V_goto 73 77 C dX12_shelfByCheese_73 (by decide) ?_
            refine V_iadd 77 C dX12_shelfByCheese_77 ?_
            obtain ⟨x26, e27, h⟩ := letM_some h
            refine V_top e27 ?_
            refine V_istore_n 78 C [(3, .int x26), (5, .int x9), (0, .ref (gad G 119)), (1, .int q1), (2, .int q2), (4, .int v4)] dX12_shelfByCheese_78 rfl rfl rfl ?_
            obtain ⟨x28, e29, h⟩ := letM_some h
            refine V_iinc 79 C [(4, .int x28), (3, .int x26), (5, .int x9), (0, .ref (gad G 119)), (1, .int q1), (2, .int q2)] 5 x28 dX12_shelfByCheese_79 rfl (by rw [e29]; rfl) rfl rfl ?_
            refine V_goto 82 22 C dX12_shelfByCheese_82 (by decide) ?_
            refine V_sub [3, 4, 5, 1, 0] rfl ?_
            exact ih _ _ _ h
set_option maxHeartbeats 4000000 in
theorem vX12_shelfByCheese_7 {G : GG} {κ : KK} {F : Nat}  (C : Cx G κ cX12_shelfByCheese RX12 (some .int) 6 rmX12_shelfByCheese) {M' : Mem} {r : Int32} (hQ : HQ G κ (QI G r M') 0 0) {q1 : Int32} {kx : Mem → Option (Int32 × Mem)} (hk : ∀  (M : Mem), kx  M = some (r, M') → V G κ 6 0 0 M 98 [(0, .ref (gad G 119))] []) : ∀ (n : Nat) (v2 : Int32) (M : Mem), fX12_shelfByCheese_7 F q1 kx n v2 M = some (r, M') → V G κ 6 0 0 M 7 [(0, .ref (gad G 119)), (1, .int q1), (2, .int v2)] [] := by
  intro n
  induction n with
  | zero => intro v2 M h; rw [fX12_shelfByCheese_7] at h; cases h
  | succ n ih =>
    intro v2 M h
    rw [fX12_shelfByCheese_7] at h
    refine V_iload_n 7 C 2 dX12_shelfByCheese_7 rfl ?_
    refine V_aload_n 8 C 0 dX12_shelfByCheese_8 rfl ?_
    refine V_get (v := .ref (gad G 120)) 9 C dX12_shelfByCheese_9 (ltl (by rfl) rfl) (ceR_X12 (by rfl)) rfl inX12 6 rfl wk_6_140 rfl rfl ?_
    refine V_iconst 12 C dX12_shelfByCheese_12 ic0 ?_
    refine V_ialdJ 13 C dX12_shelfByCheese_13 (akI_26 (by rfl)) (al_26 (by rfl)) (by decide) (j := 0) (by decide) ?_
    refine V_icmp_ge 14 98 C dX12_shelfByCheese_14 (by decide) (fun c4 => ?_) (fun c4 => ?_)
    · replace h := ite_t c4 h
      refine V_sub [0] rfl ?_
      exact hk  _ h
    · replace h := ite_f c4 h
      refine V_iconst 17 C dX12_shelfByCheese_17 ic0 ?_
      refine V_istore_n 18 C [(3, .int 0), (0, .ref (gad G 119)), (1, .int q1), (2, .int v2)] dX12_shelfByCheese_18 rfl rfl rfl ?_
      refine V_iconst 19 C dX12_shelfByCheese_19 ic0 ?_
      refine V_istore 20 C [(4, .int 0), (3, .int 0), (0, .ref (gad G 119)), (1, .int q1), (2, .int v2)] dX12_shelfByCheese_20 rfl rfl ?_
      refine V_sub [2, 3, 4, 1, 0] rfl ?_
      refine vX12_shelfByCheese_22  C hQ ?_ _ _ _ _ h
      intro w31 M30 h
      refine V_iload_n 85 C 3 dX12_shelfByCheese_85 rfl ?_
      refine V_iload_n 86 C 1 dX12_shelfByCheese_86 rfl ?_
      refine V_icmp_ne 87 92 C dX12_shelfByCheese_87 (by decide) (fun c32 => ?_) (fun c32 => ?_)
      · replace h := ite_f c32 h
        obtain ⟨x33, e34, h⟩ := letM_some h
        refine V_iinc 92 C [(2, .int x33), (0, .ref (gad G 119)), (1, .int q1), (3, .int w31)] 2 x33 dX12_shelfByCheese_92 rfl (by rw [e34]; rfl) rfl rfl ?_
        refine V_goto 95 7 C dX12_shelfByCheese_95 (by decide) ?_
        refine V_sub [1, 2, 0] rfl ?_
        exact ih _ _ h
      · replace h := ite_t c32 h
        refine V_iload_n 90 C 2 dX12_shelfByCheese_90 rfl ?_
        exact V_ireth 91 C hQ h dX12_shelfByCheese_91
set_option maxHeartbeats 4000000 in
theorem kX12_shelfByCheese {G : GG} {l : Launch} {F : Nat}  {p0 : Int32} {M M' : Mem} {r : Int32} (h : fX12_shelfByCheese F p0 M = some (r, M')) : Con G l yX12_shelfByCheese cX12_shelfByCheese 6 (some .int) rmX12_shelfByCheese [.ref (gad G 119), .int p0] M (QI G r M') := by
  refine con_of pnX12 (Nat.le_of_ble_eq_true rfl) (fun κ C hQ => ?_)
  unfold fX12_shelfByCheese at h
  refine V_L (L1 := [(0, .ref (gad G 119)), (1, .int p0)]) rfl ?_
  refine V_aload_n 0 C 0 dX12_shelfByCheese_0 rfl ?_
  refine V_iconst 1 C dX12_shelfByCheese_1 ic0 ?_
  obtain ⟨M1, e2, h⟩ := letM_some h
  refine V_put (ty := .int) (F := F_X12 G 119) 2 C dX12_shelfByCheese_2 (ltl (by rfl) rfl) (fun _ => ceR_X12 (by rfl)) rfl inX12 tyX12 tyX12_ok nmX12 0 rfl wk_6_134 rfl rfl 0 rfl rfl rfl rfl rfl ?_
  refine V_eqM e2 ?_
  refine V_iconst 5 C dX12_shelfByCheese_5 ic0 ?_
  refine V_istore_n 6 C [(2, .int 0), (0, .ref (gad G 119)), (1, .int p0)] dX12_shelfByCheese_6 rfl rfl rfl ?_
  refine V_sub [1, 2, 0] rfl ?_
  refine vX12_shelfByCheese_7  C hQ ?_ _ _ _ h
  intro M35 h
  refine V_aload_n 98 C 0 dX12_shelfByCheese_98 rfl ?_
  refine V_iconst 99 C dX12_shelfByCheese_99 ic1 ?_
  obtain ⟨r38, M36, k37, h⟩ := bindM_some h
  refine V_callI 100 (runVO (k := 119) (rest := []) 100 C (kX12_fails  k37) cf_X12_fails wk_6_226 (ltl (by rfl) rfl) (ceR_X12 (by rfl)) rfl rfl rfl rfl dX12_shelfByCheese_100 rfl rfl (Nat.zero_le _) (Nat.zero_le _)) ?_
  exact V_ireth 103 C hQ h dX12_shelfByCheese_103
set_option maxHeartbeats 4000000 in
theorem kX12_stopCount {G : GG} {l : Launch} {F : Nat}   {M M' : Mem} {r : Int32} (h : fX12_stopCount F  M = some (r, M')) : Con G l yX12_stopCount cX12_stopCount 1 (some .int) rmX12_stopCount [.ref (gad G 119)] M (QI G r M') := by
  refine con_of pnX12 (Nat.le_of_ble_eq_true rfl) (fun κ C hQ => ?_)
  unfold fX12_stopCount at h
  refine V_L (L1 := [(0, .ref (gad G 119))]) rfl ?_
  refine V_aload_n 0 C 0 dX12_stopCount_0 rfl ?_
  refine V_iconst 1 C dX12_stopCount_1 ic2 ?_
  obtain ⟨r3, M1, k2, h⟩ := bindM_some h
  refine V_callI 2 (runVO (k := 119) (rest := []) 2 C (kX12_asks  k2) cf_X12_asks wk_7_167 (ltl (by rfl) rfl) (ceR_X12 (by rfl)) rfl rfl rfl rfl dX12_stopCount_2 rfl rfl (Nat.zero_le _) (Nat.zero_le _)) ?_
  exact V_ireth 5 C hQ h dX12_stopCount_5
set_option maxHeartbeats 4000000 in
theorem kX12_shelfOfStop {G : GG} {l : Launch} {F : Nat}  {p0 : Int32} {M M' : Mem} {r : Int32} (h : fX12_shelfOfStop F p0 M = some (r, M')) : Con G l yX12_shelfOfStop cX12_shelfOfStop 2 (some .int) rmX12_shelfOfStop [.ref (gad G 119), .int p0] M (QI G r M') := by
  refine con_of pnX12 (Nat.le_of_ble_eq_true rfl) (fun κ C hQ => ?_)
  unfold fX12_shelfOfStop at h
  refine V_L (L1 := [(0, .ref (gad G 119)), (1, .int p0)]) rfl ?_
  refine V_aload_n 0 C 0 dX12_shelfOfStop_0 rfl ?_
  refine V_iconst 1 C dX12_shelfOfStop_1 ic0 ?_
  obtain ⟨M1, e2, h⟩ := letM_some h
  refine V_put (ty := .int) (F := F_X12 G 119) 2 C dX12_shelfOfStop_2 (ltl (by rfl) rfl) (fun _ => ceR_X12 (by rfl)) rfl inX12 tyX12 tyX12_ok nmX12 0 rfl wk_6_134 rfl rfl 0 rfl rfl rfl rfl rfl ?_
  refine V_eqM e2 ?_
  refine V_iload_n 5 C 1 dX12_shelfOfStop_5 rfl ?_
  refine V_iconst 6 C dX12_shelfOfStop_6 ic0 ?_
  refine V_aload_n 7 C 0 dX12_shelfOfStop_7 rfl ?_
  refine V_get (v := .ref (gad G 120)) 8 C dX12_shelfOfStop_8 (ltl (by rfl) rfl) (ceR_X12 (by rfl)) rfl inX12 6 rfl wk_6_140 rfl rfl ?_
  refine V_iconst 11 C dX12_shelfOfStop_11 ic2 ?_
  refine V_ialdJ 12 C dX12_shelfOfStop_12 (akI_26 (by rfl)) (al_26 (by rfl)) (by decide) (j := 2) (by decide) ?_
  refine V_iconst 13 C dX12_shelfOfStop_13 ic1 ?_
  refine V_isub 14 C dX12_shelfOfStop_14 ?_
  obtain ⟨r6, M4, k5, h⟩ := bindM_some h
  refine V_callI 15 (runSO (rest := []) 15 C (kX12_isBetween  k5) cf_X12_isBetween wk_6_215 rfl rfl dX12_shelfOfStop_15 rfl rfl (Nat.zero_le _) (Nat.zero_le _)) ?_
  refine V_ifeq_b 18 34 C dX12_shelfOfStop_18 (by decide) (fun c7 => ?_) (fun c7 => ?_)
  · replace h := ite_f c7 h
    refine V_aload_n 34 C 0 dX12_shelfOfStop_34 rfl ?_
    refine V_iconst 35 C dX12_shelfOfStop_35 ic1 ?_
    obtain ⟨r10, M8, k9, h⟩ := bindM_some h
    refine V_callI 36 (runVO (k := 119) (rest := []) 36 C (kX12_fails  k9) cf_X12_fails wk_6_226 (ltl (by rfl) rfl) (ceR_X12 (by rfl)) rfl rfl rfl rfl dX12_shelfOfStop_36 rfl rfl (Nat.zero_le _) (Nat.zero_le _)) ?_
    exact V_ireth 39 C hQ h dX12_shelfOfStop_39
  · replace h := ite_t c7 h
    refine V_aload_n 21 C 0 dX12_shelfOfStop_21 rfl ?_
    refine V_get (v := .ref (gad G 120)) 22 C dX12_shelfOfStop_22 (ltl (by rfl) rfl) (ceR_X12 (by rfl)) rfl inX12 6 rfl wk_6_140 rfl rfl ?_
    refine V_sipush 25 C dX12_shelfOfStop_25 sp182 ?_
    refine V_iload_n 28 C 1 dX12_shelfOfStop_28 rfl ?_
    refine V_iadd 29 C dX12_shelfOfStop_29 ?_
    obtain ⟨c11, h⟩ := chk_some h
    refine V_iald 30 C dX12_shelfOfStop_30 (akI_26 (by rfl)) (al_26 (by rfl)) c11 ?_
    refine V_goto 31 39 C dX12_shelfOfStop_31 (by decide) ?_
    exact V_ireth 39 C hQ h dX12_shelfOfStop_39
set_option maxHeartbeats 4000000 in
theorem kX12_catShelf {G : GG} {l : Launch} {F : Nat}   {M M' : Mem} {r : Int32} (h : fX12_catShelf F  M = some (r, M')) : Con G l yX12_catShelf cX12_catShelf 1 (some .int) rmX12_catShelf [.ref (gad G 119)] M (QI G r M') := by
  refine con_of pnX12 (Nat.le_of_ble_eq_true rfl) (fun κ C hQ => ?_)
  unfold fX12_catShelf at h
  refine V_L (L1 := [(0, .ref (gad G 119))]) rfl ?_
  refine V_aload_n 0 C 0 dX12_catShelf_0 rfl ?_
  refine V_iconst 1 C dX12_catShelf_1 ic0 ?_
  obtain ⟨M1, e2, h⟩ := letM_some h
  refine V_put (ty := .int) (F := F_X12 G 119) 2 C dX12_catShelf_2 (ltl (by rfl) rfl) (fun _ => ceR_X12 (by rfl)) rfl inX12 tyX12 tyX12_ok nmX12 0 rfl wk_6_134 rfl rfl 0 rfl rfl rfl rfl rfl ?_
  refine V_eqM e2 ?_
  refine V_aload_n 5 C 0 dX12_catShelf_5 rfl ?_
  refine V_get (v := .ref (gad G 120)) 6 C dX12_catShelf_6 (ltl (by rfl) rfl) (ceR_X12 (by rfl)) rfl inX12 6 rfl wk_6_140 rfl rfl ?_
  refine V_iconst 9 C dX12_catShelf_9 ic0 ?_
  refine V_ialdJ 10 C dX12_catShelf_10 (akI_26 (by rfl)) (al_26 (by rfl)) (by decide) (j := 0) (by decide) ?_
  refine V_if_ne 11 22 C dX12_catShelf_11 (by decide) (fun c4 => ?_) (fun c4 => ?_)
  · replace h := ite_f c4 h
    refine V_aload_n 22 C 0 dX12_catShelf_22 rfl ?_
    refine V_get (v := .ref (gad G 120)) 23 C dX12_catShelf_23 (ltl (by rfl) rfl) (ceR_X12 (by rfl)) rfl inX12 6 rfl wk_6_140 rfl rfl ?_
    refine V_iconst 26 C dX12_catShelf_26 ic3 ?_
    refine V_ialdJ 27 C dX12_catShelf_27 (akI_26 (by rfl)) (al_26 (by rfl)) (by decide) (j := 3) (by decide) ?_
    exact V_ireth 28 C hQ h dX12_catShelf_28
  · replace h := ite_t c4 h
    refine V_aload_n 14 C 0 dX12_catShelf_14 rfl ?_
    refine V_iconst 15 C dX12_catShelf_15 ic1 ?_
    obtain ⟨r8, M6, k7, h⟩ := bindM_some h
    refine V_callI 16 (runVO (k := 119) (rest := []) 16 C (kX12_fails  k7) cf_X12_fails wk_6_226 (ltl (by rfl) rfl) (ceR_X12 (by rfl)) rfl rfl rfl rfl dX12_catShelf_16 rfl rfl (Nat.zero_le _) (Nat.zero_le _)) ?_
    refine V_goto 19 28 C dX12_catShelf_19 (by decide) ?_
    exact V_ireth 28 C hQ h dX12_catShelf_28
set_option maxHeartbeats 4000000 in
theorem kX12_goal {G : GG} {l : Launch} {F : Nat}   {M M' : Mem} {r : Int32} (h : fX12_goal F  M = some (r, M')) : Con G l yX12_goal cX12_goal 1 (some .int) rmX12_goal [.ref (gad G 119)] M (QI G r M') := by
  refine con_of pnX12 (Nat.le_of_ble_eq_true rfl) (fun κ C hQ => ?_)
  unfold fX12_goal at h
  refine V_L (L1 := [(0, .ref (gad G 119))]) rfl ?_
  refine V_aload_n 0 C 0 dX12_goal_0 rfl ?_
  refine V_iconst 1 C dX12_goal_1 ic0 ?_
  obtain ⟨M1, e2, h⟩ := letM_some h
  refine V_put (ty := .int) (F := F_X12 G 119) 2 C dX12_goal_2 (ltl (by rfl) rfl) (fun _ => ceR_X12 (by rfl)) rfl inX12 tyX12 tyX12_ok nmX12 0 rfl wk_6_134 rfl rfl 0 rfl rfl rfl rfl rfl ?_
  refine V_eqM e2 ?_
  refine V_aload_n 5 C 0 dX12_goal_5 rfl ?_
  refine V_get (v := .ref (gad G 120)) 6 C dX12_goal_6 (ltl (by rfl) rfl) (ceR_X12 (by rfl)) rfl inX12 6 rfl wk_6_140 rfl rfl ?_
  refine V_iconst 9 C dX12_goal_9 ic2 ?_
  refine V_ialdJ 10 C dX12_goal_10 (akI_26 (by rfl)) (al_26 (by rfl)) (by decide) (j := 2) (by decide) ?_
  refine V_if_ne 11 22 C dX12_goal_11 (by decide) (fun c4 => ?_) (fun c4 => ?_)
  · replace h := ite_f c4 h
    refine V_aload_n 22 C 0 dX12_goal_22 rfl ?_
    refine V_get (v := .ref (gad G 120)) 23 C dX12_goal_23 (ltl (by rfl) rfl) (ceR_X12 (by rfl)) rfl inX12 6 rfl wk_6_140 rfl rfl ?_
    refine V_iconst 26 C dX12_goal_26 ic4 ?_
    refine V_ialdJ 27 C dX12_goal_27 (akI_26 (by rfl)) (al_26 (by rfl)) (by decide) (j := 4) (by decide) ?_
    exact V_ireth 28 C hQ h dX12_goal_28
  · replace h := ite_t c4 h
    refine V_aload_n 14 C 0 dX12_goal_14 rfl ?_
    refine V_iconst 15 C dX12_goal_15 ic1 ?_
    obtain ⟨r8, M6, k7, h⟩ := bindM_some h
    refine V_callI 16 (runVO (k := 119) (rest := []) 16 C (kX12_fails  k7) cf_X12_fails wk_6_226 (ltl (by rfl) rfl) (ceR_X12 (by rfl)) rfl rfl rfl rfl dX12_goal_16 rfl rfl (Nat.zero_le _) (Nat.zero_le _)) ?_
    refine V_goto 19 28 C dX12_goal_19 (by decide) ?_
    exact V_ireth 28 C hQ h dX12_goal_28
set_option maxHeartbeats 4000000 in
theorem kX12_nextShelf {G : GG} {l : Launch} {F : Nat}   {M M' : Mem} {r : Int32} (h : fX12_nextShelf F  M = some (r, M')) : Con G l yX12_nextShelf cX12_nextShelf 1 (some .int) rmX12_nextShelf [.ref (gad G 119)] M (QI G r M') := by
  refine con_of pnX12 (Nat.le_of_ble_eq_true rfl) (fun κ C hQ => ?_)
  unfold fX12_nextShelf at h
  refine V_L (L1 := [(0, .ref (gad G 119))]) rfl ?_
  refine V_aload_n 0 C 0 dX12_nextShelf_0 rfl ?_
  refine V_iconst 1 C dX12_nextShelf_1 ic0 ?_
  obtain ⟨M1, e2, h⟩ := letM_some h
  refine V_put (ty := .int) (F := F_X12 G 119) 2 C dX12_nextShelf_2 (ltl (by rfl) rfl) (fun _ => ceR_X12 (by rfl)) rfl inX12 tyX12 tyX12_ok nmX12 0 rfl wk_6_134 rfl rfl 0 rfl rfl rfl rfl rfl ?_
  refine V_eqM e2 ?_
  refine V_aload_n 5 C 0 dX12_nextShelf_5 rfl ?_
  refine V_get (v := .ref (gad G 120)) 6 C dX12_nextShelf_6 (ltl (by rfl) rfl) (ceR_X12 (by rfl)) rfl inX12 6 rfl wk_6_140 rfl rfl ?_
  refine V_iconst 9 C dX12_nextShelf_9 ic0 ?_
  refine V_ialdJ 10 C dX12_nextShelf_10 (akI_26 (by rfl)) (al_26 (by rfl)) (by decide) (j := 0) (by decide) ?_
  refine V_if_ne 11 22 C dX12_nextShelf_11 (by decide) (fun c4 => ?_) (fun c4 => ?_)
  · replace h := ite_f c4 h
    refine V_aload_n 22 C 0 dX12_nextShelf_22 rfl ?_
    obtain ⟨r7, M5, k6, h⟩ := bindM_some h
    refine V_callI 23 (runVO (k := 119) (rest := []) 23 C (kX12_walked  k6) cf_X12_walked wk_7_109 (ltl (by rfl) rfl) (ceR_X12 (by rfl)) rfl rfl rfl rfl dX12_nextShelf_23 rfl rfl (Nat.zero_le _) (Nat.zero_le _)) ?_
    exact V_ireth 26 C hQ h dX12_nextShelf_26
  · replace h := ite_t c4 h
    refine V_aload_n 14 C 0 dX12_nextShelf_14 rfl ?_
    refine V_iconst 15 C dX12_nextShelf_15 ic1 ?_
    obtain ⟨r10, M8, k9, h⟩ := bindM_some h
    refine V_callI 16 (runVO (k := 119) (rest := []) 16 C (kX12_fails  k9) cf_X12_fails wk_6_226 (ltl (by rfl) rfl) (ceR_X12 (by rfl)) rfl rfl rfl rfl dX12_nextShelf_16 rfl rfl (Nat.zero_le _) (Nat.zero_le _)) ?_
    refine V_goto 19 26 C dX12_nextShelf_19 (by decide) ?_
    exact V_ireth 26 C hQ h dX12_nextShelf_26
set_option maxHeartbeats 4000000 in
theorem vX12_lapLength_9 {G : GG} {κ : KK} {F : Nat}  (C : Cx G κ cX12_lapLength RX12 (some .int) 3 rmX12_lapLength) {M' : Mem} {r : Int32} (hQ : HQ G κ (QI G r M') 0 0)  {kx : Int32 → Mem → Option (Int32 × Mem)} (hk : ∀ (v1 : Int32) (M : Mem), kx v1 M = some (r, M') → V G κ 3 0 0 M 92 [(1, .int v1)] []) : ∀ (n : Nat) (v1 : Int32) (v2 : Int32) (M : Mem), fX12_lapLength_9 F  kx n v1 v2 M = some (r, M') → V G κ 3 0 0 M 9 [(0, .ref (gad G 119)), (1, .int v1), (2, .int v2)] [] := by
  intro n
  induction n with
  | zero => intro v1 v2 M h; rw [fX12_lapLength_9] at h; cases h
  | succ n ih =>
    intro v1 v2 M h
    rw [fX12_lapLength_9] at h
    refine V_iload_n 9 C 2 dX12_lapLength_9 rfl ?_
    refine V_aload_n 10 C 0 dX12_lapLength_10 rfl ?_
    refine V_get (v := .ref (gad G 120)) 11 C dX12_lapLength_11 (ltl (by rfl) rfl) (ceR_X12 (by rfl)) rfl inX12 6 rfl wk_6_140 rfl rfl ?_
    refine V_iconst 14 C dX12_lapLength_14 ic2 ?_
    refine V_ialdJ 15 C dX12_lapLength_15 (akI_26 (by rfl)) (al_26 (by rfl)) (by decide) (j := 2) (by decide) ?_
    refine V_icmp_ge 16 92 C dX12_lapLength_16 (by decide) (fun c4 => ?_) (fun c4 => ?_)
    · replace h := ite_t c4 h
      refine V_sub [1] rfl ?_
      exact hk _ _ h
    · replace h := ite_f c4 h
      refine V_aload_n 19 C 0 dX12_lapLength_19 rfl ?_
      refine V_aload_n 20 C 0 dX12_lapLength_20 rfl ?_
      refine V_get (v := .ref (gad G 120)) 21 C dX12_lapLength_21 (ltl (by rfl) rfl) (ceR_X12 (by rfl)) rfl inX12 6 rfl wk_6_140 rfl rfl ?_
      refine V_sipush 24 C dX12_lapLength_24 sp182 ?_
      refine V_iload_n 27 C 2 dX12_lapLength_27 rfl ?_
      refine V_iconst 28 C dX12_lapLength_28 ic1 ?_
      refine V_iadd 29 C dX12_lapLength_29 ?_
      refine V_aload_n 30 C 0 dX12_lapLength_30 rfl ?_
      refine V_get (v := .ref (gad G 120)) 31 C dX12_lapLength_31 (ltl (by rfl) rfl) (ceR_X12 (by rfl)) rfl inX12 6 rfl wk_6_140 rfl rfl ?_
      refine V_iconst 34 C dX12_lapLength_34 ic2 ?_
      refine V_ialdJ 35 C dX12_lapLength_35 (akI_26 (by rfl)) (al_26 (by rfl)) (by decide) (j := 2) (by decide) ?_
      obtain ⟨c6, h⟩ := chk_some h
      refine V_irem 36 C dX12_lapLength_36 (of_decide_eq_true c6) ?_
      refine V_iadd 37 C dX12_lapLength_37 ?_
      obtain ⟨c7, h⟩ := chk_some h
      refine V_iald 38 C dX12_lapLength_38 (akI_26 (by rfl)) (al_26 (by rfl)) c7 ?_
      obtain ⟨M8, k9, h⟩ := bindV_some h
      refine V_callV 39 (runVO (k := 119) (rest := []) 39 C (kX12_distancesTo  k9) cf_X12_distancesTo wk_7_113 (ltl (by rfl) rfl) (ceR_X12 (by rfl)) rfl rfl rfl rfl dX12_lapLength_39 rfl rfl (Nat.zero_le _) (Nat.zero_le _)) ?_
      refine V_aload_n 42 C 0 dX12_lapLength_42 rfl ?_
      refine V_get (v := .ref (gad G 125)) 43 C dX12_lapLength_43 (ltl (by rfl) rfl) (ceR_X12 (by rfl)) rfl inX12 14 rfl wk_6_148 rfl rfl ?_
      refine V_aload_n 46 C 0 dX12_lapLength_46 rfl ?_
      refine V_get (v := .ref (gad G 120)) 47 C dX12_lapLength_47 (ltl (by rfl) rfl) (ceR_X12 (by rfl)) rfl inX12 6 rfl wk_6_140 rfl rfl ?_
      refine V_sipush 50 C dX12_lapLength_50 sp182 ?_
      refine V_iload_n 53 C 2 dX12_lapLength_53 rfl ?_
      refine V_iadd 54 C dX12_lapLength_54 ?_
      obtain ⟨c10, h⟩ := chk_some h
      refine V_iald 55 C dX12_lapLength_55 (akI_26 (by rfl)) (al_26 (by rfl)) c10 ?_
      obtain ⟨c11, h⟩ := chk_some h
      refine V_iald 56 C dX12_lapLength_56 (akI_20 (by rfl)) (al_20 (by rfl)) c11 ?_
      refine V_bipush 57 C dX12_lapLength_57 bp99 ?_
      refine V_icmp_ne 59 68 C dX12_lapLength_59 (by decide) (fun c12 => ?_) (fun c12 => ?_)
      · replace h := ite_f c12 h
        refine V_iload_n 68 C 1 dX12_lapLength_68 rfl ?_
        refine V_aload_n 69 C 0 dX12_lapLength_69 rfl ?_
        refine V_get (v := .ref (gad G 125)) 70 C dX12_lapLength_70 (ltl (by rfl) rfl) (ceR_X12 (by rfl)) rfl inX12 14 rfl wk_6_148 rfl rfl ?_
        refine V_aload_n 73 C 0 dX12_lapLength_73 rfl ?_
        refine V_get (v := .ref (gad G 120)) 74 C dX12_lapLength_74 (ltl (by rfl) rfl) (ceR_X12 (by rfl)) rfl inX12 6 rfl wk_6_140 rfl rfl ?_
        refine V_sipush 77 C dX12_lapLength_77 sp182 ?_
        refine V_iload_n 80 C 2 dX12_lapLength_80 rfl ?_
        refine V_iadd 81 C dX12_lapLength_81 ?_
        obtain ⟨c13, h⟩ := chk_some h
        refine V_iald 82 C dX12_lapLength_82 (akI_26 (by rfl)) (al_26 (by rfl)) c13 ?_
        obtain ⟨c14, h⟩ := chk_some h
        refine V_iald 83 C dX12_lapLength_83 (akI_20 (by rfl)) (al_20 (by rfl)) c14 ?_
        refine V_iadd 84 C dX12_lapLength_84 ?_
        obtain ⟨x15, e16, h⟩ := letM_some h
        refine V_top e16 ?_
        refine V_istore_n 85 C [(1, .int x15), (0, .ref (gad G 119)), (2, .int v2)] dX12_lapLength_85 rfl rfl rfl ?_
        obtain ⟨x17, e18, h⟩ := letM_some h
        refine V_iinc 86 C [(2, .int x17), (1, .int x15), (0, .ref (gad G 119))] 2 x17 dX12_lapLength_86 rfl (by rw [e18]; rfl) rfl rfl ?_
        refine V_goto 89 9 C dX12_lapLength_89 (by decide) ?_
        refine V_sub [2, 1, 0] rfl ?_
        exact ih _ _ _ h
      · replace h := ite_t c12 h
        refine V_aload_n 62 C 0 dX12_lapLength_62 rfl ?_
        refine V_iconst 63 C dX12_lapLength_63 ic1 ?_
        obtain ⟨r21, M19, k20, h⟩ := bindM_some h
        refine V_callI 64 (runVO (k := 119) (rest := []) 64 C (kX12_fails  k20) cf_X12_fails wk_6_226 (ltl (by rfl) rfl) (ceR_X12 (by rfl)) rfl rfl rfl rfl dX12_lapLength_64 rfl rfl (Nat.zero_le _) (Nat.zero_le _)) ?_
        exact V_ireth 67 C hQ h dX12_lapLength_67
set_option maxHeartbeats 4000000 in
theorem kX12_lapLength {G : GG} {l : Launch} {F : Nat}   {M M' : Mem} {r : Int32} (h : fX12_lapLength F  M = some (r, M')) : Con G l yX12_lapLength cX12_lapLength 3 (some .int) rmX12_lapLength [.ref (gad G 119)] M (QI G r M') := by
  refine con_of pnX12 (Nat.le_of_ble_eq_true rfl) (fun κ C hQ => ?_)
  unfold fX12_lapLength at h
  refine V_L (L1 := [(0, .ref (gad G 119))]) rfl ?_
  refine V_aload_n 0 C 0 dX12_lapLength_0 rfl ?_
  refine V_iconst 1 C dX12_lapLength_1 ic0 ?_
  obtain ⟨M1, e2, h⟩ := letM_some h
  refine V_put (ty := .int) (F := F_X12 G 119) 2 C dX12_lapLength_2 (ltl (by rfl) rfl) (fun _ => ceR_X12 (by rfl)) rfl inX12 tyX12 tyX12_ok nmX12 0 rfl wk_6_134 rfl rfl 0 rfl rfl rfl rfl rfl ?_
  refine V_eqM e2 ?_
  refine V_iconst 5 C dX12_lapLength_5 ic0 ?_
  refine V_istore_n 6 C [(1, .int 0), (0, .ref (gad G 119))] dX12_lapLength_6 rfl rfl rfl ?_
  refine V_iconst 7 C dX12_lapLength_7 ic0 ?_
  refine V_istore_n 8 C [(2, .int 0), (1, .int 0), (0, .ref (gad G 119))] dX12_lapLength_8 rfl rfl rfl ?_
  refine V_sub [2, 1, 0] rfl ?_
  refine vX12_lapLength_9  C hQ ?_ _ _ _ _ h
  intro w23 M22 h
  refine V_iload_n 92 C 0 dX12_lapLength_92 rfl ?_
  exact V_ireth 93 C hQ h dX12_lapLength_93
set_option maxHeartbeats 4000000 in
theorem kX12_seed {G : GG} {l : Launch} {F : Nat}   {M M' : Mem} {r : Int32} (h : fX12_seed F  M = some (r, M')) : Con G l yX12_seed cX12_seed 1 (some .int) rmX12_seed [.ref (gad G 119)] M (QI G r M') := by
  refine con_of pnX12 (Nat.le_of_ble_eq_true rfl) (fun κ C hQ => ?_)
  unfold fX12_seed at h
  refine V_L (L1 := [(0, .ref (gad G 119))]) rfl ?_
  refine V_aload_n 0 C 0 dX12_seed_0 rfl ?_
  refine V_bipush 1 C dX12_seed_1 bp6 ?_
  obtain ⟨r3, M1, k2, h⟩ := bindM_some h
  refine V_callI 3 (runVO (k := 119) (rest := []) 3 C (kX12_asks  k2) cf_X12_asks wk_7_167 (ltl (by rfl) rfl) (ceR_X12 (by rfl)) rfl rfl rfl rfl dX12_seed_3 rfl rfl (Nat.zero_le _) (Nat.zero_le _)) ?_
  exact V_ireth 6 C hQ h dX12_seed_6
set_option maxHeartbeats 4000000 in
theorem kX12_minute {G : GG} {l : Launch} {F : Nat}   {M M' : Mem} {r : Int32} (h : fX12_minute F  M = some (r, M')) : Con G l yX12_minute cX12_minute 1 (some .int) rmX12_minute [.ref (gad G 119)] M (QI G r M') := by
  refine con_of pnX12 (Nat.le_of_ble_eq_true rfl) (fun κ C hQ => ?_)
  unfold fX12_minute at h
  refine V_L (L1 := [(0, .ref (gad G 119))]) rfl ?_
  refine V_aload_n 0 C 0 dX12_minute_0 rfl ?_
  refine V_bipush 1 C dX12_minute_1 bp7 ?_
  obtain ⟨r3, M1, k2, h⟩ := bindM_some h
  refine V_callI 3 (runVO (k := 119) (rest := []) 3 C (kX12_asks  k2) cf_X12_asks wk_7_167 (ltl (by rfl) rfl) (ceR_X12 (by rfl)) rfl rfl rfl rfl dX12_minute_3 rfl rfl (Nat.zero_le _) (Nat.zero_le _)) ?_
  exact V_ireth 6 C hQ h dX12_minute_6
set_option maxHeartbeats 4000000 in
theorem kX12_mouseCount {G : GG} {l : Launch} {F : Nat}   {M M' : Mem} {r : Int32} (h : fX12_mouseCount F  M = some (r, M')) : Con G l yX12_mouseCount cX12_mouseCount 1 (some .int) rmX12_mouseCount [.ref (gad G 119)] M (QI G r M') := by
  refine con_of pnX12 (Nat.le_of_ble_eq_true rfl) (fun κ C hQ => ?_)
  unfold fX12_mouseCount at h
  refine V_L (L1 := [(0, .ref (gad G 119))]) rfl ?_
  refine V_aload_n 0 C 0 dX12_mouseCount_0 rfl ?_
  refine V_bipush 1 C dX12_mouseCount_1 bp8 ?_
  obtain ⟨r3, M1, k2, h⟩ := bindM_some h
  refine V_callI 3 (runVO (k := 119) (rest := []) 3 C (kX12_asks  k2) cf_X12_asks wk_7_167 (ltl (by rfl) rfl) (ceR_X12 (by rfl)) rfl rfl rfl rfl dX12_mouseCount_3 rfl rfl (Nat.zero_le _) (Nat.zero_le _)) ?_
  exact V_ireth 6 C hQ h dX12_mouseCount_6
set_option maxHeartbeats 4000000 in
theorem kX12_asksMouse {G : GG} {l : Launch} {F : Nat}  {p0 : Int32} {p1 : Int32} {M M' : Mem} {r : Int32} (h : fX12_asksMouse F p0 p1 M = some (r, M')) : Con G l yX12_asksMouse cX12_asksMouse 3 (some .int) rmX12_asksMouse [.ref (gad G 119), .int p0, .int p1] M (QI G r M') := by
  refine con_of pnX12 (Nat.le_of_ble_eq_true rfl) (fun κ C hQ => ?_)
  unfold fX12_asksMouse at h
  refine V_L (L1 := [(0, .ref (gad G 119)), (1, .int p0), (2, .int p1)]) rfl ?_
  refine V_aload_n 0 C 0 dX12_asksMouse_0 rfl ?_
  refine V_iconst 1 C dX12_asksMouse_1 ic0 ?_
  obtain ⟨M1, e2, h⟩ := letM_some h
  refine V_put (ty := .int) (F := F_X12 G 119) 2 C dX12_asksMouse_2 (ltl (by rfl) rfl) (fun _ => ceR_X12 (by rfl)) rfl inX12 tyX12 tyX12_ok nmX12 0 rfl wk_6_134 rfl rfl 0 rfl rfl rfl rfl rfl ?_
  refine V_eqM e2 ?_
  refine V_iload_n 5 C 1 dX12_asksMouse_5 rfl ?_
  refine V_iconst 6 C dX12_asksMouse_6 ic0 ?_
  refine V_aload_n 7 C 0 dX12_asksMouse_7 rfl ?_
  refine V_get (v := .ref (gad G 120)) 8 C dX12_asksMouse_8 (ltl (by rfl) rfl) (ceR_X12 (by rfl)) rfl inX12 6 rfl wk_6_140 rfl rfl ?_
  refine V_bipush 11 C dX12_asksMouse_11 bp8 ?_
  refine V_ialdJ 13 C dX12_asksMouse_13 (akI_26 (by rfl)) (al_26 (by rfl)) (by decide) (j := 8) (by decide) ?_
  refine V_iconst 14 C dX12_asksMouse_14 ic1 ?_
  refine V_isub 15 C dX12_asksMouse_15 ?_
  obtain ⟨r6, M4, k5, h⟩ := bindM_some h
  refine V_callI 16 (runSO (rest := []) 16 C (kX12_isBetween  k5) cf_X12_isBetween wk_6_215 rfl rfl dX12_asksMouse_16 rfl rfl (Nat.zero_le _) (Nat.zero_le _)) ?_
  refine V_ifeq_b 19 31 C dX12_asksMouse_19 (by decide) (fun c7 => ?_) (fun c7 => ?_)
  · replace h := ite_f c7 h
    refine V_aload_n 31 C 0 dX12_asksMouse_31 rfl ?_
    refine V_iconst 32 C dX12_asksMouse_32 ic1 ?_
    obtain ⟨r10, M8, k9, h⟩ := bindM_some h
    refine V_callI 33 (runVO (k := 119) (rest := []) 33 C (kX12_fails  k9) cf_X12_fails wk_6_226 (ltl (by rfl) rfl) (ceR_X12 (by rfl)) rfl rfl rfl rfl dX12_asksMouse_33 rfl rfl (Nat.zero_le _) (Nat.zero_le _)) ?_
    exact V_ireth 36 C hQ h dX12_asksMouse_36
  · replace h := ite_t c7 h
    refine V_aload_n 22 C 0 dX12_asksMouse_22 rfl ?_
    refine V_iload_n 23 C 1 dX12_asksMouse_23 rfl ?_
    refine V_iload_n 24 C 2 dX12_asksMouse_24 rfl ?_
    obtain ⟨r13, M11, k12, h⟩ := bindM_some h
    refine V_callI 25 (runVO (k := 119) (rest := []) 25 C (kX12_mouse  k12) cf_X12_mouse wk_7_121 (ltl (by rfl) rfl) (ceR_X12 (by rfl)) rfl rfl rfl rfl dX12_asksMouse_25 rfl rfl (Nat.zero_le _) (Nat.zero_le _)) ?_
    refine V_goto 28 36 C dX12_asksMouse_28 (by decide) ?_
    exact V_ireth 36 C hQ h dX12_asksMouse_36
set_option maxHeartbeats 4000000 in
theorem kX12_mouseShelf {G : GG} {l : Launch} {F : Nat}  {p0 : Int32} {M M' : Mem} {r : Int32} (h : fX12_mouseShelf F p0 M = some (r, M')) : Con G l yX12_mouseShelf cX12_mouseShelf 2 (some .int) rmX12_mouseShelf [.ref (gad G 119), .int p0] M (QI G r M') := by
  refine con_of pnX12 (Nat.le_of_ble_eq_true rfl) (fun κ C hQ => ?_)
  unfold fX12_mouseShelf at h
  refine V_L (L1 := [(0, .ref (gad G 119)), (1, .int p0)]) rfl ?_
  refine V_aload_n 0 C 0 dX12_mouseShelf_0 rfl ?_
  refine V_iload_n 1 C 1 dX12_mouseShelf_1 rfl ?_
  refine V_iconst 2 C dX12_mouseShelf_2 ic0 ?_
  obtain ⟨r3, M1, k2, h⟩ := bindM_some h
  refine V_callI 3 (runVO (k := 119) (rest := []) 3 C (kX12_asksMouse  k2) cf_X12_asksMouse wk_8_4 (ltl (by rfl) rfl) (ceR_X12 (by rfl)) rfl rfl rfl rfl dX12_mouseShelf_3 rfl rfl (Nat.zero_le _) (Nat.zero_le _)) ?_
  exact V_ireth 6 C hQ h dX12_mouseShelf_6
set_option maxHeartbeats 4000000 in
theorem kX12_mouseEaten {G : GG} {l : Launch} {F : Nat}  {p0 : Int32} {M M' : Mem} {r : Int32} (h : fX12_mouseEaten F p0 M = some (r, M')) : Con G l yX12_mouseEaten cX12_mouseEaten 2 (some .int) rmX12_mouseEaten [.ref (gad G 119), .int p0] M (QI G r M') := by
  refine con_of pnX12 (Nat.le_of_ble_eq_true rfl) (fun κ C hQ => ?_)
  unfold fX12_mouseEaten at h
  refine V_L (L1 := [(0, .ref (gad G 119)), (1, .int p0)]) rfl ?_
  refine V_aload_n 0 C 0 dX12_mouseEaten_0 rfl ?_
  refine V_iload_n 1 C 1 dX12_mouseEaten_1 rfl ?_
  refine V_iconst 2 C dX12_mouseEaten_2 ic1 ?_
  obtain ⟨r3, M1, k2, h⟩ := bindM_some h
  refine V_callI 3 (runVO (k := 119) (rest := []) 3 C (kX12_asksMouse  k2) cf_X12_asksMouse wk_8_4 (ltl (by rfl) rfl) (ceR_X12 (by rfl)) rfl rfl rfl rfl dX12_mouseEaten_3 rfl rfl (Nat.zero_le _) (Nat.zero_le _)) ?_
  exact V_ireth 6 C hQ h dX12_mouseEaten_6
set_option maxHeartbeats 4000000 in
theorem kX12_mouseHunger {G : GG} {l : Launch} {F : Nat}  {p0 : Int32} {M M' : Mem} {r : Int32} (h : fX12_mouseHunger F p0 M = some (r, M')) : Con G l yX12_mouseHunger cX12_mouseHunger 2 (some .int) rmX12_mouseHunger [.ref (gad G 119), .int p0] M (QI G r M') := by
  refine con_of pnX12 (Nat.le_of_ble_eq_true rfl) (fun κ C hQ => ?_)
  unfold fX12_mouseHunger at h
  refine V_L (L1 := [(0, .ref (gad G 119)), (1, .int p0)]) rfl ?_
  refine V_aload_n 0 C 0 dX12_mouseHunger_0 rfl ?_
  refine V_iload_n 1 C 1 dX12_mouseHunger_1 rfl ?_
  refine V_iconst 2 C dX12_mouseHunger_2 ic2 ?_
  obtain ⟨r3, M1, k2, h⟩ := bindM_some h
  refine V_callI 3 (runVO (k := 119) (rest := []) 3 C (kX12_asksMouse  k2) cf_X12_asksMouse wk_8_4 (ltl (by rfl) rfl) (ceR_X12 (by rfl)) rfl rfl rfl rfl dX12_mouseHunger_3 rfl rfl (Nat.zero_le _) (Nat.zero_le _)) ?_
  exact V_ireth 6 C hQ h dX12_mouseHunger_6
set_option maxHeartbeats 4000000 in
theorem vX12_miceAt_4 {G : GG} {κ : KK} {F : Nat}  (C : Cx G κ cX12_miceAt RX12 (some .int) 4 rmX12_miceAt) {M' : Mem} {r : Int32} (hQ : HQ G κ (QI G r M') 0 0) {q1 : Int32} {kx : Int32 → Mem → Option (Int32 × Mem)} (hk : ∀ (v2 : Int32) (M : Mem), kx v2 M = some (r, M') → V G κ 4 0 0 M 39 [(2, .int v2)] []) : ∀ (n : Nat) (v2 : Int32) (v3 : Int32) (M : Mem), fX12_miceAt_4 F q1 kx n v2 v3 M = some (r, M') → V G κ 4 0 0 M 4 [(0, .ref (gad G 119)), (1, .int q1), (2, .int v2), (3, .int v3)] [] := by
  intro n
  induction n with
  | zero => intro v2 v3 M h; rw [fX12_miceAt_4] at h; cases h
  | succ n ih =>
    intro v2 v3 M h
    rw [fX12_miceAt_4] at h
    refine V_iload_n 4 C 3 dX12_miceAt_4 rfl ?_
    refine V_aload_n 5 C 0 dX12_miceAt_5 rfl ?_
    refine V_get (v := .ref (gad G 120)) 6 C dX12_miceAt_6 (ltl (by rfl) rfl) (ceR_X12 (by rfl)) rfl inX12 6 rfl wk_6_140 rfl rfl ?_
    refine V_bipush 9 C dX12_miceAt_9 bp8 ?_
    refine V_ialdJ 11 C dX12_miceAt_11 (akI_26 (by rfl)) (al_26 (by rfl)) (by decide) (j := 8) (by decide) ?_
    refine V_icmp_ge 12 39 C dX12_miceAt_12 (by decide) (fun c2 => ?_) (fun c2 => ?_)
    · replace h := ite_t c2 h
      refine V_sub [2] rfl ?_
      exact hk _ _ h
    · replace h := ite_f c2 h
      refine V_iload_n 15 C 2 dX12_miceAt_15 rfl ?_
      refine V_aload_n 16 C 0 dX12_miceAt_16 rfl ?_
      refine V_iload_n 17 C 3 dX12_miceAt_17 rfl ?_
      refine V_iconst 18 C dX12_miceAt_18 ic0 ?_
      obtain ⟨r5, M3, k4, h⟩ := bindM_some h
      refine V_callI 19 (runVO (k := 119) (rest := [.int v2]) 19 C (kX12_mouse  k4) cf_X12_mouse wk_7_121 (ltl (by rfl) rfl) (ceR_X12 (by rfl)) rfl rfl rfl rfl dX12_miceAt_19 rfl rfl (Nat.zero_le _) (Nat.zero_le _)) ?_
      refine V_iload_n 22 C 1 dX12_miceAt_22 rfl ?_
      refine V_icmp_ne 23 30 C dX12_miceAt_23 (by decide) (fun c6 => ?_) (fun c6 => ?_)
      · replace h := ite_f c6 h
        refine V_iconst 30 C dX12_miceAt_30 ic0 ?_
        refine V_iadd 31 C dX12_miceAt_31 ?_
        obtain ⟨x7, e8, h⟩ := letM_some h
        refine V_top e8 ?_
        refine V_istore_n 32 C [(2, .int x7), (0, .ref (gad G 119)), (1, .int q1), (3, .int v3)] dX12_miceAt_32 rfl rfl rfl ?_
        obtain ⟨x9, e10, h⟩ := letM_some h
        refine V_iinc 33 C [(3, .int x9), (2, .int x7), (0, .ref (gad G 119)), (1, .int q1)] 3 x9 dX12_miceAt_33 rfl (by rw [e10]; rfl) rfl rfl ?_
        refine V_goto 36 4 C dX12_miceAt_36 (by decide) ?_
        refine V_sub [2, 3, 1, 0] rfl ?_
        exact ih _ _ _ h
      · replace h := ite_t c6 h
        refine V_iconst 26 C dX12_miceAt_26 ic1 ?_
        refine V_goto 27 31 C dX12_miceAt_27 (by decide) ?_
        refine V_iadd 31 C dX12_miceAt_31 ?_
        obtain ⟨x11, e12, h⟩ := letM_some h
        refine V_top e12 ?_
        refine V_istore_n 32 C [(2, .int x11), (0, .ref (gad G 119)), (1, .int q1), (3, .int v3)] dX12_miceAt_32 rfl rfl rfl ?_
        obtain ⟨x13, e14, h⟩ := letM_some h
        refine V_iinc 33 C [(3, .int x13), (2, .int x11), (0, .ref (gad G 119)), (1, .int q1)] 3 x13 dX12_miceAt_33 rfl (by rw [e14]; rfl) rfl rfl ?_
        refine V_goto 36 4 C dX12_miceAt_36 (by decide) ?_
        refine V_sub [2, 3, 1, 0] rfl ?_
        exact ih _ _ _ h
set_option maxHeartbeats 4000000 in
theorem kX12_miceAt {G : GG} {l : Launch} {F : Nat}  {p0 : Int32} {M M' : Mem} {r : Int32} (h : fX12_miceAt F p0 M = some (r, M')) : Con G l yX12_miceAt cX12_miceAt 4 (some .int) rmX12_miceAt [.ref (gad G 119), .int p0] M (QI G r M') := by
  refine con_of pnX12 (Nat.le_of_ble_eq_true rfl) (fun κ C hQ => ?_)
  unfold fX12_miceAt at h
  refine V_L (L1 := [(0, .ref (gad G 119)), (1, .int p0)]) rfl ?_
  refine V_iconst 0 C dX12_miceAt_0 ic0 ?_
  refine V_istore_n 1 C [(2, .int 0), (0, .ref (gad G 119)), (1, .int p0)] dX12_miceAt_1 rfl rfl rfl ?_
  refine V_iconst 2 C dX12_miceAt_2 ic0 ?_
  refine V_istore_n 3 C [(3, .int 0), (2, .int 0), (0, .ref (gad G 119)), (1, .int p0)] dX12_miceAt_3 rfl rfl rfl ?_
  refine V_sub [2, 3, 1, 0] rfl ?_
  refine vX12_miceAt_4  C hQ ?_ _ _ _ _ h
  intro w16 M15 h
  refine V_iload_n 39 C 0 dX12_miceAt_39 rfl ?_
  exact V_ireth 40 C hQ h dX12_miceAt_40
set_option maxHeartbeats 4000000 in
theorem kX12_miceOn {G : GG} {l : Launch} {F : Nat}  {p0 : Int32} {M M' : Mem} {r : Int32} (h : fX12_miceOn F p0 M = some (r, M')) : Con G l yX12_miceOn cX12_miceOn 2 (some .int) rmX12_miceOn [.ref (gad G 119), .int p0] M (QI G r M') := by
  refine con_of pnX12 (Nat.le_of_ble_eq_true rfl) (fun κ C hQ => ?_)
  unfold fX12_miceOn at h
  refine V_L (L1 := [(0, .ref (gad G 119)), (1, .int p0)]) rfl ?_
  refine V_aload_n 0 C 0 dX12_miceOn_0 rfl ?_
  refine V_iconst 1 C dX12_miceOn_1 ic0 ?_
  obtain ⟨M1, e2, h⟩ := letM_some h
  refine V_put (ty := .int) (F := F_X12 G 119) 2 C dX12_miceOn_2 (ltl (by rfl) rfl) (fun _ => ceR_X12 (by rfl)) rfl inX12 tyX12 tyX12_ok nmX12 0 rfl wk_6_134 rfl rfl 0 rfl rfl rfl rfl rfl ?_
  refine V_eqM e2 ?_
  refine V_aload_n 5 C 0 dX12_miceOn_5 rfl ?_
  refine V_iload_n 6 C 1 dX12_miceOn_6 rfl ?_
  obtain ⟨r5, M3, k4, h⟩ := bindM_some h
  refine V_callI 7 (runVO (k := 119) (rest := []) 7 C (kX12_isShelf  k4) cf_X12_isShelf wk_7_14 (ltl (by rfl) rfl) (ceR_X12 (by rfl)) rfl rfl rfl rfl dX12_miceOn_7 rfl rfl (Nat.zero_le _) (Nat.zero_le _)) ?_
  refine V_ifeq_b 10 21 C dX12_miceOn_10 (by decide) (fun c6 => ?_) (fun c6 => ?_)
  · replace h := ite_f c6 h
    refine V_aload_n 21 C 0 dX12_miceOn_21 rfl ?_
    refine V_iconst 22 C dX12_miceOn_22 ic1 ?_
    obtain ⟨r9, M7, k8, h⟩ := bindM_some h
    refine V_callI 23 (runVO (k := 119) (rest := []) 23 C (kX12_fails  k8) cf_X12_fails wk_6_226 (ltl (by rfl) rfl) (ceR_X12 (by rfl)) rfl rfl rfl rfl dX12_miceOn_23 rfl rfl (Nat.zero_le _) (Nat.zero_le _)) ?_
    exact V_ireth 26 C hQ h dX12_miceOn_26
  · replace h := ite_t c6 h
    refine V_aload_n 13 C 0 dX12_miceOn_13 rfl ?_
    refine V_iload_n 14 C 1 dX12_miceOn_14 rfl ?_
    obtain ⟨r12, M10, k11, h⟩ := bindM_some h
    refine V_callI 15 (runVO (k := 119) (rest := []) 15 C (kX12_miceAt  k11) cf_X12_miceAt wk_8_20 (ltl (by rfl) rfl) (ceR_X12 (by rfl)) rfl rfl rfl rfl dX12_miceOn_15 rfl rfl (Nat.zero_le _) (Nat.zero_le _)) ?_
    refine V_goto 18 26 C dX12_miceOn_18 (by decide) ?_
    exact V_ireth 26 C hQ h dX12_miceOn_26
set_option maxHeartbeats 4000000 in
theorem vX12_cheeseAll_4 {G : GG} {κ : KK} {F : Nat}  (C : Cx G κ cX12_cheeseAll RX12 (some .int) 3 rmX12_cheeseAll) {M' : Mem} {r : Int32} (hQ : HQ G κ (QI G r M') 0 0)  {kx : Int32 → Mem → Option (Int32 × Mem)} (hk : ∀ (v1 : Int32) (M : Mem), kx v1 M = some (r, M') → V G κ 3 0 0 M 32 [(1, .int v1)] []) : ∀ (n : Nat) (v1 : Int32) (v2 : Int32) (M : Mem), fX12_cheeseAll_4 F  kx n v1 v2 M = some (r, M') → V G κ 3 0 0 M 4 [(0, .ref (gad G 119)), (1, .int v1), (2, .int v2)] [] := by
  intro n
  induction n with
  | zero => intro v1 v2 M h; rw [fX12_cheeseAll_4] at h; cases h
  | succ n ih =>
    intro v1 v2 M h
    rw [fX12_cheeseAll_4] at h
    refine V_iload_n 4 C 2 dX12_cheeseAll_4 rfl ?_
    refine V_aload_n 5 C 0 dX12_cheeseAll_5 rfl ?_
    refine V_get (v := .ref (gad G 120)) 6 C dX12_cheeseAll_6 (ltl (by rfl) rfl) (ceR_X12 (by rfl)) rfl inX12 6 rfl wk_6_140 rfl rfl ?_
    refine V_iconst 9 C dX12_cheeseAll_9 ic0 ?_
    refine V_ialdJ 10 C dX12_cheeseAll_10 (akI_26 (by rfl)) (al_26 (by rfl)) (by decide) (j := 0) (by decide) ?_
    refine V_icmp_ge 11 32 C dX12_cheeseAll_11 (by decide) (fun c2 => ?_) (fun c2 => ?_)
    · replace h := ite_t c2 h
      refine V_sub [1] rfl ?_
      exact hk _ _ h
    · replace h := ite_f c2 h
      refine V_iload_n 14 C 1 dX12_cheeseAll_14 rfl ?_
      refine V_aload_n 15 C 0 dX12_cheeseAll_15 rfl ?_
      refine V_get (v := .ref (gad G 120)) 16 C dX12_cheeseAll_16 (ltl (by rfl) rfl) (ceR_X12 (by rfl)) rfl inX12 6 rfl wk_6_140 rfl rfl ?_
      refine V_bipush 19 C dX12_cheeseAll_19 bp14 ?_
      refine V_iload_n 21 C 2 dX12_cheeseAll_21 rfl ?_
      refine V_iadd 22 C dX12_cheeseAll_22 ?_
      obtain ⟨c3, h⟩ := chk_some h
      refine V_iald 23 C dX12_cheeseAll_23 (akI_26 (by rfl)) (al_26 (by rfl)) c3 ?_
      refine V_iadd 24 C dX12_cheeseAll_24 ?_
      obtain ⟨x4, e5, h⟩ := letM_some h
      refine V_top e5 ?_
      refine V_istore_n 25 C [(1, .int x4), (0, .ref (gad G 119)), (2, .int v2)] dX12_cheeseAll_25 rfl rfl rfl ?_
      obtain ⟨x6, e7, h⟩ := letM_some h
      refine V_iinc 26 C [(2, .int x6), (1, .int x4), (0, .ref (gad G 119))] 2 x6 dX12_cheeseAll_26 rfl (by rw [e7]; rfl) rfl rfl ?_
      refine V_goto 29 4 C dX12_cheeseAll_29 (by decide) ?_
      refine V_sub [2, 1, 0] rfl ?_
      exact ih _ _ _ h
set_option maxHeartbeats 4000000 in
theorem kX12_cheeseAll {G : GG} {l : Launch} {F : Nat}   {M M' : Mem} {r : Int32} (h : fX12_cheeseAll F  M = some (r, M')) : Con G l yX12_cheeseAll cX12_cheeseAll 3 (some .int) rmX12_cheeseAll [.ref (gad G 119)] M (QI G r M') := by
  refine con_of pnX12 (Nat.le_of_ble_eq_true rfl) (fun κ C hQ => ?_)
  unfold fX12_cheeseAll at h
  refine V_L (L1 := [(0, .ref (gad G 119))]) rfl ?_
  refine V_iconst 0 C dX12_cheeseAll_0 ic0 ?_
  refine V_istore_n 1 C [(1, .int 0), (0, .ref (gad G 119))] dX12_cheeseAll_1 rfl rfl rfl ?_
  refine V_iconst 2 C dX12_cheeseAll_2 ic0 ?_
  refine V_istore_n 3 C [(2, .int 0), (1, .int 0), (0, .ref (gad G 119))] dX12_cheeseAll_3 rfl rfl rfl ?_
  refine V_sub [2, 1, 0] rfl ?_
  refine vX12_cheeseAll_4  C hQ ?_ _ _ _ _ h
  intro w9 M8 h
  refine V_iload_n 32 C 0 dX12_cheeseAll_32 rfl ?_
  exact V_ireth 33 C hQ h dX12_cheeseAll_33
set_option maxHeartbeats 4000000 in
theorem kX12_totalCheese {G : GG} {l : Launch} {F : Nat}   {M M' : Mem} {r : Int32} (h : fX12_totalCheese F  M = some (r, M')) : Con G l yX12_totalCheese cX12_totalCheese 1 (some .int) rmX12_totalCheese [.ref (gad G 119)] M (QI G r M') := by
  refine con_of pnX12 (Nat.le_of_ble_eq_true rfl) (fun κ C hQ => ?_)
  unfold fX12_totalCheese at h
  refine V_L (L1 := [(0, .ref (gad G 119))]) rfl ?_
  refine V_aload_n 0 C 0 dX12_totalCheese_0 rfl ?_
  refine V_iconst 1 C dX12_totalCheese_1 ic0 ?_
  obtain ⟨M1, e2, h⟩ := letM_some h
  refine V_put (ty := .int) (F := F_X12 G 119) 2 C dX12_totalCheese_2 (ltl (by rfl) rfl) (fun _ => ceR_X12 (by rfl)) rfl inX12 tyX12 tyX12_ok nmX12 0 rfl wk_6_134 rfl rfl 0 rfl rfl rfl rfl rfl ?_
  refine V_eqM e2 ?_
  refine V_aload_n 5 C 0 dX12_totalCheese_5 rfl ?_
  obtain ⟨r5, M3, k4, h⟩ := bindM_some h
  refine V_callI 6 (runVO (k := 119) (rest := []) 6 C (kX12_cheeseAll  k4) cf_X12_cheeseAll wk_8_28 (ltl (by rfl) rfl) (ceR_X12 (by rfl)) rfl rfl rfl rfl dX12_totalCheese_6 rfl rfl (Nat.zero_le _) (Nat.zero_le _)) ?_
  exact V_ireth 9 C hQ h dX12_totalCheese_9
set_option maxHeartbeats 4000000 in
theorem kX12_totalCheeseByAccounts {G : GG} {l : Launch} {F : Nat}   {M M' : Mem} {r : Int32} (h : fX12_totalCheeseByAccounts F  M = some (r, M')) : Con G l yX12_totalCheeseByAccounts cX12_totalCheeseByAccounts 1 (some .int) rmX12_totalCheeseByAccounts [.ref (gad G 119)] M (QI G r M') := by
  refine con_of pnX12 (Nat.le_of_ble_eq_true rfl) (fun κ C hQ => ?_)
  unfold fX12_totalCheeseByAccounts at h
  refine V_L (L1 := [(0, .ref (gad G 119))]) rfl ?_
  refine V_aload_n 0 C 0 dX12_totalCheeseByAccounts_0 rfl ?_
  refine V_iconst 1 C dX12_totalCheeseByAccounts_1 ic0 ?_
  obtain ⟨M1, e2, h⟩ := letM_some h
  refine V_put (ty := .int) (F := F_X12 G 119) 2 C dX12_totalCheeseByAccounts_2 (ltl (by rfl) rfl) (fun _ => ceR_X12 (by rfl)) rfl inX12 tyX12 tyX12_ok nmX12 0 rfl wk_6_134 rfl rfl 0 rfl rfl rfl rfl rfl ?_
  refine V_eqM e2 ?_
  refine V_aload_n 5 C 0 dX12_totalCheeseByAccounts_5 rfl ?_
  refine V_get (v := .ref (gad G 120)) 6 C dX12_totalCheeseByAccounts_6 (ltl (by rfl) rfl) (ceR_X12 (by rfl)) rfl inX12 6 rfl wk_6_140 rfl rfl ?_
  refine V_bipush 9 C dX12_totalCheeseByAccounts_9 bp13 ?_
  refine V_ialdJ 11 C dX12_totalCheeseByAccounts_11 (akI_26 (by rfl)) (al_26 (by rfl)) (by decide) (j := 13) (by decide) ?_
  refine V_aload_n 12 C 0 dX12_totalCheeseByAccounts_12 rfl ?_
  refine V_get (v := .ref (gad G 120)) 13 C dX12_totalCheeseByAccounts_13 (ltl (by rfl) rfl) (ceR_X12 (by rfl)) rfl inX12 6 rfl wk_6_140 rfl rfl ?_
  refine V_bipush 16 C dX12_totalCheeseByAccounts_16 bp12 ?_
  refine V_ialdJ 18 C dX12_totalCheeseByAccounts_18 (akI_26 (by rfl)) (al_26 (by rfl)) (by decide) (j := 12) (by decide) ?_
  refine V_isub 19 C dX12_totalCheeseByAccounts_19 ?_
  exact V_ireth 20 C hQ h dX12_totalCheeseByAccounts_20
set_option maxHeartbeats 4000000 in
theorem kX12_eaten {G : GG} {l : Launch} {F : Nat}   {M M' : Mem} {r : Int32} (h : fX12_eaten F  M = some (r, M')) : Con G l yX12_eaten cX12_eaten 1 (some .int) rmX12_eaten [.ref (gad G 119)] M (QI G r M') := by
  refine con_of pnX12 (Nat.le_of_ble_eq_true rfl) (fun κ C hQ => ?_)
  unfold fX12_eaten at h
  refine V_L (L1 := [(0, .ref (gad G 119))]) rfl ?_
  refine V_aload_n 0 C 0 dX12_eaten_0 rfl ?_
  refine V_bipush 1 C dX12_eaten_1 bp12 ?_
  obtain ⟨r3, M1, k2, h⟩ := bindM_some h
  refine V_callI 3 (runVO (k := 119) (rest := []) 3 C (kX12_asks  k2) cf_X12_asks wk_7_167 (ltl (by rfl) rfl) (ceR_X12 (by rfl)) rfl rfl rfl rfl dX12_eaten_3 rfl rfl (Nat.zero_le _) (Nat.zero_le _)) ?_
  exact V_ireth 6 C hQ h dX12_eaten_6
set_option maxHeartbeats 4000000 in
theorem kX12_caught {G : GG} {l : Launch} {F : Nat}   {M M' : Mem} {r : Int32} (h : fX12_caught F  M = some (r, M')) : Con G l yX12_caught cX12_caught 1 (some .int) rmX12_caught [.ref (gad G 119)] M (QI G r M') := by
  refine con_of pnX12 (Nat.le_of_ble_eq_true rfl) (fun κ C hQ => ?_)
  unfold fX12_caught at h
  refine V_L (L1 := [(0, .ref (gad G 119))]) rfl ?_
  refine V_aload_n 0 C 0 dX12_caught_0 rfl ?_
  refine V_bipush 1 C dX12_caught_1 bp9 ?_
  obtain ⟨r3, M1, k2, h⟩ := bindM_some h
  refine V_callI 3 (runVO (k := 119) (rest := []) 3 C (kX12_asks  k2) cf_X12_asks wk_7_167 (ltl (by rfl) rfl) (ceR_X12 (by rfl)) rfl rfl rfl rfl dX12_caught_3 rfl rfl (Nat.zero_le _) (Nat.zero_le _)) ?_
  exact V_ireth 6 C hQ h dX12_caught_6
set_option maxHeartbeats 4000000 in
theorem kX12_gone {G : GG} {l : Launch} {F : Nat}   {M M' : Mem} {r : Int32} (h : fX12_gone F  M = some (r, M')) : Con G l yX12_gone cX12_gone 1 (some .int) rmX12_gone [.ref (gad G 119)] M (QI G r M') := by
  refine con_of pnX12 (Nat.le_of_ble_eq_true rfl) (fun κ C hQ => ?_)
  unfold fX12_gone at h
  refine V_L (L1 := [(0, .ref (gad G 119))]) rfl ?_
  refine V_aload_n 0 C 0 dX12_gone_0 rfl ?_
  refine V_bipush 1 C dX12_gone_1 bp10 ?_
  obtain ⟨r3, M1, k2, h⟩ := bindM_some h
  refine V_callI 3 (runVO (k := 119) (rest := []) 3 C (kX12_asks  k2) cf_X12_asks wk_7_167 (ltl (by rfl) rfl) (ceR_X12 (by rfl)) rfl rfl rfl rfl dX12_gone_3 rfl rfl (Nat.zero_le _) (Nat.zero_le _)) ?_
  exact V_ireth 6 C hQ h dX12_gone_6
set_option maxHeartbeats 4000000 in
theorem kX12_rinds {G : GG} {l : Launch} {F : Nat}   {M M' : Mem} {r : Int32} (h : fX12_rinds F  M = some (r, M')) : Con G l yX12_rinds cX12_rinds 1 (some .int) rmX12_rinds [.ref (gad G 119)] M (QI G r M') := by
  refine con_of pnX12 (Nat.le_of_ble_eq_true rfl) (fun κ C hQ => ?_)
  unfold fX12_rinds at h
  refine V_L (L1 := [(0, .ref (gad G 119))]) rfl ?_
  refine V_aload_n 0 C 0 dX12_rinds_0 rfl ?_
  refine V_bipush 1 C dX12_rinds_1 bp11 ?_
  obtain ⟨r3, M1, k2, h⟩ := bindM_some h
  refine V_callI 3 (runVO (k := 119) (rest := []) 3 C (kX12_asks  k2) cf_X12_asks wk_7_167 (ltl (by rfl) rfl) (ceR_X12 (by rfl)) rfl rfl rfl rfl dX12_rinds_3 rfl rfl (Nat.zero_le _) (Nat.zero_le _)) ?_
  exact V_ireth 6 C hQ h dX12_rinds_6
set_option maxHeartbeats 4000000 in
theorem kX12_meanCheese {G : GG} {l : Launch} {F : Nat}   {M M' : Mem} {r : UInt64} (h : fX12_meanCheese F  M = some (r, M')) : Con G l yX12_meanCheese cX12_meanCheese 1 (some .double) rmX12_meanCheese [.ref (gad G 119)] M (QD G r M') := by
  refine con_of pnX12 (Nat.le_of_ble_eq_true rfl) (fun κ C hQ => ?_)
  unfold fX12_meanCheese at h
  refine V_L (L1 := [(0, .ref (gad G 119))]) rfl ?_
  refine V_aload_n 0 C 0 dX12_meanCheese_0 rfl ?_
  refine V_iconst 1 C dX12_meanCheese_1 ic0 ?_
  obtain ⟨M1, e2, h⟩ := letM_some h
  refine V_put (ty := .int) (F := F_X12 G 119) 2 C dX12_meanCheese_2 (ltl (by rfl) rfl) (fun _ => ceR_X12 (by rfl)) rfl inX12 tyX12 tyX12_ok nmX12 0 rfl wk_6_134 rfl rfl 0 rfl rfl rfl rfl rfl ?_
  refine V_eqM e2 ?_
  refine V_aload_n 5 C 0 dX12_meanCheese_5 rfl ?_
  refine V_get (v := .ref (gad G 120)) 6 C dX12_meanCheese_6 (ltl (by rfl) rfl) (ceR_X12 (by rfl)) rfl inX12 6 rfl wk_6_140 rfl rfl ?_
  refine V_iconst 9 C dX12_meanCheese_9 ic0 ?_
  refine V_ialdJ 10 C dX12_meanCheese_10 (akI_26 (by rfl)) (al_26 (by rfl)) (by decide) (j := 0) (by decide) ?_
  refine V_if_ne 11 23 C dX12_meanCheese_11 (by decide) (fun c4 => ?_) (fun c4 => ?_)
  · replace h := ite_f c4 h
    refine V_aload_n 23 C 0 dX12_meanCheese_23 rfl ?_
    obtain ⟨r7, M5, k6, h⟩ := bindM_some h
    refine V_callI 24 (runVO (k := 119) (rest := []) 24 C (kX12_cheeseAll  k6) cf_X12_cheeseAll wk_8_28 (ltl (by rfl) rfl) (ceR_X12 (by rfl)) rfl rfl rfl rfl dX12_meanCheese_24 rfl rfl (Nat.zero_le _) (Nat.zero_le _)) ?_
    refine V_i2d 27 C dX12_meanCheese_27 ?_
    refine V_aload_n 28 C 0 dX12_meanCheese_28 rfl ?_
    refine V_get (v := .ref (gad G 120)) 29 C dX12_meanCheese_29 (ltl (by rfl) rfl) (ceR_X12 (by rfl)) rfl inX12 6 rfl wk_6_140 rfl rfl ?_
    refine V_iconst 32 C dX12_meanCheese_32 ic0 ?_
    refine V_ialdJ 33 C dX12_meanCheese_33 (akI_26 (by rfl)) (al_26 (by rfl)) (by decide) (j := 0) (by decide) ?_
    refine V_i2d 34 C dX12_meanCheese_34 ?_
    obtain ⟨c9, h⟩ := chk_some h
    refine V_ddiv 35 C dX12_meanCheese_35 c9 ?_
    exact V_dreth 36 C hQ h dX12_meanCheese_36
  · replace h := ite_t c4 h
    refine V_aload_n 14 C 0 dX12_meanCheese_14 rfl ?_
    refine V_iconst 15 C dX12_meanCheese_15 ic1 ?_
    obtain ⟨r12, M10, k11, h⟩ := bindM_some h
    refine V_callI 16 (runVO (k := 119) (rest := []) 16 C (kX12_fails  k11) cf_X12_fails wk_6_226 (ltl (by rfl) rfl) (ceR_X12 (by rfl)) rfl rfl rfl rfl dX12_meanCheese_16 rfl rfl (Nat.zero_le _) (Nat.zero_le _)) ?_
    refine V_i2d 19 C dX12_meanCheese_19 ?_
    refine V_goto 20 36 C dX12_meanCheese_20 (by decide) ?_
    exact V_dreth 36 C hQ h dX12_meanCheese_36
set_option maxHeartbeats 4000000 in
theorem kX12_caughtShare {G : GG} {l : Launch} {F : Nat}   {M M' : Mem} {r : UInt32} (h : fX12_caughtShare F  M = some (r, M')) : Con G l yX12_caughtShare cX12_caughtShare 2 (some .float) rmX12_caughtShare [.ref (gad G 119)] M (QF G r M') := by
  refine con_of pnX12 (Nat.le_of_ble_eq_true rfl) (fun κ C hQ => ?_)
  unfold fX12_caughtShare at h
  refine V_L (L1 := [(0, .ref (gad G 119))]) rfl ?_
  refine V_aload_n 0 C 0 dX12_caughtShare_0 rfl ?_
  refine V_iconst 1 C dX12_caughtShare_1 ic0 ?_
  obtain ⟨M1, e2, h⟩ := letM_some h
  refine V_put (ty := .int) (F := F_X12 G 119) 2 C dX12_caughtShare_2 (ltl (by rfl) rfl) (fun _ => ceR_X12 (by rfl)) rfl inX12 tyX12 tyX12_ok nmX12 0 rfl wk_6_134 rfl rfl 0 rfl rfl rfl rfl rfl ?_
  refine V_eqM e2 ?_
  refine V_aload_n 5 C 0 dX12_caughtShare_5 rfl ?_
  refine V_get (v := .ref (gad G 120)) 6 C dX12_caughtShare_6 (ltl (by rfl) rfl) (ceR_X12 (by rfl)) rfl inX12 6 rfl wk_6_140 rfl rfl ?_
  refine V_bipush 9 C dX12_caughtShare_9 bp9 ?_
  refine V_ialdJ 11 C dX12_caughtShare_11 (akI_26 (by rfl)) (al_26 (by rfl)) (by decide) (j := 9) (by decide) ?_
  refine V_aload_n 12 C 0 dX12_caughtShare_12 rfl ?_
  refine V_get (v := .ref (gad G 120)) 13 C dX12_caughtShare_13 (ltl (by rfl) rfl) (ceR_X12 (by rfl)) rfl inX12 6 rfl wk_6_140 rfl rfl ?_
  refine V_bipush 16 C dX12_caughtShare_16 bp10 ?_
  refine V_ialdJ 18 C dX12_caughtShare_18 (akI_26 (by rfl)) (al_26 (by rfl)) (by decide) (j := 10) (by decide) ?_
  refine V_iadd 19 C dX12_caughtShare_19 ?_
  obtain ⟨x5, e6, h⟩ := letM_some h
  refine V_top e6 ?_
  refine V_istore_n 20 C [(1, .int x5), (0, .ref (gad G 119))] dX12_caughtShare_20 rfl rfl rfl ?_
  refine V_iload_n 21 C 0 dX12_caughtShare_21 rfl ?_
  refine V_if_ne 22 34 C dX12_caughtShare_22 (by decide) (fun c7 => ?_) (fun c7 => ?_)
  · replace h := ite_f c7 h
    refine V_aload_n 34 C 1 dX12_caughtShare_34 rfl ?_
    refine V_get (v := .ref (gad G 120)) 35 C dX12_caughtShare_35 (ltl (by rfl) rfl) (ceR_X12 (by rfl)) rfl inX12 6 rfl wk_6_140 rfl rfl ?_
    refine V_bipush 38 C dX12_caughtShare_38 bp9 ?_
    refine V_ialdJ 40 C dX12_caughtShare_40 (akI_26 (by rfl)) (al_26 (by rfl)) (by decide) (j := 9) (by decide) ?_
    refine V_i2f 41 C dX12_caughtShare_41 ?_
    refine V_iload_n 42 C 0 dX12_caughtShare_42 rfl ?_
    refine V_i2f 43 C dX12_caughtShare_43 ?_
    obtain ⟨c9, h⟩ := chk_some h
    refine V_fdiv 44 C dX12_caughtShare_44 c9 ?_
    exact V_freth 45 C hQ h dX12_caughtShare_45
  · replace h := ite_t c7 h
    refine V_aload_n 25 C 1 dX12_caughtShare_25 rfl ?_
    refine V_iconst 26 C dX12_caughtShare_26 ic1 ?_
    obtain ⟨r12, M10, k11, h⟩ := bindM_some h
    refine V_callI 27 (runVO (k := 119) (rest := []) 27 C (kX12_fails  k11) cf_X12_fails wk_6_226 (ltl (by rfl) rfl) (ceR_X12 (by rfl)) rfl rfl rfl rfl dX12_caughtShare_27 rfl rfl (Nat.zero_le _) (Nat.zero_le _)) ?_
    refine V_i2f 30 C dX12_caughtShare_30 ?_
    refine V_goto 31 45 C dX12_caughtShare_31 (by decide) ?_
    exact V_freth 45 C hQ h dX12_caughtShare_45
set_option maxHeartbeats 4000000 in
theorem kX12_writes {G : GG} {l : Launch} {F : Nat}  {p0 : Int32} {M M' : Mem}  (h : fX12_writes F p0 M = some M') : Con G l yX12_writes cX12_writes 2 none rmX12_writes [.ref (gad G 119), .int p0] M (QV G M') := by
  refine con_of pnX12 (Nat.le_of_ble_eq_true rfl) (fun κ C hQ => ?_)
  unfold fX12_writes at h
  refine V_L (L1 := [(0, .ref (gad G 119)), (1, .int p0)]) rfl ?_
  refine V_aload_n 0 C 0 dX12_writes_0 rfl ?_
  refine V_get (v := .ref (gad G 126)) 1 C dX12_writes_1 (ltl (by rfl) rfl) (ceR_X12 (by rfl)) rfl inX12 15 rfl wk_6_149 rfl rfl ?_
  refine V_aload_n 4 C 0 dX12_writes_4 rfl ?_
  refine V_get (v := .int (M 119 16)) 5 C dX12_writes_5 (ltl (by rfl) rfl) (ceR_X12 (by rfl)) rfl inX12 16 rfl wk_6_150 rfl rfl ?_
  refine V_iload_n 8 C 1 dX12_writes_8 rfl ?_
  refine V_i2c 9 C dX12_writes_9 ?_
  obtain ⟨c1, h⟩ := chk_some h
  obtain ⟨M2, e3, h⟩ := letM_some h
  refine V_cast 10 C dX12_writes_10 (akC_28 (by rfl)) (al_28 (by rfl)) c1 ?_
  refine V_eqM e3 ?_
  refine V_aload_n 11 C 0 dX12_writes_11 rfl ?_
  refine V_dup 12 C dX12_writes_12 rfl ?_
  refine V_get (v := .int (M2 119 16)) 13 C dX12_writes_13 (ltl (by rfl) rfl) (ceR_X12 (by rfl)) rfl inX12 16 rfl wk_6_150 rfl rfl ?_
  refine V_iconst 16 C dX12_writes_16 ic1 ?_
  refine V_iadd 17 C dX12_writes_17 ?_
  obtain ⟨M4, e5, h⟩ := letM_some h
  refine V_put (ty := .int) (F := F_X12 G 119) 18 C dX12_writes_18 (ltl (by rfl) rfl) (fun _ => ceR_X12 (by rfl)) rfl inX12 tyX12 tyX12_ok nmX12 16 rfl wk_6_150 rfl rfl ((M2 119 16) + 1) rfl rfl rfl rfl rfl ?_
  refine V_eqM e5 ?_
  exact V_vreth 21 C hQ h dX12_writes_21
set_option maxHeartbeats 4000000 in
theorem kX12_writesNumber {G : GG} {l : Launch} {F : Nat}  {p0 : Int32} {M M' : Mem}  (h : fX12_writesNumber F p0 M = some M') : Con G l yX12_writesNumber cX12_writesNumber 2 none rmX12_writesNumber [.ref (gad G 119), .int p0] M (QV G M') := by
  refine con_of pnX12 (Nat.le_of_ble_eq_true rfl) (fun κ C hQ => ?_)
  unfold fX12_writesNumber at h
  refine V_L (L1 := [(0, .ref (gad G 119)), (1, .int p0)]) rfl ?_
  refine V_iload_n 0 C 1 dX12_writesNumber_0 rfl ?_
  refine V_bipush 1 C dX12_writesNumber_1 bp9 ?_
  refine V_icmp_le 3 17 C dX12_writesNumber_3 (by decide) (fun c1 => ?_) (fun c1 => ?_)
  · replace h := ite_t c1 h
    refine V_aload_n 17 C 0 dX12_writesNumber_17 rfl ?_
    refine V_bipush 18 C dX12_writesNumber_18 bp48 ?_
    refine V_iload_n 20 C 1 dX12_writesNumber_20 rfl ?_
    refine V_bipush 21 C dX12_writesNumber_21 bp10 ?_
    refine V_irem 23 C dX12_writesNumber_23 (by decide) ?_
    refine V_iadd 24 C dX12_writesNumber_24 ?_
    obtain ⟨M2, k3, h⟩ := bindV_some h
    refine V_callV 25 (runVO (k := 119) (rest := []) 25 C (kX12_writes  k3) cf_X12_writes wk_8_68 (ltl (by rfl) rfl) (ceR_X12 (by rfl)) rfl rfl rfl rfl dX12_writesNumber_25 rfl rfl (Nat.zero_le _) (Nat.zero_le _)) ?_
    exact V_vreth 28 C hQ h dX12_writesNumber_28
  · replace h := ite_f c1 h
    refine V_aload_n 6 C 0 dX12_writesNumber_6 rfl ?_
    refine V_bipush 7 C dX12_writesNumber_7 bp48 ?_
    refine V_iload_n 9 C 1 dX12_writesNumber_9 rfl ?_
    refine V_bipush 10 C dX12_writesNumber_10 bp10 ?_
    refine V_idiv 12 C dX12_writesNumber_12 (by decide) ?_
    refine V_iadd 13 C dX12_writesNumber_13 ?_
    obtain ⟨M4, k5, h⟩ := bindV_some h
    refine V_callV 14 (runVO (k := 119) (rest := []) 14 C (kX12_writes  k5) cf_X12_writes wk_8_68 (ltl (by rfl) rfl) (ceR_X12 (by rfl)) rfl rfl rfl rfl dX12_writesNumber_14 rfl rfl (Nat.zero_le _) (Nat.zero_le _)) ?_
    refine V_aload_n 17 C 0 dX12_writesNumber_17 rfl ?_
    refine V_bipush 18 C dX12_writesNumber_18 bp48 ?_
    refine V_iload_n 20 C 1 dX12_writesNumber_20 rfl ?_
    refine V_bipush 21 C dX12_writesNumber_21 bp10 ?_
    refine V_irem 23 C dX12_writesNumber_23 (by decide) ?_
    refine V_iadd 24 C dX12_writesNumber_24 ?_
    obtain ⟨M6, k7, h⟩ := bindV_some h
    refine V_callV 25 (runVO (k := 119) (rest := []) 25 C (kX12_writes  k7) cf_X12_writes wk_8_68 (ltl (by rfl) rfl) (ceR_X12 (by rfl)) rfl rfl rfl rfl dX12_writesNumber_25 rfl rfl (Nat.zero_le _) (Nat.zero_le _)) ?_
    exact V_vreth 28 C hQ h dX12_writesNumber_28
set_option maxHeartbeats 4000000 in
theorem vX12_writeShelf_89 {G : GG} {κ : KK} {F : Nat}  (C : Cx G κ cX12_writeShelf RX12 (some .int) 3 rmX12_writeShelf) {M' : Mem} {r : Int32} (hQ : HQ G κ (QI G r M') 0 0) {q1 : Int32} {kx : Mem → Option (Int32 × Mem)} (hk : ∀  (M : Mem), kx  M = some (r, M') → V G κ 3 0 0 M 105 [(0, .ref (gad G 119)), (1, .int q1)] []) : ∀ (n : Nat) (v2 : Int32) (M : Mem), fX12_writeShelf_89 F q1 kx n v2 M = some (r, M') → V G κ 3 0 0 M 89 [(0, .ref (gad G 119)), (1, .int q1), (2, .int v2)] [] := by
  intro n
  induction n with
  | zero => intro v2 M h; rw [fX12_writeShelf_89] at h; cases h
  | succ n ih =>
    intro v2 M h
    rw [fX12_writeShelf_89] at h
    refine V_iload_n 89 C 2 dX12_writeShelf_89 rfl ?_
    refine V_if_le 90 105 C dX12_writeShelf_90 (by decide) (fun c23 => ?_) (fun c23 => ?_)
    · replace h := ite_t c23 h
      refine V_sub [0, 1] rfl ?_
      exact hk  _ h
    · replace h := ite_f c23 h
      refine V_aload_n 93 C 0 dX12_writeShelf_93 rfl ?_
      refine V_bipush 94 C dX12_writeShelf_94 bp109 ?_
      obtain ⟨M24, k25, h⟩ := bindV_some h
      refine V_callV 96 (runVO (k := 119) (rest := []) 96 C (kX12_writes  k25) cf_X12_writes wk_8_68 (ltl (by rfl) rfl) (ceR_X12 (by rfl)) rfl rfl rfl rfl dX12_writeShelf_96 rfl rfl (Nat.zero_le _) (Nat.zero_le _)) ?_
      obtain ⟨x26, e27, h⟩ := letM_some h
      refine V_iinc 99 C [(2, .int x26), (0, .ref (gad G 119)), (1, .int q1)] 2 x26 dX12_writeShelf_99 rfl (by rw [e27]; rfl) rfl rfl ?_
      refine V_goto 102 89 C dX12_writeShelf_102 (by decide) ?_
      refine V_sub [1, 2, 0] rfl ?_
      exact ih _ _ h
set_option maxHeartbeats 4000000 in
theorem vX12_writeShelf_107 {G : GG} {κ : KK} {F : Nat}  (C : Cx G κ cX12_writeShelf RX12 (some .int) 3 rmX12_writeShelf) {M' : Mem} {r : Int32} (hQ : HQ G κ (QI G r M') 0 0) {q1 : Int32} {kx : Mem → Option (Int32 × Mem)} (hk : ∀  (M : Mem), kx  M = some (r, M') → V G κ 3 0 0 M 146 [(0, .ref (gad G 119))] []) : ∀ (n : Nat) (v2 : Int32) (M : Mem), fX12_writeShelf_107 F q1 kx n v2 M = some (r, M') → V G κ 3 0 0 M 107 [(0, .ref (gad G 119)), (1, .int q1), (2, .int v2)] [] := by
  intro n
  induction n with
  | zero => intro v2 M h; rw [fX12_writeShelf_107] at h; cases h
  | succ n ih =>
    intro v2 M h
    rw [fX12_writeShelf_107] at h
    refine V_iload_n 107 C 2 dX12_writeShelf_107 rfl ?_
    refine V_aload_n 108 C 0 dX12_writeShelf_108 rfl ?_
    refine V_get (v := .ref (gad G 120)) 109 C dX12_writeShelf_109 (ltl (by rfl) rfl) (ceR_X12 (by rfl)) rfl inX12 6 rfl wk_6_140 rfl rfl ?_
    refine V_iconst 112 C dX12_writeShelf_112 ic0 ?_
    refine V_ialdJ 113 C dX12_writeShelf_113 (akI_26 (by rfl)) (al_26 (by rfl)) (by decide) (j := 0) (by decide) ?_
    refine V_icmp_ge 114 146 C dX12_writeShelf_114 (by decide) (fun c30 => ?_) (fun c30 => ?_)
    · replace h := ite_t c30 h
      refine V_sub [0] rfl ?_
      exact hk  _ h
    · replace h := ite_f c30 h
      refine V_aload_n 117 C 0 dX12_writeShelf_117 rfl ?_
      refine V_iload_n 118 C 1 dX12_writeShelf_118 rfl ?_
      refine V_iload_n 119 C 2 dX12_writeShelf_119 rfl ?_
      obtain ⟨r33, M31, k32, h⟩ := bindM_some h
      refine V_callI 120 (runVO (k := 119) (rest := []) 120 C (kX12_isLinked  k32) cf_X12_isLinked wk_7_18 (ltl (by rfl) rfl) (ceR_X12 (by rfl)) rfl rfl rfl rfl dX12_writeShelf_120 rfl rfl (Nat.zero_le _) (Nat.zero_le _)) ?_
      refine V_ifne_b 123 129 C dX12_writeShelf_123 (by decide) (fun c34 => ?_) (fun c34 => ?_)
      · replace h := ite_t c34 h
        refine V_aload_n 129 C 0 dX12_writeShelf_129 rfl ?_
        refine V_bipush 130 C dX12_writeShelf_130 bp45 ?_
        obtain ⟨M35, k36, h⟩ := bindV_some h
        refine V_callV 132 (runVO (k := 119) (rest := []) 132 C (kX12_writes  k36) cf_X12_writes wk_8_68 (ltl (by rfl) rfl) (ceR_X12 (by rfl)) rfl rfl rfl rfl dX12_writeShelf_132 rfl rfl (Nat.zero_le _) (Nat.zero_le _)) ?_
        refine V_aload_n 135 C 0 dX12_writeShelf_135 rfl ?_
        refine V_iload_n 136 C 2 dX12_writeShelf_136 rfl ?_
        obtain ⟨M37, k38, h⟩ := bindV_some h
        refine V_callV 137 (runVO (k := 119) (rest := []) 137 C (kX12_writesNumber  k38) cf_X12_writesNumber wk_8_64 (ltl (by rfl) rfl) (ceR_X12 (by rfl)) rfl rfl rfl rfl dX12_writeShelf_137 rfl rfl (Nat.zero_le _) (Nat.zero_le _)) ?_
        obtain ⟨x39, e40, h⟩ := letM_some h
        refine V_iinc 140 C [(2, .int x39), (0, .ref (gad G 119)), (1, .int q1)] 2 x39 dX12_writeShelf_140 rfl (by rw [e40]; rfl) rfl rfl ?_
        refine V_goto 143 107 C dX12_writeShelf_143 (by decide) ?_
        refine V_sub [1, 2, 0] rfl ?_
        exact ih _ _ h
      · replace h := ite_f c34 h
        refine V_goto 126 140 C dX12_writeShelf_126 (by decide) ?_
        obtain ⟨x41, e42, h⟩ := letM_some h
        refine V_iinc 140 C [(2, .int x41), (0, .ref (gad G 119)), (1, .int q1)] 2 x41 dX12_writeShelf_140 rfl (by rw [e42]; rfl) rfl rfl ?_
        refine V_goto 143 107 C dX12_writeShelf_143 (by decide) ?_
        refine V_sub [1, 2, 0] rfl ?_
        exact ih _ _ h
set_option maxHeartbeats 4000000 in
theorem kX12_writeShelf {G : GG} {l : Launch} {F : Nat}  {p0 : Int32} {M M' : Mem} {r : Int32} (h : fX12_writeShelf F p0 M = some (r, M')) : Con G l yX12_writeShelf cX12_writeShelf 3 (some .int) rmX12_writeShelf [.ref (gad G 119), .int p0] M (QI G r M') := by
  refine con_of pnX12 (Nat.le_of_ble_eq_true rfl) (fun κ C hQ => ?_)
  unfold fX12_writeShelf at h
  refine V_L (L1 := [(0, .ref (gad G 119)), (1, .int p0)]) rfl ?_
  refine V_aload_n 0 C 0 dX12_writeShelf_0 rfl ?_
  refine V_iconst 1 C dX12_writeShelf_1 ic0 ?_
  obtain ⟨M1, e2, h⟩ := letM_some h
  refine V_put (ty := .int) (F := F_X12 G 119) 2 C dX12_writeShelf_2 (ltl (by rfl) rfl) (fun _ => ceR_X12 (by rfl)) rfl inX12 tyX12 tyX12_ok nmX12 0 rfl wk_6_134 rfl rfl 0 rfl rfl rfl rfl rfl ?_
  refine V_eqM e2 ?_
  refine V_aload_n 5 C 0 dX12_writeShelf_5 rfl ?_
  refine V_iload_n 6 C 1 dX12_writeShelf_6 rfl ?_
  obtain ⟨r5, M3, k4, h⟩ := bindM_some h
  refine V_callI 7 (runVO (k := 119) (rest := []) 7 C (kX12_isShelf  k4) cf_X12_isShelf wk_7_14 (ltl (by rfl) rfl) (ceR_X12 (by rfl)) rfl rfl rfl rfl dX12_writeShelf_7 rfl rfl (Nat.zero_le _) (Nat.zero_le _)) ?_
  refine V_ifne_b 10 19 C dX12_writeShelf_10 (by decide) (fun c6 => ?_) (fun c6 => ?_)
  · replace h := ite_t c6 h
    refine V_aload_n 19 C 0 dX12_writeShelf_19 rfl ?_
    refine V_iconst 20 C dX12_writeShelf_20 ic0 ?_
    obtain ⟨M7, e8, h⟩ := letM_some h
    refine V_put (ty := .int) (F := F_X12 G 119) 21 C dX12_writeShelf_21 (ltl (by rfl) rfl) (fun _ => ceR_X12 (by rfl)) rfl inX12 tyX12 tyX12_ok nmX12 16 rfl wk_6_150 rfl rfl 0 rfl rfl rfl rfl rfl ?_
    refine V_eqM e8 ?_
    refine V_aload_n 24 C 0 dX12_writeShelf_24 rfl ?_
    refine V_iload_n 25 C 1 dX12_writeShelf_25 rfl ?_
    obtain ⟨M9, k10, h⟩ := bindV_some h
    refine V_callV 26 (runVO (k := 119) (rest := []) 26 C (kX12_writesNumber  k10) cf_X12_writesNumber wk_8_64 (ltl (by rfl) rfl) (ceR_X12 (by rfl)) rfl rfl rfl rfl dX12_writeShelf_26 rfl rfl (Nat.zero_le _) (Nat.zero_le _)) ?_
    refine V_aload_n 29 C 0 dX12_writeShelf_29 rfl ?_
    refine V_bipush 30 C dX12_writeShelf_30 bp58 ?_
    obtain ⟨M11, k12, h⟩ := bindV_some h
    refine V_callV 32 (runVO (k := 119) (rest := []) 32 C (kX12_writes  k12) cf_X12_writes wk_8_68 (ltl (by rfl) rfl) (ceR_X12 (by rfl)) rfl rfl rfl rfl dX12_writeShelf_32 rfl rfl (Nat.zero_le _) (Nat.zero_le _)) ?_
    refine V_aload_n 35 C 0 dX12_writeShelf_35 rfl ?_
    refine V_aload_n 36 C 0 dX12_writeShelf_36 rfl ?_
    refine V_get (v := .ref (gad G 120)) 37 C dX12_writeShelf_37 (ltl (by rfl) rfl) (ceR_X12 (by rfl)) rfl inX12 6 rfl wk_6_140 rfl rfl ?_
    refine V_bipush 40 C dX12_writeShelf_40 bp14 ?_
    refine V_iload_n 42 C 1 dX12_writeShelf_42 rfl ?_
    refine V_iadd 43 C dX12_writeShelf_43 ?_
    obtain ⟨c13, h⟩ := chk_some h
    refine V_iald 44 C dX12_writeShelf_44 (akI_26 (by rfl)) (al_26 (by rfl)) c13 ?_
    obtain ⟨M14, k15, h⟩ := bindV_some h
    refine V_callV 45 (runVO (k := 119) (rest := []) 45 C (kX12_writesNumber  k15) cf_X12_writesNumber wk_8_64 (ltl (by rfl) rfl) (ceR_X12 (by rfl)) rfl rfl rfl rfl dX12_writeShelf_45 rfl rfl (Nat.zero_le _) (Nat.zero_le _)) ?_
    refine V_aload_n 48 C 0 dX12_writeShelf_48 rfl ?_
    refine V_get (v := .ref (gad G 120)) 49 C dX12_writeShelf_49 (ltl (by rfl) rfl) (ceR_X12 (by rfl)) rfl inX12 6 rfl wk_6_140 rfl rfl ?_
    refine V_bipush 52 C dX12_writeShelf_52 bp26 ?_
    refine V_iload_n 54 C 1 dX12_writeShelf_54 rfl ?_
    refine V_iadd 55 C dX12_writeShelf_55 ?_
    obtain ⟨c16, h⟩ := chk_some h
    refine V_iald 56 C dX12_writeShelf_56 (akI_26 (by rfl)) (al_26 (by rfl)) c16 ?_
    refine V_iconst 57 C dX12_writeShelf_57 ic1 ?_
    refine V_icmp_ne 58 67 C dX12_writeShelf_58 (by decide) (fun c17 => ?_) (fun c17 => ?_)
    · replace h := ite_f c17 h
      refine V_aload_n 67 C 0 dX12_writeShelf_67 rfl ?_
      refine V_get (v := .ref (gad G 120)) 68 C dX12_writeShelf_68 (ltl (by rfl) rfl) (ceR_X12 (by rfl)) rfl inX12 6 rfl wk_6_140 rfl rfl ?_
      refine V_iconst 71 C dX12_writeShelf_71 ic3 ?_
      refine V_ialdJ 72 C dX12_writeShelf_72 (akI_26 (by rfl)) (al_26 (by rfl)) (by decide) (j := 3) (by decide) ?_
      refine V_iload_n 73 C 1 dX12_writeShelf_73 rfl ?_
      refine V_icmp_ne 74 83 C dX12_writeShelf_74 (by decide) (fun c19 => ?_) (fun c19 => ?_)
      · replace h := ite_f c19 h
        refine V_aload_n 83 C 0 dX12_writeShelf_83 rfl ?_
        refine V_iload_n 84 C 1 dX12_writeShelf_84 rfl ?_
        obtain ⟨r22, M20, k21, h⟩ := bindM_some h
        refine V_callI 85 (runVO (k := 119) (rest := []) 85 C (kX12_miceAt  k21) cf_X12_miceAt wk_8_20 (ltl (by rfl) rfl) (ceR_X12 (by rfl)) rfl rfl rfl rfl dX12_writeShelf_85 rfl rfl (Nat.zero_le _) (Nat.zero_le _)) ?_
        refine V_istore_n 88 C [(2, .int r22), (0, .ref (gad G 119)), (1, .int p0)] dX12_writeShelf_88 rfl rfl rfl ?_
        refine V_sub [1, 2, 0] rfl ?_
        refine vX12_writeShelf_89  C hQ ?_ _ _ _ h
        intro M28 h
        refine V_iconst 105 C dX12_writeShelf_105 ic0 ?_
        refine V_istore_n 106 C [(2, .int 0), (0, .ref (gad G 119)), (1, .int p0)] dX12_writeShelf_106 rfl rfl rfl ?_
        refine V_sub [1, 2, 0] rfl ?_
        refine vX12_writeShelf_107  C hQ ?_ _ _ _ h
        intro M43 h
        refine V_aload_n 146 C 0 dX12_writeShelf_146 rfl ?_
        refine V_get (v := .int (M43 119 16)) 147 C dX12_writeShelf_147 (ltl (by rfl) rfl) (ceR_X12 (by rfl)) rfl inX12 16 rfl wk_6_150 rfl rfl ?_
        exact V_ireth 150 C hQ h dX12_writeShelf_150
      · replace h := ite_t c19 h
        refine V_aload_n 77 C 0 dX12_writeShelf_77 rfl ?_
        refine V_bipush 78 C dX12_writeShelf_78 bp67 ?_
        obtain ⟨M44, k45, h⟩ := bindV_some h
        refine V_callV 80 (runVO (k := 119) (rest := []) 80 C (kX12_writes  k45) cf_X12_writes wk_8_68 (ltl (by rfl) rfl) (ceR_X12 (by rfl)) rfl rfl rfl rfl dX12_writeShelf_80 rfl rfl (Nat.zero_le _) (Nat.zero_le _)) ?_
        refine V_aload_n 83 C 0 dX12_writeShelf_83 rfl ?_
        refine V_iload_n 84 C 1 dX12_writeShelf_84 rfl ?_
        obtain ⟨r48, M46, k47, h⟩ := bindM_some h
        refine V_callI 85 (runVO (k := 119) (rest := []) 85 C (kX12_miceAt  k47) cf_X12_miceAt wk_8_20 (ltl (by rfl) rfl) (ceR_X12 (by rfl)) rfl rfl rfl rfl dX12_writeShelf_85 rfl rfl (Nat.zero_le _) (Nat.zero_le _)) ?_
        refine V_istore_n 88 C [(2, .int r48), (0, .ref (gad G 119)), (1, .int p0)] dX12_writeShelf_88 rfl rfl rfl ?_
        refine V_sub [1, 2, 0] rfl ?_
        refine vX12_writeShelf_89  C hQ ?_ _ _ _ h
        intro M49 h
        refine V_iconst 105 C dX12_writeShelf_105 ic0 ?_
        refine V_istore_n 106 C [(2, .int 0), (0, .ref (gad G 119)), (1, .int p0)] dX12_writeShelf_106 rfl rfl rfl ?_
        refine V_sub [1, 2, 0] rfl ?_
        refine vX12_writeShelf_107  C hQ ?_ _ _ _ h
        intro M50 h
        refine V_aload_n 146 C 0 dX12_writeShelf_146 rfl ?_
        refine V_get (v := .int (M50 119 16)) 147 C dX12_writeShelf_147 (ltl (by rfl) rfl) (ceR_X12 (by rfl)) rfl inX12 16 rfl wk_6_150 rfl rfl ?_
        exact V_ireth 150 C hQ h dX12_writeShelf_150
    · replace h := ite_t c17 h
      refine V_aload_n 61 C 0 dX12_writeShelf_61 rfl ?_
      refine V_bipush 62 C dX12_writeShelf_62 bp98 ?_
      obtain ⟨M51, k52, h⟩ := bindV_some h
      refine V_callV 64 (runVO (k := 119) (rest := []) 64 C (kX12_writes  k52) cf_X12_writes wk_8_68 (ltl (by rfl) rfl) (ceR_X12 (by rfl)) rfl rfl rfl rfl dX12_writeShelf_64 rfl rfl (Nat.zero_le _) (Nat.zero_le _)) ?_
      refine V_aload_n 67 C 0 dX12_writeShelf_67 rfl ?_
      refine V_get (v := .ref (gad G 120)) 68 C dX12_writeShelf_68 (ltl (by rfl) rfl) (ceR_X12 (by rfl)) rfl inX12 6 rfl wk_6_140 rfl rfl ?_
      refine V_iconst 71 C dX12_writeShelf_71 ic3 ?_
      refine V_ialdJ 72 C dX12_writeShelf_72 (akI_26 (by rfl)) (al_26 (by rfl)) (by decide) (j := 3) (by decide) ?_
      refine V_iload_n 73 C 1 dX12_writeShelf_73 rfl ?_
      refine V_icmp_ne 74 83 C dX12_writeShelf_74 (by decide) (fun c54 => ?_) (fun c54 => ?_)
      · replace h := ite_f c54 h
        refine V_aload_n 83 C 0 dX12_writeShelf_83 rfl ?_
        refine V_iload_n 84 C 1 dX12_writeShelf_84 rfl ?_
        obtain ⟨r57, M55, k56, h⟩ := bindM_some h
        refine V_callI 85 (runVO (k := 119) (rest := []) 85 C (kX12_miceAt  k56) cf_X12_miceAt wk_8_20 (ltl (by rfl) rfl) (ceR_X12 (by rfl)) rfl rfl rfl rfl dX12_writeShelf_85 rfl rfl (Nat.zero_le _) (Nat.zero_le _)) ?_
        refine V_istore_n 88 C [(2, .int r57), (0, .ref (gad G 119)), (1, .int p0)] dX12_writeShelf_88 rfl rfl rfl ?_
        refine V_sub [1, 2, 0] rfl ?_
        refine vX12_writeShelf_89  C hQ ?_ _ _ _ h
        intro M58 h
        refine V_iconst 105 C dX12_writeShelf_105 ic0 ?_
        refine V_istore_n 106 C [(2, .int 0), (0, .ref (gad G 119)), (1, .int p0)] dX12_writeShelf_106 rfl rfl rfl ?_
        refine V_sub [1, 2, 0] rfl ?_
        refine vX12_writeShelf_107  C hQ ?_ _ _ _ h
        intro M59 h
        refine V_aload_n 146 C 0 dX12_writeShelf_146 rfl ?_
        refine V_get (v := .int (M59 119 16)) 147 C dX12_writeShelf_147 (ltl (by rfl) rfl) (ceR_X12 (by rfl)) rfl inX12 16 rfl wk_6_150 rfl rfl ?_
        exact V_ireth 150 C hQ h dX12_writeShelf_150
      · replace h := ite_t c54 h
        refine V_aload_n 77 C 0 dX12_writeShelf_77 rfl ?_
        refine V_bipush 78 C dX12_writeShelf_78 bp67 ?_
        obtain ⟨M60, k61, h⟩ := bindV_some h
        refine V_callV 80 (runVO (k := 119) (rest := []) 80 C (kX12_writes  k61) cf_X12_writes wk_8_68 (ltl (by rfl) rfl) (ceR_X12 (by rfl)) rfl rfl rfl rfl dX12_writeShelf_80 rfl rfl (Nat.zero_le _) (Nat.zero_le _)) ?_
        refine V_aload_n 83 C 0 dX12_writeShelf_83 rfl ?_
        refine V_iload_n 84 C 1 dX12_writeShelf_84 rfl ?_
        obtain ⟨r64, M62, k63, h⟩ := bindM_some h
        refine V_callI 85 (runVO (k := 119) (rest := []) 85 C (kX12_miceAt  k63) cf_X12_miceAt wk_8_20 (ltl (by rfl) rfl) (ceR_X12 (by rfl)) rfl rfl rfl rfl dX12_writeShelf_85 rfl rfl (Nat.zero_le _) (Nat.zero_le _)) ?_
        refine V_istore_n 88 C [(2, .int r64), (0, .ref (gad G 119)), (1, .int p0)] dX12_writeShelf_88 rfl rfl rfl ?_
        refine V_sub [1, 2, 0] rfl ?_
        refine vX12_writeShelf_89  C hQ ?_ _ _ _ h
        intro M65 h
        refine V_iconst 105 C dX12_writeShelf_105 ic0 ?_
        refine V_istore_n 106 C [(2, .int 0), (0, .ref (gad G 119)), (1, .int p0)] dX12_writeShelf_106 rfl rfl rfl ?_
        refine V_sub [1, 2, 0] rfl ?_
        refine vX12_writeShelf_107  C hQ ?_ _ _ _ h
        intro M66 h
        refine V_aload_n 146 C 0 dX12_writeShelf_146 rfl ?_
        refine V_get (v := .int (M66 119 16)) 147 C dX12_writeShelf_147 (ltl (by rfl) rfl) (ceR_X12 (by rfl)) rfl inX12 16 rfl wk_6_150 rfl rfl ?_
        exact V_ireth 150 C hQ h dX12_writeShelf_150
  · replace h := ite_f c6 h
    refine V_aload_n 13 C 0 dX12_writeShelf_13 rfl ?_
    refine V_iconst 14 C dX12_writeShelf_14 ic1 ?_
    obtain ⟨r69, M67, k68, h⟩ := bindM_some h
    refine V_callI 15 (runVO (k := 119) (rest := []) 15 C (kX12_fails  k68) cf_X12_fails wk_6_226 (ltl (by rfl) rfl) (ceR_X12 (by rfl)) rfl rfl rfl rfl dX12_writeShelf_15 rfl rfl (Nat.zero_le _) (Nat.zero_le _)) ?_
    exact V_ireth 18 C hQ h dX12_writeShelf_18
set_option maxHeartbeats 4000000 in
theorem vX12_writePatrol_12 {G : GG} {κ : KK} {F : Nat}  (C : Cx G κ cX12_writePatrol RX12 (some .int) 2 rmX12_writePatrol) {M' : Mem} {r : Int32} (hQ : HQ G κ (QI G r M') 0 0)  {kx : Mem → Option (Int32 × Mem)} (hk : ∀  (M : Mem), kx  M = some (r, M') → V G κ 2 0 0 M 68 [(0, .ref (gad G 119))] []) : ∀ (n : Nat) (v1 : Int32) (M : Mem), fX12_writePatrol_12 F  kx n v1 M = some (r, M') → V G κ 2 0 0 M 12 [(0, .ref (gad G 119)), (1, .int v1)] [] := by
  intro n
  induction n with
  | zero => intro v1 M h; rw [fX12_writePatrol_12] at h; cases h
  | succ n ih =>
    intro v1 M h
    rw [fX12_writePatrol_12] at h
    refine V_iload_n 12 C 1 dX12_writePatrol_12 rfl ?_
    refine V_aload_n 13 C 0 dX12_writePatrol_13 rfl ?_
    refine V_get (v := .ref (gad G 120)) 14 C dX12_writePatrol_14 (ltl (by rfl) rfl) (ceR_X12 (by rfl)) rfl inX12 6 rfl wk_6_140 rfl rfl ?_
    refine V_iconst 17 C dX12_writePatrol_17 ic2 ?_
    refine V_ialdJ 18 C dX12_writePatrol_18 (akI_26 (by rfl)) (al_26 (by rfl)) (by decide) (j := 2) (by decide) ?_
    refine V_icmp_ge 19 68 C dX12_writePatrol_19 (by decide) (fun c6 => ?_) (fun c6 => ?_)
    · replace h := ite_t c6 h
      refine V_sub [0] rfl ?_
      exact hk  _ h
    · replace h := ite_f c6 h
      refine V_iload_n 22 C 1 dX12_writePatrol_22 rfl ?_
      refine V_if_le 23 32 C dX12_writePatrol_23 (by decide) (fun c7 => ?_) (fun c7 => ?_)
      · replace h := ite_t c7 h
        refine V_aload_n 32 C 0 dX12_writePatrol_32 rfl ?_
        refine V_aload_n 33 C 0 dX12_writePatrol_33 rfl ?_
        refine V_get (v := .ref (gad G 120)) 34 C dX12_writePatrol_34 (ltl (by rfl) rfl) (ceR_X12 (by rfl)) rfl inX12 6 rfl wk_6_140 rfl rfl ?_
        refine V_sipush 37 C dX12_writePatrol_37 sp182 ?_
        refine V_iload_n 40 C 1 dX12_writePatrol_40 rfl ?_
        refine V_iadd 41 C dX12_writePatrol_41 ?_
        obtain ⟨c8, h⟩ := chk_some h
        refine V_iald 42 C dX12_writePatrol_42 (akI_26 (by rfl)) (al_26 (by rfl)) c8 ?_
        obtain ⟨M9, k10, h⟩ := bindV_some h
        refine V_callV 43 (runVO (k := 119) (rest := []) 43 C (kX12_writesNumber  k10) cf_X12_writesNumber wk_8_64 (ltl (by rfl) rfl) (ceR_X12 (by rfl)) rfl rfl rfl rfl dX12_writePatrol_43 rfl rfl (Nat.zero_le _) (Nat.zero_le _)) ?_
        refine V_iload_n 46 C 1 dX12_writePatrol_46 rfl ?_
        refine V_aload_n 47 C 0 dX12_writePatrol_47 rfl ?_
        refine V_get (v := .ref (gad G 120)) 48 C dX12_writePatrol_48 (ltl (by rfl) rfl) (ceR_X12 (by rfl)) rfl inX12 6 rfl wk_6_140 rfl rfl ?_
        refine V_iconst 51 C dX12_writePatrol_51 ic4 ?_
        refine V_ialdJ 52 C dX12_writePatrol_52 (akI_26 (by rfl)) (al_26 (by rfl)) (by decide) (j := 4) (by decide) ?_
        refine V_icmp_ne 53 62 C dX12_writePatrol_53 (by decide) (fun c12 => ?_) (fun c12 => ?_)
        · replace h := ite_f c12 h
          obtain ⟨x13, e14, h⟩ := letM_some h
          refine V_iinc 62 C [(1, .int x13), (0, .ref (gad G 119))] 1 x13 dX12_writePatrol_62 rfl (by rw [e14]; rfl) rfl rfl ?_
          refine V_goto 65 12 C dX12_writePatrol_65 (by decide) ?_
          refine V_sub [1, 0] rfl ?_
          exact ih _ _ h
        · replace h := ite_t c12 h
          refine V_aload_n 56 C 0 dX12_writePatrol_56 rfl ?_
          refine V_bipush 57 C dX12_writePatrol_57 bp42 ?_
          obtain ⟨M15, k16, h⟩ := bindV_some h
          refine V_callV 59 (runVO (k := 119) (rest := []) 59 C (kX12_writes  k16) cf_X12_writes wk_8_68 (ltl (by rfl) rfl) (ceR_X12 (by rfl)) rfl rfl rfl rfl dX12_writePatrol_59 rfl rfl (Nat.zero_le _) (Nat.zero_le _)) ?_
          obtain ⟨x17, e18, h⟩ := letM_some h
          refine V_iinc 62 C [(1, .int x17), (0, .ref (gad G 119))] 1 x17 dX12_writePatrol_62 rfl (by rw [e18]; rfl) rfl rfl ?_
          refine V_goto 65 12 C dX12_writePatrol_65 (by decide) ?_
          refine V_sub [1, 0] rfl ?_
          exact ih _ _ h
      · replace h := ite_f c7 h
        refine V_aload_n 26 C 0 dX12_writePatrol_26 rfl ?_
        refine V_bipush 27 C dX12_writePatrol_27 bp32 ?_
        obtain ⟨M19, k20, h⟩ := bindV_some h
        refine V_callV 29 (runVO (k := 119) (rest := []) 29 C (kX12_writes  k20) cf_X12_writes wk_8_68 (ltl (by rfl) rfl) (ceR_X12 (by rfl)) rfl rfl rfl rfl dX12_writePatrol_29 rfl rfl (Nat.zero_le _) (Nat.zero_le _)) ?_
        refine V_aload_n 32 C 0 dX12_writePatrol_32 rfl ?_
        refine V_aload_n 33 C 0 dX12_writePatrol_33 rfl ?_
        refine V_get (v := .ref (gad G 120)) 34 C dX12_writePatrol_34 (ltl (by rfl) rfl) (ceR_X12 (by rfl)) rfl inX12 6 rfl wk_6_140 rfl rfl ?_
        refine V_sipush 37 C dX12_writePatrol_37 sp182 ?_
        refine V_iload_n 40 C 1 dX12_writePatrol_40 rfl ?_
        refine V_iadd 41 C dX12_writePatrol_41 ?_
        obtain ⟨c21, h⟩ := chk_some h
        refine V_iald 42 C dX12_writePatrol_42 (akI_26 (by rfl)) (al_26 (by rfl)) c21 ?_
        obtain ⟨M22, k23, h⟩ := bindV_some h
        refine V_callV 43 (runVO (k := 119) (rest := []) 43 C (kX12_writesNumber  k23) cf_X12_writesNumber wk_8_64 (ltl (by rfl) rfl) (ceR_X12 (by rfl)) rfl rfl rfl rfl dX12_writePatrol_43 rfl rfl (Nat.zero_le _) (Nat.zero_le _)) ?_
        refine V_iload_n 46 C 1 dX12_writePatrol_46 rfl ?_
        refine V_aload_n 47 C 0 dX12_writePatrol_47 rfl ?_
        refine V_get (v := .ref (gad G 120)) 48 C dX12_writePatrol_48 (ltl (by rfl) rfl) (ceR_X12 (by rfl)) rfl inX12 6 rfl wk_6_140 rfl rfl ?_
        refine V_iconst 51 C dX12_writePatrol_51 ic4 ?_
        refine V_ialdJ 52 C dX12_writePatrol_52 (akI_26 (by rfl)) (al_26 (by rfl)) (by decide) (j := 4) (by decide) ?_
        refine V_icmp_ne 53 62 C dX12_writePatrol_53 (by decide) (fun c25 => ?_) (fun c25 => ?_)
        · replace h := ite_f c25 h
          obtain ⟨x26, e27, h⟩ := letM_some h
          refine V_iinc 62 C [(1, .int x26), (0, .ref (gad G 119))] 1 x26 dX12_writePatrol_62 rfl (by rw [e27]; rfl) rfl rfl ?_
          refine V_goto 65 12 C dX12_writePatrol_65 (by decide) ?_
          refine V_sub [1, 0] rfl ?_
          exact ih _ _ h
        · replace h := ite_t c25 h
          refine V_aload_n 56 C 0 dX12_writePatrol_56 rfl ?_
          refine V_bipush 57 C dX12_writePatrol_57 bp42 ?_
          obtain ⟨M28, k29, h⟩ := bindV_some h
          refine V_callV 59 (runVO (k := 119) (rest := []) 59 C (kX12_writes  k29) cf_X12_writes wk_8_68 (ltl (by rfl) rfl) (ceR_X12 (by rfl)) rfl rfl rfl rfl dX12_writePatrol_59 rfl rfl (Nat.zero_le _) (Nat.zero_le _)) ?_
          obtain ⟨x30, e31, h⟩ := letM_some h
          refine V_iinc 62 C [(1, .int x30), (0, .ref (gad G 119))] 1 x30 dX12_writePatrol_62 rfl (by rw [e31]; rfl) rfl rfl ?_
          refine V_goto 65 12 C dX12_writePatrol_65 (by decide) ?_
          refine V_sub [1, 0] rfl ?_
          exact ih _ _ h
set_option maxHeartbeats 4000000 in
theorem kX12_writePatrol {G : GG} {l : Launch} {F : Nat}   {M M' : Mem} {r : Int32} (h : fX12_writePatrol F  M = some (r, M')) : Con G l yX12_writePatrol cX12_writePatrol 2 (some .int) rmX12_writePatrol [.ref (gad G 119)] M (QI G r M') := by
  refine con_of pnX12 (Nat.le_of_ble_eq_true rfl) (fun κ C hQ => ?_)
  unfold fX12_writePatrol at h
  refine V_L (L1 := [(0, .ref (gad G 119))]) rfl ?_
  refine V_aload_n 0 C 0 dX12_writePatrol_0 rfl ?_
  refine V_iconst 1 C dX12_writePatrol_1 ic0 ?_
  obtain ⟨M1, e2, h⟩ := letM_some h
  refine V_put (ty := .int) (F := F_X12 G 119) 2 C dX12_writePatrol_2 (ltl (by rfl) rfl) (fun _ => ceR_X12 (by rfl)) rfl inX12 tyX12 tyX12_ok nmX12 0 rfl wk_6_134 rfl rfl 0 rfl rfl rfl rfl rfl ?_
  refine V_eqM e2 ?_
  refine V_aload_n 5 C 0 dX12_writePatrol_5 rfl ?_
  refine V_iconst 6 C dX12_writePatrol_6 ic0 ?_
  obtain ⟨M3, e4, h⟩ := letM_some h
  refine V_put (ty := .int) (F := F_X12 G 119) 7 C dX12_writePatrol_7 (ltl (by rfl) rfl) (fun _ => ceR_X12 (by rfl)) rfl inX12 tyX12 tyX12_ok nmX12 16 rfl wk_6_150 rfl rfl 0 rfl rfl rfl rfl rfl ?_
  refine V_eqM e4 ?_
  refine V_iconst 10 C dX12_writePatrol_10 ic0 ?_
  refine V_istore_n 11 C [(1, .int 0), (0, .ref (gad G 119))] dX12_writePatrol_11 rfl rfl rfl ?_
  refine V_sub [1, 0] rfl ?_
  refine vX12_writePatrol_12  C hQ ?_ _ _ _ h
  intro M32 h
  refine V_aload_n 68 C 0 dX12_writePatrol_68 rfl ?_
  refine V_get (v := .int (M32 119 16)) 69 C dX12_writePatrol_69 (ltl (by rfl) rfl) (ceR_X12 (by rfl)) rfl inX12 16 rfl wk_6_150 rfl rfl ?_
  exact V_ireth 72 C hQ h dX12_writePatrol_72
set_option maxHeartbeats 4000000 in
theorem kX12_lineCharacter {G : GG} {l : Launch} {F : Nat}  {p0 : Int32} {M M' : Mem} {r : Int32} (h : fX12_lineCharacter F p0 M = some (r, M')) : Con G l yX12_lineCharacter cX12_lineCharacter 2 (some .char) rmX12_lineCharacter [.ref (gad G 119), .int p0] M (QI G r M') := by
  refine con_of pnX12 (Nat.le_of_ble_eq_true rfl) (fun κ C hQ => ?_)
  unfold fX12_lineCharacter at h
  refine V_L (L1 := [(0, .ref (gad G 119)), (1, .int p0)]) rfl ?_
  refine V_aload_n 0 C 0 dX12_lineCharacter_0 rfl ?_
  refine V_iconst 1 C dX12_lineCharacter_1 ic0 ?_
  obtain ⟨M1, e2, h⟩ := letM_some h
  refine V_put (ty := .int) (F := F_X12 G 119) 2 C dX12_lineCharacter_2 (ltl (by rfl) rfl) (fun _ => ceR_X12 (by rfl)) rfl inX12 tyX12 tyX12_ok nmX12 0 rfl wk_6_134 rfl rfl 0 rfl rfl rfl rfl rfl ?_
  refine V_eqM e2 ?_
  refine V_iload_n 5 C 1 dX12_lineCharacter_5 rfl ?_
  refine V_iconst 6 C dX12_lineCharacter_6 ic0 ?_
  refine V_aload_n 7 C 0 dX12_lineCharacter_7 rfl ?_
  refine V_get (v := .int (M1 119 16)) 8 C dX12_lineCharacter_8 (ltl (by rfl) rfl) (ceR_X12 (by rfl)) rfl inX12 16 rfl wk_6_150 rfl rfl ?_
  refine V_iconst 11 C dX12_lineCharacter_11 ic1 ?_
  refine V_isub 12 C dX12_lineCharacter_12 ?_
  obtain ⟨r5, M3, k4, h⟩ := bindM_some h
  refine V_callI 13 (runSO (rest := []) 13 C (kX12_isBetween  k4) cf_X12_isBetween wk_6_215 rfl rfl dX12_lineCharacter_13 rfl rfl (Nat.zero_le _) (Nat.zero_le _)) ?_
  refine V_ifeq_b 16 26 C dX12_lineCharacter_16 (by decide) (fun c6 => ?_) (fun c6 => ?_)
  · replace h := ite_f c6 h
    refine V_aload_n 26 C 0 dX12_lineCharacter_26 rfl ?_
    refine V_iconst 27 C dX12_lineCharacter_27 ic1 ?_
    obtain ⟨r9, M7, k8, h⟩ := bindM_some h
    refine V_callI 28 (runVO (k := 119) (rest := []) 28 C (kX12_fails  k8) cf_X12_fails wk_6_226 (ltl (by rfl) rfl) (ceR_X12 (by rfl)) rfl rfl rfl rfl dX12_lineCharacter_28 rfl rfl (Nat.zero_le _) (Nat.zero_le _)) ?_
    refine V_i2c 31 C dX12_lineCharacter_31 ?_
    obtain ⟨c10, h⟩ := chk_some h
    exact V_creth 32 C hQ h dX12_lineCharacter_32 c10
  · replace h := ite_t c6 h
    refine V_aload_n 19 C 0 dX12_lineCharacter_19 rfl ?_
    refine V_get (v := .ref (gad G 126)) 20 C dX12_lineCharacter_20 (ltl (by rfl) rfl) (ceR_X12 (by rfl)) rfl inX12 15 rfl wk_6_149 rfl rfl ?_
    refine V_iload_n 23 C 1 dX12_lineCharacter_23 rfl ?_
    obtain ⟨c11, h⟩ := chk_some h
    refine V_cald 24 C dX12_lineCharacter_24 (akC_28 (by rfl)) (al_28 (by rfl)) c11 ?_
    obtain ⟨c12, h⟩ := chk_some h
    exact V_creth 25 C hQ h dX12_lineCharacter_25 c12
set_option maxHeartbeats 4000000 in
theorem kX12_feed {G : GG} {l : Launch} {F : Nat}  {p0 : Int32} {M M' : Mem} {r : Int32} (h : fX12_feed F p0 M = some (r, M')) : Con G l yX12_feed cX12_feed 2 (some .int) rmX12_feed [.ref (gad G 119), .int p0] M (QI G r M') := by
  refine con_of pnX12 (Nat.le_of_ble_eq_true rfl) (fun κ C hQ => ?_)
  unfold fX12_feed at h
  refine V_L (L1 := [(0, .ref (gad G 119)), (1, .int p0)]) rfl ?_
  refine V_aload_n 0 C 0 dX12_feed_0 rfl ?_
  refine V_iconst 1 C dX12_feed_1 ic0 ?_
  obtain ⟨M1, e2, h⟩ := letM_some h
  refine V_put (ty := .int) (F := F_X12 G 119) 2 C dX12_feed_2 (ltl (by rfl) rfl) (fun _ => ceR_X12 (by rfl)) rfl inX12 tyX12 tyX12_ok nmX12 0 rfl wk_6_134 rfl rfl 0 rfl rfl rfl rfl rfl ?_
  refine V_eqM e2 ?_
  refine V_aload_n 5 C 0 dX12_feed_5 rfl ?_
  refine V_get (v := .int (M1 119 18)) 6 C dX12_feed_6 (ltl (by rfl) rfl) (ceR_X12 (by rfl)) rfl inX12 18 rfl wk_6_152 rfl rfl ?_
  refine V_bipush 9 C dX12_feed_9 bp60 ?_
  refine V_icmp_ne 11 20 C dX12_feed_11 (by decide) (fun c3 => ?_) (fun c3 => ?_)
  · replace h := ite_f c3 h
    refine V_aload_n 20 C 0 dX12_feed_20 rfl ?_
    refine V_get (v := .ref (gad G 127)) 21 C dX12_feed_21 (ltl (by rfl) rfl) (ceR_X12 (by rfl)) rfl inX12 17 rfl wk_6_151 rfl rfl ?_
    refine V_aload_n 24 C 0 dX12_feed_24 rfl ?_
    refine V_get (v := .int (M1 119 18)) 25 C dX12_feed_25 (ltl (by rfl) rfl) (ceR_X12 (by rfl)) rfl inX12 18 rfl wk_6_152 rfl rfl ?_
    refine V_iload_n 28 C 1 dX12_feed_28 rfl ?_
    obtain ⟨c4, h⟩ := chk_some h
    obtain ⟨M5, e6, h⟩ := letM_some h
    refine V_cast 29 C dX12_feed_29 (akC_24 (by rfl)) (al_24 (by rfl)) c4 ?_
    refine V_eqM e6 ?_
    refine V_aload_n 30 C 0 dX12_feed_30 rfl ?_
    refine V_dup 31 C dX12_feed_31 rfl ?_
    refine V_get (v := .int (M5 119 18)) 32 C dX12_feed_32 (ltl (by rfl) rfl) (ceR_X12 (by rfl)) rfl inX12 18 rfl wk_6_152 rfl rfl ?_
    refine V_iconst 35 C dX12_feed_35 ic1 ?_
    refine V_iadd 36 C dX12_feed_36 ?_
    obtain ⟨M7, e8, h⟩ := letM_some h
    refine V_put (ty := .int) (F := F_X12 G 119) 37 C dX12_feed_37 (ltl (by rfl) rfl) (fun _ => ceR_X12 (by rfl)) rfl inX12 tyX12 tyX12_ok nmX12 18 rfl wk_6_152 rfl rfl ((M5 119 18) + 1) rfl rfl rfl rfl rfl ?_
    refine V_eqM e8 ?_
    refine V_aload_n 40 C 0 dX12_feed_40 rfl ?_
    refine V_get (v := .int (M7 119 18)) 41 C dX12_feed_41 (ltl (by rfl) rfl) (ceR_X12 (by rfl)) rfl inX12 18 rfl wk_6_152 rfl rfl ?_
    exact V_ireth 44 C hQ h dX12_feed_44
  · replace h := ite_t c3 h
    refine V_aload_n 14 C 0 dX12_feed_14 rfl ?_
    refine V_iconst 15 C dX12_feed_15 ic1 ?_
    obtain ⟨r11, M9, k10, h⟩ := bindM_some h
    refine V_callI 16 (runVO (k := 119) (rest := []) 16 C (kX12_fails  k10) cf_X12_fails wk_6_226 (ltl (by rfl) rfl) (ceR_X12 (by rfl)) rfl rfl rfl rfl dX12_feed_16 rfl rfl (Nat.zero_le _) (Nat.zero_le _)) ?_
    exact V_ireth 19 C hQ h dX12_feed_19
set_option maxHeartbeats 4000000 in
theorem kX12_nextChar {G : GG} {l : Launch} {F : Nat}   {M M' : Mem} {r : Int32} (h : fX12_nextChar F  M = some (r, M')) : Con G l yX12_nextChar cX12_nextChar 1 (some .int) rmX12_nextChar [.ref (gad G 119)] M (QI G r M') := by
  refine con_of pnX12 (Nat.le_of_ble_eq_true rfl) (fun κ C hQ => ?_)
  unfold fX12_nextChar at h
  refine V_L (L1 := [(0, .ref (gad G 119))]) rfl ?_
  refine V_aload_n 0 C 0 dX12_nextChar_0 rfl ?_
  refine V_get (v := .int (M 119 19)) 1 C dX12_nextChar_1 (ltl (by rfl) rfl) (ceR_X12 (by rfl)) rfl inX12 19 rfl wk_6_153 rfl rfl ?_
  refine V_aload_n 4 C 0 dX12_nextChar_4 rfl ?_
  refine V_get (v := .int (M 119 18)) 5 C dX12_nextChar_5 (ltl (by rfl) rfl) (ceR_X12 (by rfl)) rfl inX12 18 rfl wk_6_152 rfl rfl ?_
  refine V_icmp_ge 8 23 C dX12_nextChar_8 (by decide) (fun c1 => ?_) (fun c1 => ?_)
  · replace h := ite_t c1 h
    refine V_iconst 23 C dX12_nextChar_23 icm1 ?_
    exact V_ireth 24 C hQ h dX12_nextChar_24
  · replace h := ite_f c1 h
    refine V_aload_n 11 C 0 dX12_nextChar_11 rfl ?_
    refine V_get (v := .ref (gad G 127)) 12 C dX12_nextChar_12 (ltl (by rfl) rfl) (ceR_X12 (by rfl)) rfl inX12 17 rfl wk_6_151 rfl rfl ?_
    refine V_aload_n 15 C 0 dX12_nextChar_15 rfl ?_
    refine V_get (v := .int (M 119 19)) 16 C dX12_nextChar_16 (ltl (by rfl) rfl) (ceR_X12 (by rfl)) rfl inX12 19 rfl wk_6_153 rfl rfl ?_
    obtain ⟨c2, h⟩ := chk_some h
    refine V_cald 19 C dX12_nextChar_19 (akC_24 (by rfl)) (al_24 (by rfl)) c2 ?_
    refine V_goto 20 24 C dX12_nextChar_20 (by decide) ?_
    exact V_ireth 24 C hQ h dX12_nextChar_24
set_option maxHeartbeats 4000000 in
theorem kX12_reads {G : GG} {l : Launch} {F : Nat}  {p0 : Int32} {M M' : Mem} {r : Bool} (h : fX12_reads F p0 M = some (r, M')) : Con G l yX12_reads cX12_reads 2 (some .boolean) rmX12_reads [.ref (gad G 119), .int p0] M (QI G (b2i r) M') := by
  refine con_of pnX12 (Nat.le_of_ble_eq_true rfl) (fun κ C hQ => ?_)
  unfold fX12_reads at h
  refine V_L (L1 := [(0, .ref (gad G 119)), (1, .int p0)]) rfl ?_
  refine V_aload_n 0 C 0 dX12_reads_0 rfl ?_
  obtain ⟨r3, M1, k2, h⟩ := bindM_some h
  refine V_callI 1 (runVO (k := 119) (rest := []) 1 C (kX12_nextChar  k2) cf_X12_nextChar wk_8_96 (ltl (by rfl) rfl) (ceR_X12 (by rfl)) rfl rfl rfl rfl dX12_reads_1 rfl rfl (Nat.zero_le _) (Nat.zero_le _)) ?_
  refine V_iload_n 4 C 1 dX12_reads_4 rfl ?_
  refine V_icmp_eq 5 10 C dX12_reads_5 (by decide) (fun c4 => ?_) (fun c4 => ?_)
  · replace h := ite_t c4 h
    refine V_aload_n 10 C 0 dX12_reads_10 rfl ?_
    refine V_dup 11 C dX12_reads_11 rfl ?_
    refine V_get (v := .int (M1 119 19)) 12 C dX12_reads_12 (ltl (by rfl) rfl) (ceR_X12 (by rfl)) rfl inX12 19 rfl wk_6_153 rfl rfl ?_
    refine V_iconst 15 C dX12_reads_15 ic1 ?_
    refine V_iadd 16 C dX12_reads_16 ?_
    obtain ⟨M5, e6, h⟩ := letM_some h
    refine V_put (ty := .int) (F := F_X12 G 119) 17 C dX12_reads_17 (ltl (by rfl) rfl) (fun _ => ceR_X12 (by rfl)) rfl inX12 tyX12 tyX12_ok nmX12 19 rfl wk_6_153 rfl rfl ((M1 119 19) + 1) rfl rfl rfl rfl rfl ?_
    refine V_eqM e6 ?_
    refine V_iconst 20 C dX12_reads_20 ic1 ?_
    exact V_zreth 21 C hQ h dX12_reads_21
  · replace h := ite_f c4 h
    refine V_iconst 8 C dX12_reads_8 ic0 ?_
    exact V_zreth 9 C hQ h dX12_reads_9
set_option maxHeartbeats 4000000 in
theorem kX12_isDigitNext {G : GG} {l : Launch} {F : Nat}   {M M' : Mem} {r : Bool} (h : fX12_isDigitNext F  M = some (r, M')) : Con G l yX12_isDigitNext cX12_isDigitNext 1 (some .boolean) rmX12_isDigitNext [.ref (gad G 119)] M (QI G (b2i r) M') := by
  refine con_of pnX12 (Nat.le_of_ble_eq_true rfl) (fun κ C hQ => ?_)
  unfold fX12_isDigitNext at h
  refine V_L (L1 := [(0, .ref (gad G 119))]) rfl ?_
  refine V_aload_n 0 C 0 dX12_isDigitNext_0 rfl ?_
  obtain ⟨r3, M1, k2, h⟩ := bindM_some h
  refine V_callI 1 (runVO (k := 119) (rest := []) 1 C (kX12_nextChar  k2) cf_X12_nextChar wk_8_96 (ltl (by rfl) rfl) (ceR_X12 (by rfl)) rfl rfl rfl rfl dX12_isDigitNext_1 rfl rfl (Nat.zero_le _) (Nat.zero_le _)) ?_
  refine V_bipush 4 C dX12_isDigitNext_4 bp48 ?_
  refine V_bipush 6 C dX12_isDigitNext_6 bp57 ?_
  obtain ⟨r6, M4, k5, h⟩ := bindM_some h
  refine V_callI 8 (runSO (rest := []) 8 C (kX12_isBetween  k5) cf_X12_isBetween wk_6_215 rfl rfl dX12_isDigitNext_8 rfl rfl (Nat.zero_le _) (Nat.zero_le _)) ?_
  exact V_zreth 11 C hQ h dX12_isDigitNext_11
set_option maxHeartbeats 4000000 in
theorem vX12_readsNumber_18 {G : GG} {κ : KK} {F : Nat}  (C : Cx G κ cX12_readsNumber RX12 (some .boolean) 4 rmX12_readsNumber) {M' : Mem} {r : Bool} (hQ : HQ G κ (QI G (b2i r) M') 0 0) {q1 : Int32} {q2 : Int32} {kx : Mem → Option (Bool × Mem)} (hk : ∀  (M : Mem), kx  M = some (r, M') → V G κ 4 0 0 M 69 [] []) : ∀ (n : Nat) (v3 : Int32) (M : Mem), fX12_readsNumber_18 F q1 q2 kx n v3 M = some (r, M') → V G κ 4 0 0 M 18 [(0, .ref (gad G 119)), (1, .int q1), (2, .int q2), (3, .int v3)] [] := by
  intro n
  induction n with
  | zero => intro v3 M h; rw [fX12_readsNumber_18] at h; cases h
  | succ n ih =>
    intro v3 M h
    rw [fX12_readsNumber_18] at h
    refine V_iload_n 18 C 3 dX12_readsNumber_18 rfl ?_
    refine V_iload_n 19 C 2 dX12_readsNumber_19 rfl ?_
    refine V_icmp_ge 20 69 C dX12_readsNumber_20 (by decide) (fun c8 => ?_) (fun c8 => ?_)
    · replace h := ite_t c8 h
      refine V_sub [] rfl ?_
      exact hk  _ h
    · replace h := ite_f c8 h
      refine V_aload_n 23 C 0 dX12_readsNumber_23 rfl ?_
      obtain ⟨r11, M9, k10, h⟩ := bindM_some h
      refine V_callI 24 (runVO (k := 119) (rest := []) 24 C (kX12_isDigitNext  k10) cf_X12_isDigitNext wk_8_116 (ltl (by rfl) rfl) (ceR_X12 (by rfl)) rfl rfl rfl rfl dX12_readsNumber_24 rfl rfl (Nat.zero_le _) (Nat.zero_le _)) ?_
      refine V_ifeq_b 27 69 C dX12_readsNumber_27 (by decide) (fun c12 => ?_) (fun c12 => ?_)
      · replace h := ite_f c12 h
        refine V_sub [] rfl ?_
        exact hk  _ h
      · replace h := ite_t c12 h
        refine V_aload_n 30 C 0 dX12_readsNumber_30 rfl ?_
        refine V_get (v := .ref (gad G 128)) 31 C dX12_readsNumber_31 (ltl (by rfl) rfl) (ceR_X12 (by rfl)) rfl inX12 21 rfl wk_6_155 rfl rfl ?_
        refine V_iload_n 34 C 1 dX12_readsNumber_34 rfl ?_
        refine V_bipush 35 C dX12_readsNumber_35 bp10 ?_
        refine V_aload_n 37 C 0 dX12_readsNumber_37 rfl ?_
        refine V_get (v := .ref (gad G 128)) 38 C dX12_readsNumber_38 (ltl (by rfl) rfl) (ceR_X12 (by rfl)) rfl inX12 21 rfl wk_6_155 rfl rfl ?_
        refine V_iload_n 41 C 1 dX12_readsNumber_41 rfl ?_
        obtain ⟨c13, h⟩ := chk_some h
        refine V_iald 42 C dX12_readsNumber_42 (akI_29 (by rfl)) (al_29 (by rfl)) c13 ?_
        refine V_imul 43 C dX12_readsNumber_43 ?_
        refine V_aload_n 44 C 0 dX12_readsNumber_44 rfl ?_
        obtain ⟨r16, M14, k15, h⟩ := bindM_some h
        refine V_callI 45 (runVO (k := 119) (rest := [.int (10 * (M9 128 q1.toNatClampNeg)), .int q1, .ref (gad G 128)]) 45 C (kX12_nextChar  k15) cf_X12_nextChar wk_8_96 (ltl (by rfl) rfl) (ceR_X12 (by rfl)) rfl rfl rfl rfl dX12_readsNumber_45 rfl rfl (Nat.zero_le _) (Nat.zero_le _)) ?_
        refine V_iadd 48 C dX12_readsNumber_48 ?_
        refine V_bipush 49 C dX12_readsNumber_49 bp48 ?_
        refine V_isub 51 C dX12_readsNumber_51 ?_
        obtain ⟨c17, h⟩ := chk_some h
        obtain ⟨M18, e19, h⟩ := letM_some h
        refine V_iast 52 C dX12_readsNumber_52 (akI_29 (by rfl)) (al_29 (by rfl)) c17 ?_
        refine V_eqM e19 ?_
        refine V_aload_n 53 C 0 dX12_readsNumber_53 rfl ?_
        refine V_dup 54 C dX12_readsNumber_54 rfl ?_
        refine V_get (v := .int (M18 119 19)) 55 C dX12_readsNumber_55 (ltl (by rfl) rfl) (ceR_X12 (by rfl)) rfl inX12 19 rfl wk_6_153 rfl rfl ?_
        refine V_iconst 58 C dX12_readsNumber_58 ic1 ?_
        refine V_iadd 59 C dX12_readsNumber_59 ?_
        obtain ⟨M20, e21, h⟩ := letM_some h
        refine V_put (ty := .int) (F := F_X12 G 119) 60 C dX12_readsNumber_60 (ltl (by rfl) rfl) (fun _ => ceR_X12 (by rfl)) rfl inX12 tyX12 tyX12_ok nmX12 19 rfl wk_6_153 rfl rfl ((M18 119 19) + 1) rfl rfl rfl rfl rfl ?_
        refine V_eqM e21 ?_
        obtain ⟨x22, e23, h⟩ := letM_some h
        refine V_iinc 63 C [(3, .int x22), (0, .ref (gad G 119)), (1, .int q1), (2, .int q2)] 3 x22 dX12_readsNumber_63 rfl (by rw [e23]; rfl) rfl rfl ?_
        refine V_goto 66 18 C dX12_readsNumber_66 (by decide) ?_
        refine V_sub [1, 2, 3, 0] rfl ?_
        exact ih _ _ h
set_option maxHeartbeats 4000000 in
theorem kX12_readsNumber {G : GG} {l : Launch} {F : Nat}  {p0 : Int32} {p1 : Int32} {M M' : Mem} {r : Bool} (h : fX12_readsNumber F p0 p1 M = some (r, M')) : Con G l yX12_readsNumber cX12_readsNumber 4 (some .boolean) rmX12_readsNumber [.ref (gad G 119), .int p0, .int p1] M (QI G (b2i r) M') := by
  refine con_of pnX12 (Nat.le_of_ble_eq_true rfl) (fun κ C hQ => ?_)
  unfold fX12_readsNumber at h
  refine V_L (L1 := [(0, .ref (gad G 119)), (1, .int p0), (2, .int p1)]) rfl ?_
  refine V_aload_n 0 C 0 dX12_readsNumber_0 rfl ?_
  obtain ⟨r3, M1, k2, h⟩ := bindM_some h
  refine V_callI 1 (runVO (k := 119) (rest := []) 1 C (kX12_isDigitNext  k2) cf_X12_isDigitNext wk_8_116 (ltl (by rfl) rfl) (ceR_X12 (by rfl)) rfl rfl rfl rfl dX12_readsNumber_1 rfl rfl (Nat.zero_le _) (Nat.zero_le _)) ?_
  refine V_ifne_b 4 9 C dX12_readsNumber_4 (by decide) (fun c4 => ?_) (fun c4 => ?_)
  · replace h := ite_t c4 h
    refine V_aload_n 9 C 0 dX12_readsNumber_9 rfl ?_
    refine V_get (v := .ref (gad G 128)) 10 C dX12_readsNumber_10 (ltl (by rfl) rfl) (ceR_X12 (by rfl)) rfl inX12 21 rfl wk_6_155 rfl rfl ?_
    refine V_iload_n 13 C 1 dX12_readsNumber_13 rfl ?_
    refine V_iconst 14 C dX12_readsNumber_14 ic0 ?_
    obtain ⟨c5, h⟩ := chk_some h
    obtain ⟨M6, e7, h⟩ := letM_some h
    refine V_iast 15 C dX12_readsNumber_15 (akI_29 (by rfl)) (al_29 (by rfl)) c5 ?_
    refine V_eqM e7 ?_
    refine V_iconst 16 C dX12_readsNumber_16 ic0 ?_
    refine V_istore_n 17 C [(3, .int 0), (0, .ref (gad G 119)), (1, .int p0), (2, .int p1)] dX12_readsNumber_17 rfl rfl rfl ?_
    refine V_sub [1, 2, 3, 0] rfl ?_
    refine vX12_readsNumber_18  C hQ ?_ _ _ _ h
    intro M24 h
    refine V_iconst 69 C dX12_readsNumber_69 ic1 ?_
    exact V_zreth 70 C hQ h dX12_readsNumber_70
  · replace h := ite_f c4 h
    refine V_iconst 7 C dX12_readsNumber_7 ic0 ?_
    exact V_zreth 8 C hQ h dX12_readsNumber_8
set_option maxHeartbeats 4000000 in
theorem kX12_readsOne {G : GG} {l : Launch} {F : Nat}   {M M' : Mem} {r : Bool} (h : fX12_readsOne F  M = some (r, M')) : Con G l yX12_readsOne cX12_readsOne 1 (some .boolean) rmX12_readsOne [.ref (gad G 119)] M (QI G (b2i r) M') := by
  refine con_of pnX12 (Nat.le_of_ble_eq_true rfl) (fun κ C hQ => ?_)
  unfold fX12_readsOne at h
  refine V_L (L1 := [(0, .ref (gad G 119))]) rfl ?_
  refine V_aload_n 0 C 0 dX12_readsOne_0 rfl ?_
  refine V_bipush 1 C dX12_readsOne_1 bp32 ?_
  obtain ⟨r3, M1, k2, h⟩ := bindM_some h
  refine V_callI 3 (runVO (k := 119) (rest := []) 3 C (kX12_reads  k2) cf_X12_reads wk_8_100 (ltl (by rfl) rfl) (ceR_X12 (by rfl)) rfl rfl rfl rfl dX12_readsOne_3 rfl rfl (Nat.zero_le _) (Nat.zero_le _)) ?_
  refine V_ifeq_b 6 22 C dX12_readsOne_6 (by decide) (fun c4 => ?_) (fun c4 => ?_)
  · replace h := ite_f c4 h
    refine V_iconst 22 C dX12_readsOne_22 ic0 ?_
    exact V_zreth 23 C hQ h dX12_readsOne_23
  · replace h := ite_t c4 h
    refine V_aload_n 9 C 0 dX12_readsOne_9 rfl ?_
    refine V_iconst 10 C dX12_readsOne_10 ic0 ?_
    refine V_iconst 11 C dX12_readsOne_11 ic2 ?_
    obtain ⟨r7, M5, k6, h⟩ := bindM_some h
    refine V_callI 12 (runVO (k := 119) (rest := []) 12 C (kX12_readsNumber  k6) cf_X12_readsNumber wk_8_112 (ltl (by rfl) rfl) (ceR_X12 (by rfl)) rfl rfl rfl rfl dX12_readsOne_12 rfl rfl (Nat.zero_le _) (Nat.zero_le _)) ?_
    refine V_ifeq_b 15 22 C dX12_readsOne_15 (by decide) (fun c8 => ?_) (fun c8 => ?_)
    · replace h := ite_f c8 h
      refine V_iconst 22 C dX12_readsOne_22 ic0 ?_
      exact V_zreth 23 C hQ h dX12_readsOne_23
    · replace h := ite_t c8 h
      refine V_iconst 18 C dX12_readsOne_18 ic1 ?_
      refine V_goto 19 23 C dX12_readsOne_19 (by decide) ?_
      exact V_zreth 23 C hQ h dX12_readsOne_23
