def rmX12_walked : Room := { frames := 2, cells := 0, slots := 0, locals := 46 }
def fX12_walked_61 (F : Nat)  (q1 : Int32) (kx : Int32 → Mem → Option (Int32 × Mem)) : Nat → Int32 → Mem → Option (Int32 × Mem)
  | 0, _, _ => none
  | n + 1, v2, M => bindM (fX12_isLinked F q1 v2 M) (fun r16 M14 => if r16 = true then chk (inb v2 12) (chk (inb q1 12) (if (M14 125 v2.toNatClampNeg) = ((M14 125 q1.toNatClampNeg) - 1) then kx v2 M14 else letM (v2 + 1) (fun x23 => fX12_walked_61 F q1 kx n x23 M14))) else letM (v2 + 1) (fun x18 => fX12_walked_61 F q1 kx n x18 M14))
def fX12_walked (F : Nat)  (M : Mem) : Option (Int32 × Mem) := letM (M 120 3) (fun x2 => if (M 120 2) = 0 then some (x2, M) else chk (inb (182 + (M 120 4)) 216) (bindV (fX12_distancesTo F (M 120 (182 + (M 120 4)).toNatClampNeg) M) (fun M8 => chk (inb x2 12) (if (M8 125 x2.toNatClampNeg) = 0 then some (x2, M8) else chk (inb x2 12) (if (M8 125 x2.toNatClampNeg) = 99 then some (x2, M8) else fX12_walked_61 F x2 (fun w26 M25 => some (w26, M25)) F 0 M8)))))
def rmX12_mouse : Room := { frames := 0, cells := 0, slots := 0, locals := 0 }
def fX12_mouse (F : Nat) (p0 : Int32) (p1 : Int32) (M : Mem) : Option (Int32 × Mem) := chk (inb ((192 + (3 * p0)) + p1) 216) (some ((M 120 ((192 + (3 * p0)) + p1).toNatClampNeg), M))
def rmX12_removesMouse : Room := { frames := 0, cells := 0, slots := 0, locals := 0 }
def fX12_removesMouse_33 (F : Nat)  (q2 : Int32) (kx : Mem → Option Mem) : Nat → Int32 → Mem → Option Mem
  | 0, _, _ => none
  | n + 1, v3, M => if q2 ≤ v3 then kx  M else chk (inb (v3 + 3) 216) (chk (inb v3 216) (letM (up2 M 120 v3.toNatClampNeg (M 120 (v3 + 3).toNatClampNeg)) (fun M13 => letM (v3 + 1) (fun x15 => fX12_removesMouse_33 F q2 kx n x15 M13))))
def fX12_removesMouse_60 (F : Nat)  (q2 : Int32) (kx : Mem → Option Mem) : Nat → Int32 → Mem → Option Mem
  | 0, _, _ => none
  | n + 1, v3, M => if 3 ≤ v3 then kx  M else chk (inb (q2 + v3) 216) (letM (up2 M 120 (q2 + v3).toNatClampNeg 0) (fun M20 => letM (v3 + 1) (fun x22 => fX12_removesMouse_60 F q2 kx n x22 M20)))
def fX12_removesMouse (F : Nat) (p0 : Int32) (M : Mem) : Option Mem := letM (up2 M 120 8 ((M 120 8) - 1)) (fun M3 => letM (192 + (3 * (M3 120 8))) (fun x6 => letM (192 + (3 * p0)) (fun x8 => fX12_removesMouse_33 F x6 (fun M17 => fX12_removesMouse_60 F x6 (fun M24 => some M24) F 0 M17) F x8 M3)))
def rmX12_walks : Room := { frames := 3, cells := 0, slots := 0, locals := 68 }
def fX12_walks (F : Nat)  (M : Mem) : Option Mem := if (M 120 2) = 0 then some M else bindM (fX12_walked F  M) (fun r5 M3 => letM (up2 M3 120 3 r5) (fun M7 => chk (inb (182 + (M7 120 4)) 216) (if (M7 120 3) = (M7 120 (182 + (M7 120 4)).toNatClampNeg) then chk (decide (¬ (M7 120 2) = 0)) (letM (up2 M7 120 4 (irm ((M7 120 4) + 1) (M7 120 2))) (fun M17 => some M17)) else some M7)))
def rmX12_catches : Room := { frames := 1, cells := 0, slots := 0, locals := 23 }
def fX12_catches_24 (F : Nat)   (kx : Int32 → Mem → Option (Int32 × Mem)) : Nat → Int32 → Int32 → Mem → Option (Int32 × Mem)
  | 0, _, _, _ => none
  | n + 1, v1, v2, M => if (M 120 8) ≤ v2 then kx v1 M else bindM (fX12_mouse F v2 0 M) (fun r8 M6 => if r8 = (M6 120 3) then bindM (fX12_mouse F v2 1 M6) (fun r16 M14 => letM (up2 M14 120 11 ((M6 120 11) + r16)) (fun M18 => bindV (fX12_removesMouse F v2 M18) (fun M20 => letM (v1 + 1) (fun x22 => fX12_catches_24 F  kx n x22 v2 M20)))) else letM (v2 + 1) (fun x11 => fX12_catches_24 F  kx n v1 x11 M6))
def fX12_catches (F : Nat)  (M : Mem) : Option (Int32 × Mem) := chk (inb (26 + (M 120 3)) 216) (if (M 120 (26 + (M 120 3)).toNatClampNeg) = 1 then some (0, M) else fX12_catches_24 F  (fun w25 M24 => letM (up2 M24 120 9 ((M24 120 9) + w25)) (fun M28 => some (w25, M28))) F 0 0 M)
def rmX12_richest : Room := { frames := 1, cells := 0, slots := 0, locals := 22 }
def fX12_richest_4 (F : Nat)  (q1 : Int32) (kx : Int32 → Mem → Option (Int32 × Mem)) : Nat → Int32 → Int32 → Mem → Option (Int32 × Mem)
  | 0, _, _, _ => none
  | n + 1, v2, v3, M => if (M 120 0) ≤ v3 then kx v2 M else bindM (fX12_isLinked F q1 v3 M) (fun r5 M3 => if r5 = true then if v2 = q1 then letM (v3 + 1) (fun x10 => fX12_richest_4 F q1 kx n v3 x10 M3) else chk (inb (14 + v3) 216) (chk (inb (14 + v2) 216) (if (M3 120 (14 + v3).toNatClampNeg) ≤ (M3 120 (14 + v2).toNatClampNeg) then letM (v3 + 1) (fun x15 => fX12_richest_4 F q1 kx n v2 x15 M3) else letM (v3 + 1) (fun x17 => fX12_richest_4 F q1 kx n v3 x17 M3))) else letM (v3 + 1) (fun x7 => fX12_richest_4 F q1 kx n v2 x7 M3))
def fX12_richest (F : Nat) (p0 : Int32) (M : Mem) : Option (Int32 × Mem) := fX12_richest_4 F p0 (fun w20 M19 => some (w20, M19)) F p0 0 M
def rmX12_stays : Room := { frames := 2, cells := 0, slots := 0, locals := 45 }
def fX12_stays (F : Nat) (p0 : Int32) (M : Mem) : Option (Bool × Mem) := letM (192 + (3 * p0)) (fun x1 => chk (inb x1 216) (chk (inb (14 + (M 120 x1.toNatClampNeg)) 216) (if (M 120 (14 + (M 120 x1.toNatClampNeg)).toNatClampNeg) ≤ 0 then chk (inb (x1 + 2) 216) (chk (inb (x1 + 2) 216) (letM (up2 M 120 (x1 + 2).toNatClampNeg ((M 120 (x1 + 2).toNatClampNeg) + 1)) (fun M8 => chk (inb (x1 + 2) 216) (if (M8 120 (x1 + 2).toNatClampNeg) = 3 then bindV (fX12_removesMouse F p0 M8) (fun M19 => letM (up2 M19 120 10 ((M19 120 10) + 1)) (fun M23 => some (false, M23))) else chk (inb x1 216) (bindM (fX12_richest F (M8 120 x1.toNatClampNeg) M8) (fun r15 M13 => chk (inb x1 216) (letM (up2 M13 120 x1.toNatClampNeg r15) (fun M17 => some (true, M17))))))))) else chk (inb x1 216) (chk (inb (14 + (M 120 x1.toNatClampNeg)) 216) (chk (inb (14 + (M 120 x1.toNatClampNeg)) 216) (letM (up2 M 120 (14 + (M 120 x1.toNatClampNeg)).toNatClampNeg ((M 120 (14 + (M 120 x1.toNatClampNeg)).toNatClampNeg) - 1)) (fun M28 => chk (inb (x1 + 1) 216) (chk (inb (x1 + 1) 216) (letM (up2 M28 120 (x1 + 1).toNatClampNeg ((M28 120 (x1 + 1).toNatClampNeg) + 1)) (fun M32 => letM (up2 M32 120 12 ((M32 120 12) + 1)) (fun M36 => chk (inb (x1 + 2) 216) (letM (up2 M36 120 (x1 + 2).toNatClampNeg 0) (fun M39 => some (true, M39))))))))))))))
def rmX12_appears : Room := { frames := 0, cells := 0, slots := 0, locals := 0 }
def fX12_appears (F : Nat)  (M : Mem) : Option Mem := letM (up2 M 120 6 (irm (((M 120 6) * 109) + 89) 1024)) (fun M3 => if (M3 120 5) ≤ (irm (M3 120 6) 16) then some M3 else if (M3 120 0) = 0 then some M3 else if (M3 120 8) = 8 then some M3 else letM (192 + (3 * (M3 120 8))) (fun x13 => chk (decide (¬ (M3 120 0) = 0)) (chk (inb x13 216) (letM (up2 M3 120 x13.toNatClampNeg (irm ((M3 120 6) / 16) (M3 120 0))) (fun M19 => chk (inb (x13 + 1) 216) (letM (up2 M19 120 (x13 + 1).toNatClampNeg 0) (fun M22 => chk (inb (x13 + 2) 216) (letM (up2 M22 120 (x13 + 2).toNatClampNeg 0) (fun M25 => letM (up2 M25 120 8 ((M25 120 8) + 1)) (fun M29 => some M29))))))))))
def rmX12_passesOne : Room := { frames := 4, cells := 0, slots := 0, locals := 88 }
def fX12_passesOne_22 (F : Nat)  (q1 : Int32) (kx : Mem → Option (Int32 × Mem)) : Nat → Int32 → Mem → Option (Int32 × Mem)
  | 0, _, _ => none
  | n + 1, v2, M => if (M 120 8) ≤ v2 then kx  M else bindM (fX12_stays F v2 M) (fun r14 M12 => if r14 = true then letM (v2 + 1) (fun x18 => fX12_passesOne_22 F q1 kx n x18 M12) else letM (v2 + 0) (fun x16 => fX12_passesOne_22 F q1 kx n x16 M12))
def fX12_passesOne (F : Nat)  (M : Mem) : Option (Int32 × Mem) := letM (up2 M 120 7 ((M 120 7) + 1)) (fun M3 => bindV (fX12_walks F  M3) (fun M5 => bindM (fX12_catches F  M5) (fun r9 M7 => fX12_passesOne_22 F r9 (fun M20 => bindV (fX12_appears F  M20) (fun M21 => some (r9, M21))) F 0 M7)))
def rmX12_passes : Room := { frames := 5, cells := 0, slots := 0, locals := 110 }
def fX12_passes_4 (F : Nat)  (q1 : Int32) (kx : Int32 → Mem → Option (Int32 × Mem)) : Nat → Int32 → Int32 → Mem → Option (Int32 × Mem)
  | 0, _, _, _ => none
  | n + 1, v2, v3, M => if q1 ≤ v3 then kx v2 M else bindM (fX12_passesOne F  M) (fun r4 M2 => letM (v2 + r4) (fun x5 => letM (v3 + 1) (fun x7 => fX12_passes_4 F q1 kx n x5 x7 M2)))
def fX12_passes (F : Nat) (p0 : Int32) (M : Mem) : Option (Int32 × Mem) := fX12_passes_4 F p0 (fun w10 M9 => some (w10, M9)) F 0 0 M
def rmX12_notPass : Room := { frames := 1, cells := 0, slots := 0, locals := 22 }
def fX12_notPass (F : Nat) (p0 : Int32) (M : Mem) : Option (Int32 × Mem) := bindM (fX12_isBetween F p0 1 60 M) (fun r3 M1 => if r3 = true then some (0, M1) else some (1, M1))
def rmX12_pass : Room := { frames := 6, cells := 0, slots := 0, locals := 133 }
def fX12_pass (F : Nat) (p0 : Int32) (M : Mem) : Option (Int32 × Mem) := bindM (fX12_notPass F p0 M) (fun r3 M1 => if r3 = 0 then bindV (fX12_remembers F  M1) (fun M5 => bindM (fX12_passes F p0 M5) (fun r9 M7 => some (r9, M7))) else bindM (fX12_refuses F 1 M1) (fun r12 M10 => some (r12, M10)))
def rmX12_predictCaught : Room := { frames := 6, cells := 0, slots := 0, locals := 133 }
def fX12_predictCaught_23 (F : Nat)  (q1 : Int32) (kx : Mem → Option (Int32 × Mem)) : Nat → Int32 → Mem → Option (Int32 × Mem)
  | 0, _, _ => none
  | n + 1, v2, M => if 216 ≤ v2 then kx  M else chk (inb v2 216) (chk (inb v2 216) (letM (up2 M 124 v2.toNatClampNeg (M 120 v2.toNatClampNeg)) (fun M10 => letM (v2 + 1) (fun x12 => fX12_predictCaught_23 F q1 kx n x12 M10))))
def fX12_predictCaught_56 (F : Nat)  (q2 : Int32) (kx : Mem → Option (Int32 × Mem)) : Nat → Int32 → Mem → Option (Int32 × Mem)
  | 0, _, _ => none
  | n + 1, v3, M => if 216 ≤ v3 then kx  M else chk (inb v3 216) (chk (inb v3 216) (letM (up2 M 120 v3.toNatClampNeg (M 124 v3.toNatClampNeg)) (fun M21 => letM (v3 + 1) (fun x23 => fX12_predictCaught_56 F q2 kx n x23 M21))))
def fX12_predictCaught (F : Nat) (p0 : Int32) (M : Mem) : Option (Int32 × Mem) := letM (up2 M 119 0 0) (fun M1 => bindM (fX12_isBetween F p0 0 60 M1) (fun r5 M3 => if r5 = true then fX12_predictCaught_23 F p0 (fun M14 => bindM (fX12_passes F p0 M14) (fun r17 M15 => fX12_predictCaught_56 F r17 (fun M25 => some (r17, M25)) F 0 M15)) F 0 M3 else bindM (fX12_fails F 1 M3) (fun r28 M26 => some (r28, M26))))
def rmX12_sets : Room := { frames := 0, cells := 0, slots := 0, locals := 0 }
def fX12_sets (F : Nat) (p0 : Int32) (p1 : Int32) (M : Mem) : Option (Int32 × Mem) := chk (inb p0 216) (letM (M 120 p0.toNatClampNeg) (fun x2 => chk (inb p0 216) (letM (up2 M 120 p0.toNatClampNeg p1) (fun M5 => some (x2, M5)))))
def rmX12_notRate : Room := { frames := 1, cells := 0, slots := 0, locals := 22 }
def fX12_notRate (F : Nat) (p0 : Int32) (M : Mem) : Option (Int32 × Mem) := bindM (fX12_isBetween F p0 0 16 M) (fun r3 M1 => if r3 = true then some (0, M1) else some (1, M1))
def rmX12_setRate : Room := { frames := 2, cells := 0, slots := 0, locals := 42 }
def fX12_setRate (F : Nat) (p0 : Int32) (M : Mem) : Option (Int32 × Mem) := bindM (fX12_notRate F p0 M) (fun r3 M1 => if r3 = 0 then bindV (fX12_remembers F  M1) (fun M5 => bindM (fX12_sets F 5 p0 M5) (fun r9 M7 => some (r9, M7))) else bindM (fX12_refuses F 1 M1) (fun r12 M10 => some (r12, M10)))
def rmX12_notSeed : Room := { frames := 1, cells := 0, slots := 0, locals := 22 }
def fX12_notSeed (F : Nat) (p0 : Int32) (M : Mem) : Option (Int32 × Mem) := bindM (fX12_isBetween F p0 0 1023 M) (fun r3 M1 => if r3 = true then some (0, M1) else some (1, M1))
def rmX12_setSeed : Room := { frames := 2, cells := 0, slots := 0, locals := 42 }
def fX12_setSeed (F : Nat) (p0 : Int32) (M : Mem) : Option (Int32 × Mem) := bindM (fX12_notSeed F p0 M) (fun r3 M1 => if r3 = 0 then bindV (fX12_remembers F  M1) (fun M5 => bindM (fX12_sets F 6 p0 M5) (fun r9 M7 => some (r9, M7))) else bindM (fX12_refuses F 1 M1) (fun r12 M10 => some (r12, M10)))
def rmX12_asks : Room := { frames := 0, cells := 0, slots := 0, locals := 0 }
def fX12_asks (F : Nat) (p0 : Int32) (M : Mem) : Option (Int32 × Mem) := letM (up2 M 119 0 0) (fun M1 => chk (inb p0 216) (some ((M1 120 p0.toNatClampNeg), M1)))
def rmX12_shelfCount : Room := { frames := 1, cells := 0, slots := 0, locals := 21 }
def fX12_shelfCount (F : Nat)  (M : Mem) : Option (Int32 × Mem) := bindM (fX12_asks F 0 M) (fun r3 M1 => some (r3, M1))
def rmX12_passageCount : Room := { frames := 1, cells := 0, slots := 0, locals := 21 }
def fX12_passageCount (F : Nat)  (M : Mem) : Option (Int32 × Mem) := bindM (fX12_asks F 1 M) (fun r3 M1 => some (r3, M1))
def rmX12_cheese : Room := { frames := 2, cells := 0, slots := 0, locals := 43 }
def fX12_cheese (F : Nat) (p0 : Int32) (M : Mem) : Option (Int32 × Mem) := letM (up2 M 119 0 0) (fun M1 => bindM (fX12_isShelf F p0 M1) (fun r5 M3 => if r5 = true then chk (inb (14 + p0) 216) (some ((M3 120 (14 + p0).toNatClampNeg), M3)) else bindM (fX12_fails F 1 M3) (fun r9 M7 => some (r9, M7))))
def rmX12_isBlind : Room := { frames := 2, cells := 0, slots := 0, locals := 43 }
def fX12_isBlind (F : Nat) (p0 : Int32) (M : Mem) : Option (Bool × Mem) := letM (up2 M 119 0 0) (fun M1 => bindM (fX12_isShelf F p0 M1) (fun r5 M3 => if r5 = true then chk (inb (26 + p0) 216) (if (M3 120 (26 + p0).toNatClampNeg) = 1 then some (true, M3) else some (false, M3)) else bindM (fX12_fails F 1 M3) (fun r11 M9 => if r11 ≤ 0 then some (false, M9) else some (true, M9))))
def rmX12_neighbourCount : Room := { frames := 2, cells := 0, slots := 0, locals := 43 }
def fX12_neighbourCount_23 (F : Nat)  (q1 : Int32) (kx : Int32 → Mem → Option (Int32 × Mem)) : Nat → Int32 → Int32 → Mem → Option (Int32 × Mem)
  | 0, _, _, _ => none
  | n + 1, v2, v3, M => if (M 120 0) ≤ v3 then kx v2 M else bindM (fX12_isLinked F q1 v3 M) (fun r11 M9 => if r11 = true then letM (v2 + 1) (fun x17 => letM (v3 + 1) (fun x19 => fX12_neighbourCount_23 F q1 kx n x17 x19 M9)) else letM (v2 + 0) (fun x13 => letM (v3 + 1) (fun x15 => fX12_neighbourCount_23 F q1 kx n x13 x15 M9)))
def fX12_neighbourCount (F : Nat) (p0 : Int32) (M : Mem) : Option (Int32 × Mem) := letM (up2 M 119 0 0) (fun M1 => bindM (fX12_isShelf F p0 M1) (fun r5 M3 => if r5 = true then fX12_neighbourCount_23 F p0 (fun w22 M21 => some (w22, M21)) F 0 0 M3 else bindM (fX12_fails F 1 M3) (fun r25 M23 => some (r25, M23))))
def rmX12_distance : Room := { frames := 2, cells := 0, slots := 0, locals := 46 }
def fX12_distance (F : Nat) (p0 : Int32) (p1 : Int32) (M : Mem) : Option (Int32 × Mem) := letM (up2 M 119 0 0) (fun M1 => bindM (fX12_isShelf F p0 M1) (fun r5 M3 => if r5 = true then bindM (fX12_isShelf F p1 M3) (fun r12 M10 => if r12 = true then bindV (fX12_distancesTo F p1 M10) (fun M14 => chk (inb p0 12) (if (M14 125 p0.toNatClampNeg) = 99 then bindM (fX12_fails F 2 M14) (fun r21 M19 => some (r21, M19)) else chk (inb p0 12) (some ((M14 125 p0.toNatClampNeg), M14)))) else bindM (fX12_fails F 1 M10) (fun r24 M22 => some (r24, M22))) else bindM (fX12_fails F 1 M3) (fun r9 M7 => some (r9, M7))))
def rmX12_distanceByTable : Room := { frames := 3, cells := 0, slots := 0, locals := 68 }
def fX12_distanceByTable (F : Nat) (p0 : Int32) (p1 : Int32) (M : Mem) : Option (Int32 × Mem) := bindM (fX12_distance F p0 p1 M) (fun r3 M1 => some (r3, M1))
def rmX12_groupCount : Room := { frames := 2, cells := 0, slots := 0, locals := 46 }
def fX12_groupCount_29 (F : Nat)  (q1 : Int32) (q2 : Int32) (kx : Int32 → Mem → Option (Int32 × Mem)) : Nat → Int32 → Int32 → Mem → Option (Int32 × Mem)
  | 0, _, _, _ => none
  | n + 1, v3, v4, M => if q2 ≤ v4 then kx v3 M else if v3 = 0 then letM (v4 + 1) (fun x9 => fX12_groupCount_29 F q1 q2 kx n 0 x9 M) else chk (inb v4 12) (if (M 125 v4.toNatClampNeg) = 99 then letM (v4 + 1) (fun x15 => fX12_groupCount_29 F q1 q2 kx n 1 x15 M) else letM (v4 + 1) (fun x13 => fX12_groupCount_29 F q1 q2 kx n 0 x13 M))
def fX12_groupCount_9 (F : Nat)   (kx : Int32 → Mem → Option (Int32 × Mem)) : Nat → Int32 → Int32 → Mem → Option (Int32 × Mem)
  | 0, _, _, _ => none
  | n + 1, v1, v2, M => if (M 120 0) ≤ v2 then kx v1 M else bindV (fX12_distancesTo F v2 M) (fun M5 => fX12_groupCount_29 F v1 v2 (fun w18 M17 => if w18 = 0 then letM (v1 + 0) (fun x20 => letM (v2 + 1) (fun x22 => fX12_groupCount_9 F  kx n x20 x22 M17)) else letM (v1 + 1) (fun x24 => letM (v2 + 1) (fun x26 => fX12_groupCount_9 F  kx n x24 x26 M17))) F 1 0 M5)
def fX12_groupCount (F : Nat)  (M : Mem) : Option (Int32 × Mem) := letM (up2 M 119 0 0) (fun M1 => fX12_groupCount_9 F  (fun w29 M28 => some (w29, M28)) F 0 0 M1)
set_option maxHeartbeats 4000000 in
theorem vX12_walked_61 {G : GG} {κ : KK} {F : Nat}  (C : Cx G κ cX12_walked RX12 (some .int) 3 rmX12_walked) {M' : Mem} {r : Int32} (hQ : HQ G κ (QI G r M') 0 0) {q1 : Int32} {kx : Int32 → Mem → Option (Int32 × Mem)} (hk : ∀ (v2 : Int32) (M : Mem), kx v2 M = some (r, M') → V G κ 3 0 0 M 93 [(2, .int v2)] []) : ∀ (n : Nat) (v2 : Int32) (M : Mem), fX12_walked_61 F q1 kx n v2 M = some (r, M') → V G κ 3 0 0 M 61 [(0, .ref (gad G 119)), (1, .int q1), (2, .int v2)] [] := by
  intro n
  induction n with
  | zero => intro v2 M h; rw [fX12_walked_61] at h; cases h
  | succ n ih =>
    intro v2 M h
    rw [fX12_walked_61] at h
    refine V_aload_n 61 C 0 dX12_walked_61 rfl ?_
    refine V_iload_n 62 C 1 dX12_walked_62 rfl ?_
    refine V_iload_n 63 C 2 dX12_walked_63 rfl ?_
    obtain ⟨r16, M14, k15, h⟩ := bindM_some h
    refine V_callI 64 (runVO (k := 119) (rest := []) 64 C (kX12_isLinked  k15) cf_X12_isLinked wk_7_18 (ltl (by rfl) rfl) (ceR_X12 (by rfl)) rfl rfl rfl rfl dX12_walked_64 rfl rfl (Nat.zero_le _) (Nat.zero_le _)) ?_
    refine V_ifeq_b 67 87 C dX12_walked_67 (by decide) (fun c17 => ?_) (fun c17 => ?_)
    · replace h := ite_f c17 h
      obtain ⟨x18, e19, h⟩ := letM_some h
      refine V_iinc 87 C [(2, .int x18), (0, .ref (gad G 119)), (1, .int q1)] 2 x18 dX12_walked_87 rfl (by rw [e19]; rfl) rfl rfl ?_
      refine V_goto 90 61 C dX12_walked_90 (by decide) ?_
      refine V_sub [1, 2, 0] rfl ?_
      exact ih _ _ h
    · replace h := ite_t c17 h
      refine V_aload_n 70 C 0 dX12_walked_70 rfl ?_
      refine V_get (v := .ref (gad G 125)) 71 C dX12_walked_71 (ltl (by rfl) rfl) (ceR_X12 (by rfl)) rfl inX12 14 rfl wk_6_148 rfl rfl ?_
      refine V_iload_n 74 C 2 dX12_walked_74 rfl ?_
      obtain ⟨c20, h⟩ := chk_some h
      refine V_iald 75 C dX12_walked_75 (akI_20 (by rfl)) (al_20 (by rfl)) c20 ?_
      refine V_aload_n 76 C 0 dX12_walked_76 rfl ?_
      refine V_get (v := .ref (gad G 125)) 77 C dX12_walked_77 (ltl (by rfl) rfl) (ceR_X12 (by rfl)) rfl inX12 14 rfl wk_6_148 rfl rfl ?_
      refine V_iload_n 80 C 1 dX12_walked_80 rfl ?_
      obtain ⟨c21, h⟩ := chk_some h
      refine V_iald 81 C dX12_walked_81 (akI_20 (by rfl)) (al_20 (by rfl)) c21 ?_
      refine V_iconst 82 C dX12_walked_82 ic1 ?_
      refine V_isub 83 C dX12_walked_83 ?_
      refine V_icmp_eq 84 93 C dX12_walked_84 (by decide) (fun c22 => ?_) (fun c22 => ?_)
      · replace h := ite_t c22 h
        refine V_sub [2] rfl ?_
        exact hk _ _ h
      · replace h := ite_f c22 h
        obtain ⟨x23, e24, h⟩ := letM_some h
        refine V_iinc 87 C [(2, .int x23), (0, .ref (gad G 119)), (1, .int q1)] 2 x23 dX12_walked_87 rfl (by rw [e24]; rfl) rfl rfl ?_
        refine V_goto 90 61 C dX12_walked_90 (by decide) ?_
        refine V_sub [1, 2, 0] rfl ?_
        exact ih _ _ h
set_option maxHeartbeats 4000000 in
theorem kX12_walked {G : GG} {l : Launch} {F : Nat}   {M M' : Mem} {r : Int32} (h : fX12_walked F  M = some (r, M')) : Con G l yX12_walked cX12_walked 3 (some .int) rmX12_walked [.ref (gad G 119)] M (QI G r M') := by
  refine con_of pnX12 (Nat.le_of_ble_eq_true rfl) (fun κ C hQ => ?_)
  unfold fX12_walked at h
  refine V_L (L1 := [(0, .ref (gad G 119))]) rfl ?_
  refine V_aload_n 0 C 0 dX12_walked_0 rfl ?_
  refine V_get (v := .ref (gad G 120)) 1 C dX12_walked_1 (ltl (by rfl) rfl) (ceR_X12 (by rfl)) rfl inX12 6 rfl wk_6_140 rfl rfl ?_
  refine V_iconst 4 C dX12_walked_4 ic3 ?_
  refine V_ialdJ 5 C dX12_walked_5 (akI_26 (by rfl)) (al_26 (by rfl)) (by decide) (j := 3) (by decide) ?_
  obtain ⟨x2, e3, h⟩ := letM_some h
  refine V_top e3 ?_
  refine V_istore_n 6 C [(1, .int x2), (0, .ref (gad G 119))] dX12_walked_6 rfl rfl rfl ?_
  refine V_aload_n 7 C 1 dX12_walked_7 rfl ?_
  refine V_get (v := .ref (gad G 120)) 8 C dX12_walked_8 (ltl (by rfl) rfl) (ceR_X12 (by rfl)) rfl inX12 6 rfl wk_6_140 rfl rfl ?_
  refine V_iconst 11 C dX12_walked_11 ic2 ?_
  refine V_ialdJ 12 C dX12_walked_12 (akI_26 (by rfl)) (al_26 (by rfl)) (by decide) (j := 2) (by decide) ?_
  refine V_if_ne 13 18 C dX12_walked_13 (by decide) (fun c5 => ?_) (fun c5 => ?_)
  · replace h := ite_f c5 h
    refine V_aload_n 18 C 1 dX12_walked_18 rfl ?_
    refine V_aload_n 19 C 1 dX12_walked_19 rfl ?_
    refine V_get (v := .ref (gad G 120)) 20 C dX12_walked_20 (ltl (by rfl) rfl) (ceR_X12 (by rfl)) rfl inX12 6 rfl wk_6_140 rfl rfl ?_
    refine V_sipush 23 C dX12_walked_23 sp182 ?_
    refine V_aload_n 26 C 1 dX12_walked_26 rfl ?_
    refine V_get (v := .ref (gad G 120)) 27 C dX12_walked_27 (ltl (by rfl) rfl) (ceR_X12 (by rfl)) rfl inX12 6 rfl wk_6_140 rfl rfl ?_
    refine V_iconst 30 C dX12_walked_30 ic4 ?_
    refine V_ialdJ 31 C dX12_walked_31 (akI_26 (by rfl)) (al_26 (by rfl)) (by decide) (j := 4) (by decide) ?_
    refine V_iadd 32 C dX12_walked_32 ?_
    obtain ⟨c7, h⟩ := chk_some h
    refine V_iald 33 C dX12_walked_33 (akI_26 (by rfl)) (al_26 (by rfl)) c7 ?_
    obtain ⟨M8, k9, h⟩ := bindV_some h
    refine V_callV 34 (runVO (k := 119) (rest := []) 34 C (kX12_distancesTo  k9) cf_X12_distancesTo wk_7_113 (ltl (by rfl) rfl) (ceR_X12 (by rfl)) rfl rfl rfl rfl dX12_walked_34 rfl rfl (Nat.zero_le _) (Nat.zero_le _)) ?_
    refine V_aload_n 37 C 1 dX12_walked_37 rfl ?_
    refine V_get (v := .ref (gad G 125)) 38 C dX12_walked_38 (ltl (by rfl) rfl) (ceR_X12 (by rfl)) rfl inX12 14 rfl wk_6_148 rfl rfl ?_
    refine V_iload_n 41 C 0 dX12_walked_41 rfl ?_
    obtain ⟨c10, h⟩ := chk_some h
    refine V_iald 42 C dX12_walked_42 (akI_20 (by rfl)) (al_20 (by rfl)) c10 ?_
    refine V_if_eq 43 57 C dX12_walked_43 (by decide) (fun c11 => ?_) (fun c11 => ?_)
    · replace h := ite_t c11 h
      refine V_iload_n 57 C 0 dX12_walked_57 rfl ?_
      exact V_ireth 58 C hQ h dX12_walked_58
    · replace h := ite_f c11 h
      refine V_aload_n 46 C 1 dX12_walked_46 rfl ?_
      refine V_get (v := .ref (gad G 125)) 47 C dX12_walked_47 (ltl (by rfl) rfl) (ceR_X12 (by rfl)) rfl inX12 14 rfl wk_6_148 rfl rfl ?_
      refine V_iload_n 50 C 0 dX12_walked_50 rfl ?_
      obtain ⟨c12, h⟩ := chk_some h
      refine V_iald 51 C dX12_walked_51 (akI_20 (by rfl)) (al_20 (by rfl)) c12 ?_
      refine V_bipush 52 C dX12_walked_52 bp99 ?_
      refine V_icmp_ne 54 59 C dX12_walked_54 (by decide) (fun c13 => ?_) (fun c13 => ?_)
      · replace h := ite_f c13 h
        refine V_iconst 59 C dX12_walked_59 ic0 ?_
        refine V_istore_n 60 C [(2, .int 0), (1, .int x2), (0, .ref (gad G 119))] dX12_walked_60 rfl rfl rfl ?_
        refine V_sub [2, 1, 0] rfl ?_
        refine vX12_walked_61  C hQ ?_ _ _ _ h
        intro w26 M25 h
        refine V_iload_n 93 C 0 dX12_walked_93 rfl ?_
        exact V_ireth 94 C hQ h dX12_walked_94
      · replace h := ite_t c13 h
        refine V_iload_n 57 C 0 dX12_walked_57 rfl ?_
        exact V_ireth 58 C hQ h dX12_walked_58
  · replace h := ite_t c5 h
    refine V_iload_n 16 C 0 dX12_walked_16 rfl ?_
    exact V_ireth 17 C hQ h dX12_walked_17
set_option maxHeartbeats 4000000 in
theorem kX12_mouse {G : GG} {l : Launch} {F : Nat}  {p0 : Int32} {p1 : Int32} {M M' : Mem} {r : Int32} (h : fX12_mouse F p0 p1 M = some (r, M')) : Con G l yX12_mouse cX12_mouse 3 (some .int) rmX12_mouse [.ref (gad G 119), .int p0, .int p1] M (QI G r M') := by
  refine con_of pnX12 (Nat.le_of_ble_eq_true rfl) (fun κ C hQ => ?_)
  unfold fX12_mouse at h
  refine V_L (L1 := [(0, .ref (gad G 119)), (1, .int p0), (2, .int p1)]) rfl ?_
  refine V_aload_n 0 C 0 dX12_mouse_0 rfl ?_
  refine V_get (v := .ref (gad G 120)) 1 C dX12_mouse_1 (ltl (by rfl) rfl) (ceR_X12 (by rfl)) rfl inX12 6 rfl wk_6_140 rfl rfl ?_
  refine V_sipush 4 C dX12_mouse_4 sp192 ?_
  refine V_iconst 7 C dX12_mouse_7 ic3 ?_
  refine V_iload_n 8 C 1 dX12_mouse_8 rfl ?_
  refine V_imul 9 C dX12_mouse_9 ?_
  refine V_iadd 10 C dX12_mouse_10 ?_
  refine V_iload_n 11 C 2 dX12_mouse_11 rfl ?_
  refine V_iadd 12 C dX12_mouse_12 ?_
  obtain ⟨c1, h⟩ := chk_some h
  refine V_iald 13 C dX12_mouse_13 (akI_26 (by rfl)) (al_26 (by rfl)) c1 ?_
  exact V_ireth 14 C hQ h dX12_mouse_14
set_option maxHeartbeats 4000000 in
theorem vX12_removesMouse_33 {G : GG} {κ : KK} {F : Nat}  (C : Cx G κ cX12_removesMouse RX12 none 4 rmX12_removesMouse) {M' : Mem}  (hQ : HQ G κ (QV G M') 0 0) {q2 : Int32} {kx : Mem → Option Mem} (hk : ∀  (M : Mem), kx  M = some M' → V G κ 4 0 0 M 58 [(0, .ref (gad G 119)), (2, .int q2)] []) : ∀ (n : Nat) (v3 : Int32) (M : Mem), fX12_removesMouse_33 F q2 kx n v3 M = some M' → V G κ 4 0 0 M 33 [(0, .ref (gad G 119)), (2, .int q2), (3, .int v3)] [] := by
  intro n
  induction n with
  | zero => intro v3 M h; rw [fX12_removesMouse_33] at h; cases h
  | succ n ih =>
    intro v3 M h
    rw [fX12_removesMouse_33] at h
    refine V_iload_n 33 C 2 dX12_removesMouse_33 rfl ?_
    refine V_iload_n 34 C 1 dX12_removesMouse_34 rfl ?_
    refine V_icmp_ge 35 58 C dX12_removesMouse_35 (by decide) (fun c10 => ?_) (fun c10 => ?_)
    · replace h := ite_t c10 h
      refine V_sub [0, 1] rfl ?_
      exact hk  _ h
    · replace h := ite_f c10 h
      refine V_aload_n 38 C 0 dX12_removesMouse_38 rfl ?_
      refine V_get (v := .ref (gad G 120)) 39 C dX12_removesMouse_39 (ltl (by rfl) rfl) (ceR_X12 (by rfl)) rfl inX12 6 rfl wk_6_140 rfl rfl ?_
      refine V_iload_n 42 C 2 dX12_removesMouse_42 rfl ?_
      refine V_aload_n 43 C 0 dX12_removesMouse_43 rfl ?_
      refine V_get (v := .ref (gad G 120)) 44 C dX12_removesMouse_44 (ltl (by rfl) rfl) (ceR_X12 (by rfl)) rfl inX12 6 rfl wk_6_140 rfl rfl ?_
      refine V_iload_n 47 C 2 dX12_removesMouse_47 rfl ?_
      refine V_iconst 48 C dX12_removesMouse_48 ic3 ?_
      refine V_iadd 49 C dX12_removesMouse_49 ?_
      obtain ⟨c11, h⟩ := chk_some h
      refine V_iald 50 C dX12_removesMouse_50 (akI_26 (by rfl)) (al_26 (by rfl)) c11 ?_
      obtain ⟨c12, h⟩ := chk_some h
      obtain ⟨M13, e14, h⟩ := letM_some h
      refine V_iast 51 C dX12_removesMouse_51 (akI_26 (by rfl)) (al_26 (by rfl)) c12 ?_
      refine V_eqM e14 ?_
      obtain ⟨x15, e16, h⟩ := letM_some h
      refine V_iinc 52 C [(3, .int x15), (0, .ref (gad G 119)), (2, .int q2)] 2 x15 dX12_removesMouse_52 rfl (by rw [e16]; rfl) rfl rfl ?_
      refine V_goto 55 33 C dX12_removesMouse_55 (by decide) ?_
      refine V_sub [1, 2, 0] rfl ?_
      exact ih _ _ h
set_option maxHeartbeats 4000000 in
theorem vX12_removesMouse_60 {G : GG} {κ : KK} {F : Nat}  (C : Cx G κ cX12_removesMouse RX12 none 4 rmX12_removesMouse) {M' : Mem}  (hQ : HQ G κ (QV G M') 0 0) {q2 : Int32} {kx : Mem → Option Mem} (hk : ∀  (M : Mem), kx  M = some M' → V G κ 4 0 0 M 80 [] []) : ∀ (n : Nat) (v3 : Int32) (M : Mem), fX12_removesMouse_60 F q2 kx n v3 M = some M' → V G κ 4 0 0 M 60 [(0, .ref (gad G 119)), (2, .int q2), (3, .int v3)] [] := by
  intro n
  induction n with
  | zero => intro v3 M h; rw [fX12_removesMouse_60] at h; cases h
  | succ n ih =>
    intro v3 M h
    rw [fX12_removesMouse_60] at h
    refine V_iload_n 60 C 2 dX12_removesMouse_60 rfl ?_
    refine V_iconst 61 C dX12_removesMouse_61 ic3 ?_
    refine V_icmp_ge 62 80 C dX12_removesMouse_62 (by decide) (fun c18 => ?_) (fun c18 => ?_)
    · replace h := ite_t c18 h
      refine V_sub [] rfl ?_
      exact hk  _ h
    · replace h := ite_f c18 h
      refine V_aload_n 65 C 0 dX12_removesMouse_65 rfl ?_
      refine V_get (v := .ref (gad G 120)) 66 C dX12_removesMouse_66 (ltl (by rfl) rfl) (ceR_X12 (by rfl)) rfl inX12 6 rfl wk_6_140 rfl rfl ?_
      refine V_iload_n 69 C 1 dX12_removesMouse_69 rfl ?_
      refine V_iload_n 70 C 2 dX12_removesMouse_70 rfl ?_
      refine V_iadd 71 C dX12_removesMouse_71 ?_
      refine V_iconst 72 C dX12_removesMouse_72 ic0 ?_
      obtain ⟨c19, h⟩ := chk_some h
      obtain ⟨M20, e21, h⟩ := letM_some h
      refine V_iast 73 C dX12_removesMouse_73 (akI_26 (by rfl)) (al_26 (by rfl)) c19 ?_
      refine V_eqM e21 ?_
      obtain ⟨x22, e23, h⟩ := letM_some h
      refine V_iinc 74 C [(3, .int x22), (0, .ref (gad G 119)), (2, .int q2)] 2 x22 dX12_removesMouse_74 rfl (by rw [e23]; rfl) rfl rfl ?_
      refine V_goto 77 60 C dX12_removesMouse_77 (by decide) ?_
      refine V_sub [1, 2, 0] rfl ?_
      exact ih _ _ h
set_option maxHeartbeats 4000000 in
theorem kX12_removesMouse {G : GG} {l : Launch} {F : Nat}  {p0 : Int32} {M M' : Mem}  (h : fX12_removesMouse F p0 M = some M') : Con G l yX12_removesMouse cX12_removesMouse 4 none rmX12_removesMouse [.ref (gad G 119), .int p0] M (QV G M') := by
  refine con_of pnX12 (Nat.le_of_ble_eq_true rfl) (fun κ C hQ => ?_)
  unfold fX12_removesMouse at h
  refine V_L (L1 := [(0, .ref (gad G 119)), (1, .int p0)]) rfl ?_
  refine V_aload_n 0 C 0 dX12_removesMouse_0 rfl ?_
  refine V_get (v := .ref (gad G 120)) 1 C dX12_removesMouse_1 (ltl (by rfl) rfl) (ceR_X12 (by rfl)) rfl inX12 6 rfl wk_6_140 rfl rfl ?_
  refine V_bipush 4 C dX12_removesMouse_4 bp8 ?_
  refine V_dup2 6 C dX12_removesMouse_6 rfl rfl ?_
  refine V_ialdJ 7 C dX12_removesMouse_7 (akI_26 (by rfl)) (al_26 (by rfl)) (by decide) (j := 8) (by decide) ?_
  refine V_iconst 8 C dX12_removesMouse_8 ic1 ?_
  refine V_isub 9 C dX12_removesMouse_9 ?_
  obtain ⟨M3, e4, h⟩ := letM_some h
  refine V_iastJ 10 C dX12_removesMouse_10 (akI_26 (by rfl)) (al_26 (by rfl)) (by decide) (j := 8) (by decide) ?_
  refine V_eqM e4 ?_
  refine V_sipush 11 C dX12_removesMouse_11 sp192 ?_
  refine V_iconst 14 C dX12_removesMouse_14 ic3 ?_
  refine V_aload_n 15 C 0 dX12_removesMouse_15 rfl ?_
  refine V_get (v := .ref (gad G 120)) 16 C dX12_removesMouse_16 (ltl (by rfl) rfl) (ceR_X12 (by rfl)) rfl inX12 6 rfl wk_6_140 rfl rfl ?_
  refine V_bipush 19 C dX12_removesMouse_19 bp8 ?_
  refine V_ialdJ 21 C dX12_removesMouse_21 (akI_26 (by rfl)) (al_26 (by rfl)) (by decide) (j := 8) (by decide) ?_
  refine V_imul 22 C dX12_removesMouse_22 ?_
  refine V_iadd 23 C dX12_removesMouse_23 ?_
  obtain ⟨x6, e7, h⟩ := letM_some h
  refine V_top e7 ?_
  refine V_istore_n 24 C [(2, .int x6), (0, .ref (gad G 119)), (1, .int p0)] dX12_removesMouse_24 rfl rfl rfl ?_
  refine V_sipush 25 C dX12_removesMouse_25 sp192 ?_
  refine V_iconst 28 C dX12_removesMouse_28 ic3 ?_
  refine V_iload_n 29 C 2 dX12_removesMouse_29 rfl ?_
  refine V_imul 30 C dX12_removesMouse_30 ?_
  refine V_iadd 31 C dX12_removesMouse_31 ?_
  obtain ⟨x8, e9, h⟩ := letM_some h
  refine V_top e9 ?_
  refine V_istore_n 32 C [(3, .int x8), (2, .int x6), (0, .ref (gad G 119)), (1, .int p0)] dX12_removesMouse_32 rfl rfl rfl ?_
  refine V_sub [2, 1, 0] rfl ?_
  refine vX12_removesMouse_33  C hQ ?_ _ _ _ h
  intro M17 h
  refine V_iconst 58 C dX12_removesMouse_58 ic0 ?_
  refine V_istore_n 59 C [(3, .int 0), (0, .ref (gad G 119)), (2, .int x6)] dX12_removesMouse_59 rfl rfl rfl ?_
  refine V_sub [1, 2, 0] rfl ?_
  refine vX12_removesMouse_60  C hQ ?_ _ _ _ h
  intro M24 h
  exact V_vreth 80 C hQ h dX12_removesMouse_80
set_option maxHeartbeats 4000000 in
theorem kX12_walks {G : GG} {l : Launch} {F : Nat}   {M M' : Mem}  (h : fX12_walks F  M = some M') : Con G l yX12_walks cX12_walks 1 none rmX12_walks [.ref (gad G 119)] M (QV G M') := by
  refine con_of pnX12 (Nat.le_of_ble_eq_true rfl) (fun κ C hQ => ?_)
  unfold fX12_walks at h
  refine V_L (L1 := [(0, .ref (gad G 119))]) rfl ?_
  refine V_aload_n 0 C 0 dX12_walks_0 rfl ?_
  refine V_get (v := .ref (gad G 120)) 1 C dX12_walks_1 (ltl (by rfl) rfl) (ceR_X12 (by rfl)) rfl inX12 6 rfl wk_6_140 rfl rfl ?_
  refine V_iconst 4 C dX12_walks_4 ic2 ?_
  refine V_ialdJ 5 C dX12_walks_5 (akI_26 (by rfl)) (al_26 (by rfl)) (by decide) (j := 2) (by decide) ?_
  refine V_if_ne 6 10 C dX12_walks_6 (by decide) (fun c2 => ?_) (fun c2 => ?_)
  · replace h := ite_f c2 h
    refine V_aload_n 10 C 0 dX12_walks_10 rfl ?_
    refine V_get (v := .ref (gad G 120)) 11 C dX12_walks_11 (ltl (by rfl) rfl) (ceR_X12 (by rfl)) rfl inX12 6 rfl wk_6_140 rfl rfl ?_
    refine V_iconst 14 C dX12_walks_14 ic3 ?_
    refine V_aload_n 15 C 0 dX12_walks_15 rfl ?_
    obtain ⟨r5, M3, k4, h⟩ := bindM_some h
    refine V_callI 16 (runVO (k := 119) (rest := [.int 3, .ref (gad G 120)]) 16 C (kX12_walked  k4) cf_X12_walked wk_7_109 (ltl (by rfl) rfl) (ceR_X12 (by rfl)) rfl rfl rfl rfl dX12_walks_16 rfl rfl (Nat.zero_le _) (Nat.zero_le _)) ?_
    obtain ⟨M7, e8, h⟩ := letM_some h
    refine V_iastJ 19 C dX12_walks_19 (akI_26 (by rfl)) (al_26 (by rfl)) (by decide) (j := 3) (by decide) ?_
    refine V_eqM e8 ?_
    refine V_aload_n 20 C 0 dX12_walks_20 rfl ?_
    refine V_get (v := .ref (gad G 120)) 21 C dX12_walks_21 (ltl (by rfl) rfl) (ceR_X12 (by rfl)) rfl inX12 6 rfl wk_6_140 rfl rfl ?_
    refine V_iconst 24 C dX12_walks_24 ic3 ?_
    refine V_ialdJ 25 C dX12_walks_25 (akI_26 (by rfl)) (al_26 (by rfl)) (by decide) (j := 3) (by decide) ?_
    refine V_aload_n 26 C 0 dX12_walks_26 rfl ?_
    refine V_get (v := .ref (gad G 120)) 27 C dX12_walks_27 (ltl (by rfl) rfl) (ceR_X12 (by rfl)) rfl inX12 6 rfl wk_6_140 rfl rfl ?_
    refine V_sipush 30 C dX12_walks_30 sp182 ?_
    refine V_aload_n 33 C 0 dX12_walks_33 rfl ?_
    refine V_get (v := .ref (gad G 120)) 34 C dX12_walks_34 (ltl (by rfl) rfl) (ceR_X12 (by rfl)) rfl inX12 6 rfl wk_6_140 rfl rfl ?_
    refine V_iconst 37 C dX12_walks_37 ic4 ?_
    refine V_ialdJ 38 C dX12_walks_38 (akI_26 (by rfl)) (al_26 (by rfl)) (by decide) (j := 4) (by decide) ?_
    refine V_iadd 39 C dX12_walks_39 ?_
    obtain ⟨c11, h⟩ := chk_some h
    refine V_iald 40 C dX12_walks_40 (akI_26 (by rfl)) (al_26 (by rfl)) c11 ?_
    refine V_icmp_ne 41 65 C dX12_walks_41 (by decide) (fun c12 => ?_) (fun c12 => ?_)
    · replace h := ite_f c12 h
      exact V_vreth 65 C hQ h dX12_walks_65
    · replace h := ite_t c12 h
      refine V_aload_n 44 C 0 dX12_walks_44 rfl ?_
      refine V_get (v := .ref (gad G 120)) 45 C dX12_walks_45 (ltl (by rfl) rfl) (ceR_X12 (by rfl)) rfl inX12 6 rfl wk_6_140 rfl rfl ?_
      refine V_iconst 48 C dX12_walks_48 ic4 ?_
      refine V_aload_n 49 C 0 dX12_walks_49 rfl ?_
      refine V_get (v := .ref (gad G 120)) 50 C dX12_walks_50 (ltl (by rfl) rfl) (ceR_X12 (by rfl)) rfl inX12 6 rfl wk_6_140 rfl rfl ?_
      refine V_iconst 53 C dX12_walks_53 ic4 ?_
      refine V_ialdJ 54 C dX12_walks_54 (akI_26 (by rfl)) (al_26 (by rfl)) (by decide) (j := 4) (by decide) ?_
      refine V_iconst 55 C dX12_walks_55 ic1 ?_
      refine V_iadd 56 C dX12_walks_56 ?_
      refine V_aload_n 57 C 0 dX12_walks_57 rfl ?_
      refine V_get (v := .ref (gad G 120)) 58 C dX12_walks_58 (ltl (by rfl) rfl) (ceR_X12 (by rfl)) rfl inX12 6 rfl wk_6_140 rfl rfl ?_
      refine V_iconst 61 C dX12_walks_61 ic2 ?_
      refine V_ialdJ 62 C dX12_walks_62 (akI_26 (by rfl)) (al_26 (by rfl)) (by decide) (j := 2) (by decide) ?_
      obtain ⟨c15, h⟩ := chk_some h
      refine V_irem 63 C dX12_walks_63 (of_decide_eq_true c15) ?_
      obtain ⟨M17, e18, h⟩ := letM_some h
      refine V_iastJ 64 C dX12_walks_64 (akI_26 (by rfl)) (al_26 (by rfl)) (by decide) (j := 4) (by decide) ?_
      refine V_eqM e18 ?_
      exact V_vreth 65 C hQ h dX12_walks_65
  · replace h := ite_t c2 h
    exact V_vreth 9 C hQ h dX12_walks_9
set_option maxHeartbeats 4000000 in
theorem vX12_catches_24 {G : GG} {κ : KK} {F : Nat}  (C : Cx G κ cX12_catches RX12 (some .int) 3 rmX12_catches) {M' : Mem} {r : Int32} (hQ : HQ G κ (QI G r M') 0 0)  {kx : Int32 → Mem → Option (Int32 × Mem)} (hk : ∀ (v1 : Int32) (M : Mem), kx v1 M = some (r, M') → V G κ 3 0 0 M 83 [(0, .ref (gad G 119)), (1, .int v1)] []) : ∀ (n : Nat) (v1 : Int32) (v2 : Int32) (M : Mem), fX12_catches_24 F  kx n v1 v2 M = some (r, M') → V G κ 3 0 0 M 24 [(0, .ref (gad G 119)), (1, .int v1), (2, .int v2)] [] := by
  intro n
  induction n with
  | zero => intro v1 v2 M h; rw [fX12_catches_24] at h; cases h
  | succ n ih =>
    intro v1 v2 M h
    rw [fX12_catches_24] at h
    refine V_iload_n 24 C 2 dX12_catches_24 rfl ?_
    refine V_aload_n 25 C 0 dX12_catches_25 rfl ?_
    refine V_get (v := .ref (gad G 120)) 26 C dX12_catches_26 (ltl (by rfl) rfl) (ceR_X12 (by rfl)) rfl inX12 6 rfl wk_6_140 rfl rfl ?_
    refine V_bipush 29 C dX12_catches_29 bp8 ?_
    refine V_ialdJ 31 C dX12_catches_31 (akI_26 (by rfl)) (al_26 (by rfl)) (by decide) (j := 8) (by decide) ?_
    refine V_icmp_ge 32 83 C dX12_catches_32 (by decide) (fun c5 => ?_) (fun c5 => ?_)
    · replace h := ite_t c5 h
      refine V_sub [0, 1] rfl ?_
      exact hk _ _ h
    · replace h := ite_f c5 h
      refine V_aload_n 35 C 0 dX12_catches_35 rfl ?_
      refine V_iload_n 36 C 2 dX12_catches_36 rfl ?_
      refine V_iconst 37 C dX12_catches_37 ic0 ?_
      obtain ⟨r8, M6, k7, h⟩ := bindM_some h
      refine V_callI 38 (runVO (k := 119) (rest := []) 38 C (kX12_mouse  k7) cf_X12_mouse wk_7_121 (ltl (by rfl) rfl) (ceR_X12 (by rfl)) rfl rfl rfl rfl dX12_catches_38 rfl rfl (Nat.zero_le _) (Nat.zero_le _)) ?_
      refine V_aload_n 41 C 0 dX12_catches_41 rfl ?_
      refine V_get (v := .ref (gad G 120)) 42 C dX12_catches_42 (ltl (by rfl) rfl) (ceR_X12 (by rfl)) rfl inX12 6 rfl wk_6_140 rfl rfl ?_
      refine V_iconst 45 C dX12_catches_45 ic3 ?_
      refine V_ialdJ 46 C dX12_catches_46 (akI_26 (by rfl)) (al_26 (by rfl)) (by decide) (j := 3) (by decide) ?_
      refine V_icmp_ne 47 77 C dX12_catches_47 (by decide) (fun c10 => ?_) (fun c10 => ?_)
      · replace h := ite_f c10 h
        obtain ⟨x11, e12, h⟩ := letM_some h
        refine V_iinc 77 C [(2, .int x11), (0, .ref (gad G 119)), (1, .int v1)] 2 x11 dX12_catches_77 rfl (by rw [e12]; rfl) rfl rfl ?_
        refine V_goto 80 24 C dX12_catches_80 (by decide) ?_
        refine V_sub [1, 2, 0] rfl ?_
        exact ih _ _ _ h
      · replace h := ite_t c10 h
        refine V_aload_n 50 C 0 dX12_catches_50 rfl ?_
        refine V_get (v := .ref (gad G 120)) 51 C dX12_catches_51 (ltl (by rfl) rfl) (ceR_X12 (by rfl)) rfl inX12 6 rfl wk_6_140 rfl rfl ?_
        refine V_bipush 54 C dX12_catches_54 bp11 ?_
        refine V_dup2 56 C dX12_catches_56 rfl rfl ?_
        refine V_ialdJ 57 C dX12_catches_57 (akI_26 (by rfl)) (al_26 (by rfl)) (by decide) (j := 11) (by decide) ?_
        refine V_aload_n 58 C 0 dX12_catches_58 rfl ?_
        refine V_iload_n 59 C 2 dX12_catches_59 rfl ?_
        refine V_iconst 60 C dX12_catches_60 ic1 ?_
        obtain ⟨r16, M14, k15, h⟩ := bindM_some h
        refine V_callI 61 (runVO (k := 119) (rest := [.int (M6 120 11), .int 11, .ref (gad G 120)]) 61 C (kX12_mouse  k15) cf_X12_mouse wk_7_121 (ltl (by rfl) rfl) (ceR_X12 (by rfl)) rfl rfl rfl rfl dX12_catches_61 rfl rfl (Nat.zero_le _) (Nat.zero_le _)) ?_
        refine V_iadd 64 C dX12_catches_64 ?_
        obtain ⟨M18, e19, h⟩ := letM_some h
        refine V_iastJ 65 C dX12_catches_65 (akI_26 (by rfl)) (al_26 (by rfl)) (by decide) (j := 11) (by decide) ?_
        refine V_eqM e19 ?_
        refine V_aload_n 66 C 0 dX12_catches_66 rfl ?_
        refine V_iload_n 67 C 2 dX12_catches_67 rfl ?_
        obtain ⟨M20, k21, h⟩ := bindV_some h
        refine V_callV 68 (runVO (k := 119) (rest := []) 68 C (kX12_removesMouse  k21) cf_X12_removesMouse wk_7_125 (ltl (by rfl) rfl) (ceR_X12 (by rfl)) rfl rfl rfl rfl dX12_catches_68 rfl rfl (Nat.zero_le _) (Nat.zero_le _)) ?_
        obtain ⟨x22, e23, h⟩ := letM_some h
        refine V_iinc 71 C [(1, .int x22), (0, .ref (gad G 119)), (2, .int v2)] 1 x22 dX12_catches_71 rfl (by rw [e23]; rfl) rfl rfl ?_
        refine V_goto 74 24 C dX12_catches_74 (by decide) ?_
        refine V_sub [1, 0, 2] rfl ?_
        exact ih _ _ _ h
set_option maxHeartbeats 4000000 in
theorem kX12_catches {G : GG} {l : Launch} {F : Nat}   {M M' : Mem} {r : Int32} (h : fX12_catches F  M = some (r, M')) : Con G l yX12_catches cX12_catches 3 (some .int) rmX12_catches [.ref (gad G 119)] M (QI G r M') := by
  refine con_of pnX12 (Nat.le_of_ble_eq_true rfl) (fun κ C hQ => ?_)
  unfold fX12_catches at h
  refine V_L (L1 := [(0, .ref (gad G 119))]) rfl ?_
  refine V_aload_n 0 C 0 dX12_catches_0 rfl ?_
  refine V_get (v := .ref (gad G 120)) 1 C dX12_catches_1 (ltl (by rfl) rfl) (ceR_X12 (by rfl)) rfl inX12 6 rfl wk_6_140 rfl rfl ?_
  refine V_bipush 4 C dX12_catches_4 bp26 ?_
  refine V_aload_n 6 C 0 dX12_catches_6 rfl ?_
  refine V_get (v := .ref (gad G 120)) 7 C dX12_catches_7 (ltl (by rfl) rfl) (ceR_X12 (by rfl)) rfl inX12 6 rfl wk_6_140 rfl rfl ?_
  refine V_iconst 10 C dX12_catches_10 ic3 ?_
  refine V_ialdJ 11 C dX12_catches_11 (akI_26 (by rfl)) (al_26 (by rfl)) (by decide) (j := 3) (by decide) ?_
  refine V_iadd 12 C dX12_catches_12 ?_
  obtain ⟨c2, h⟩ := chk_some h
  refine V_iald 13 C dX12_catches_13 (akI_26 (by rfl)) (al_26 (by rfl)) c2 ?_
  refine V_iconst 14 C dX12_catches_14 ic1 ?_
  refine V_icmp_ne 15 20 C dX12_catches_15 (by decide) (fun c3 => ?_) (fun c3 => ?_)
  · replace h := ite_f c3 h
    refine V_iconst 20 C dX12_catches_20 ic0 ?_
    refine V_istore_n 21 C [(1, .int 0), (0, .ref (gad G 119))] dX12_catches_21 rfl rfl rfl ?_
    refine V_iconst 22 C dX12_catches_22 ic0 ?_
    refine V_istore_n 23 C [(2, .int 0), (1, .int 0), (0, .ref (gad G 119))] dX12_catches_23 rfl rfl rfl ?_
    refine V_sub [2, 1, 0] rfl ?_
    refine vX12_catches_24  C hQ ?_ _ _ _ _ h
    intro w25 M24 h
    refine V_aload_n 83 C 0 dX12_catches_83 rfl ?_
    refine V_get (v := .ref (gad G 120)) 84 C dX12_catches_84 (ltl (by rfl) rfl) (ceR_X12 (by rfl)) rfl inX12 6 rfl wk_6_140 rfl rfl ?_
    refine V_bipush 87 C dX12_catches_87 bp9 ?_
    refine V_dup2 89 C dX12_catches_89 rfl rfl ?_
    refine V_ialdJ 90 C dX12_catches_90 (akI_26 (by rfl)) (al_26 (by rfl)) (by decide) (j := 9) (by decide) ?_
    refine V_iload_n 91 C 1 dX12_catches_91 rfl ?_
    refine V_iadd 92 C dX12_catches_92 ?_
    obtain ⟨M28, e29, h⟩ := letM_some h
    refine V_iastJ 93 C dX12_catches_93 (akI_26 (by rfl)) (al_26 (by rfl)) (by decide) (j := 9) (by decide) ?_
    refine V_eqM e29 ?_
    refine V_iload_n 94 C 1 dX12_catches_94 rfl ?_
    exact V_ireth 95 C hQ h dX12_catches_95
  · replace h := ite_t c3 h
    refine V_iconst 18 C dX12_catches_18 ic0 ?_
    exact V_ireth 19 C hQ h dX12_catches_19
set_option maxHeartbeats 4000000 in
theorem vX12_richest_4 {G : GG} {κ : KK} {F : Nat}  (C : Cx G κ cX12_richest RX12 (some .int) 4 rmX12_richest) {M' : Mem} {r : Int32} (hQ : HQ G κ (QI G r M') 0 0) {q1 : Int32} {kx : Int32 → Mem → Option (Int32 × Mem)} (hk : ∀ (v2 : Int32) (M : Mem), kx v2 M = some (r, M') → V G κ 4 0 0 M 57 [(2, .int v2)] []) : ∀ (n : Nat) (v2 : Int32) (v3 : Int32) (M : Mem), fX12_richest_4 F q1 kx n v2 v3 M = some (r, M') → V G κ 4 0 0 M 4 [(0, .ref (gad G 119)), (1, .int q1), (2, .int v2), (3, .int v3)] [] := by
  intro n
  induction n with
  | zero => intro v2 v3 M h; rw [fX12_richest_4] at h; cases h
  | succ n ih =>
    intro v2 v3 M h
    rw [fX12_richest_4] at h
    refine V_iload_n 4 C 3 dX12_richest_4 rfl ?_
    refine V_aload_n 5 C 0 dX12_richest_5 rfl ?_
    refine V_get (v := .ref (gad G 120)) 6 C dX12_richest_6 (ltl (by rfl) rfl) (ceR_X12 (by rfl)) rfl inX12 6 rfl wk_6_140 rfl rfl ?_
    refine V_iconst 9 C dX12_richest_9 ic0 ?_
    refine V_ialdJ 10 C dX12_richest_10 (akI_26 (by rfl)) (al_26 (by rfl)) (by decide) (j := 0) (by decide) ?_
    refine V_icmp_ge 11 57 C dX12_richest_11 (by decide) (fun c2 => ?_) (fun c2 => ?_)
    · replace h := ite_t c2 h
      refine V_sub [2] rfl ?_
      exact hk _ _ h
    · replace h := ite_f c2 h
      refine V_aload_n 14 C 0 dX12_richest_14 rfl ?_
      refine V_iload_n 15 C 1 dX12_richest_15 rfl ?_
      refine V_iload_n 16 C 3 dX12_richest_16 rfl ?_
      obtain ⟨r5, M3, k4, h⟩ := bindM_some h
      refine V_callI 17 (runVO (k := 119) (rest := []) 17 C (kX12_isLinked  k4) cf_X12_isLinked wk_7_18 (ltl (by rfl) rfl) (ceR_X12 (by rfl)) rfl rfl rfl rfl dX12_richest_17 rfl rfl (Nat.zero_le _) (Nat.zero_le _)) ?_
      refine V_ifeq_b 20 51 C dX12_richest_20 (by decide) (fun c6 => ?_) (fun c6 => ?_)
      · replace h := ite_f c6 h
        obtain ⟨x7, e8, h⟩ := letM_some h
        refine V_iinc 51 C [(3, .int x7), (0, .ref (gad G 119)), (1, .int q1), (2, .int v2)] 3 x7 dX12_richest_51 rfl (by rw [e8]; rfl) rfl rfl ?_
        refine V_goto 54 4 C dX12_richest_54 (by decide) ?_
        refine V_sub [1, 2, 3, 0] rfl ?_
        exact ih _ _ _ h
      · replace h := ite_t c6 h
        refine V_iload_n 23 C 2 dX12_richest_23 rfl ?_
        refine V_iload_n 24 C 1 dX12_richest_24 rfl ?_
        refine V_icmp_eq 25 49 C dX12_richest_25 (by decide) (fun c9 => ?_) (fun c9 => ?_)
        · replace h := ite_t c9 h
          refine V_iload_n 49 C 3 dX12_richest_49 rfl ?_
          refine V_istore_n 50 C [(2, .int v3), (0, .ref (gad G 119)), (1, .int q1), (3, .int v3)] dX12_richest_50 rfl rfl rfl ?_
          obtain ⟨x10, e11, h⟩ := letM_some h
          refine V_iinc 51 C [(3, .int x10), (2, .int v3), (0, .ref (gad G 119)), (1, .int q1)] 3 x10 dX12_richest_51 rfl (by rw [e11]; rfl) rfl rfl ?_
          refine V_goto 54 4 C dX12_richest_54 (by decide) ?_
          refine V_sub [2, 3, 1, 0] rfl ?_
          exact ih _ _ _ h
        · replace h := ite_f c9 h
          refine V_aload_n 28 C 0 dX12_richest_28 rfl ?_
          refine V_get (v := .ref (gad G 120)) 29 C dX12_richest_29 (ltl (by rfl) rfl) (ceR_X12 (by rfl)) rfl inX12 6 rfl wk_6_140 rfl rfl ?_
          refine V_bipush 32 C dX12_richest_32 bp14 ?_
          refine V_iload_n 34 C 3 dX12_richest_34 rfl ?_
          refine V_iadd 35 C dX12_richest_35 ?_
          obtain ⟨c12, h⟩ := chk_some h
          refine V_iald 36 C dX12_richest_36 (akI_26 (by rfl)) (al_26 (by rfl)) c12 ?_
          refine V_aload_n 37 C 0 dX12_richest_37 rfl ?_
          refine V_get (v := .ref (gad G 120)) 38 C dX12_richest_38 (ltl (by rfl) rfl) (ceR_X12 (by rfl)) rfl inX12 6 rfl wk_6_140 rfl rfl ?_
          refine V_bipush 41 C dX12_richest_41 bp14 ?_
          refine V_iload_n 43 C 2 dX12_richest_43 rfl ?_
          refine V_iadd 44 C dX12_richest_44 ?_
          obtain ⟨c13, h⟩ := chk_some h
          refine V_iald 45 C dX12_richest_45 (akI_26 (by rfl)) (al_26 (by rfl)) c13 ?_
          refine V_icmp_le 46 51 C dX12_richest_46 (by decide) (fun c14 => ?_) (fun c14 => ?_)
          · replace h := ite_t c14 h
            obtain ⟨x15, e16, h⟩ := letM_some h
            refine V_iinc 51 C [(3, .int x15), (0, .ref (gad G 119)), (1, .int q1), (2, .int v2)] 3 x15 dX12_richest_51 rfl (by rw [e16]; rfl) rfl rfl ?_
            refine V_goto 54 4 C dX12_richest_54 (by decide) ?_
            refine V_sub [1, 2, 3, 0] rfl ?_
            exact ih _ _ _ h
          · replace h := ite_f c14 h
            refine V_iload_n 49 C 3 dX12_richest_49 rfl ?_
            refine V_istore_n 50 C [(2, .int v3), (0, .ref (gad G 119)), (1, .int q1), (3, .int v3)] dX12_richest_50 rfl rfl rfl ?_
            obtain ⟨x17, e18, h⟩ := letM_some h
            refine V_iinc 51 C [(3, .int x17), (2, .int v3), (0, .ref (gad G 119)), (1, .int q1)] 3 x17 dX12_richest_51 rfl (by rw [e18]; rfl) rfl rfl ?_
            refine V_goto 54 4 C dX12_richest_54 (by decide) ?_
            refine V_sub [2, 3, 1, 0] rfl ?_
            exact ih _ _ _ h
set_option maxHeartbeats 4000000 in
theorem kX12_richest {G : GG} {l : Launch} {F : Nat}  {p0 : Int32} {M M' : Mem} {r : Int32} (h : fX12_richest F p0 M = some (r, M')) : Con G l yX12_richest cX12_richest 4 (some .int) rmX12_richest [.ref (gad G 119), .int p0] M (QI G r M') := by
  refine con_of pnX12 (Nat.le_of_ble_eq_true rfl) (fun κ C hQ => ?_)
  unfold fX12_richest at h
  refine V_L (L1 := [(0, .ref (gad G 119)), (1, .int p0)]) rfl ?_
  refine V_iload_n 0 C 1 dX12_richest_0 rfl ?_
  refine V_istore_n 1 C [(2, .int p0), (0, .ref (gad G 119)), (1, .int p0)] dX12_richest_1 rfl rfl rfl ?_
  refine V_iconst 2 C dX12_richest_2 ic0 ?_
  refine V_istore_n 3 C [(3, .int 0), (2, .int p0), (0, .ref (gad G 119)), (1, .int p0)] dX12_richest_3 rfl rfl rfl ?_
  refine V_sub [2, 3, 1, 0] rfl ?_
  refine vX12_richest_4  C hQ ?_ _ _ _ _ h
  intro w20 M19 h
  refine V_iload_n 57 C 0 dX12_richest_57 rfl ?_
  exact V_ireth 58 C hQ h dX12_richest_58
set_option maxHeartbeats 4000000 in
theorem kX12_stays {G : GG} {l : Launch} {F : Nat}  {p0 : Int32} {M M' : Mem} {r : Bool} (h : fX12_stays F p0 M = some (r, M')) : Con G l yX12_stays cX12_stays 3 (some .boolean) rmX12_stays [.ref (gad G 119), .int p0] M (QI G (b2i r) M') := by
  refine con_of pnX12 (Nat.le_of_ble_eq_true rfl) (fun κ C hQ => ?_)
  unfold fX12_stays at h
  refine V_L (L1 := [(0, .ref (gad G 119)), (1, .int p0)]) rfl ?_
  refine V_sipush 0 C dX12_stays_0 sp192 ?_
  refine V_iconst 3 C dX12_stays_3 ic3 ?_
  refine V_iload_n 4 C 1 dX12_stays_4 rfl ?_
  refine V_imul 5 C dX12_stays_5 ?_
  refine V_iadd 6 C dX12_stays_6 ?_
  obtain ⟨x1, e2, h⟩ := letM_some h
  refine V_top e2 ?_
  refine V_istore_n 7 C [(2, .int x1), (0, .ref (gad G 119)), (1, .int p0)] dX12_stays_7 rfl rfl rfl ?_
  refine V_aload_n 8 C 1 dX12_stays_8 rfl ?_
  refine V_get (v := .ref (gad G 120)) 9 C dX12_stays_9 (ltl (by rfl) rfl) (ceR_X12 (by rfl)) rfl inX12 6 rfl wk_6_140 rfl rfl ?_
  refine V_bipush 12 C dX12_stays_12 bp14 ?_
  refine V_aload_n 14 C 1 dX12_stays_14 rfl ?_
  refine V_get (v := .ref (gad G 120)) 15 C dX12_stays_15 (ltl (by rfl) rfl) (ceR_X12 (by rfl)) rfl inX12 6 rfl wk_6_140 rfl rfl ?_
  refine V_iload_n 18 C 0 dX12_stays_18 rfl ?_
  obtain ⟨c3, h⟩ := chk_some h
  refine V_iald 19 C dX12_stays_19 (akI_26 (by rfl)) (al_26 (by rfl)) c3 ?_
  refine V_iadd 20 C dX12_stays_20 ?_
  obtain ⟨c4, h⟩ := chk_some h
  refine V_iald 21 C dX12_stays_21 (akI_26 (by rfl)) (al_26 (by rfl)) c4 ?_
  refine V_if_le 22 77 C dX12_stays_22 (by decide) (fun c5 => ?_) (fun c5 => ?_)
  · replace h := ite_t c5 h
    refine V_aload_n 77 C 1 dX12_stays_77 rfl ?_
    refine V_get (v := .ref (gad G 120)) 78 C dX12_stays_78 (ltl (by rfl) rfl) (ceR_X12 (by rfl)) rfl inX12 6 rfl wk_6_140 rfl rfl ?_
    refine V_iload_n 81 C 0 dX12_stays_81 rfl ?_
    refine V_iconst 82 C dX12_stays_82 ic2 ?_
    refine V_iadd 83 C dX12_stays_83 ?_
    refine V_dup2 84 C dX12_stays_84 rfl rfl ?_
    obtain ⟨c6, h⟩ := chk_some h
    refine V_iald 85 C dX12_stays_85 (akI_26 (by rfl)) (al_26 (by rfl)) c6 ?_
    refine V_iconst 86 C dX12_stays_86 ic1 ?_
    refine V_iadd 87 C dX12_stays_87 ?_
    obtain ⟨c7, h⟩ := chk_some h
    obtain ⟨M8, e9, h⟩ := letM_some h
    refine V_iast 88 C dX12_stays_88 (akI_26 (by rfl)) (al_26 (by rfl)) c7 ?_
    refine V_eqM e9 ?_
    refine V_aload_n 89 C 1 dX12_stays_89 rfl ?_
    refine V_get (v := .ref (gad G 120)) 90 C dX12_stays_90 (ltl (by rfl) rfl) (ceR_X12 (by rfl)) rfl inX12 6 rfl wk_6_140 rfl rfl ?_
    refine V_iload_n 93 C 0 dX12_stays_93 rfl ?_
    refine V_iconst 94 C dX12_stays_94 ic2 ?_
    refine V_iadd 95 C dX12_stays_95 ?_
    obtain ⟨c10, h⟩ := chk_some h
    refine V_iald 96 C dX12_stays_96 (akI_26 (by rfl)) (al_26 (by rfl)) c10 ?_
    refine V_iconst 97 C dX12_stays_97 ic3 ?_
    refine V_icmp_ne 98 119 C dX12_stays_98 (by decide) (fun c11 => ?_) (fun c11 => ?_)
    · replace h := ite_f c11 h
      refine V_aload_n 119 C 1 dX12_stays_119 rfl ?_
      refine V_get (v := .ref (gad G 120)) 120 C dX12_stays_120 (ltl (by rfl) rfl) (ceR_X12 (by rfl)) rfl inX12 6 rfl wk_6_140 rfl rfl ?_
      refine V_iload_n 123 C 0 dX12_stays_123 rfl ?_
      refine V_aload_n 124 C 1 dX12_stays_124 rfl ?_
      refine V_aload_n 125 C 1 dX12_stays_125 rfl ?_
      refine V_get (v := .ref (gad G 120)) 126 C dX12_stays_126 (ltl (by rfl) rfl) (ceR_X12 (by rfl)) rfl inX12 6 rfl wk_6_140 rfl rfl ?_
      refine V_iload_n 129 C 0 dX12_stays_129 rfl ?_
      obtain ⟨c12, h⟩ := chk_some h
      refine V_iald 130 C dX12_stays_130 (akI_26 (by rfl)) (al_26 (by rfl)) c12 ?_
      obtain ⟨r15, M13, k14, h⟩ := bindM_some h
      refine V_callI 131 (runVO (k := 119) (rest := [.int x1, .ref (gad G 120)]) 131 C (kX12_richest  k14) cf_X12_richest wk_7_133 (ltl (by rfl) rfl) (ceR_X12 (by rfl)) rfl rfl rfl rfl dX12_stays_131 rfl rfl (Nat.zero_le _) (Nat.zero_le _)) ?_
      obtain ⟨c16, h⟩ := chk_some h
      obtain ⟨M17, e18, h⟩ := letM_some h
      refine V_iast 134 C dX12_stays_134 (akI_26 (by rfl)) (al_26 (by rfl)) c16 ?_
      refine V_eqM e18 ?_
      refine V_iconst 135 C dX12_stays_135 ic1 ?_
      exact V_zreth 136 C hQ h dX12_stays_136
    · replace h := ite_t c11 h
      refine V_aload_n 101 C 1 dX12_stays_101 rfl ?_
      refine V_iload_n 102 C 2 dX12_stays_102 rfl ?_
      obtain ⟨M19, k20, h⟩ := bindV_some h
      refine V_callV 103 (runVO (k := 119) (rest := []) 103 C (kX12_removesMouse  k20) cf_X12_removesMouse wk_7_125 (ltl (by rfl) rfl) (ceR_X12 (by rfl)) rfl rfl rfl rfl dX12_stays_103 rfl rfl (Nat.zero_le _) (Nat.zero_le _)) ?_
      refine V_aload_n 106 C 1 dX12_stays_106 rfl ?_
      refine V_get (v := .ref (gad G 120)) 107 C dX12_stays_107 (ltl (by rfl) rfl) (ceR_X12 (by rfl)) rfl inX12 6 rfl wk_6_140 rfl rfl ?_
      refine V_bipush 110 C dX12_stays_110 bp10 ?_
      refine V_dup2 112 C dX12_stays_112 rfl rfl ?_
      refine V_ialdJ 113 C dX12_stays_113 (akI_26 (by rfl)) (al_26 (by rfl)) (by decide) (j := 10) (by decide) ?_
      refine V_iconst 114 C dX12_stays_114 ic1 ?_
      refine V_iadd 115 C dX12_stays_115 ?_
      obtain ⟨M23, e24, h⟩ := letM_some h
      refine V_iastJ 116 C dX12_stays_116 (akI_26 (by rfl)) (al_26 (by rfl)) (by decide) (j := 10) (by decide) ?_
      refine V_eqM e24 ?_
      refine V_iconst 117 C dX12_stays_117 ic0 ?_
      exact V_zreth 118 C hQ h dX12_stays_118
  · replace h := ite_f c5 h
    refine V_aload_n 25 C 1 dX12_stays_25 rfl ?_
    refine V_get (v := .ref (gad G 120)) 26 C dX12_stays_26 (ltl (by rfl) rfl) (ceR_X12 (by rfl)) rfl inX12 6 rfl wk_6_140 rfl rfl ?_
    refine V_bipush 29 C dX12_stays_29 bp14 ?_
    refine V_aload_n 31 C 1 dX12_stays_31 rfl ?_
    refine V_get (v := .ref (gad G 120)) 32 C dX12_stays_32 (ltl (by rfl) rfl) (ceR_X12 (by rfl)) rfl inX12 6 rfl wk_6_140 rfl rfl ?_
    refine V_iload_n 35 C 0 dX12_stays_35 rfl ?_
    obtain ⟨c25, h⟩ := chk_some h
    refine V_iald 36 C dX12_stays_36 (akI_26 (by rfl)) (al_26 (by rfl)) c25 ?_
    refine V_iadd 37 C dX12_stays_37 ?_
    refine V_dup2 38 C dX12_stays_38 rfl rfl ?_
    obtain ⟨c26, h⟩ := chk_some h
    refine V_iald 39 C dX12_stays_39 (akI_26 (by rfl)) (al_26 (by rfl)) c26 ?_
    refine V_iconst 40 C dX12_stays_40 ic1 ?_
    refine V_isub 41 C dX12_stays_41 ?_
    obtain ⟨c27, h⟩ := chk_some h
    obtain ⟨M28, e29, h⟩ := letM_some h
    refine V_iast 42 C dX12_stays_42 (akI_26 (by rfl)) (al_26 (by rfl)) c27 ?_
    refine V_eqM e29 ?_
    refine V_aload_n 43 C 1 dX12_stays_43 rfl ?_
    refine V_get (v := .ref (gad G 120)) 44 C dX12_stays_44 (ltl (by rfl) rfl) (ceR_X12 (by rfl)) rfl inX12 6 rfl wk_6_140 rfl rfl ?_
    refine V_iload_n 47 C 0 dX12_stays_47 rfl ?_
    refine V_iconst 48 C dX12_stays_48 ic1 ?_
    refine V_iadd 49 C dX12_stays_49 ?_
    refine V_dup2 50 C dX12_stays_50 rfl rfl ?_
    obtain ⟨c30, h⟩ := chk_some h
    refine V_iald 51 C dX12_stays_51 (akI_26 (by rfl)) (al_26 (by rfl)) c30 ?_
    refine V_iconst 52 C dX12_stays_52 ic1 ?_
    refine V_iadd 53 C dX12_stays_53 ?_
    obtain ⟨c31, h⟩ := chk_some h
    obtain ⟨M32, e33, h⟩ := letM_some h
    refine V_iast 54 C dX12_stays_54 (akI_26 (by rfl)) (al_26 (by rfl)) c31 ?_
    refine V_eqM e33 ?_
    refine V_aload_n 55 C 1 dX12_stays_55 rfl ?_
    refine V_get (v := .ref (gad G 120)) 56 C dX12_stays_56 (ltl (by rfl) rfl) (ceR_X12 (by rfl)) rfl inX12 6 rfl wk_6_140 rfl rfl ?_
    refine V_bipush 59 C dX12_stays_59 bp12 ?_
    refine V_dup2 61 C dX12_stays_61 rfl rfl ?_
    refine V_ialdJ 62 C dX12_stays_62 (akI_26 (by rfl)) (al_26 (by rfl)) (by decide) (j := 12) (by decide) ?_
    refine V_iconst 63 C dX12_stays_63 ic1 ?_
    refine V_iadd 64 C dX12_stays_64 ?_
    obtain ⟨M36, e37, h⟩ := letM_some h
    refine V_iastJ 65 C dX12_stays_65 (akI_26 (by rfl)) (al_26 (by rfl)) (by decide) (j := 12) (by decide) ?_
    refine V_eqM e37 ?_
    refine V_aload_n 66 C 1 dX12_stays_66 rfl ?_
    refine V_get (v := .ref (gad G 120)) 67 C dX12_stays_67 (ltl (by rfl) rfl) (ceR_X12 (by rfl)) rfl inX12 6 rfl wk_6_140 rfl rfl ?_
    refine V_iload_n 70 C 0 dX12_stays_70 rfl ?_
    refine V_iconst 71 C dX12_stays_71 ic2 ?_
    refine V_iadd 72 C dX12_stays_72 ?_
    refine V_iconst 73 C dX12_stays_73 ic0 ?_
    obtain ⟨c38, h⟩ := chk_some h
    obtain ⟨M39, e40, h⟩ := letM_some h
    refine V_iast 74 C dX12_stays_74 (akI_26 (by rfl)) (al_26 (by rfl)) c38 ?_
    refine V_eqM e40 ?_
    refine V_iconst 75 C dX12_stays_75 ic1 ?_
    exact V_zreth 76 C hQ h dX12_stays_76
set_option maxHeartbeats 4000000 in
theorem kX12_appears {G : GG} {l : Launch} {F : Nat}   {M M' : Mem}  (h : fX12_appears F  M = some M') : Con G l yX12_appears cX12_appears 2 none rmX12_appears [.ref (gad G 119)] M (QV G M') := by
  refine con_of pnX12 (Nat.le_of_ble_eq_true rfl) (fun κ C hQ => ?_)
  unfold fX12_appears at h
  refine V_L (L1 := [(0, .ref (gad G 119))]) rfl ?_
  refine V_aload_n 0 C 0 dX12_appears_0 rfl ?_
  refine V_get (v := .ref (gad G 120)) 1 C dX12_appears_1 (ltl (by rfl) rfl) (ceR_X12 (by rfl)) rfl inX12 6 rfl wk_6_140 rfl rfl ?_
  refine V_bipush 4 C dX12_appears_4 bp6 ?_
  refine V_aload_n 6 C 0 dX12_appears_6 rfl ?_
  refine V_get (v := .ref (gad G 120)) 7 C dX12_appears_7 (ltl (by rfl) rfl) (ceR_X12 (by rfl)) rfl inX12 6 rfl wk_6_140 rfl rfl ?_
  refine V_bipush 10 C dX12_appears_10 bp6 ?_
  refine V_ialdJ 12 C dX12_appears_12 (akI_26 (by rfl)) (al_26 (by rfl)) (by decide) (j := 6) (by decide) ?_
  refine V_bipush 13 C dX12_appears_13 bp109 ?_
  refine V_imul 15 C dX12_appears_15 ?_
  refine V_bipush 16 C dX12_appears_16 bp89 ?_
  refine V_iadd 18 C dX12_appears_18 ?_
  refine V_sipush 19 C dX12_appears_19 sp1024 ?_
  refine V_irem 22 C dX12_appears_22 (by decide) ?_
  obtain ⟨M3, e4, h⟩ := letM_some h
  refine V_iastJ 23 C dX12_appears_23 (akI_26 (by rfl)) (al_26 (by rfl)) (by decide) (j := 6) (by decide) ?_
  refine V_eqM e4 ?_
  refine V_aload_n 24 C 0 dX12_appears_24 rfl ?_
  refine V_get (v := .ref (gad G 120)) 25 C dX12_appears_25 (ltl (by rfl) rfl) (ceR_X12 (by rfl)) rfl inX12 6 rfl wk_6_140 rfl rfl ?_
  refine V_bipush 28 C dX12_appears_28 bp6 ?_
  refine V_ialdJ 30 C dX12_appears_30 (akI_26 (by rfl)) (al_26 (by rfl)) (by decide) (j := 6) (by decide) ?_
  refine V_bipush 31 C dX12_appears_31 bp16 ?_
  refine V_irem 33 C dX12_appears_33 (by decide) ?_
  refine V_aload_n 34 C 0 dX12_appears_34 rfl ?_
  refine V_get (v := .ref (gad G 120)) 35 C dX12_appears_35 (ltl (by rfl) rfl) (ceR_X12 (by rfl)) rfl inX12 6 rfl wk_6_140 rfl rfl ?_
  refine V_iconst 38 C dX12_appears_38 ic5 ?_
  refine V_ialdJ 39 C dX12_appears_39 (akI_26 (by rfl)) (al_26 (by rfl)) (by decide) (j := 5) (by decide) ?_
  refine V_icmp_ge 40 64 C dX12_appears_40 (by decide) (fun c7 => ?_) (fun c7 => ?_)
  · replace h := ite_t c7 h
    exact V_vreth 64 C hQ h dX12_appears_64
  · replace h := ite_f c7 h
    refine V_aload_n 43 C 0 dX12_appears_43 rfl ?_
    refine V_get (v := .ref (gad G 120)) 44 C dX12_appears_44 (ltl (by rfl) rfl) (ceR_X12 (by rfl)) rfl inX12 6 rfl wk_6_140 rfl rfl ?_
    refine V_iconst 47 C dX12_appears_47 ic0 ?_
    refine V_ialdJ 48 C dX12_appears_48 (akI_26 (by rfl)) (al_26 (by rfl)) (by decide) (j := 0) (by decide) ?_
    refine V_if_eq 49 64 C dX12_appears_49 (by decide) (fun c9 => ?_) (fun c9 => ?_)
    · replace h := ite_t c9 h
      exact V_vreth 64 C hQ h dX12_appears_64
    · replace h := ite_f c9 h
      refine V_aload_n 52 C 0 dX12_appears_52 rfl ?_
      refine V_get (v := .ref (gad G 120)) 53 C dX12_appears_53 (ltl (by rfl) rfl) (ceR_X12 (by rfl)) rfl inX12 6 rfl wk_6_140 rfl rfl ?_
      refine V_bipush 56 C dX12_appears_56 bp8 ?_
      refine V_ialdJ 58 C dX12_appears_58 (akI_26 (by rfl)) (al_26 (by rfl)) (by decide) (j := 8) (by decide) ?_
      refine V_bipush 59 C dX12_appears_59 bp8 ?_
      refine V_icmp_ne 61 65 C dX12_appears_61 (by decide) (fun c11 => ?_) (fun c11 => ?_)
      · replace h := ite_f c11 h
        refine V_sipush 65 C dX12_appears_65 sp192 ?_
        refine V_iconst 68 C dX12_appears_68 ic3 ?_
        refine V_aload_n 69 C 0 dX12_appears_69 rfl ?_
        refine V_get (v := .ref (gad G 120)) 70 C dX12_appears_70 (ltl (by rfl) rfl) (ceR_X12 (by rfl)) rfl inX12 6 rfl wk_6_140 rfl rfl ?_
        refine V_bipush 73 C dX12_appears_73 bp8 ?_
        refine V_ialdJ 75 C dX12_appears_75 (akI_26 (by rfl)) (al_26 (by rfl)) (by decide) (j := 8) (by decide) ?_
        refine V_imul 76 C dX12_appears_76 ?_
        refine V_iadd 77 C dX12_appears_77 ?_
        obtain ⟨x13, e14, h⟩ := letM_some h
        refine V_top e14 ?_
        refine V_istore_n 78 C [(1, .int x13), (0, .ref (gad G 119))] dX12_appears_78 rfl rfl rfl ?_
        refine V_aload_n 79 C 1 dX12_appears_79 rfl ?_
        refine V_get (v := .ref (gad G 120)) 80 C dX12_appears_80 (ltl (by rfl) rfl) (ceR_X12 (by rfl)) rfl inX12 6 rfl wk_6_140 rfl rfl ?_
        refine V_iload_n 83 C 0 dX12_appears_83 rfl ?_
        refine V_aload_n 84 C 1 dX12_appears_84 rfl ?_
        refine V_get (v := .ref (gad G 120)) 85 C dX12_appears_85 (ltl (by rfl) rfl) (ceR_X12 (by rfl)) rfl inX12 6 rfl wk_6_140 rfl rfl ?_
        refine V_bipush 88 C dX12_appears_88 bp6 ?_
        refine V_ialdJ 90 C dX12_appears_90 (akI_26 (by rfl)) (al_26 (by rfl)) (by decide) (j := 6) (by decide) ?_
        refine V_bipush 91 C dX12_appears_91 bp16 ?_
        refine V_idiv 93 C dX12_appears_93 (by decide) ?_
        refine V_aload_n 94 C 1 dX12_appears_94 rfl ?_
        refine V_get (v := .ref (gad G 120)) 95 C dX12_appears_95 (ltl (by rfl) rfl) (ceR_X12 (by rfl)) rfl inX12 6 rfl wk_6_140 rfl rfl ?_
        refine V_iconst 98 C dX12_appears_98 ic0 ?_
        refine V_ialdJ 99 C dX12_appears_99 (akI_26 (by rfl)) (al_26 (by rfl)) (by decide) (j := 0) (by decide) ?_
        obtain ⟨c17, h⟩ := chk_some h
        refine V_irem 100 C dX12_appears_100 (of_decide_eq_true c17) ?_
        obtain ⟨c18, h⟩ := chk_some h
        obtain ⟨M19, e20, h⟩ := letM_some h
        refine V_iast 101 C dX12_appears_101 (akI_26 (by rfl)) (al_26 (by rfl)) c18 ?_
        refine V_eqM e20 ?_
        refine V_aload_n 102 C 1 dX12_appears_102 rfl ?_
        refine V_get (v := .ref (gad G 120)) 103 C dX12_appears_103 (ltl (by rfl) rfl) (ceR_X12 (by rfl)) rfl inX12 6 rfl wk_6_140 rfl rfl ?_
        refine V_iload_n 106 C 0 dX12_appears_106 rfl ?_
        refine V_iconst 107 C dX12_appears_107 ic1 ?_
        refine V_iadd 108 C dX12_appears_108 ?_
        refine V_iconst 109 C dX12_appears_109 ic0 ?_
        obtain ⟨c21, h⟩ := chk_some h
        obtain ⟨M22, e23, h⟩ := letM_some h
        refine V_iast 110 C dX12_appears_110 (akI_26 (by rfl)) (al_26 (by rfl)) c21 ?_
        refine V_eqM e23 ?_
        refine V_aload_n 111 C 1 dX12_appears_111 rfl ?_
        refine V_get (v := .ref (gad G 120)) 112 C dX12_appears_112 (ltl (by rfl) rfl) (ceR_X12 (by rfl)) rfl inX12 6 rfl wk_6_140 rfl rfl ?_
        refine V_iload_n 115 C 0 dX12_appears_115 rfl ?_
        refine V_iconst 116 C dX12_appears_116 ic2 ?_
        refine V_iadd 117 C dX12_appears_117 ?_
        refine V_iconst 118 C dX12_appears_118 ic0 ?_
        obtain ⟨c24, h⟩ := chk_some h
        obtain ⟨M25, e26, h⟩ := letM_some h
        refine V_iast 119 C dX12_appears_119 (akI_26 (by rfl)) (al_26 (by rfl)) c24 ?_
        refine V_eqM e26 ?_
        refine V_aload_n 120 C 1 dX12_appears_120 rfl ?_
        refine V_get (v := .ref (gad G 120)) 121 C dX12_appears_121 (ltl (by rfl) rfl) (ceR_X12 (by rfl)) rfl inX12 6 rfl wk_6_140 rfl rfl ?_
        refine V_bipush 124 C dX12_appears_124 bp8 ?_
        refine V_dup2 126 C dX12_appears_126 rfl rfl ?_
        refine V_ialdJ 127 C dX12_appears_127 (akI_26 (by rfl)) (al_26 (by rfl)) (by decide) (j := 8) (by decide) ?_
        refine V_iconst 128 C dX12_appears_128 ic1 ?_
        refine V_iadd 129 C dX12_appears_129 ?_
        obtain ⟨M29, e30, h⟩ := letM_some h
        refine V_iastJ 130 C dX12_appears_130 (akI_26 (by rfl)) (al_26 (by rfl)) (by decide) (j := 8) (by decide) ?_
        refine V_eqM e30 ?_
        exact V_vreth 131 C hQ h dX12_appears_131
      · replace h := ite_t c11 h
        exact V_vreth 64 C hQ h dX12_appears_64
set_option maxHeartbeats 4000000 in
theorem vX12_passesOne_22 {G : GG} {κ : KK} {F : Nat}  (C : Cx G κ cX12_passesOne RX12 (some .int) 3 rmX12_passesOne) {M' : Mem} {r : Int32} (hQ : HQ G κ (QI G r M') 0 0) {q1 : Int32} {kx : Mem → Option (Int32 × Mem)} (hk : ∀  (M : Mem), kx  M = some (r, M') → V G κ 3 0 0 M 52 [(0, .ref (gad G 119)), (1, .int q1)] []) : ∀ (n : Nat) (v2 : Int32) (M : Mem), fX12_passesOne_22 F q1 kx n v2 M = some (r, M') → V G κ 3 0 0 M 22 [(0, .ref (gad G 119)), (1, .int q1), (2, .int v2)] [] := by
  intro n
  induction n with
  | zero => intro v2 M h; rw [fX12_passesOne_22] at h; cases h
  | succ n ih =>
    intro v2 M h
    rw [fX12_passesOne_22] at h
    refine V_iload_n 22 C 2 dX12_passesOne_22 rfl ?_
    refine V_aload_n 23 C 0 dX12_passesOne_23 rfl ?_
    refine V_get (v := .ref (gad G 120)) 24 C dX12_passesOne_24 (ltl (by rfl) rfl) (ceR_X12 (by rfl)) rfl inX12 6 rfl wk_6_140 rfl rfl ?_
    refine V_bipush 27 C dX12_passesOne_27 bp8 ?_
    refine V_ialdJ 29 C dX12_passesOne_29 (akI_26 (by rfl)) (al_26 (by rfl)) (by decide) (j := 8) (by decide) ?_
    refine V_icmp_ge 30 52 C dX12_passesOne_30 (by decide) (fun c11 => ?_) (fun c11 => ?_)
    · replace h := ite_t c11 h
      refine V_sub [0, 1] rfl ?_
      exact hk  _ h
    · replace h := ite_f c11 h
      refine V_iload_n 33 C 2 dX12_passesOne_33 rfl ?_
      refine V_aload_n 34 C 0 dX12_passesOne_34 rfl ?_
      refine V_iload_n 35 C 2 dX12_passesOne_35 rfl ?_
      obtain ⟨r14, M12, k13, h⟩ := bindM_some h
      refine V_callI 36 (runVO (k := 119) (rest := [.int v2]) 36 C (kX12_stays  k13) cf_X12_stays wk_7_129 (ltl (by rfl) rfl) (ceR_X12 (by rfl)) rfl rfl rfl rfl dX12_passesOne_36 rfl rfl (Nat.zero_le _) (Nat.zero_le _)) ?_
      refine V_ifeq_b 39 46 C dX12_passesOne_39 (by decide) (fun c15 => ?_) (fun c15 => ?_)
      · replace h := ite_f c15 h
        refine V_iconst 46 C dX12_passesOne_46 ic0 ?_
        refine V_iadd 47 C dX12_passesOne_47 ?_
        obtain ⟨x16, e17, h⟩ := letM_some h
        refine V_top e17 ?_
        refine V_istore_n 48 C [(2, .int x16), (0, .ref (gad G 119)), (1, .int q1)] dX12_passesOne_48 rfl rfl rfl ?_
        refine V_goto 49 22 C dX12_passesOne_49 (by decide) ?_
        refine V_sub [1, 2, 0] rfl ?_
        exact ih _ _ h
      · replace h := ite_t c15 h
        refine V_iconst 42 C dX12_passesOne_42 ic1 ?_
        refine V_goto 43 47 C dX12_passesOne_43 (by decide) ?_
        refine V_iadd 47 C dX12_passesOne_47 ?_
        obtain ⟨x18, e19, h⟩ := letM_some h
        refine V_top e19 ?_
        refine V_istore_n 48 C [(2, .int x18), (0, .ref (gad G 119)), (1, .int q1)] dX12_passesOne_48 rfl rfl rfl ?_
        refine V_goto 49 22 C dX12_passesOne_49 (by decide) ?_
        refine V_sub [1, 2, 0] rfl ?_
        exact ih _ _ h
set_option maxHeartbeats 4000000 in
theorem kX12_passesOne {G : GG} {l : Launch} {F : Nat}   {M M' : Mem} {r : Int32} (h : fX12_passesOne F  M = some (r, M')) : Con G l yX12_passesOne cX12_passesOne 3 (some .int) rmX12_passesOne [.ref (gad G 119)] M (QI G r M') := by
  refine con_of pnX12 (Nat.le_of_ble_eq_true rfl) (fun κ C hQ => ?_)
  unfold fX12_passesOne at h
  refine V_L (L1 := [(0, .ref (gad G 119))]) rfl ?_
  refine V_aload_n 0 C 0 dX12_passesOne_0 rfl ?_
  refine V_get (v := .ref (gad G 120)) 1 C dX12_passesOne_1 (ltl (by rfl) rfl) (ceR_X12 (by rfl)) rfl inX12 6 rfl wk_6_140 rfl rfl ?_
  refine V_bipush 4 C dX12_passesOne_4 bp7 ?_
  refine V_dup2 6 C dX12_passesOne_6 rfl rfl ?_
  refine V_ialdJ 7 C dX12_passesOne_7 (akI_26 (by rfl)) (al_26 (by rfl)) (by decide) (j := 7) (by decide) ?_
  refine V_iconst 8 C dX12_passesOne_8 ic1 ?_
  refine V_iadd 9 C dX12_passesOne_9 ?_
  obtain ⟨M3, e4, h⟩ := letM_some h
  refine V_iastJ 10 C dX12_passesOne_10 (akI_26 (by rfl)) (al_26 (by rfl)) (by decide) (j := 7) (by decide) ?_
  refine V_eqM e4 ?_
  refine V_aload_n 11 C 0 dX12_passesOne_11 rfl ?_
  obtain ⟨M5, k6, h⟩ := bindV_some h
  refine V_callV 12 (runVO (k := 119) (rest := []) 12 C (kX12_walks  k6) cf_X12_walks wk_7_105 (ltl (by rfl) rfl) (ceR_X12 (by rfl)) rfl rfl rfl rfl dX12_passesOne_12 rfl rfl (Nat.zero_le _) (Nat.zero_le _)) ?_
  refine V_aload_n 15 C 0 dX12_passesOne_15 rfl ?_
  obtain ⟨r9, M7, k8, h⟩ := bindM_some h
  refine V_callI 16 (runVO (k := 119) (rest := []) 16 C (kX12_catches  k8) cf_X12_catches wk_7_117 (ltl (by rfl) rfl) (ceR_X12 (by rfl)) rfl rfl rfl rfl dX12_passesOne_16 rfl rfl (Nat.zero_le _) (Nat.zero_le _)) ?_
  refine V_istore_n 19 C [(1, .int r9), (0, .ref (gad G 119))] dX12_passesOne_19 rfl rfl rfl ?_
  refine V_iconst 20 C dX12_passesOne_20 ic0 ?_
  refine V_istore_n 21 C [(2, .int 0), (1, .int r9), (0, .ref (gad G 119))] dX12_passesOne_21 rfl rfl rfl ?_
  refine V_sub [2, 1, 0] rfl ?_
  refine vX12_passesOne_22  C hQ ?_ _ _ _ h
  intro M20 h
  refine V_aload_n 52 C 0 dX12_passesOne_52 rfl ?_
  obtain ⟨M21, k22, h⟩ := bindV_some h
  refine V_callV 53 (runVO (k := 119) (rest := []) 53 C (kX12_appears  k22) cf_X12_appears wk_7_137 (ltl (by rfl) rfl) (ceR_X12 (by rfl)) rfl rfl rfl rfl dX12_passesOne_53 rfl rfl (Nat.zero_le _) (Nat.zero_le _)) ?_
  refine V_iload_n 56 C 1 dX12_passesOne_56 rfl ?_
  exact V_ireth 57 C hQ h dX12_passesOne_57
set_option maxHeartbeats 4000000 in
theorem vX12_passes_4 {G : GG} {κ : KK} {F : Nat}  (C : Cx G κ cX12_passes RX12 (some .int) 4 rmX12_passes) {M' : Mem} {r : Int32} (hQ : HQ G κ (QI G r M') 0 0) {q1 : Int32} {kx : Int32 → Mem → Option (Int32 × Mem)} (hk : ∀ (v2 : Int32) (M : Mem), kx v2 M = some (r, M') → V G κ 4 0 0 M 22 [(2, .int v2)] []) : ∀ (n : Nat) (v2 : Int32) (v3 : Int32) (M : Mem), fX12_passes_4 F q1 kx n v2 v3 M = some (r, M') → V G κ 4 0 0 M 4 [(0, .ref (gad G 119)), (1, .int q1), (2, .int v2), (3, .int v3)] [] := by
  intro n
  induction n with
  | zero => intro v2 v3 M h; rw [fX12_passes_4] at h; cases h
  | succ n ih =>
    intro v2 v3 M h
    rw [fX12_passes_4] at h
    refine V_iload_n 4 C 3 dX12_passes_4 rfl ?_
    refine V_iload_n 5 C 1 dX12_passes_5 rfl ?_
    refine V_icmp_ge 6 22 C dX12_passes_6 (by decide) (fun c1 => ?_) (fun c1 => ?_)
    · replace h := ite_t c1 h
      refine V_sub [2] rfl ?_
      exact hk _ _ h
    · replace h := ite_f c1 h
      refine V_iload_n 9 C 2 dX12_passes_9 rfl ?_
      refine V_aload_n 10 C 0 dX12_passes_10 rfl ?_
      obtain ⟨r4, M2, k3, h⟩ := bindM_some h
      refine V_callI 11 (runVO (k := 119) (rest := [.int v2]) 11 C (kX12_passesOne  k3) cf_X12_passesOne wk_7_101 (ltl (by rfl) rfl) (ceR_X12 (by rfl)) rfl rfl rfl rfl dX12_passes_11 rfl rfl (Nat.zero_le _) (Nat.zero_le _)) ?_
      refine V_iadd 14 C dX12_passes_14 ?_
      obtain ⟨x5, e6, h⟩ := letM_some h
      refine V_top e6 ?_
      refine V_istore_n 15 C [(2, .int x5), (0, .ref (gad G 119)), (1, .int q1), (3, .int v3)] dX12_passes_15 rfl rfl rfl ?_
      obtain ⟨x7, e8, h⟩ := letM_some h
      refine V_iinc 16 C [(3, .int x7), (2, .int x5), (0, .ref (gad G 119)), (1, .int q1)] 3 x7 dX12_passes_16 rfl (by rw [e8]; rfl) rfl rfl ?_
      refine V_goto 19 4 C dX12_passes_19 (by decide) ?_
      refine V_sub [2, 3, 1, 0] rfl ?_
      exact ih _ _ _ h
set_option maxHeartbeats 4000000 in
theorem kX12_passes {G : GG} {l : Launch} {F : Nat}  {p0 : Int32} {M M' : Mem} {r : Int32} (h : fX12_passes F p0 M = some (r, M')) : Con G l yX12_passes cX12_passes 4 (some .int) rmX12_passes [.ref (gad G 119), .int p0] M (QI G r M') := by
  refine con_of pnX12 (Nat.le_of_ble_eq_true rfl) (fun κ C hQ => ?_)
  unfold fX12_passes at h
  refine V_L (L1 := [(0, .ref (gad G 119)), (1, .int p0)]) rfl ?_
  refine V_iconst 0 C dX12_passes_0 ic0 ?_
  refine V_istore_n 1 C [(2, .int 0), (0, .ref (gad G 119)), (1, .int p0)] dX12_passes_1 rfl rfl rfl ?_
  refine V_iconst 2 C dX12_passes_2 ic0 ?_
  refine V_istore_n 3 C [(3, .int 0), (2, .int 0), (0, .ref (gad G 119)), (1, .int p0)] dX12_passes_3 rfl rfl rfl ?_
  refine V_sub [2, 3, 1, 0] rfl ?_
  refine vX12_passes_4  C hQ ?_ _ _ _ _ h
  intro w10 M9 h
  refine V_iload_n 22 C 0 dX12_passes_22 rfl ?_
  exact V_ireth 23 C hQ h dX12_passes_23
set_option maxHeartbeats 4000000 in
theorem kX12_notPass {G : GG} {l : Launch} {F : Nat}  {p0 : Int32} {M M' : Mem} {r : Int32} (h : fX12_notPass F p0 M = some (r, M')) : Con G l yX12_notPass cX12_notPass 1 (some .int) rmX12_notPass [.int p0] M (QI G r M') := by
  refine con_of pnX12 (Nat.le_of_ble_eq_true rfl) (fun κ C hQ => ?_)
  unfold fX12_notPass at h
  refine V_L (L1 := [(0, .int p0)]) rfl ?_
  refine V_iload_n 0 C 0 dX12_notPass_0 rfl ?_
  refine V_iconst 1 C dX12_notPass_1 ic1 ?_
  refine V_bipush 2 C dX12_notPass_2 bp60 ?_
  obtain ⟨r3, M1, k2, h⟩ := bindM_some h
  refine V_callI 4 (runSO (rest := []) 4 C (kX12_isBetween  k2) cf_X12_isBetween wk_6_215 rfl rfl dX12_notPass_4 rfl rfl (Nat.zero_le _) (Nat.zero_le _)) ?_
  refine V_ifeq_b 7 14 C dX12_notPass_7 (by decide) (fun c4 => ?_) (fun c4 => ?_)
  · replace h := ite_f c4 h
    refine V_iconst 14 C dX12_notPass_14 ic1 ?_
    exact V_ireth 15 C hQ h dX12_notPass_15
  · replace h := ite_t c4 h
    refine V_iconst 10 C dX12_notPass_10 ic0 ?_
    refine V_goto 11 15 C dX12_notPass_11 (by decide) ?_
    exact V_ireth 15 C hQ h dX12_notPass_15
set_option maxHeartbeats 4000000 in
theorem kX12_pass {G : GG} {l : Launch} {F : Nat}  {p0 : Int32} {M M' : Mem} {r : Int32} (h : fX12_pass F p0 M = some (r, M')) : Con G l yX12_pass cX12_pass 2 (some .int) rmX12_pass [.ref (gad G 119), .int p0] M (QI G r M') := by
  refine con_of pnX12 (Nat.le_of_ble_eq_true rfl) (fun κ C hQ => ?_)
  unfold fX12_pass at h
  refine V_L (L1 := [(0, .ref (gad G 119)), (1, .int p0)]) rfl ?_
  refine V_iload_n 0 C 1 dX12_pass_0 rfl ?_
  obtain ⟨r3, M1, k2, h⟩ := bindM_some h
  refine V_callI 1 (runSO (rest := []) 1 C (kX12_notPass  k2) cf_X12_notPass wk_7_94 rfl rfl dX12_pass_1 rfl rfl (Nat.zero_le _) (Nat.zero_le _)) ?_
  refine V_if_eq 4 13 C dX12_pass_4 (by decide) (fun c4 => ?_) (fun c4 => ?_)
  · replace h := ite_t c4 h
    refine V_aload_n 13 C 0 dX12_pass_13 rfl ?_
    obtain ⟨M5, k6, h⟩ := bindV_some h
    refine V_callV 14 (runVO (k := 119) (rest := []) 14 C (kX12_remembers  k6) cf_X12_remembers wk_6_230 (ltl (by rfl) rfl) (ceR_X12 (by rfl)) rfl rfl rfl rfl dX12_pass_14 rfl rfl (Nat.zero_le _) (Nat.zero_le _)) ?_
    refine V_aload_n 17 C 0 dX12_pass_17 rfl ?_
    refine V_iload_n 18 C 1 dX12_pass_18 rfl ?_
    obtain ⟨r9, M7, k8, h⟩ := bindM_some h
    refine V_callI 19 (runVO (k := 119) (rest := []) 19 C (kX12_passes  k8) cf_X12_passes wk_7_97 (ltl (by rfl) rfl) (ceR_X12 (by rfl)) rfl rfl rfl rfl dX12_pass_19 rfl rfl (Nat.zero_le _) (Nat.zero_le _)) ?_
    exact V_ireth 22 C hQ h dX12_pass_22
  · replace h := ite_f c4 h
    refine V_aload_n 7 C 0 dX12_pass_7 rfl ?_
    refine V_iconst 8 C dX12_pass_8 ic1 ?_
    obtain ⟨r12, M10, k11, h⟩ := bindM_some h
    refine V_callI 9 (runVO (k := 119) (rest := []) 9 C (kX12_refuses  k11) cf_X12_refuses wk_6_222 (ltl (by rfl) rfl) (ceR_X12 (by rfl)) rfl rfl rfl rfl dX12_pass_9 rfl rfl (Nat.zero_le _) (Nat.zero_le _)) ?_
    exact V_ireth 12 C hQ h dX12_pass_12
set_option maxHeartbeats 4000000 in
theorem vX12_predictCaught_23 {G : GG} {κ : KK} {F : Nat}  (C : Cx G κ cX12_predictCaught RX12 (some .int) 4 rmX12_predictCaught) {M' : Mem} {r : Int32} (hQ : HQ G κ (QI G r M') 0 0) {q1 : Int32} {kx : Mem → Option (Int32 × Mem)} (hk : ∀  (M : Mem), kx  M = some (r, M') → V G κ 4 0 0 M 48 [(0, .ref (gad G 119)), (1, .int q1)] []) : ∀ (n : Nat) (v2 : Int32) (M : Mem), fX12_predictCaught_23 F q1 kx n v2 M = some (r, M') → V G κ 4 0 0 M 23 [(0, .ref (gad G 119)), (1, .int q1), (2, .int v2)] [] := by
  intro n
  induction n with
  | zero => intro v2 M h; rw [fX12_predictCaught_23] at h; cases h
  | succ n ih =>
    intro v2 M h
    rw [fX12_predictCaught_23] at h
    refine V_iload_n 23 C 2 dX12_predictCaught_23 rfl ?_
    refine V_sipush 24 C dX12_predictCaught_24 sp216 ?_
    refine V_icmp_ge 27 48 C dX12_predictCaught_27 (by decide) (fun c7 => ?_) (fun c7 => ?_)
    · replace h := ite_t c7 h
      refine V_sub [0, 1] rfl ?_
      exact hk  _ h
    · replace h := ite_f c7 h
      refine V_aload_n 30 C 0 dX12_predictCaught_30 rfl ?_
      refine V_get (v := .ref (gad G 124)) 31 C dX12_predictCaught_31 (ltl (by rfl) rfl) (ceR_X12 (by rfl)) rfl inX12 10 rfl wk_6_144 rfl rfl ?_
      refine V_iload_n 34 C 2 dX12_predictCaught_34 rfl ?_
      refine V_aload_n 35 C 0 dX12_predictCaught_35 rfl ?_
      refine V_get (v := .ref (gad G 120)) 36 C dX12_predictCaught_36 (ltl (by rfl) rfl) (ceR_X12 (by rfl)) rfl inX12 6 rfl wk_6_140 rfl rfl ?_
      refine V_iload_n 39 C 2 dX12_predictCaught_39 rfl ?_
      obtain ⟨c8, h⟩ := chk_some h
      refine V_iald 40 C dX12_predictCaught_40 (akI_26 (by rfl)) (al_26 (by rfl)) c8 ?_
      obtain ⟨c9, h⟩ := chk_some h
      obtain ⟨M10, e11, h⟩ := letM_some h
      refine V_iast 41 C dX12_predictCaught_41 (akI_26 (by rfl)) (al_26 (by rfl)) c9 ?_
      refine V_eqM e11 ?_
      obtain ⟨x12, e13, h⟩ := letM_some h
      refine V_iinc 42 C [(2, .int x12), (0, .ref (gad G 119)), (1, .int q1)] 2 x12 dX12_predictCaught_42 rfl (by rw [e13]; rfl) rfl rfl ?_
      refine V_goto 45 23 C dX12_predictCaught_45 (by decide) ?_
      refine V_sub [1, 2, 0] rfl ?_
      exact ih _ _ h
set_option maxHeartbeats 4000000 in
theorem vX12_predictCaught_56 {G : GG} {κ : KK} {F : Nat}  (C : Cx G κ cX12_predictCaught RX12 (some .int) 4 rmX12_predictCaught) {M' : Mem} {r : Int32} (hQ : HQ G κ (QI G r M') 0 0) {q2 : Int32} {kx : Mem → Option (Int32 × Mem)} (hk : ∀  (M : Mem), kx  M = some (r, M') → V G κ 4 0 0 M 81 [(2, .int q2)] []) : ∀ (n : Nat) (v3 : Int32) (M : Mem), fX12_predictCaught_56 F q2 kx n v3 M = some (r, M') → V G κ 4 0 0 M 56 [(0, .ref (gad G 119)), (2, .int q2), (3, .int v3)] [] := by
  intro n
  induction n with
  | zero => intro v3 M h; rw [fX12_predictCaught_56] at h; cases h
  | succ n ih =>
    intro v3 M h
    rw [fX12_predictCaught_56] at h
    refine V_iload_n 56 C 2 dX12_predictCaught_56 rfl ?_
    refine V_sipush 57 C dX12_predictCaught_57 sp216 ?_
    refine V_icmp_ge 60 81 C dX12_predictCaught_60 (by decide) (fun c18 => ?_) (fun c18 => ?_)
    · replace h := ite_t c18 h
      refine V_sub [1] rfl ?_
      exact hk  _ h
    · replace h := ite_f c18 h
      refine V_aload_n 63 C 0 dX12_predictCaught_63 rfl ?_
      refine V_get (v := .ref (gad G 120)) 64 C dX12_predictCaught_64 (ltl (by rfl) rfl) (ceR_X12 (by rfl)) rfl inX12 6 rfl wk_6_140 rfl rfl ?_
      refine V_iload_n 67 C 2 dX12_predictCaught_67 rfl ?_
      refine V_aload_n 68 C 0 dX12_predictCaught_68 rfl ?_
      refine V_get (v := .ref (gad G 124)) 69 C dX12_predictCaught_69 (ltl (by rfl) rfl) (ceR_X12 (by rfl)) rfl inX12 10 rfl wk_6_144 rfl rfl ?_
      refine V_iload_n 72 C 2 dX12_predictCaught_72 rfl ?_
      obtain ⟨c19, h⟩ := chk_some h
      refine V_iald 73 C dX12_predictCaught_73 (akI_26 (by rfl)) (al_26 (by rfl)) c19 ?_
      obtain ⟨c20, h⟩ := chk_some h
      obtain ⟨M21, e22, h⟩ := letM_some h
      refine V_iast 74 C dX12_predictCaught_74 (akI_26 (by rfl)) (al_26 (by rfl)) c20 ?_
      refine V_eqM e22 ?_
      obtain ⟨x23, e24, h⟩ := letM_some h
      refine V_iinc 75 C [(3, .int x23), (0, .ref (gad G 119)), (2, .int q2)] 2 x23 dX12_predictCaught_75 rfl (by rw [e24]; rfl) rfl rfl ?_
      refine V_goto 78 56 C dX12_predictCaught_78 (by decide) ?_
      refine V_sub [1, 2, 0] rfl ?_
      exact ih _ _ h
set_option maxHeartbeats 4000000 in
theorem kX12_predictCaught {G : GG} {l : Launch} {F : Nat}  {p0 : Int32} {M M' : Mem} {r : Int32} (h : fX12_predictCaught F p0 M = some (r, M')) : Con G l yX12_predictCaught cX12_predictCaught 4 (some .int) rmX12_predictCaught [.ref (gad G 119), .int p0] M (QI G r M') := by
  refine con_of pnX12 (Nat.le_of_ble_eq_true rfl) (fun κ C hQ => ?_)
  unfold fX12_predictCaught at h
  refine V_L (L1 := [(0, .ref (gad G 119)), (1, .int p0)]) rfl ?_
  refine V_aload_n 0 C 0 dX12_predictCaught_0 rfl ?_
  refine V_iconst 1 C dX12_predictCaught_1 ic0 ?_
  obtain ⟨M1, e2, h⟩ := letM_some h
  refine V_put (ty := .int) (F := F_X12 G 119) 2 C dX12_predictCaught_2 (ltl (by rfl) rfl) (fun _ => ceR_X12 (by rfl)) rfl inX12 tyX12 tyX12_ok nmX12 0 rfl wk_6_134 rfl rfl 0 rfl rfl rfl rfl rfl ?_
  refine V_eqM e2 ?_
  refine V_iload_n 5 C 1 dX12_predictCaught_5 rfl ?_
  refine V_iconst 6 C dX12_predictCaught_6 ic0 ?_
  refine V_bipush 7 C dX12_predictCaught_7 bp60 ?_
  obtain ⟨r5, M3, k4, h⟩ := bindM_some h
  refine V_callI 9 (runSO (rest := []) 9 C (kX12_isBetween  k4) cf_X12_isBetween wk_6_215 rfl rfl dX12_predictCaught_9 rfl rfl (Nat.zero_le _) (Nat.zero_le _)) ?_
  refine V_ifne_b 12 21 C dX12_predictCaught_12 (by decide) (fun c6 => ?_) (fun c6 => ?_)
  · replace h := ite_t c6 h
    refine V_iconst 21 C dX12_predictCaught_21 ic0 ?_
    refine V_istore_n 22 C [(2, .int 0), (0, .ref (gad G 119)), (1, .int p0)] dX12_predictCaught_22 rfl rfl rfl ?_
    refine V_sub [1, 2, 0] rfl ?_
    refine vX12_predictCaught_23  C hQ ?_ _ _ _ h
    intro M14 h
    refine V_aload_n 48 C 0 dX12_predictCaught_48 rfl ?_
    refine V_iload_n 49 C 1 dX12_predictCaught_49 rfl ?_
    obtain ⟨r17, M15, k16, h⟩ := bindM_some h
    refine V_callI 50 (runVO (k := 119) (rest := []) 50 C (kX12_passes  k16) cf_X12_passes wk_7_97 (ltl (by rfl) rfl) (ceR_X12 (by rfl)) rfl rfl rfl rfl dX12_predictCaught_50 rfl rfl (Nat.zero_le _) (Nat.zero_le _)) ?_
    refine V_istore_n 53 C [(2, .int r17), (0, .ref (gad G 119)), (1, .int p0)] dX12_predictCaught_53 rfl rfl rfl ?_
    refine V_iconst 54 C dX12_predictCaught_54 ic0 ?_
    refine V_istore_n 55 C [(3, .int 0), (2, .int r17), (0, .ref (gad G 119)), (1, .int p0)] dX12_predictCaught_55 rfl rfl rfl ?_
    refine V_sub [2, 1, 0] rfl ?_
    refine vX12_predictCaught_56  C hQ ?_ _ _ _ h
    intro M25 h
    refine V_iload_n 81 C 0 dX12_predictCaught_81 rfl ?_
    exact V_ireth 82 C hQ h dX12_predictCaught_82
  · replace h := ite_f c6 h
    refine V_aload_n 15 C 0 dX12_predictCaught_15 rfl ?_
    refine V_iconst 16 C dX12_predictCaught_16 ic1 ?_
    obtain ⟨r28, M26, k27, h⟩ := bindM_some h
    refine V_callI 17 (runVO (k := 119) (rest := []) 17 C (kX12_fails  k27) cf_X12_fails wk_6_226 (ltl (by rfl) rfl) (ceR_X12 (by rfl)) rfl rfl rfl rfl dX12_predictCaught_17 rfl rfl (Nat.zero_le _) (Nat.zero_le _)) ?_
    exact V_ireth 20 C hQ h dX12_predictCaught_20
set_option maxHeartbeats 4000000 in
theorem kX12_sets {G : GG} {l : Launch} {F : Nat}  {p0 : Int32} {p1 : Int32} {M M' : Mem} {r : Int32} (h : fX12_sets F p0 p1 M = some (r, M')) : Con G l yX12_sets cX12_sets 4 (some .int) rmX12_sets [.ref (gad G 119), .int p0, .int p1] M (QI G r M') := by
  refine con_of pnX12 (Nat.le_of_ble_eq_true rfl) (fun κ C hQ => ?_)
  unfold fX12_sets at h
  refine V_L (L1 := [(0, .ref (gad G 119)), (1, .int p0), (2, .int p1)]) rfl ?_
  refine V_aload_n 0 C 0 dX12_sets_0 rfl ?_
  refine V_get (v := .ref (gad G 120)) 1 C dX12_sets_1 (ltl (by rfl) rfl) (ceR_X12 (by rfl)) rfl inX12 6 rfl wk_6_140 rfl rfl ?_
  refine V_iload_n 4 C 1 dX12_sets_4 rfl ?_
  obtain ⟨c1, h⟩ := chk_some h
  refine V_iald 5 C dX12_sets_5 (akI_26 (by rfl)) (al_26 (by rfl)) c1 ?_
  obtain ⟨x2, e3, h⟩ := letM_some h
  refine V_top e3 ?_
  refine V_istore_n 6 C [(3, .int x2), (0, .ref (gad G 119)), (1, .int p0), (2, .int p1)] dX12_sets_6 rfl rfl rfl ?_
  refine V_aload_n 7 C 1 dX12_sets_7 rfl ?_
  refine V_get (v := .ref (gad G 120)) 8 C dX12_sets_8 (ltl (by rfl) rfl) (ceR_X12 (by rfl)) rfl inX12 6 rfl wk_6_140 rfl rfl ?_
  refine V_iload_n 11 C 2 dX12_sets_11 rfl ?_
  refine V_iload_n 12 C 3 dX12_sets_12 rfl ?_
  obtain ⟨c4, h⟩ := chk_some h
  obtain ⟨M5, e6, h⟩ := letM_some h
  refine V_iast 13 C dX12_sets_13 (akI_26 (by rfl)) (al_26 (by rfl)) c4 ?_
  refine V_eqM e6 ?_
  refine V_iload_n 14 C 0 dX12_sets_14 rfl ?_
  exact V_ireth 15 C hQ h dX12_sets_15
set_option maxHeartbeats 4000000 in
theorem kX12_notRate {G : GG} {l : Launch} {F : Nat}  {p0 : Int32} {M M' : Mem} {r : Int32} (h : fX12_notRate F p0 M = some (r, M')) : Con G l yX12_notRate cX12_notRate 1 (some .int) rmX12_notRate [.int p0] M (QI G r M') := by
  refine con_of pnX12 (Nat.le_of_ble_eq_true rfl) (fun κ C hQ => ?_)
  unfold fX12_notRate at h
  refine V_L (L1 := [(0, .int p0)]) rfl ?_
  refine V_iload_n 0 C 0 dX12_notRate_0 rfl ?_
  refine V_iconst 1 C dX12_notRate_1 ic0 ?_
  refine V_bipush 2 C dX12_notRate_2 bp16 ?_
  obtain ⟨r3, M1, k2, h⟩ := bindM_some h
  refine V_callI 4 (runSO (rest := []) 4 C (kX12_isBetween  k2) cf_X12_isBetween wk_6_215 rfl rfl dX12_notRate_4 rfl rfl (Nat.zero_le _) (Nat.zero_le _)) ?_
  refine V_ifeq_b 7 14 C dX12_notRate_7 (by decide) (fun c4 => ?_) (fun c4 => ?_)
  · replace h := ite_f c4 h
    refine V_iconst 14 C dX12_notRate_14 ic1 ?_
    exact V_ireth 15 C hQ h dX12_notRate_15
  · replace h := ite_t c4 h
    refine V_iconst 10 C dX12_notRate_10 ic0 ?_
    refine V_goto 11 15 C dX12_notRate_11 (by decide) ?_
    exact V_ireth 15 C hQ h dX12_notRate_15
set_option maxHeartbeats 4000000 in
theorem kX12_setRate {G : GG} {l : Launch} {F : Nat}  {p0 : Int32} {M M' : Mem} {r : Int32} (h : fX12_setRate F p0 M = some (r, M')) : Con G l yX12_setRate cX12_setRate 2 (some .int) rmX12_setRate [.ref (gad G 119), .int p0] M (QI G r M') := by
  refine con_of pnX12 (Nat.le_of_ble_eq_true rfl) (fun κ C hQ => ?_)
  unfold fX12_setRate at h
  refine V_L (L1 := [(0, .ref (gad G 119)), (1, .int p0)]) rfl ?_
  refine V_iload_n 0 C 1 dX12_setRate_0 rfl ?_
  obtain ⟨r3, M1, k2, h⟩ := bindM_some h
  refine V_callI 1 (runSO (rest := []) 1 C (kX12_notRate  k2) cf_X12_notRate wk_7_149 rfl rfl dX12_setRate_1 rfl rfl (Nat.zero_le _) (Nat.zero_le _)) ?_
  refine V_if_eq 4 13 C dX12_setRate_4 (by decide) (fun c4 => ?_) (fun c4 => ?_)
  · replace h := ite_t c4 h
    refine V_aload_n 13 C 0 dX12_setRate_13 rfl ?_
    obtain ⟨M5, k6, h⟩ := bindV_some h
    refine V_callV 14 (runVO (k := 119) (rest := []) 14 C (kX12_remembers  k6) cf_X12_remembers wk_6_230 (ltl (by rfl) rfl) (ceR_X12 (by rfl)) rfl rfl rfl rfl dX12_setRate_14 rfl rfl (Nat.zero_le _) (Nat.zero_le _)) ?_
    refine V_aload_n 17 C 0 dX12_setRate_17 rfl ?_
    refine V_iconst 18 C dX12_setRate_18 ic5 ?_
    refine V_iload_n 19 C 1 dX12_setRate_19 rfl ?_
    obtain ⟨r9, M7, k8, h⟩ := bindM_some h
    refine V_callI 20 (runVO (k := 119) (rest := []) 20 C (kX12_sets  k8) cf_X12_sets wk_7_152 (ltl (by rfl) rfl) (ceR_X12 (by rfl)) rfl rfl rfl rfl dX12_setRate_20 rfl rfl (Nat.zero_le _) (Nat.zero_le _)) ?_
    exact V_ireth 23 C hQ h dX12_setRate_23
  · replace h := ite_f c4 h
    refine V_aload_n 7 C 0 dX12_setRate_7 rfl ?_
    refine V_iconst 8 C dX12_setRate_8 ic1 ?_
    obtain ⟨r12, M10, k11, h⟩ := bindM_some h
    refine V_callI 9 (runVO (k := 119) (rest := []) 9 C (kX12_refuses  k11) cf_X12_refuses wk_6_222 (ltl (by rfl) rfl) (ceR_X12 (by rfl)) rfl rfl rfl rfl dX12_setRate_9 rfl rfl (Nat.zero_le _) (Nat.zero_le _)) ?_
    exact V_ireth 12 C hQ h dX12_setRate_12
set_option maxHeartbeats 4000000 in
theorem kX12_notSeed {G : GG} {l : Launch} {F : Nat}  {p0 : Int32} {M M' : Mem} {r : Int32} (h : fX12_notSeed F p0 M = some (r, M')) : Con G l yX12_notSeed cX12_notSeed 1 (some .int) rmX12_notSeed [.int p0] M (QI G r M') := by
  refine con_of pnX12 (Nat.le_of_ble_eq_true rfl) (fun κ C hQ => ?_)
  unfold fX12_notSeed at h
  refine V_L (L1 := [(0, .int p0)]) rfl ?_
  refine V_iload_n 0 C 0 dX12_notSeed_0 rfl ?_
  refine V_iconst 1 C dX12_notSeed_1 ic0 ?_
  refine V_sipush 2 C dX12_notSeed_2 sp1023 ?_
  obtain ⟨r3, M1, k2, h⟩ := bindM_some h
  refine V_callI 5 (runSO (rest := []) 5 C (kX12_isBetween  k2) cf_X12_isBetween wk_6_215 rfl rfl dX12_notSeed_5 rfl rfl (Nat.zero_le _) (Nat.zero_le _)) ?_
  refine V_ifeq_b 8 15 C dX12_notSeed_8 (by decide) (fun c4 => ?_) (fun c4 => ?_)
  · replace h := ite_f c4 h
    refine V_iconst 15 C dX12_notSeed_15 ic1 ?_
    exact V_ireth 16 C hQ h dX12_notSeed_16
  · replace h := ite_t c4 h
    refine V_iconst 11 C dX12_notSeed_11 ic0 ?_
    refine V_goto 12 16 C dX12_notSeed_12 (by decide) ?_
    exact V_ireth 16 C hQ h dX12_notSeed_16
set_option maxHeartbeats 4000000 in
theorem kX12_setSeed {G : GG} {l : Launch} {F : Nat}  {p0 : Int32} {M M' : Mem} {r : Int32} (h : fX12_setSeed F p0 M = some (r, M')) : Con G l yX12_setSeed cX12_setSeed 2 (some .int) rmX12_setSeed [.ref (gad G 119), .int p0] M (QI G r M') := by
  refine con_of pnX12 (Nat.le_of_ble_eq_true rfl) (fun κ C hQ => ?_)
  unfold fX12_setSeed at h
  refine V_L (L1 := [(0, .ref (gad G 119)), (1, .int p0)]) rfl ?_
  refine V_iload_n 0 C 1 dX12_setSeed_0 rfl ?_
  obtain ⟨r3, M1, k2, h⟩ := bindM_some h
  refine V_callI 1 (runSO (rest := []) 1 C (kX12_notSeed  k2) cf_X12_notSeed wk_7_160 rfl rfl dX12_setSeed_1 rfl rfl (Nat.zero_le _) (Nat.zero_le _)) ?_
  refine V_if_eq 4 13 C dX12_setSeed_4 (by decide) (fun c4 => ?_) (fun c4 => ?_)
  · replace h := ite_t c4 h
    refine V_aload_n 13 C 0 dX12_setSeed_13 rfl ?_
    obtain ⟨M5, k6, h⟩ := bindV_some h
    refine V_callV 14 (runVO (k := 119) (rest := []) 14 C (kX12_remembers  k6) cf_X12_remembers wk_6_230 (ltl (by rfl) rfl) (ceR_X12 (by rfl)) rfl rfl rfl rfl dX12_setSeed_14 rfl rfl (Nat.zero_le _) (Nat.zero_le _)) ?_
    refine V_aload_n 17 C 0 dX12_setSeed_17 rfl ?_
    refine V_bipush 18 C dX12_setSeed_18 bp6 ?_
    refine V_iload_n 20 C 1 dX12_setSeed_20 rfl ?_
    obtain ⟨r9, M7, k8, h⟩ := bindM_some h
    refine V_callI 21 (runVO (k := 119) (rest := []) 21 C (kX12_sets  k8) cf_X12_sets wk_7_152 (ltl (by rfl) rfl) (ceR_X12 (by rfl)) rfl rfl rfl rfl dX12_setSeed_21 rfl rfl (Nat.zero_le _) (Nat.zero_le _)) ?_
    exact V_ireth 24 C hQ h dX12_setSeed_24
  · replace h := ite_f c4 h
    refine V_aload_n 7 C 0 dX12_setSeed_7 rfl ?_
    refine V_iconst 8 C dX12_setSeed_8 ic1 ?_
    obtain ⟨r12, M10, k11, h⟩ := bindM_some h
    refine V_callI 9 (runVO (k := 119) (rest := []) 9 C (kX12_refuses  k11) cf_X12_refuses wk_6_222 (ltl (by rfl) rfl) (ceR_X12 (by rfl)) rfl rfl rfl rfl dX12_setSeed_9 rfl rfl (Nat.zero_le _) (Nat.zero_le _)) ?_
    exact V_ireth 12 C hQ h dX12_setSeed_12
set_option maxHeartbeats 4000000 in
theorem kX12_asks {G : GG} {l : Launch} {F : Nat}  {p0 : Int32} {M M' : Mem} {r : Int32} (h : fX12_asks F p0 M = some (r, M')) : Con G l yX12_asks cX12_asks 2 (some .int) rmX12_asks [.ref (gad G 119), .int p0] M (QI G r M') := by
  refine con_of pnX12 (Nat.le_of_ble_eq_true rfl) (fun κ C hQ => ?_)
  unfold fX12_asks at h
  refine V_L (L1 := [(0, .ref (gad G 119)), (1, .int p0)]) rfl ?_
  refine V_aload_n 0 C 0 dX12_asks_0 rfl ?_
  refine V_iconst 1 C dX12_asks_1 ic0 ?_
  obtain ⟨M1, e2, h⟩ := letM_some h
  refine V_put (ty := .int) (F := F_X12 G 119) 2 C dX12_asks_2 (ltl (by rfl) rfl) (fun _ => ceR_X12 (by rfl)) rfl inX12 tyX12 tyX12_ok nmX12 0 rfl wk_6_134 rfl rfl 0 rfl rfl rfl rfl rfl ?_
  refine V_eqM e2 ?_
  refine V_aload_n 5 C 0 dX12_asks_5 rfl ?_
  refine V_get (v := .ref (gad G 120)) 6 C dX12_asks_6 (ltl (by rfl) rfl) (ceR_X12 (by rfl)) rfl inX12 6 rfl wk_6_140 rfl rfl ?_
  refine V_iload_n 9 C 1 dX12_asks_9 rfl ?_
  obtain ⟨c3, h⟩ := chk_some h
  refine V_iald 10 C dX12_asks_10 (akI_26 (by rfl)) (al_26 (by rfl)) c3 ?_
  exact V_ireth 11 C hQ h dX12_asks_11
set_option maxHeartbeats 4000000 in
theorem kX12_shelfCount {G : GG} {l : Launch} {F : Nat}   {M M' : Mem} {r : Int32} (h : fX12_shelfCount F  M = some (r, M')) : Con G l yX12_shelfCount cX12_shelfCount 1 (some .int) rmX12_shelfCount [.ref (gad G 119)] M (QI G r M') := by
  refine con_of pnX12 (Nat.le_of_ble_eq_true rfl) (fun κ C hQ => ?_)
  unfold fX12_shelfCount at h
  refine V_L (L1 := [(0, .ref (gad G 119))]) rfl ?_
  refine V_aload_n 0 C 0 dX12_shelfCount_0 rfl ?_
  refine V_iconst 1 C dX12_shelfCount_1 ic0 ?_
  obtain ⟨r3, M1, k2, h⟩ := bindM_some h
  refine V_callI 2 (runVO (k := 119) (rest := []) 2 C (kX12_asks  k2) cf_X12_asks wk_7_167 (ltl (by rfl) rfl) (ceR_X12 (by rfl)) rfl rfl rfl rfl dX12_shelfCount_2 rfl rfl (Nat.zero_le _) (Nat.zero_le _)) ?_
  exact V_ireth 5 C hQ h dX12_shelfCount_5
set_option maxHeartbeats 4000000 in
theorem kX12_passageCount {G : GG} {l : Launch} {F : Nat}   {M M' : Mem} {r : Int32} (h : fX12_passageCount F  M = some (r, M')) : Con G l yX12_passageCount cX12_passageCount 1 (some .int) rmX12_passageCount [.ref (gad G 119)] M (QI G r M') := by
  refine con_of pnX12 (Nat.le_of_ble_eq_true rfl) (fun κ C hQ => ?_)
  unfold fX12_passageCount at h
  refine V_L (L1 := [(0, .ref (gad G 119))]) rfl ?_
  refine V_aload_n 0 C 0 dX12_passageCount_0 rfl ?_
  refine V_iconst 1 C dX12_passageCount_1 ic1 ?_
  obtain ⟨r3, M1, k2, h⟩ := bindM_some h
  refine V_callI 2 (runVO (k := 119) (rest := []) 2 C (kX12_asks  k2) cf_X12_asks wk_7_167 (ltl (by rfl) rfl) (ceR_X12 (by rfl)) rfl rfl rfl rfl dX12_passageCount_2 rfl rfl (Nat.zero_le _) (Nat.zero_le _)) ?_
  exact V_ireth 5 C hQ h dX12_passageCount_5
set_option maxHeartbeats 4000000 in
theorem kX12_cheese {G : GG} {l : Launch} {F : Nat}  {p0 : Int32} {M M' : Mem} {r : Int32} (h : fX12_cheese F p0 M = some (r, M')) : Con G l yX12_cheese cX12_cheese 2 (some .int) rmX12_cheese [.ref (gad G 119), .int p0] M (QI G r M') := by
  refine con_of pnX12 (Nat.le_of_ble_eq_true rfl) (fun κ C hQ => ?_)
  unfold fX12_cheese at h
  refine V_L (L1 := [(0, .ref (gad G 119)), (1, .int p0)]) rfl ?_
  refine V_aload_n 0 C 0 dX12_cheese_0 rfl ?_
  refine V_iconst 1 C dX12_cheese_1 ic0 ?_
  obtain ⟨M1, e2, h⟩ := letM_some h
  refine V_put (ty := .int) (F := F_X12 G 119) 2 C dX12_cheese_2 (ltl (by rfl) rfl) (fun _ => ceR_X12 (by rfl)) rfl inX12 tyX12 tyX12_ok nmX12 0 rfl wk_6_134 rfl rfl 0 rfl rfl rfl rfl rfl ?_
  refine V_eqM e2 ?_
  refine V_aload_n 5 C 0 dX12_cheese_5 rfl ?_
  refine V_iload_n 6 C 1 dX12_cheese_6 rfl ?_
  obtain ⟨r5, M3, k4, h⟩ := bindM_some h
  refine V_callI 7 (runVO (k := 119) (rest := []) 7 C (kX12_isShelf  k4) cf_X12_isShelf wk_7_14 (ltl (by rfl) rfl) (ceR_X12 (by rfl)) rfl rfl rfl rfl dX12_cheese_7 rfl rfl (Nat.zero_le _) (Nat.zero_le _)) ?_
  refine V_ifeq_b 10 25 C dX12_cheese_10 (by decide) (fun c6 => ?_) (fun c6 => ?_)
  · replace h := ite_f c6 h
    refine V_aload_n 25 C 0 dX12_cheese_25 rfl ?_
    refine V_iconst 26 C dX12_cheese_26 ic1 ?_
    obtain ⟨r9, M7, k8, h⟩ := bindM_some h
    refine V_callI 27 (runVO (k := 119) (rest := []) 27 C (kX12_fails  k8) cf_X12_fails wk_6_226 (ltl (by rfl) rfl) (ceR_X12 (by rfl)) rfl rfl rfl rfl dX12_cheese_27 rfl rfl (Nat.zero_le _) (Nat.zero_le _)) ?_
    exact V_ireth 30 C hQ h dX12_cheese_30
  · replace h := ite_t c6 h
    refine V_aload_n 13 C 0 dX12_cheese_13 rfl ?_
    refine V_get (v := .ref (gad G 120)) 14 C dX12_cheese_14 (ltl (by rfl) rfl) (ceR_X12 (by rfl)) rfl inX12 6 rfl wk_6_140 rfl rfl ?_
    refine V_bipush 17 C dX12_cheese_17 bp14 ?_
    refine V_iload_n 19 C 1 dX12_cheese_19 rfl ?_
    refine V_iadd 20 C dX12_cheese_20 ?_
    obtain ⟨c10, h⟩ := chk_some h
    refine V_iald 21 C dX12_cheese_21 (akI_26 (by rfl)) (al_26 (by rfl)) c10 ?_
    refine V_goto 22 30 C dX12_cheese_22 (by decide) ?_
    exact V_ireth 30 C hQ h dX12_cheese_30
set_option maxHeartbeats 4000000 in
theorem kX12_isBlind {G : GG} {l : Launch} {F : Nat}  {p0 : Int32} {M M' : Mem} {r : Bool} (h : fX12_isBlind F p0 M = some (r, M')) : Con G l yX12_isBlind cX12_isBlind 2 (some .boolean) rmX12_isBlind [.ref (gad G 119), .int p0] M (QI G (b2i r) M') := by
  refine con_of pnX12 (Nat.le_of_ble_eq_true rfl) (fun κ C hQ => ?_)
  unfold fX12_isBlind at h
  refine V_L (L1 := [(0, .ref (gad G 119)), (1, .int p0)]) rfl ?_
  refine V_aload_n 0 C 0 dX12_isBlind_0 rfl ?_
  refine V_iconst 1 C dX12_isBlind_1 ic0 ?_
  obtain ⟨M1, e2, h⟩ := letM_some h
  refine V_put (ty := .int) (F := F_X12 G 119) 2 C dX12_isBlind_2 (ltl (by rfl) rfl) (fun _ => ceR_X12 (by rfl)) rfl inX12 tyX12 tyX12_ok nmX12 0 rfl wk_6_134 rfl rfl 0 rfl rfl rfl rfl rfl ?_
  refine V_eqM e2 ?_
  refine V_aload_n 5 C 0 dX12_isBlind_5 rfl ?_
  refine V_iload_n 6 C 1 dX12_isBlind_6 rfl ?_
  obtain ⟨r5, M3, k4, h⟩ := bindM_some h
  refine V_callI 7 (runVO (k := 119) (rest := []) 7 C (kX12_isShelf  k4) cf_X12_isShelf wk_7_14 (ltl (by rfl) rfl) (ceR_X12 (by rfl)) rfl rfl rfl rfl dX12_isBlind_7 rfl rfl (Nat.zero_le _) (Nat.zero_le _)) ?_
  refine V_ifne_b 10 27 C dX12_isBlind_10 (by decide) (fun c6 => ?_) (fun c6 => ?_)
  · replace h := ite_t c6 h
    refine V_aload_n 27 C 0 dX12_isBlind_27 rfl ?_
    refine V_get (v := .ref (gad G 120)) 28 C dX12_isBlind_28 (ltl (by rfl) rfl) (ceR_X12 (by rfl)) rfl inX12 6 rfl wk_6_140 rfl rfl ?_
    refine V_bipush 31 C dX12_isBlind_31 bp26 ?_
    refine V_iload_n 33 C 1 dX12_isBlind_33 rfl ?_
    refine V_iadd 34 C dX12_isBlind_34 ?_
    obtain ⟨c7, h⟩ := chk_some h
    refine V_iald 35 C dX12_isBlind_35 (akI_26 (by rfl)) (al_26 (by rfl)) c7 ?_
    refine V_iconst 36 C dX12_isBlind_36 ic1 ?_
    refine V_icmp_ne 37 44 C dX12_isBlind_37 (by decide) (fun c8 => ?_) (fun c8 => ?_)
    · replace h := ite_f c8 h
      refine V_iconst 44 C dX12_isBlind_44 ic0 ?_
      exact V_zreth 45 C hQ h dX12_isBlind_45
    · replace h := ite_t c8 h
      refine V_iconst 40 C dX12_isBlind_40 ic1 ?_
      refine V_goto 41 45 C dX12_isBlind_41 (by decide) ?_
      exact V_zreth 45 C hQ h dX12_isBlind_45
  · replace h := ite_f c6 h
    refine V_aload_n 13 C 0 dX12_isBlind_13 rfl ?_
    refine V_iconst 14 C dX12_isBlind_14 ic1 ?_
    obtain ⟨r11, M9, k10, h⟩ := bindM_some h
    refine V_callI 15 (runVO (k := 119) (rest := []) 15 C (kX12_fails  k10) cf_X12_fails wk_6_226 (ltl (by rfl) rfl) (ceR_X12 (by rfl)) rfl rfl rfl rfl dX12_isBlind_15 rfl rfl (Nat.zero_le _) (Nat.zero_le _)) ?_
    refine V_if_le 18 25 C dX12_isBlind_18 (by decide) (fun c12 => ?_) (fun c12 => ?_)
    · replace h := ite_t c12 h
      refine V_iconst 25 C dX12_isBlind_25 ic0 ?_
      exact V_zreth 26 C hQ h dX12_isBlind_26
    · replace h := ite_f c12 h
      refine V_iconst 21 C dX12_isBlind_21 ic1 ?_
      refine V_goto 22 26 C dX12_isBlind_22 (by decide) ?_
      exact V_zreth 26 C hQ h dX12_isBlind_26
set_option maxHeartbeats 4000000 in
theorem vX12_neighbourCount_23 {G : GG} {κ : KK} {F : Nat}  (C : Cx G κ cX12_neighbourCount RX12 (some .int) 4 rmX12_neighbourCount) {M' : Mem} {r : Int32} (hQ : HQ G κ (QI G r M') 0 0) {q1 : Int32} {kx : Int32 → Mem → Option (Int32 × Mem)} (hk : ∀ (v2 : Int32) (M : Mem), kx v2 M = some (r, M') → V G κ 4 0 0 M 56 [(2, .int v2)] []) : ∀ (n : Nat) (v2 : Int32) (v3 : Int32) (M : Mem), fX12_neighbourCount_23 F q1 kx n v2 v3 M = some (r, M') → V G κ 4 0 0 M 23 [(0, .ref (gad G 119)), (1, .int q1), (2, .int v2), (3, .int v3)] [] := by
  intro n
  induction n with
  | zero => intro v2 v3 M h; rw [fX12_neighbourCount_23] at h; cases h
  | succ n ih =>
    intro v2 v3 M h
    rw [fX12_neighbourCount_23] at h
    refine V_iload_n 23 C 3 dX12_neighbourCount_23 rfl ?_
    refine V_aload_n 24 C 0 dX12_neighbourCount_24 rfl ?_
    refine V_get (v := .ref (gad G 120)) 25 C dX12_neighbourCount_25 (ltl (by rfl) rfl) (ceR_X12 (by rfl)) rfl inX12 6 rfl wk_6_140 rfl rfl ?_
    refine V_iconst 28 C dX12_neighbourCount_28 ic0 ?_
    refine V_ialdJ 29 C dX12_neighbourCount_29 (akI_26 (by rfl)) (al_26 (by rfl)) (by decide) (j := 0) (by decide) ?_
    refine V_icmp_ge 30 56 C dX12_neighbourCount_30 (by decide) (fun c8 => ?_) (fun c8 => ?_)
    · replace h := ite_t c8 h
      refine V_sub [2] rfl ?_
      exact hk _ _ h
    · replace h := ite_f c8 h
      refine V_iload_n 33 C 2 dX12_neighbourCount_33 rfl ?_
      refine V_aload_n 34 C 0 dX12_neighbourCount_34 rfl ?_
      refine V_iload_n 35 C 1 dX12_neighbourCount_35 rfl ?_
      refine V_iload_n 36 C 3 dX12_neighbourCount_36 rfl ?_
      obtain ⟨r11, M9, k10, h⟩ := bindM_some h
      refine V_callI 37 (runVO (k := 119) (rest := [.int v2]) 37 C (kX12_isLinked  k10) cf_X12_isLinked wk_7_18 (ltl (by rfl) rfl) (ceR_X12 (by rfl)) rfl rfl rfl rfl dX12_neighbourCount_37 rfl rfl (Nat.zero_le _) (Nat.zero_le _)) ?_
      refine V_ifeq_b 40 47 C dX12_neighbourCount_40 (by decide) (fun c12 => ?_) (fun c12 => ?_)
      · replace h := ite_f c12 h
        refine V_iconst 47 C dX12_neighbourCount_47 ic0 ?_
        refine V_iadd 48 C dX12_neighbourCount_48 ?_
        obtain ⟨x13, e14, h⟩ := letM_some h
        refine V_top e14 ?_
        refine V_istore_n 49 C [(2, .int x13), (0, .ref (gad G 119)), (1, .int q1), (3, .int v3)] dX12_neighbourCount_49 rfl rfl rfl ?_
        obtain ⟨x15, e16, h⟩ := letM_some h
        refine V_iinc 50 C [(3, .int x15), (2, .int x13), (0, .ref (gad G 119)), (1, .int q1)] 3 x15 dX12_neighbourCount_50 rfl (by rw [e16]; rfl) rfl rfl ?_
        refine V_goto 53 23 C dX12_neighbourCount_53 (by decide) ?_
        refine V_sub [2, 3, 1, 0] rfl ?_
        exact ih _ _ _ h
      · replace h := ite_t c12 h
        refine V_iconst 43 C dX12_neighbourCount_43 ic1 ?_
        refine V_goto 44 48 C dX12_neighbourCount_44 (by decide) ?_
        refine V_iadd 48 C dX12_neighbourCount_48 ?_
        obtain ⟨x17, e18, h⟩ := letM_some h
        refine V_top e18 ?_
        refine V_istore_n 49 C [(2, .int x17), (0, .ref (gad G 119)), (1, .int q1), (3, .int v3)] dX12_neighbourCount_49 rfl rfl rfl ?_
        obtain ⟨x19, e20, h⟩ := letM_some h
        refine V_iinc 50 C [(3, .int x19), (2, .int x17), (0, .ref (gad G 119)), (1, .int q1)] 3 x19 dX12_neighbourCount_50 rfl (by rw [e20]; rfl) rfl rfl ?_
        refine V_goto 53 23 C dX12_neighbourCount_53 (by decide) ?_
        refine V_sub [2, 3, 1, 0] rfl ?_
        exact ih _ _ _ h
set_option maxHeartbeats 4000000 in
theorem kX12_neighbourCount {G : GG} {l : Launch} {F : Nat}  {p0 : Int32} {M M' : Mem} {r : Int32} (h : fX12_neighbourCount F p0 M = some (r, M')) : Con G l yX12_neighbourCount cX12_neighbourCount 4 (some .int) rmX12_neighbourCount [.ref (gad G 119), .int p0] M (QI G r M') := by
  refine con_of pnX12 (Nat.le_of_ble_eq_true rfl) (fun κ C hQ => ?_)
  unfold fX12_neighbourCount at h
  refine V_L (L1 := [(0, .ref (gad G 119)), (1, .int p0)]) rfl ?_
  refine V_aload_n 0 C 0 dX12_neighbourCount_0 rfl ?_
  refine V_iconst 1 C dX12_neighbourCount_1 ic0 ?_
  obtain ⟨M1, e2, h⟩ := letM_some h
  refine V_put (ty := .int) (F := F_X12 G 119) 2 C dX12_neighbourCount_2 (ltl (by rfl) rfl) (fun _ => ceR_X12 (by rfl)) rfl inX12 tyX12 tyX12_ok nmX12 0 rfl wk_6_134 rfl rfl 0 rfl rfl rfl rfl rfl ?_
  refine V_eqM e2 ?_
  refine V_aload_n 5 C 0 dX12_neighbourCount_5 rfl ?_
  refine V_iload_n 6 C 1 dX12_neighbourCount_6 rfl ?_
  obtain ⟨r5, M3, k4, h⟩ := bindM_some h
  refine V_callI 7 (runVO (k := 119) (rest := []) 7 C (kX12_isShelf  k4) cf_X12_isShelf wk_7_14 (ltl (by rfl) rfl) (ceR_X12 (by rfl)) rfl rfl rfl rfl dX12_neighbourCount_7 rfl rfl (Nat.zero_le _) (Nat.zero_le _)) ?_
  refine V_ifne_b 10 19 C dX12_neighbourCount_10 (by decide) (fun c6 => ?_) (fun c6 => ?_)
  · replace h := ite_t c6 h
    refine V_iconst 19 C dX12_neighbourCount_19 ic0 ?_
    refine V_istore_n 20 C [(2, .int 0), (0, .ref (gad G 119)), (1, .int p0)] dX12_neighbourCount_20 rfl rfl rfl ?_
    refine V_iconst 21 C dX12_neighbourCount_21 ic0 ?_
    refine V_istore_n 22 C [(3, .int 0), (2, .int 0), (0, .ref (gad G 119)), (1, .int p0)] dX12_neighbourCount_22 rfl rfl rfl ?_
    refine V_sub [2, 3, 1, 0] rfl ?_
    refine vX12_neighbourCount_23  C hQ ?_ _ _ _ _ h
    intro w22 M21 h
    refine V_iload_n 56 C 0 dX12_neighbourCount_56 rfl ?_
    exact V_ireth 57 C hQ h dX12_neighbourCount_57
  · replace h := ite_f c6 h
    refine V_aload_n 13 C 0 dX12_neighbourCount_13 rfl ?_
    refine V_iconst 14 C dX12_neighbourCount_14 ic1 ?_
    obtain ⟨r25, M23, k24, h⟩ := bindM_some h
    refine V_callI 15 (runVO (k := 119) (rest := []) 15 C (kX12_fails  k24) cf_X12_fails wk_6_226 (ltl (by rfl) rfl) (ceR_X12 (by rfl)) rfl rfl rfl rfl dX12_neighbourCount_15 rfl rfl (Nat.zero_le _) (Nat.zero_le _)) ?_
    exact V_ireth 18 C hQ h dX12_neighbourCount_18
set_option maxHeartbeats 4000000 in
theorem kX12_distance {G : GG} {l : Launch} {F : Nat}  {p0 : Int32} {p1 : Int32} {M M' : Mem} {r : Int32} (h : fX12_distance F p0 p1 M = some (r, M')) : Con G l yX12_distance cX12_distance 3 (some .int) rmX12_distance [.ref (gad G 119), .int p0, .int p1] M (QI G r M') := by
  refine con_of pnX12 (Nat.le_of_ble_eq_true rfl) (fun κ C hQ => ?_)
  unfold fX12_distance at h
  refine V_L (L1 := [(0, .ref (gad G 119)), (1, .int p0), (2, .int p1)]) rfl ?_
  refine V_aload_n 0 C 0 dX12_distance_0 rfl ?_
  refine V_iconst 1 C dX12_distance_1 ic0 ?_
  obtain ⟨M1, e2, h⟩ := letM_some h
  refine V_put (ty := .int) (F := F_X12 G 119) 2 C dX12_distance_2 (ltl (by rfl) rfl) (fun _ => ceR_X12 (by rfl)) rfl inX12 tyX12 tyX12_ok nmX12 0 rfl wk_6_134 rfl rfl 0 rfl rfl rfl rfl rfl ?_
  refine V_eqM e2 ?_
  refine V_aload_n 5 C 0 dX12_distance_5 rfl ?_
  refine V_iload_n 6 C 1 dX12_distance_6 rfl ?_
  obtain ⟨r5, M3, k4, h⟩ := bindM_some h
  refine V_callI 7 (runVO (k := 119) (rest := []) 7 C (kX12_isShelf  k4) cf_X12_isShelf wk_7_14 (ltl (by rfl) rfl) (ceR_X12 (by rfl)) rfl rfl rfl rfl dX12_distance_7 rfl rfl (Nat.zero_le _) (Nat.zero_le _)) ?_
  refine V_ifeq_b 10 21 C dX12_distance_10 (by decide) (fun c6 => ?_) (fun c6 => ?_)
  · replace h := ite_f c6 h
    refine V_aload_n 21 C 0 dX12_distance_21 rfl ?_
    refine V_iconst 22 C dX12_distance_22 ic1 ?_
    obtain ⟨r9, M7, k8, h⟩ := bindM_some h
    refine V_callI 23 (runVO (k := 119) (rest := []) 23 C (kX12_fails  k8) cf_X12_fails wk_6_226 (ltl (by rfl) rfl) (ceR_X12 (by rfl)) rfl rfl rfl rfl dX12_distance_23 rfl rfl (Nat.zero_le _) (Nat.zero_le _)) ?_
    exact V_ireth 26 C hQ h dX12_distance_26
  · replace h := ite_t c6 h
    refine V_aload_n 13 C 0 dX12_distance_13 rfl ?_
    refine V_iload_n 14 C 2 dX12_distance_14 rfl ?_
    obtain ⟨r12, M10, k11, h⟩ := bindM_some h
    refine V_callI 15 (runVO (k := 119) (rest := []) 15 C (kX12_isShelf  k11) cf_X12_isShelf wk_7_14 (ltl (by rfl) rfl) (ceR_X12 (by rfl)) rfl rfl rfl rfl dX12_distance_15 rfl rfl (Nat.zero_le _) (Nat.zero_le _)) ?_
    refine V_ifne_b 18 27 C dX12_distance_18 (by decide) (fun c13 => ?_) (fun c13 => ?_)
    · replace h := ite_t c13 h
      refine V_aload_n 27 C 0 dX12_distance_27 rfl ?_
      refine V_iload_n 28 C 2 dX12_distance_28 rfl ?_
      obtain ⟨M14, k15, h⟩ := bindV_some h
      refine V_callV 29 (runVO (k := 119) (rest := []) 29 C (kX12_distancesTo  k15) cf_X12_distancesTo wk_7_113 (ltl (by rfl) rfl) (ceR_X12 (by rfl)) rfl rfl rfl rfl dX12_distance_29 rfl rfl (Nat.zero_le _) (Nat.zero_le _)) ?_
      refine V_aload_n 32 C 0 dX12_distance_32 rfl ?_
      refine V_get (v := .ref (gad G 125)) 33 C dX12_distance_33 (ltl (by rfl) rfl) (ceR_X12 (by rfl)) rfl inX12 14 rfl wk_6_148 rfl rfl ?_
      refine V_iload_n 36 C 1 dX12_distance_36 rfl ?_
      obtain ⟨c16, h⟩ := chk_some h
      refine V_iald 37 C dX12_distance_37 (akI_20 (by rfl)) (al_20 (by rfl)) c16 ?_
      refine V_bipush 38 C dX12_distance_38 bp99 ?_
      refine V_icmp_ne 40 51 C dX12_distance_40 (by decide) (fun c17 => ?_) (fun c17 => ?_)
      · replace h := ite_f c17 h
        refine V_aload_n 51 C 0 dX12_distance_51 rfl ?_
        refine V_get (v := .ref (gad G 125)) 52 C dX12_distance_52 (ltl (by rfl) rfl) (ceR_X12 (by rfl)) rfl inX12 14 rfl wk_6_148 rfl rfl ?_
        refine V_iload_n 55 C 1 dX12_distance_55 rfl ?_
        obtain ⟨c18, h⟩ := chk_some h
        refine V_iald 56 C dX12_distance_56 (akI_20 (by rfl)) (al_20 (by rfl)) c18 ?_
        exact V_ireth 57 C hQ h dX12_distance_57
      · replace h := ite_t c17 h
        refine V_aload_n 43 C 0 dX12_distance_43 rfl ?_
        refine V_iconst 44 C dX12_distance_44 ic2 ?_
        obtain ⟨r21, M19, k20, h⟩ := bindM_some h
        refine V_callI 45 (runVO (k := 119) (rest := []) 45 C (kX12_fails  k20) cf_X12_fails wk_6_226 (ltl (by rfl) rfl) (ceR_X12 (by rfl)) rfl rfl rfl rfl dX12_distance_45 rfl rfl (Nat.zero_le _) (Nat.zero_le _)) ?_
        refine V_goto 48 57 C dX12_distance_48 (by decide) ?_
        exact V_ireth 57 C hQ h dX12_distance_57
    · replace h := ite_f c13 h
      refine V_aload_n 21 C 0 dX12_distance_21 rfl ?_
      refine V_iconst 22 C dX12_distance_22 ic1 ?_
      obtain ⟨r24, M22, k23, h⟩ := bindM_some h
      refine V_callI 23 (runVO (k := 119) (rest := []) 23 C (kX12_fails  k23) cf_X12_fails wk_6_226 (ltl (by rfl) rfl) (ceR_X12 (by rfl)) rfl rfl rfl rfl dX12_distance_23 rfl rfl (Nat.zero_le _) (Nat.zero_le _)) ?_
      exact V_ireth 26 C hQ h dX12_distance_26
set_option maxHeartbeats 4000000 in
theorem kX12_distanceByTable {G : GG} {l : Launch} {F : Nat}  {p0 : Int32} {p1 : Int32} {M M' : Mem} {r : Int32} (h : fX12_distanceByTable F p0 p1 M = some (r, M')) : Con G l yX12_distanceByTable cX12_distanceByTable 3 (some .int) rmX12_distanceByTable [.ref (gad G 119), .int p0, .int p1] M (QI G r M') := by
  refine con_of pnX12 (Nat.le_of_ble_eq_true rfl) (fun κ C hQ => ?_)
  unfold fX12_distanceByTable at h
  refine V_L (L1 := [(0, .ref (gad G 119)), (1, .int p0), (2, .int p1)]) rfl ?_
  refine V_aload_n 0 C 0 dX12_distanceByTable_0 rfl ?_
  refine V_iload_n 1 C 1 dX12_distanceByTable_1 rfl ?_
  refine V_iload_n 2 C 2 dX12_distanceByTable_2 rfl ?_
  obtain ⟨r3, M1, k2, h⟩ := bindM_some h
  refine V_callI 3 (runVO (k := 119) (rest := []) 3 C (kX12_distance  k2) cf_X12_distance wk_7_195 (ltl (by rfl) rfl) (ceR_X12 (by rfl)) rfl rfl rfl rfl dX12_distanceByTable_3 rfl rfl (Nat.zero_le _) (Nat.zero_le _)) ?_
  exact V_ireth 6 C hQ h dX12_distanceByTable_6
set_option maxHeartbeats 4000000 in
theorem vX12_groupCount_29 {G : GG} {κ : KK} {F : Nat}  (C : Cx G κ cX12_groupCount RX12 (some .int) 5 rmX12_groupCount) {M' : Mem} {r : Int32} (hQ : HQ G κ (QI G r M') 0 0) {q1 : Int32} {q2 : Int32} {kx : Int32 → Mem → Option (Int32 × Mem)} (hk : ∀ (v3 : Int32) (M : Mem), kx v3 M = some (r, M') → V G κ 5 0 0 M 63 [(0, .ref (gad G 119)), (1, .int q1), (2, .int q2), (3, .int v3)] []) : ∀ (n : Nat) (v3 : Int32) (v4 : Int32) (M : Mem), fX12_groupCount_29 F q1 q2 kx n v3 v4 M = some (r, M') → V G κ 5 0 0 M 29 [(0, .ref (gad G 119)), (1, .int q1), (2, .int q2), (3, .int v3), (4, .int v4)] [] := by
  intro n
  induction n with
  | zero => intro v3 v4 M h; rw [fX12_groupCount_29] at h; cases h
  | succ n ih =>
    intro v3 v4 M h
    rw [fX12_groupCount_29] at h
    refine V_iload 29 C 4 dX12_groupCount_29 rfl ?_
    refine V_iload_n 31 C 2 dX12_groupCount_31 rfl ?_
    refine V_icmp_ge 32 63 C dX12_groupCount_32 (by decide) (fun c7 => ?_) (fun c7 => ?_)
    · replace h := ite_t c7 h
      refine V_sub [0, 1, 2, 3] rfl ?_
      exact hk _ _ h
    · replace h := ite_f c7 h
      refine V_iload_n 35 C 3 dX12_groupCount_35 rfl ?_
      refine V_if_eq 36 55 C dX12_groupCount_36 (by decide) (fun c8 => ?_) (fun c8 => ?_)
      · replace h := ite_t c8 h
        refine V_iconst 55 C dX12_groupCount_55 ic0 ?_
        refine V_istore_n 56 C [(3, .int 0), (0, .ref (gad G 119)), (1, .int q1), (2, .int q2), (4, .int v4)] dX12_groupCount_56 rfl rfl rfl ?_
        obtain ⟨x9, e10, h⟩ := letM_some h
        refine V_iinc 57 C [(4, .int x9), (3, .int 0), (0, .ref (gad G 119)), (1, .int q1), (2, .int q2)] 4 x9 dX12_groupCount_57 rfl (by rw [e10]; rfl) rfl rfl ?_
        refine V_goto 60 29 C dX12_groupCount_60 (by decide) ?_
        refine V_sub [2, 3, 4, 1, 0] rfl ?_
        exact ih _ _ _ h
      · replace h := ite_f c8 h
        refine V_aload_n 39 C 0 dX12_groupCount_39 rfl ?_
        refine V_get (v := .ref (gad G 125)) 40 C dX12_groupCount_40 (ltl (by rfl) rfl) (ceR_X12 (by rfl)) rfl inX12 14 rfl wk_6_148 rfl rfl ?_
        refine V_iload 43 C 4 dX12_groupCount_43 rfl ?_
        obtain ⟨c11, h⟩ := chk_some h
        refine V_iald 45 C dX12_groupCount_45 (akI_20 (by rfl)) (al_20 (by rfl)) c11 ?_
        refine V_bipush 46 C dX12_groupCount_46 bp99 ?_
        refine V_icmp_ne 48 55 C dX12_groupCount_48 (by decide) (fun c12 => ?_) (fun c12 => ?_)
        · replace h := ite_f c12 h
          refine V_iconst 55 C dX12_groupCount_55 ic0 ?_
          refine V_istore_n 56 C [(3, .int 0), (0, .ref (gad G 119)), (1, .int q1), (2, .int q2), (4, .int v4)] dX12_groupCount_56 rfl rfl rfl ?_
          obtain ⟨x13, e14, h⟩ := letM_some h
          refine V_iinc 57 C [(4, .int x13), (3, .int 0), (0, .ref (gad G 119)), (1, .int q1), (2, .int q2)] 4 x13 dX12_groupCount_57 rfl (by rw [e14]; rfl) rfl rfl ?_
          refine V_goto 60 29 C dX12_groupCount_60 (by decide) ?_
          refine V_sub [2, 3, 4, 1, 0] rfl ?_
          exact ih _ _ _ h
        · replace h := ite_t c12 h
          refine V_iconst 51 C dX12_groupCount_51 ic1 ?_
          refine V_goto 52 56 C dX12_groupCount_52 (by decide) ?_
          refine V_istore_n 56 C [(3, .int 1), (0, .ref (gad G 119)), (1, .int q1), (2, .int q2), (4, .int v4)] dX12_groupCount_56 rfl rfl rfl ?_
          obtain ⟨x15, e16, h⟩ := letM_some h
          refine V_iinc 57 C [(4, .int x15), (3, .int 1), (0, .ref (gad G 119)), (1, .int q1), (2, .int q2)] 4 x15 dX12_groupCount_57 rfl (by rw [e16]; rfl) rfl rfl ?_
          refine V_goto 60 29 C dX12_groupCount_60 (by decide) ?_
          refine V_sub [2, 3, 4, 1, 0] rfl ?_
          exact ih _ _ _ h
set_option maxHeartbeats 4000000 in
theorem vX12_groupCount_9 {G : GG} {κ : KK} {F : Nat}  (C : Cx G κ cX12_groupCount RX12 (some .int) 5 rmX12_groupCount) {M' : Mem} {r : Int32} (hQ : HQ G κ (QI G r M') 0 0)  {kx : Int32 → Mem → Option (Int32 × Mem)} (hk : ∀ (v1 : Int32) (M : Mem), kx v1 M = some (r, M') → V G κ 5 0 0 M 81 [(1, .int v1)] []) : ∀ (n : Nat) (v1 : Int32) (v2 : Int32) (M : Mem), fX12_groupCount_9 F  kx n v1 v2 M = some (r, M') → V G κ 5 0 0 M 9 [(0, .ref (gad G 119)), (1, .int v1), (2, .int v2)] [] := by
  intro n
  induction n with
  | zero => intro v1 v2 M h; rw [fX12_groupCount_9] at h; cases h
  | succ n ih =>
    intro v1 v2 M h
    rw [fX12_groupCount_9] at h
    refine V_iload_n 9 C 2 dX12_groupCount_9 rfl ?_
    refine V_aload_n 10 C 0 dX12_groupCount_10 rfl ?_
    refine V_get (v := .ref (gad G 120)) 11 C dX12_groupCount_11 (ltl (by rfl) rfl) (ceR_X12 (by rfl)) rfl inX12 6 rfl wk_6_140 rfl rfl ?_
    refine V_iconst 14 C dX12_groupCount_14 ic0 ?_
    refine V_ialdJ 15 C dX12_groupCount_15 (akI_26 (by rfl)) (al_26 (by rfl)) (by decide) (j := 0) (by decide) ?_
    refine V_icmp_ge 16 81 C dX12_groupCount_16 (by decide) (fun c4 => ?_) (fun c4 => ?_)
    · replace h := ite_t c4 h
      refine V_sub [1] rfl ?_
      exact hk _ _ h
    · replace h := ite_f c4 h
      refine V_aload_n 19 C 0 dX12_groupCount_19 rfl ?_
      refine V_iload_n 20 C 2 dX12_groupCount_20 rfl ?_
      obtain ⟨M5, k6, h⟩ := bindV_some h
      refine V_callV 21 (runVO (k := 119) (rest := []) 21 C (kX12_distancesTo  k6) cf_X12_distancesTo wk_7_113 (ltl (by rfl) rfl) (ceR_X12 (by rfl)) rfl rfl rfl rfl dX12_groupCount_21 rfl rfl (Nat.zero_le _) (Nat.zero_le _)) ?_
      refine V_iconst 24 C dX12_groupCount_24 ic1 ?_
      refine V_istore_n 25 C [(3, .int 1), (0, .ref (gad G 119)), (1, .int v1), (2, .int v2)] dX12_groupCount_25 rfl rfl rfl ?_
      refine V_iconst 26 C dX12_groupCount_26 ic0 ?_
      refine V_istore 27 C [(4, .int 0), (3, .int 1), (0, .ref (gad G 119)), (1, .int v1), (2, .int v2)] dX12_groupCount_27 rfl rfl ?_
      refine V_sub [2, 3, 4, 1, 0] rfl ?_
      refine vX12_groupCount_29  C hQ ?_ _ _ _ _ h
      intro w18 M17 h
      refine V_iload_n 63 C 1 dX12_groupCount_63 rfl ?_
      refine V_iload_n 64 C 3 dX12_groupCount_64 rfl ?_
      refine V_if_eq 65 72 C dX12_groupCount_65 (by decide) (fun c19 => ?_) (fun c19 => ?_)
      · replace h := ite_t c19 h
        refine V_iconst 72 C dX12_groupCount_72 ic0 ?_
        refine V_iadd 73 C dX12_groupCount_73 ?_
        obtain ⟨x20, e21, h⟩ := letM_some h
        refine V_top e21 ?_
        refine V_istore_n 74 C [(1, .int x20), (0, .ref (gad G 119)), (2, .int v2), (3, .int w18)] dX12_groupCount_74 rfl rfl rfl ?_
        obtain ⟨x22, e23, h⟩ := letM_some h
        refine V_iinc 75 C [(2, .int x22), (1, .int x20), (0, .ref (gad G 119)), (3, .int w18)] 2 x22 dX12_groupCount_75 rfl (by rw [e23]; rfl) rfl rfl ?_
        refine V_goto 78 9 C dX12_groupCount_78 (by decide) ?_
        refine V_sub [2, 1, 0] rfl ?_
        exact ih _ _ _ h
      · replace h := ite_f c19 h
        refine V_iconst 68 C dX12_groupCount_68 ic1 ?_
        refine V_goto 69 73 C dX12_groupCount_69 (by decide) ?_
        refine V_iadd 73 C dX12_groupCount_73 ?_
        obtain ⟨x24, e25, h⟩ := letM_some h
        refine V_top e25 ?_
        refine V_istore_n 74 C [(1, .int x24), (0, .ref (gad G 119)), (2, .int v2), (3, .int w18)] dX12_groupCount_74 rfl rfl rfl ?_
        obtain ⟨x26, e27, h⟩ := letM_some h
        refine V_iinc 75 C [(2, .int x26), (1, .int x24), (0, .ref (gad G 119)), (3, .int w18)] 2 x26 dX12_groupCount_75 rfl (by rw [e27]; rfl) rfl rfl ?_
        refine V_goto 78 9 C dX12_groupCount_78 (by decide) ?_
        refine V_sub [2, 1, 0] rfl ?_
        exact ih _ _ _ h
set_option maxHeartbeats 4000000 in
theorem kX12_groupCount {G : GG} {l : Launch} {F : Nat}   {M M' : Mem} {r : Int32} (h : fX12_groupCount F  M = some (r, M')) : Con G l yX12_groupCount cX12_groupCount 5 (some .int) rmX12_groupCount [.ref (gad G 119)] M (QI G r M') := by
  refine con_of pnX12 (Nat.le_of_ble_eq_true rfl) (fun κ C hQ => ?_)
  unfold fX12_groupCount at h
  refine V_L (L1 := [(0, .ref (gad G 119))]) rfl ?_
  refine V_aload_n 0 C 0 dX12_groupCount_0 rfl ?_
  refine V_iconst 1 C dX12_groupCount_1 ic0 ?_
  obtain ⟨M1, e2, h⟩ := letM_some h
  refine V_put (ty := .int) (F := F_X12 G 119) 2 C dX12_groupCount_2 (ltl (by rfl) rfl) (fun _ => ceR_X12 (by rfl)) rfl inX12 tyX12 tyX12_ok nmX12 0 rfl wk_6_134 rfl rfl 0 rfl rfl rfl rfl rfl ?_
  refine V_eqM e2 ?_
  refine V_iconst 5 C dX12_groupCount_5 ic0 ?_
  refine V_istore_n 6 C [(1, .int 0), (0, .ref (gad G 119))] dX12_groupCount_6 rfl rfl rfl ?_
  refine V_iconst 7 C dX12_groupCount_7 ic0 ?_
  refine V_istore_n 8 C [(2, .int 0), (1, .int 0), (0, .ref (gad G 119))] dX12_groupCount_8 rfl rfl rfl ?_
  refine V_sub [2, 1, 0] rfl ?_
  refine vX12_groupCount_9  C hQ ?_ _ _ _ _ h
  intro w29 M28 h
  refine V_iload_n 81 C 0 dX12_groupCount_81 rfl ?_
  exact V_ireth 82 C hQ h dX12_groupCount_82
