def rmX12_isBetween : Room := { frames := 0, cells := 0, slots := 0, locals := 0 }
def fX12_isBetween (F : Nat) (p0 : Int32) (p1 : Int32) (p2 : Int32) (M : Mem) : Option (Bool × Mem) := if p0 < p1 then some (false, M) else if p2 < p0 then some (false, M) else some (true, M)
def rmX12_denies : Room := { frames := 0, cells := 0, slots := 0, locals := 0 }
def fX12_denies (F : Nat) (p0 : Int32) (p1 : Int32) (p2 : Int32) (M : Mem) : Option (Int32 × Mem) := letM (up2 M 119 1 p0) (fun M1 => letM (up2 M1 119 2 p1) (fun M3 => some (p2, M3)))
def rmX12_refuses : Room := { frames := 1, cells := 0, slots := 0, locals := 21 }
def fX12_refuses (F : Nat) (p0 : Int32) (M : Mem) : Option (Int32 × Mem) := if (M 119 1) ≤ 0 then letM (up2 M 119 1 0) (fun M2 => bindM (fX12_fails F p0 M2) (fun r6 M4 => some (r6, M4))) else letM (up2 M 119 3 (M 119 1)) (fun M7 => letM (up2 M7 119 4 (M7 119 2)) (fun M9 => letM (up2 M9 119 5 0) (fun M11 => letM (up2 M11 119 1 0) (fun M13 => bindM (fX12_fails F p0 M13) (fun r17 M15 => some (r17, M15))))))
def rmX12_copies : Room := { frames := 0, cells := 0, slots := 0, locals := 0 }
def fX12_copies_2 (F : Nat)   (kx : Mem → Option Mem) : Nat → Int32 → Mem → Option Mem
  | 0, _, _ => none
  | n + 1, v1, M => if 216 ≤ v1 then kx  M else chk (inb v1 216) (chk (inb v1 216) (letM (up2 M 123 v1.toNatClampNeg (M 120 v1.toNatClampNeg)) (fun M4 => letM (v1 + 1) (fun x6 => fX12_copies_2 F  kx n x6 M4))))
def fX12_copies (F : Nat)  (M : Mem) : Option Mem := fX12_copies_2 F  (fun M8 => some M8) F 0 M
def rmX12_goesBack : Room := { frames := 0, cells := 0, slots := 0, locals := 0 }
def fX12_goesBack_2 (F : Nat)   (kx : Mem → Option Mem) : Nat → Int32 → Mem → Option Mem
  | 0, _, _ => none
  | n + 1, v1, M => if 216 ≤ v1 then kx  M else chk (inb v1 216) (chk (inb v1 216) (letM (up2 M 120 v1.toNatClampNeg (M 123 v1.toNatClampNeg)) (fun M4 => letM (v1 + 1) (fun x6 => fX12_goesBack_2 F  kx n x6 M4))))
def fX12_goesBack (F : Nat)  (M : Mem) : Option Mem := fX12_goesBack_2 F  (fun M8 => some M8) F 0 M
def rmX12_keeps : Room := { frames := 0, cells := 0, slots := 0, locals := 0 }
def fX12_keeps_47 (F : Nat)  (q1 : Int32) (kx : Mem → Option Mem) : Nat → Int32 → Mem → Option Mem
  | 0, _, _ => none
  | n + 1, v2, M => if 216 ≤ v2 then kx  M else chk (inb v2 216) (chk (inb ((216 * q1) + v2) 1728) (letM (up2 M 121 ((216 * q1) + v2).toNatClampNeg (M 123 v2.toNatClampNeg)) (fun M7 => letM (v2 + 1) (fun x9 => fX12_keeps_47 F q1 kx n x9 M7))))
def fX12_keeps (F : Nat)  (M : Mem) : Option Mem := if (M 119 11) = 8 then letM (up2 M 119 12 (irm ((M 119 12) + 1) 8)) (fun M14 => letM (up2 M14 119 11 ((M14 119 11) - 1)) (fun M16 => letM (irm ((M16 119 12) + (M16 119 11)) 8) (fun x18 => fX12_keeps_47 F x18 (fun M20 => letM (up2 M20 119 11 ((M20 119 11) + 1)) (fun M21 => some M21)) F 0 M16))) else letM (irm ((M 119 12) + (M 119 11)) 8) (fun x2 => fX12_keeps_47 F x2 (fun M11 => letM (up2 M11 119 11 ((M11 119 11) + 1)) (fun M12 => some M12)) F 0 M)
def rmX12_remembers : Room := { frames := 1, cells := 0, slots := 0, locals := 22 }
def fX12_remembers (F : Nat)  (M : Mem) : Option Mem := letM (up2 M 119 0 0) (fun M1 => bindV (fX12_copies F  M1) (fun M3 => bindV (fX12_keeps F  M3) (fun M5 => some M5)))
def rmX12_isShelf : Room := { frames := 1, cells := 0, slots := 0, locals := 22 }
def fX12_isShelf (F : Nat) (p0 : Int32) (M : Mem) : Option (Bool × Mem) := bindM (fX12_isBetween F p0 0 ((M 120 0) - 1) M) (fun r4 M2 => some (r4, M2))
def rmX12_isLinked : Room := { frames := 0, cells := 0, slots := 0, locals := 0 }
def fX12_isLinked (F : Nat) (p0 : Int32) (p1 : Int32) (M : Mem) : Option (Bool × Mem) := chk (inb ((38 + (12 * p0)) + p1) 216) (if (M 120 ((38 + (12 * p0)) + p1).toNatClampNeg) = 1 then some (true, M) else some (false, M))
def rmX12_joins : Room := { frames := 0, cells := 0, slots := 0, locals := 0 }
def fX12_joins (F : Nat) (p0 : Int32) (p1 : Int32) (p2 : Int32) (M : Mem) : Option Mem := chk (inb ((38 + (12 * p0)) + p1) 216) (letM (up2 M 120 ((38 + (12 * p0)) + p1).toNatClampNeg p2) (fun M2 => chk (inb ((38 + (12 * p1)) + p0) 216) (letM (up2 M2 120 ((38 + (12 * p1)) + p0).toNatClampNeg p2) (fun M5 => some M5))))
def rmX12_notShelf : Room := { frames := 1, cells := 0, slots := 0, locals := 23 }
def fX12_notShelf (F : Nat) (p0 : Int32) (M : Mem) : Option (Int32 × Mem) := bindM (fX12_isBetween F p0 0 99 M) (fun r3 M1 => if r3 = true then if (M1 120 0) = 12 then bindM (fX12_denies F 1 12 2 M1) (fun r9 M7 => some (r9, M7)) else some (0, M1) else some (1, M1))
def rmX12_addsShelf : Room := { frames := 0, cells := 0, slots := 0, locals := 0 }
def fX12_addsShelf (F : Nat) (p0 : Int32) (M : Mem) : Option (Int32 × Mem) := chk (inb (14 + (M 120 0)) 216) (letM (up2 M 120 (14 + (M 120 0)).toNatClampNeg p0) (fun M3 => letM (up2 M3 120 13 ((M3 120 13) + p0)) (fun M7 => letM (up2 M7 120 0 ((M7 120 0) + 1)) (fun M11 => some (((M11 120 0) - 1), M11)))))
def rmX12_addShelf : Room := { frames := 2, cells := 0, slots := 0, locals := 44 }
def fX12_addShelf (F : Nat) (p0 : Int32) (M : Mem) : Option (Int32 × Mem) := bindM (fX12_notShelf F p0 M) (fun r3 M1 => if r3 = 0 then bindV (fX12_remembers F  M1) (fun M5 => bindM (fX12_addsShelf F p0 M5) (fun r9 M7 => some (r9, M7))) else bindM (fX12_refuses F r3 M1) (fun r12 M10 => some (r12, M10)))
def rmX12_notLink : Room := { frames := 2, cells := 0, slots := 0, locals := 43 }
def fX12_notLink (F : Nat) (p0 : Int32) (p1 : Int32) (M : Mem) : Option (Int32 × Mem) := bindM (fX12_isShelf F p0 M) (fun r3 M1 => if r3 = true then bindM (fX12_isShelf F p1 M1) (fun r7 M5 => if r7 = true then if p0 = p1 then bindM (fX12_denies F 2 p0 2 M5) (fun r25 M23 => some (r25, M23)) else bindM (fX12_isLinked F p0 p1 M5) (fun r12 M10 => if r12 = true then bindM (fX12_denies F 3 (M10 120 1) 2 M10) (fun r22 M20 => some (r22, M20)) else if (M10 120 1) = 20 then bindM (fX12_denies F 1 20 2 M10) (fun r18 M16 => some (r18, M16)) else some (0, M10)) else some (1, M5)) else some (1, M1))
def rmX12_links : Room := { frames := 1, cells := 0, slots := 0, locals := 23 }
def fX12_links (F : Nat) (p0 : Int32) (p1 : Int32) (M : Mem) : Option (Int32 × Mem) := bindV (fX12_joins F p0 p1 1 M) (fun M1 => letM (up2 M1 120 1 ((M1 120 1) + 1)) (fun M5 => some ((M5 120 1), M5)))
def rmX12_link : Room := { frames := 3, cells := 0, slots := 0, locals := 65 }
def fX12_link (F : Nat) (p0 : Int32) (p1 : Int32) (M : Mem) : Option (Int32 × Mem) := bindM (fX12_notLink F p0 p1 M) (fun r3 M1 => if r3 = 0 then bindV (fX12_remembers F  M1) (fun M5 => bindM (fX12_links F p0 p1 M5) (fun r9 M7 => some (r9, M7))) else bindM (fX12_refuses F r3 M1) (fun r12 M10 => some (r12, M10)))
def rmX12_notUnlink : Room := { frames := 2, cells := 0, slots := 0, locals := 43 }
def fX12_notUnlink (F : Nat) (p0 : Int32) (p1 : Int32) (M : Mem) : Option (Int32 × Mem) := bindM (fX12_isShelf F p0 M) (fun r3 M1 => if r3 = true then bindM (fX12_isShelf F p1 M1) (fun r7 M5 => if r7 = true then bindM (fX12_isLinked F p0 p1 M5) (fun r11 M9 => if r11 = true then some (0, M9) else bindM (fX12_denies F 4 (M9 120 1) 2 M9) (fun r16 M14 => some (r16, M14))) else some (1, M5)) else some (1, M1))
def rmX12_unlinks : Room := { frames := 1, cells := 0, slots := 0, locals := 23 }
def fX12_unlinks (F : Nat) (p0 : Int32) (p1 : Int32) (M : Mem) : Option (Int32 × Mem) := bindV (fX12_joins F p0 p1 0 M) (fun M1 => letM (up2 M1 120 1 ((M1 120 1) - 1)) (fun M5 => some ((M5 120 1), M5)))
def rmX12_unlink : Room := { frames := 3, cells := 0, slots := 0, locals := 65 }
def fX12_unlink (F : Nat) (p0 : Int32) (p1 : Int32) (M : Mem) : Option (Int32 × Mem) := bindM (fX12_notUnlink F p0 p1 M) (fun r3 M1 => if r3 = 0 then bindV (fX12_remembers F  M1) (fun M5 => bindM (fX12_unlinks F p0 p1 M5) (fun r9 M7 => some (r9, M7))) else bindM (fX12_refuses F r3 M1) (fun r12 M10 => some (r12, M10)))
def rmX12_notBlind : Room := { frames := 2, cells := 0, slots := 0, locals := 43 }
def fX12_notBlind (F : Nat) (p0 : Int32) (p1 : Int32) (M : Mem) : Option (Int32 × Mem) := bindM (fX12_isShelf F p0 M) (fun r3 M1 => if r3 = true then chk (inb (26 + p0) 216) (if (M1 120 (26 + p0).toNatClampNeg) = p1 then bindM (fX12_denies F 5 p1 2 M1) (fun r9 M7 => some (r9, M7)) else some (0, M1)) else some (1, M1))
def rmX12_blinds : Room := { frames := 0, cells := 0, slots := 0, locals := 0 }
def fX12_blinds_15 (F : Nat)   (kx : Int32 → Mem → Option (Int32 × Mem)) : Nat → Int32 → Int32 → Mem → Option (Int32 × Mem)
  | 0, _, _, _ => none
  | n + 1, v3, v4, M => if (M 120 0) ≤ v4 then kx v3 M else chk (inb (26 + v4) 216) (letM (v3 + (M 120 (26 + v4).toNatClampNeg)) (fun x7 => letM (v4 + 1) (fun x9 => fX12_blinds_15 F  kx n x7 x9 M)))
def fX12_blinds (F : Nat) (p0 : Int32) (p1 : Int32) (M : Mem) : Option (Int32 × Mem) := chk (inb (26 + p0) 216) (letM (up2 M 120 (26 + p0).toNatClampNeg p1) (fun M2 => fX12_blinds_15 F  (fun w12 M11 => some (w12, M11)) F 0 0 M2))
def rmX12_setBlind : Room := { frames := 3, cells := 0, slots := 0, locals := 65 }
def fX12_setBlind (F : Nat) (p0 : Int32) (p1 : Bool) (M : Mem) : Option (Int32 × Mem) := if p1 = true then bindM (fX12_notBlind F p0 1 M) (fun r16 M14 => if r16 = 0 then bindV (fX12_remembers F  M14) (fun M18 => bindM (fX12_blinds F p0 1 M18) (fun r22 M20 => some (r22, M20))) else bindM (fX12_refuses F r16 M14) (fun r25 M23 => some (r25, M23))) else bindM (fX12_notBlind F p0 0 M) (fun r4 M2 => if r4 = 0 then bindV (fX12_remembers F  M2) (fun M6 => bindM (fX12_blinds F p0 0 M6) (fun r10 M8 => some (r10, M8))) else bindM (fX12_refuses F r4 M2) (fun r13 M11 => some (r13, M11)))
def rmX12_notFill : Room := { frames := 2, cells := 0, slots := 0, locals := 43 }
def fX12_notFill (F : Nat) (p0 : Int32) (p1 : Int32) (M : Mem) : Option (Int32 × Mem) := bindM (fX12_isShelf F p0 M) (fun r3 M1 => if r3 = true then bindM (fX12_isBetween F p1 1 99 M1) (fun r7 M5 => if r7 = true then chk (inb (14 + p0) 216) (if ((M5 120 (14 + p0).toNatClampNeg) + p1) ≤ 99 then some (0, M5) else bindM (fX12_denies F 1 99 3 M5) (fun r13 M11 => some (r13, M11))) else some (2, M5)) else some (1, M1))
def rmX12_fills : Room := { frames := 0, cells := 0, slots := 0, locals := 0 }
def fX12_fills (F : Nat) (p0 : Int32) (p1 : Int32) (M : Mem) : Option (Int32 × Mem) := chk (inb (14 + p0) 216) (chk (inb (14 + p0) 216) (letM (up2 M 120 (14 + p0).toNatClampNeg ((M 120 (14 + p0).toNatClampNeg) + p1)) (fun M3 => letM (up2 M3 120 13 ((M3 120 13) + p1)) (fun M7 => chk (inb (14 + p0) 216) (some ((M7 120 (14 + p0).toNatClampNeg), M7))))))
def rmX12_fill : Room := { frames := 3, cells := 0, slots := 0, locals := 65 }
def fX12_fill (F : Nat) (p0 : Int32) (p1 : Int32) (M : Mem) : Option (Int32 × Mem) := bindM (fX12_notFill F p0 p1 M) (fun r3 M1 => if r3 = 0 then bindV (fX12_remembers F  M1) (fun M5 => bindM (fX12_fills F p0 p1 M5) (fun r9 M7 => some (r9, M7))) else bindM (fX12_refuses F r3 M1) (fun r12 M10 => some (r12, M10)))
def rmX12_notStop : Room := { frames := 2, cells := 0, slots := 0, locals := 43 }
def fX12_notStop (F : Nat) (p0 : Int32) (M : Mem) : Option (Int32 × Mem) := bindM (fX12_isShelf F p0 M) (fun r3 M1 => if r3 = true then if (M1 120 2) = 10 then bindM (fX12_denies F 1 10 2 M1) (fun r9 M7 => some (r9, M7)) else some (0, M1) else some (1, M1))
def rmX12_addsStop : Room := { frames := 0, cells := 0, slots := 0, locals := 0 }
def fX12_addsStop (F : Nat) (p0 : Int32) (M : Mem) : Option (Int32 × Mem) := chk (inb (182 + (M 120 2)) 216) (letM (up2 M 120 (182 + (M 120 2)).toNatClampNeg p0) (fun M3 => letM (up2 M3 120 2 ((M3 120 2) + 1)) (fun M7 => some ((M7 120 2), M7))))
def rmX12_addStop : Room := { frames := 3, cells := 0, slots := 0, locals := 64 }
def fX12_addStop (F : Nat) (p0 : Int32) (M : Mem) : Option (Int32 × Mem) := bindM (fX12_notStop F p0 M) (fun r3 M1 => if r3 = 0 then bindV (fX12_remembers F  M1) (fun M5 => bindM (fX12_addsStop F p0 M5) (fun r9 M7 => some (r9, M7))) else bindM (fX12_refuses F r3 M1) (fun r12 M10 => some (r12, M10)))
def rmX12_notDrop : Room := { frames := 1, cells := 0, slots := 0, locals := 22 }
def fX12_notDrop (F : Nat) (p0 : Int32) (M : Mem) : Option (Int32 × Mem) := bindM (fX12_isBetween F p0 0 ((M 120 2) - 1) M) (fun r4 M2 => if r4 = true then some (0, M2) else some (1, M2))
def rmX12_drops : Room := { frames := 0, cells := 0, slots := 0, locals := 0 }
def fX12_drops_23 (F : Nat)  (q1 : Int32) (q2 : Int32) (kx : Mem → Option (Int32 × Mem)) : Nat → Int32 → Mem → Option (Int32 × Mem)
  | 0, _, _ => none
  | n + 1, v3, M => if (M 120 2) ≤ v3 then kx  M else chk (inb ((182 + v3) + 1) 216) (chk (inb (182 + v3) 216) (letM (up2 M 120 (182 + v3).toNatClampNeg (M 120 ((182 + v3) + 1).toNatClampNeg)) (fun M12 => letM (v3 + 1) (fun x14 => fX12_drops_23 F q1 q2 kx n x14 M12))))
def fX12_drops (F : Nat) (p0 : Int32) (M : Mem) : Option (Int32 × Mem) := chk (inb (182 + p0) 216) (letM (M 120 (182 + p0).toNatClampNeg) (fun x2 => letM (up2 M 120 2 ((M 120 2) - 1)) (fun M6 => fX12_drops_23 F p0 x2 (fun M16 => chk (inb (182 + (M16 120 2)) 216) (letM (up2 M16 120 (182 + (M16 120 2)).toNatClampNeg 0) (fun M19 => if (M19 120 4) ≤ p0 then if (M19 120 4) < (M19 120 2) then some (x2, M19) else letM (up2 M19 120 4 0) (fun M27 => some (x2, M27)) else letM (up2 M19 120 4 ((M19 120 4) - 1)) (fun M31 => if (M31 120 4) < (M31 120 2) then some (x2, M31) else letM (up2 M31 120 4 0) (fun M37 => some (x2, M37)))))) F p0 M6)))
def rmX12_removeStop : Room := { frames := 2, cells := 0, slots := 0, locals := 43 }
def fX12_removeStop (F : Nat) (p0 : Int32) (M : Mem) : Option (Int32 × Mem) := bindM (fX12_notDrop F p0 M) (fun r3 M1 => if r3 = 0 then bindV (fX12_remembers F  M1) (fun M5 => bindM (fX12_drops F p0 M5) (fun r9 M7 => some (r9, M7))) else bindM (fX12_refuses F 1 M1) (fun r12 M10 => some (r12, M10)))
def rmX12_distancesTo : Room := { frames := 1, cells := 0, slots := 0, locals := 22 }
def fX12_distancesTo_2 (F : Nat)  (q1 : Int32) (kx : Mem → Option Mem) : Nat → Int32 → Mem → Option Mem
  | 0, _, _ => none
  | n + 1, v2, M => if (M 120 0) ≤ v2 then kx  M else if v2 = q1 then chk (inb v2 12) (letM (up2 M 125 v2.toNatClampNeg 0) (fun M10 => letM (v2 + 1) (fun x12 => fX12_distancesTo_2 F q1 kx n x12 M10))) else chk (inb v2 12) (letM (up2 M 125 v2.toNatClampNeg 99) (fun M5 => letM (v2 + 1) (fun x7 => fX12_distancesTo_2 F q1 kx n x7 M5)))
def fX12_distancesTo_58 (F : Nat)  (q3 : Int32) (kx : Int32 → Mem → Option Mem) : Nat → Int32 → Int32 → Mem → Option Mem
  | 0, _, _, _ => none
  | n + 1, v2, v4, M => if (M 120 0) ≤ v4 then kx v2 M else bindM (fX12_isLinked F q3 v4 M) (fun r22 M20 => if r22 = true then chk (inb v4 12) (chk (inb q3 12) (if ((M20 125 v4.toNatClampNeg) + 1) < (M20 125 q3.toNatClampNeg) then chk (inb v4 12) (chk (inb q3 12) (letM (up2 M20 125 q3.toNatClampNeg ((M20 125 v4.toNatClampNeg) + 1)) (fun M31 => letM (v4 + 1) (fun x33 => fX12_distancesTo_58 F q3 kx n 1 x33 M31)))) else letM (v4 + 1) (fun x35 => fX12_distancesTo_58 F q3 kx n v2 x35 M20))) else letM (v4 + 1) (fun x24 => fX12_distancesTo_58 F q3 kx n v2 x24 M20))
def fX12_distancesTo_45 (F : Nat)   (kx : Int32 → Mem → Option Mem) : Nat → Int32 → Int32 → Mem → Option Mem
  | 0, _, _, _ => none
  | n + 1, v2, v3, M => if (M 120 0) ≤ v3 then kx v2 M else fX12_distancesTo_58 F v3 (fun w38 M37 => letM (v3 + 1) (fun x39 => fX12_distancesTo_45 F  kx n w38 x39 M37)) F v2 0 M
def fX12_distancesTo_37 (F : Nat)   (kx : Mem → Option Mem) : Nat → Int32 → Mem → Option Mem
  | 0, _, _ => none
  | n + 1, v2, M => if v2 = 0 then kx  M else fX12_distancesTo_45 F  (fun w42 M41 => fX12_distancesTo_37 F  kx n w42 M41) F 0 0 M
def fX12_distancesTo (F : Nat) (p0 : Int32) (M : Mem) : Option Mem := fX12_distancesTo_2 F p0 (fun M14 => fX12_distancesTo_37 F  (fun M43 => some M43) F 1 M14) F 0 M
set_option maxHeartbeats 4000000 in
theorem kX12_isBetween {G : GG} {l : Launch} {F : Nat}  {p0 : Int32} {p1 : Int32} {p2 : Int32} {M M' : Mem} {r : Bool} (h : fX12_isBetween F p0 p1 p2 M = some (r, M')) : Con G l yX12_isBetween cX12_isBetween 3 (some .boolean) rmX12_isBetween [.int p0, .int p1, .int p2] M (QI G (b2i r) M') := by
  refine con_of pnX12 (Nat.le_of_ble_eq_true rfl) (fun κ C hQ => ?_)
  unfold fX12_isBetween at h
  refine V_L (L1 := [(0, .int p0), (1, .int p1), (2, .int p2)]) rfl ?_
  refine V_iload_n 0 C 1 dX12_isBetween_0 rfl ?_
  refine V_iload_n 1 C 0 dX12_isBetween_1 rfl ?_
  refine V_icmp_gt 2 14 C dX12_isBetween_2 (by decide) (fun c1 => ?_) (fun c1 => ?_)
  · replace h := ite_t c1 h
    refine V_iconst 14 C dX12_isBetween_14 ic0 ?_
    exact V_zreth 15 C hQ h dX12_isBetween_15
  · replace h := ite_f c1 h
    refine V_iload_n 5 C 0 dX12_isBetween_5 rfl ?_
    refine V_iload_n 6 C 2 dX12_isBetween_6 rfl ?_
    refine V_icmp_gt 7 14 C dX12_isBetween_7 (by decide) (fun c2 => ?_) (fun c2 => ?_)
    · replace h := ite_t c2 h
      refine V_iconst 14 C dX12_isBetween_14 ic0 ?_
      exact V_zreth 15 C hQ h dX12_isBetween_15
    · replace h := ite_f c2 h
      refine V_iconst 10 C dX12_isBetween_10 ic1 ?_
      refine V_goto 11 15 C dX12_isBetween_11 (by decide) ?_
      exact V_zreth 15 C hQ h dX12_isBetween_15
set_option maxHeartbeats 4000000 in
theorem kX12_denies {G : GG} {l : Launch} {F : Nat}  {p0 : Int32} {p1 : Int32} {p2 : Int32} {M M' : Mem} {r : Int32} (h : fX12_denies F p0 p1 p2 M = some (r, M')) : Con G l yX12_denies cX12_denies 4 (some .int) rmX12_denies [.ref (gad G 119), .int p0, .int p1, .int p2] M (QI G r M') := by
  refine con_of pnX12 (Nat.le_of_ble_eq_true rfl) (fun κ C hQ => ?_)
  unfold fX12_denies at h
  refine V_L (L1 := [(0, .ref (gad G 119)), (1, .int p0), (2, .int p1), (3, .int p2)]) rfl ?_
  refine V_aload_n 0 C 0 dX12_denies_0 rfl ?_
  refine V_iload_n 1 C 1 dX12_denies_1 rfl ?_
  obtain ⟨M1, e2, h⟩ := letM_some h
  refine V_put (ty := .int) (F := F_X12 G 119) 2 C dX12_denies_2 (ltl (by rfl) rfl) (fun _ => ceR_X12 (by rfl)) rfl inX12 tyX12 tyX12_ok nmX12 1 rfl wk_6_135 rfl rfl p0 rfl rfl rfl rfl rfl ?_
  refine V_eqM e2 ?_
  refine V_aload_n 5 C 0 dX12_denies_5 rfl ?_
  refine V_iload_n 6 C 2 dX12_denies_6 rfl ?_
  obtain ⟨M3, e4, h⟩ := letM_some h
  refine V_put (ty := .int) (F := F_X12 G 119) 7 C dX12_denies_7 (ltl (by rfl) rfl) (fun _ => ceR_X12 (by rfl)) rfl inX12 tyX12 tyX12_ok nmX12 2 rfl wk_6_136 rfl rfl p1 rfl rfl rfl rfl rfl ?_
  refine V_eqM e4 ?_
  refine V_iload_n 10 C 3 dX12_denies_10 rfl ?_
  exact V_ireth 11 C hQ h dX12_denies_11
set_option maxHeartbeats 4000000 in
theorem kX12_refuses {G : GG} {l : Launch} {F : Nat}  {p0 : Int32} {M M' : Mem} {r : Int32} (h : fX12_refuses F p0 M = some (r, M')) : Con G l yX12_refuses cX12_refuses 2 (some .int) rmX12_refuses [.ref (gad G 119), .int p0] M (QI G r M') := by
  refine con_of pnX12 (Nat.le_of_ble_eq_true rfl) (fun κ C hQ => ?_)
  unfold fX12_refuses at h
  refine V_L (L1 := [(0, .ref (gad G 119)), (1, .int p0)]) rfl ?_
  refine V_aload_n 0 C 0 dX12_refuses_0 rfl ?_
  refine V_get (v := .int (M 119 1)) 1 C dX12_refuses_1 (ltl (by rfl) rfl) (ceR_X12 (by rfl)) rfl inX12 1 rfl wk_6_135 rfl rfl ?_
  refine V_if_le 4 28 C dX12_refuses_4 (by decide) (fun c1 => ?_) (fun c1 => ?_)
  · replace h := ite_t c1 h
    refine V_aload_n 28 C 0 dX12_refuses_28 rfl ?_
    refine V_iconst 29 C dX12_refuses_29 ic0 ?_
    obtain ⟨M2, e3, h⟩ := letM_some h
    refine V_put (ty := .int) (F := F_X12 G 119) 30 C dX12_refuses_30 (ltl (by rfl) rfl) (fun _ => ceR_X12 (by rfl)) rfl inX12 tyX12 tyX12_ok nmX12 1 rfl wk_6_135 rfl rfl 0 rfl rfl rfl rfl rfl ?_
    refine V_eqM e3 ?_
    refine V_aload_n 33 C 0 dX12_refuses_33 rfl ?_
    refine V_iload_n 34 C 1 dX12_refuses_34 rfl ?_
    obtain ⟨r6, M4, k5, h⟩ := bindM_some h
    refine V_callI 35 (runVO (k := 119) (rest := []) 35 C (kX12_fails  k5) cf_X12_fails wk_6_226 (ltl (by rfl) rfl) (ceR_X12 (by rfl)) rfl rfl rfl rfl dX12_refuses_35 rfl rfl (Nat.zero_le _) (Nat.zero_le _)) ?_
    exact V_ireth 38 C hQ h dX12_refuses_38
  · replace h := ite_f c1 h
    refine V_aload_n 7 C 0 dX12_refuses_7 rfl ?_
    refine V_aload_n 8 C 0 dX12_refuses_8 rfl ?_
    refine V_get (v := .int (M 119 1)) 9 C dX12_refuses_9 (ltl (by rfl) rfl) (ceR_X12 (by rfl)) rfl inX12 1 rfl wk_6_135 rfl rfl ?_
    obtain ⟨M7, e8, h⟩ := letM_some h
    refine V_put (ty := .int) (F := F_X12 G 119) 12 C dX12_refuses_12 (ltl (by rfl) rfl) (fun _ => ceR_X12 (by rfl)) rfl inX12 tyX12 tyX12_ok nmX12 3 rfl wk_6_137 rfl rfl (M 119 1) rfl rfl rfl rfl rfl ?_
    refine V_eqM e8 ?_
    refine V_aload_n 15 C 0 dX12_refuses_15 rfl ?_
    refine V_aload_n 16 C 0 dX12_refuses_16 rfl ?_
    refine V_get (v := .int (M7 119 2)) 17 C dX12_refuses_17 (ltl (by rfl) rfl) (ceR_X12 (by rfl)) rfl inX12 2 rfl wk_6_136 rfl rfl ?_
    obtain ⟨M9, e10, h⟩ := letM_some h
    refine V_put (ty := .int) (F := F_X12 G 119) 20 C dX12_refuses_20 (ltl (by rfl) rfl) (fun _ => ceR_X12 (by rfl)) rfl inX12 tyX12 tyX12_ok nmX12 4 rfl wk_6_138 rfl rfl (M7 119 2) rfl rfl rfl rfl rfl ?_
    refine V_eqM e10 ?_
    refine V_aload_n 23 C 0 dX12_refuses_23 rfl ?_
    refine V_iconst 24 C dX12_refuses_24 ic0 ?_
    obtain ⟨M11, e12, h⟩ := letM_some h
    refine V_put (ty := .int) (F := F_X12 G 119) 25 C dX12_refuses_25 (ltl (by rfl) rfl) (fun _ => ceR_X12 (by rfl)) rfl inX12 tyX12 tyX12_ok nmX12 5 rfl wk_6_139 rfl rfl 0 rfl rfl rfl rfl rfl ?_
    refine V_eqM e12 ?_
    refine V_aload_n 28 C 0 dX12_refuses_28 rfl ?_
    refine V_iconst 29 C dX12_refuses_29 ic0 ?_
    obtain ⟨M13, e14, h⟩ := letM_some h
    refine V_put (ty := .int) (F := F_X12 G 119) 30 C dX12_refuses_30 (ltl (by rfl) rfl) (fun _ => ceR_X12 (by rfl)) rfl inX12 tyX12 tyX12_ok nmX12 1 rfl wk_6_135 rfl rfl 0 rfl rfl rfl rfl rfl ?_
    refine V_eqM e14 ?_
    refine V_aload_n 33 C 0 dX12_refuses_33 rfl ?_
    refine V_iload_n 34 C 1 dX12_refuses_34 rfl ?_
    obtain ⟨r17, M15, k16, h⟩ := bindM_some h
    refine V_callI 35 (runVO (k := 119) (rest := []) 35 C (kX12_fails  k16) cf_X12_fails wk_6_226 (ltl (by rfl) rfl) (ceR_X12 (by rfl)) rfl rfl rfl rfl dX12_refuses_35 rfl rfl (Nat.zero_le _) (Nat.zero_le _)) ?_
    exact V_ireth 38 C hQ h dX12_refuses_38
set_option maxHeartbeats 4000000 in
theorem vX12_copies_2 {G : GG} {κ : KK} {F : Nat}  (C : Cx G κ cX12_copies RX12 none 2 rmX12_copies) {M' : Mem}  (hQ : HQ G κ (QV G M') 0 0)  {kx : Mem → Option Mem} (hk : ∀  (M : Mem), kx  M = some M' → V G κ 2 0 0 M 27 [] []) : ∀ (n : Nat) (v1 : Int32) (M : Mem), fX12_copies_2 F  kx n v1 M = some M' → V G κ 2 0 0 M 2 [(0, .ref (gad G 119)), (1, .int v1)] [] := by
  intro n
  induction n with
  | zero => intro v1 M h; rw [fX12_copies_2] at h; cases h
  | succ n ih =>
    intro v1 M h
    rw [fX12_copies_2] at h
    refine V_iload_n 2 C 1 dX12_copies_2 rfl ?_
    refine V_sipush 3 C dX12_copies_3 sp216 ?_
    refine V_icmp_ge 6 27 C dX12_copies_6 (by decide) (fun c1 => ?_) (fun c1 => ?_)
    · replace h := ite_t c1 h
      refine V_sub [] rfl ?_
      exact hk  _ h
    · replace h := ite_f c1 h
      refine V_aload_n 9 C 0 dX12_copies_9 rfl ?_
      refine V_get (v := .ref (gad G 123)) 10 C dX12_copies_10 (ltl (by rfl) rfl) (ceR_X12 (by rfl)) rfl inX12 9 rfl wk_6_143 rfl rfl ?_
      refine V_iload_n 13 C 1 dX12_copies_13 rfl ?_
      refine V_aload_n 14 C 0 dX12_copies_14 rfl ?_
      refine V_get (v := .ref (gad G 120)) 15 C dX12_copies_15 (ltl (by rfl) rfl) (ceR_X12 (by rfl)) rfl inX12 6 rfl wk_6_140 rfl rfl ?_
      refine V_iload_n 18 C 1 dX12_copies_18 rfl ?_
      obtain ⟨c2, h⟩ := chk_some h
      refine V_iald 19 C dX12_copies_19 (akI_26 (by rfl)) (al_26 (by rfl)) c2 ?_
      obtain ⟨c3, h⟩ := chk_some h
      obtain ⟨M4, e5, h⟩ := letM_some h
      refine V_iast 20 C dX12_copies_20 (akI_26 (by rfl)) (al_26 (by rfl)) c3 ?_
      refine V_eqM e5 ?_
      obtain ⟨x6, e7, h⟩ := letM_some h
      refine V_iinc 21 C [(1, .int x6), (0, .ref (gad G 119))] 1 x6 dX12_copies_21 rfl (by rw [e7]; rfl) rfl rfl ?_
      refine V_goto 24 2 C dX12_copies_24 (by decide) ?_
      refine V_sub [1, 0] rfl ?_
      exact ih _ _ h
set_option maxHeartbeats 4000000 in
theorem kX12_copies {G : GG} {l : Launch} {F : Nat}   {M M' : Mem}  (h : fX12_copies F  M = some M') : Con G l yX12_copies cX12_copies 2 none rmX12_copies [.ref (gad G 119)] M (QV G M') := by
  refine con_of pnX12 (Nat.le_of_ble_eq_true rfl) (fun κ C hQ => ?_)
  unfold fX12_copies at h
  refine V_L (L1 := [(0, .ref (gad G 119))]) rfl ?_
  refine V_iconst 0 C dX12_copies_0 ic0 ?_
  refine V_istore_n 1 C [(1, .int 0), (0, .ref (gad G 119))] dX12_copies_1 rfl rfl rfl ?_
  refine V_sub [1, 0] rfl ?_
  refine vX12_copies_2  C hQ ?_ _ _ _ h
  intro M8 h
  exact V_vreth 27 C hQ h dX12_copies_27
set_option maxHeartbeats 4000000 in
theorem vX12_goesBack_2 {G : GG} {κ : KK} {F : Nat}  (C : Cx G κ cX12_goesBack RX12 none 2 rmX12_goesBack) {M' : Mem}  (hQ : HQ G κ (QV G M') 0 0)  {kx : Mem → Option Mem} (hk : ∀  (M : Mem), kx  M = some M' → V G κ 2 0 0 M 27 [] []) : ∀ (n : Nat) (v1 : Int32) (M : Mem), fX12_goesBack_2 F  kx n v1 M = some M' → V G κ 2 0 0 M 2 [(0, .ref (gad G 119)), (1, .int v1)] [] := by
  intro n
  induction n with
  | zero => intro v1 M h; rw [fX12_goesBack_2] at h; cases h
  | succ n ih =>
    intro v1 M h
    rw [fX12_goesBack_2] at h
    refine V_iload_n 2 C 1 dX12_goesBack_2 rfl ?_
    refine V_sipush 3 C dX12_goesBack_3 sp216 ?_
    refine V_icmp_ge 6 27 C dX12_goesBack_6 (by decide) (fun c1 => ?_) (fun c1 => ?_)
    · replace h := ite_t c1 h
      refine V_sub [] rfl ?_
      exact hk  _ h
    · replace h := ite_f c1 h
      refine V_aload_n 9 C 0 dX12_goesBack_9 rfl ?_
      refine V_get (v := .ref (gad G 120)) 10 C dX12_goesBack_10 (ltl (by rfl) rfl) (ceR_X12 (by rfl)) rfl inX12 6 rfl wk_6_140 rfl rfl ?_
      refine V_iload_n 13 C 1 dX12_goesBack_13 rfl ?_
      refine V_aload_n 14 C 0 dX12_goesBack_14 rfl ?_
      refine V_get (v := .ref (gad G 123)) 15 C dX12_goesBack_15 (ltl (by rfl) rfl) (ceR_X12 (by rfl)) rfl inX12 9 rfl wk_6_143 rfl rfl ?_
      refine V_iload_n 18 C 1 dX12_goesBack_18 rfl ?_
      obtain ⟨c2, h⟩ := chk_some h
      refine V_iald 19 C dX12_goesBack_19 (akI_26 (by rfl)) (al_26 (by rfl)) c2 ?_
      obtain ⟨c3, h⟩ := chk_some h
      obtain ⟨M4, e5, h⟩ := letM_some h
      refine V_iast 20 C dX12_goesBack_20 (akI_26 (by rfl)) (al_26 (by rfl)) c3 ?_
      refine V_eqM e5 ?_
      obtain ⟨x6, e7, h⟩ := letM_some h
      refine V_iinc 21 C [(1, .int x6), (0, .ref (gad G 119))] 1 x6 dX12_goesBack_21 rfl (by rw [e7]; rfl) rfl rfl ?_
      refine V_goto 24 2 C dX12_goesBack_24 (by decide) ?_
      refine V_sub [1, 0] rfl ?_
      exact ih _ _ h
set_option maxHeartbeats 4000000 in
theorem kX12_goesBack {G : GG} {l : Launch} {F : Nat}   {M M' : Mem}  (h : fX12_goesBack F  M = some M') : Con G l yX12_goesBack cX12_goesBack 2 none rmX12_goesBack [.ref (gad G 119)] M (QV G M') := by
  refine con_of pnX12 (Nat.le_of_ble_eq_true rfl) (fun κ C hQ => ?_)
  unfold fX12_goesBack at h
  refine V_L (L1 := [(0, .ref (gad G 119))]) rfl ?_
  refine V_iconst 0 C dX12_goesBack_0 ic0 ?_
  refine V_istore_n 1 C [(1, .int 0), (0, .ref (gad G 119))] dX12_goesBack_1 rfl rfl rfl ?_
  refine V_sub [1, 0] rfl ?_
  refine vX12_goesBack_2  C hQ ?_ _ _ _ h
  intro M8 h
  exact V_vreth 27 C hQ h dX12_goesBack_27
set_option maxHeartbeats 4000000 in
theorem vX12_keeps_47 {G : GG} {κ : KK} {F : Nat}  (C : Cx G κ cX12_keeps RX12 none 3 rmX12_keeps) {M' : Mem}  (hQ : HQ G κ (QV G M') 0 0) {q1 : Int32} {kx : Mem → Option Mem} (hk : ∀  (M : Mem), kx  M = some M' → V G κ 3 0 0 M 78 [(0, .ref (gad G 119))] []) : ∀ (n : Nat) (v2 : Int32) (M : Mem), fX12_keeps_47 F q1 kx n v2 M = some M' → V G κ 3 0 0 M 47 [(0, .ref (gad G 119)), (1, .int q1), (2, .int v2)] [] := by
  intro n
  induction n with
  | zero => intro v2 M h; rw [fX12_keeps_47] at h; cases h
  | succ n ih =>
    intro v2 M h
    rw [fX12_keeps_47] at h
    refine V_iload_n 47 C 2 dX12_keeps_47 rfl ?_
    refine V_sipush 48 C dX12_keeps_48 sp216 ?_
    refine V_icmp_ge 51 78 C dX12_keeps_51 (by decide) (fun c4 => ?_) (fun c4 => ?_)
    · replace h := ite_t c4 h
      refine V_sub [0] rfl ?_
      exact hk  _ h
    · replace h := ite_f c4 h
      refine V_aload_n 54 C 0 dX12_keeps_54 rfl ?_
      refine V_get (v := .ref (gad G 121)) 55 C dX12_keeps_55 (ltl (by rfl) rfl) (ceR_X12 (by rfl)) rfl inX12 7 rfl wk_6_141 rfl rfl ?_
      refine V_sipush 58 C dX12_keeps_58 sp216 ?_
      refine V_iload_n 61 C 1 dX12_keeps_61 rfl ?_
      refine V_imul 62 C dX12_keeps_62 ?_
      refine V_iload_n 63 C 2 dX12_keeps_63 rfl ?_
      refine V_iadd 64 C dX12_keeps_64 ?_
      refine V_aload_n 65 C 0 dX12_keeps_65 rfl ?_
      refine V_get (v := .ref (gad G 123)) 66 C dX12_keeps_66 (ltl (by rfl) rfl) (ceR_X12 (by rfl)) rfl inX12 9 rfl wk_6_143 rfl rfl ?_
      refine V_iload_n 69 C 2 dX12_keeps_69 rfl ?_
      obtain ⟨c5, h⟩ := chk_some h
      refine V_iald 70 C dX12_keeps_70 (akI_26 (by rfl)) (al_26 (by rfl)) c5 ?_
      obtain ⟨c6, h⟩ := chk_some h
      obtain ⟨M7, e8, h⟩ := letM_some h
      refine V_iast 71 C dX12_keeps_71 (akI_27 (by rfl)) (al_27 (by rfl)) c6 ?_
      refine V_eqM e8 ?_
      obtain ⟨x9, e10, h⟩ := letM_some h
      refine V_iinc 72 C [(2, .int x9), (0, .ref (gad G 119)), (1, .int q1)] 2 x9 dX12_keeps_72 rfl (by rw [e10]; rfl) rfl rfl ?_
      refine V_goto 75 47 C dX12_keeps_75 (by decide) ?_
      refine V_sub [1, 2, 0] rfl ?_
      exact ih _ _ h
set_option maxHeartbeats 4000000 in
theorem kX12_keeps {G : GG} {l : Launch} {F : Nat}   {M M' : Mem}  (h : fX12_keeps F  M = some M') : Con G l yX12_keeps cX12_keeps 3 none rmX12_keeps [.ref (gad G 119)] M (QV G M') := by
  refine con_of pnX12 (Nat.le_of_ble_eq_true rfl) (fun κ C hQ => ?_)
  unfold fX12_keeps at h
  refine V_L (L1 := [(0, .ref (gad G 119))]) rfl ?_
  refine V_aload_n 0 C 0 dX12_keeps_0 rfl ?_
  refine V_get (v := .int (M 119 11)) 1 C dX12_keeps_1 (ltl (by rfl) rfl) (ceR_X12 (by rfl)) rfl inX12 11 rfl wk_6_145 rfl rfl ?_
  refine V_bipush 4 C dX12_keeps_4 bp8 ?_
  refine V_icmp_ne 6 32 C dX12_keeps_6 (by decide) (fun c1 => ?_) (fun c1 => ?_)
  · replace h := ite_f c1 h
    refine V_aload_n 32 C 0 dX12_keeps_32 rfl ?_
    refine V_get (v := .int (M 119 12)) 33 C dX12_keeps_33 (ltl (by rfl) rfl) (ceR_X12 (by rfl)) rfl inX12 12 rfl wk_6_146 rfl rfl ?_
    refine V_aload_n 36 C 0 dX12_keeps_36 rfl ?_
    refine V_get (v := .int (M 119 11)) 37 C dX12_keeps_37 (ltl (by rfl) rfl) (ceR_X12 (by rfl)) rfl inX12 11 rfl wk_6_145 rfl rfl ?_
    refine V_iadd 40 C dX12_keeps_40 ?_
    refine V_bipush 41 C dX12_keeps_41 bp8 ?_
    refine V_irem 43 C dX12_keeps_43 (by decide) ?_
    obtain ⟨x2, e3, h⟩ := letM_some h
    refine V_top e3 ?_
    refine V_istore_n 44 C [(1, .int x2), (0, .ref (gad G 119))] dX12_keeps_44 rfl rfl rfl ?_
    refine V_iconst 45 C dX12_keeps_45 ic0 ?_
    refine V_istore_n 46 C [(2, .int 0), (1, .int x2), (0, .ref (gad G 119))] dX12_keeps_46 rfl rfl rfl ?_
    refine V_sub [2, 1, 0] rfl ?_
    refine vX12_keeps_47  C hQ ?_ _ _ _ h
    intro M11 h
    refine V_aload_n 78 C 0 dX12_keeps_78 rfl ?_
    refine V_dup 79 C dX12_keeps_79 rfl ?_
    refine V_get (v := .int (M11 119 11)) 80 C dX12_keeps_80 (ltl (by rfl) rfl) (ceR_X12 (by rfl)) rfl inX12 11 rfl wk_6_145 rfl rfl ?_
    refine V_iconst 83 C dX12_keeps_83 ic1 ?_
    refine V_iadd 84 C dX12_keeps_84 ?_
    obtain ⟨M12, e13, h⟩ := letM_some h
    refine V_put (ty := .int) (F := F_X12 G 119) 85 C dX12_keeps_85 (ltl (by rfl) rfl) (fun _ => ceR_X12 (by rfl)) rfl inX12 tyX12 tyX12_ok nmX12 11 rfl wk_6_145 rfl rfl ((M11 119 11) + 1) rfl rfl rfl rfl rfl ?_
    refine V_eqM e13 ?_
    exact V_vreth 88 C hQ h dX12_keeps_88
  · replace h := ite_t c1 h
    refine V_aload_n 9 C 0 dX12_keeps_9 rfl ?_
    refine V_aload_n 10 C 0 dX12_keeps_10 rfl ?_
    refine V_get (v := .int (M 119 12)) 11 C dX12_keeps_11 (ltl (by rfl) rfl) (ceR_X12 (by rfl)) rfl inX12 12 rfl wk_6_146 rfl rfl ?_
    refine V_iconst 14 C dX12_keeps_14 ic1 ?_
    refine V_iadd 15 C dX12_keeps_15 ?_
    refine V_bipush 16 C dX12_keeps_16 bp8 ?_
    refine V_irem 18 C dX12_keeps_18 (by decide) ?_
    obtain ⟨M14, e15, h⟩ := letM_some h
    refine V_put (ty := .int) (F := F_X12 G 119) 19 C dX12_keeps_19 (ltl (by rfl) rfl) (fun _ => ceR_X12 (by rfl)) rfl inX12 tyX12 tyX12_ok nmX12 12 rfl wk_6_146 rfl rfl (irm ((M 119 12) + 1) 8) rfl rfl rfl rfl rfl ?_
    refine V_eqM e15 ?_
    refine V_aload_n 22 C 0 dX12_keeps_22 rfl ?_
    refine V_dup 23 C dX12_keeps_23 rfl ?_
    refine V_get (v := .int (M14 119 11)) 24 C dX12_keeps_24 (ltl (by rfl) rfl) (ceR_X12 (by rfl)) rfl inX12 11 rfl wk_6_145 rfl rfl ?_
    refine V_iconst 27 C dX12_keeps_27 ic1 ?_
    refine V_isub 28 C dX12_keeps_28 ?_
    obtain ⟨M16, e17, h⟩ := letM_some h
    refine V_put (ty := .int) (F := F_X12 G 119) 29 C dX12_keeps_29 (ltl (by rfl) rfl) (fun _ => ceR_X12 (by rfl)) rfl inX12 tyX12 tyX12_ok nmX12 11 rfl wk_6_145 rfl rfl ((M14 119 11) - 1) rfl rfl rfl rfl rfl ?_
    refine V_eqM e17 ?_
    refine V_aload_n 32 C 0 dX12_keeps_32 rfl ?_
    refine V_get (v := .int (M16 119 12)) 33 C dX12_keeps_33 (ltl (by rfl) rfl) (ceR_X12 (by rfl)) rfl inX12 12 rfl wk_6_146 rfl rfl ?_
    refine V_aload_n 36 C 0 dX12_keeps_36 rfl ?_
    refine V_get (v := .int (M16 119 11)) 37 C dX12_keeps_37 (ltl (by rfl) rfl) (ceR_X12 (by rfl)) rfl inX12 11 rfl wk_6_145 rfl rfl ?_
    refine V_iadd 40 C dX12_keeps_40 ?_
    refine V_bipush 41 C dX12_keeps_41 bp8 ?_
    refine V_irem 43 C dX12_keeps_43 (by decide) ?_
    obtain ⟨x18, e19, h⟩ := letM_some h
    refine V_top e19 ?_
    refine V_istore_n 44 C [(1, .int x18), (0, .ref (gad G 119))] dX12_keeps_44 rfl rfl rfl ?_
    refine V_iconst 45 C dX12_keeps_45 ic0 ?_
    refine V_istore_n 46 C [(2, .int 0), (1, .int x18), (0, .ref (gad G 119))] dX12_keeps_46 rfl rfl rfl ?_
    refine V_sub [2, 1, 0] rfl ?_
    refine vX12_keeps_47  C hQ ?_ _ _ _ h
    intro M20 h
    refine V_aload_n 78 C 0 dX12_keeps_78 rfl ?_
    refine V_dup 79 C dX12_keeps_79 rfl ?_
    refine V_get (v := .int (M20 119 11)) 80 C dX12_keeps_80 (ltl (by rfl) rfl) (ceR_X12 (by rfl)) rfl inX12 11 rfl wk_6_145 rfl rfl ?_
    refine V_iconst 83 C dX12_keeps_83 ic1 ?_
    refine V_iadd 84 C dX12_keeps_84 ?_
    obtain ⟨M21, e22, h⟩ := letM_some h
    refine V_put (ty := .int) (F := F_X12 G 119) 85 C dX12_keeps_85 (ltl (by rfl) rfl) (fun _ => ceR_X12 (by rfl)) rfl inX12 tyX12 tyX12_ok nmX12 11 rfl wk_6_145 rfl rfl ((M20 119 11) + 1) rfl rfl rfl rfl rfl ?_
    refine V_eqM e22 ?_
    exact V_vreth 88 C hQ h dX12_keeps_88
set_option maxHeartbeats 4000000 in
theorem kX12_remembers {G : GG} {l : Launch} {F : Nat}   {M M' : Mem}  (h : fX12_remembers F  M = some M') : Con G l yX12_remembers cX12_remembers 1 none rmX12_remembers [.ref (gad G 119)] M (QV G M') := by
  refine con_of pnX12 (Nat.le_of_ble_eq_true rfl) (fun κ C hQ => ?_)
  unfold fX12_remembers at h
  refine V_L (L1 := [(0, .ref (gad G 119))]) rfl ?_
  refine V_aload_n 0 C 0 dX12_remembers_0 rfl ?_
  refine V_iconst 1 C dX12_remembers_1 ic0 ?_
  obtain ⟨M1, e2, h⟩ := letM_some h
  refine V_put (ty := .int) (F := F_X12 G 119) 2 C dX12_remembers_2 (ltl (by rfl) rfl) (fun _ => ceR_X12 (by rfl)) rfl inX12 tyX12 tyX12_ok nmX12 0 rfl wk_6_134 rfl rfl 0 rfl rfl rfl rfl rfl ?_
  refine V_eqM e2 ?_
  refine V_aload_n 5 C 0 dX12_remembers_5 rfl ?_
  obtain ⟨M3, k4, h⟩ := bindV_some h
  refine V_callV 6 (runVO (k := 119) (rest := []) 6 C (kX12_copies  k4) cf_X12_copies wk_6_234 (ltl (by rfl) rfl) (ceR_X12 (by rfl)) rfl rfl rfl rfl dX12_remembers_6 rfl rfl (Nat.zero_le _) (Nat.zero_le _)) ?_
  refine V_aload_n 9 C 0 dX12_remembers_9 rfl ?_
  obtain ⟨M5, k6, h⟩ := bindV_some h
  refine V_callV 10 (runVO (k := 119) (rest := []) 10 C (kX12_keeps  k6) cf_X12_keeps wk_6_238 (ltl (by rfl) rfl) (ceR_X12 (by rfl)) rfl rfl rfl rfl dX12_remembers_10 rfl rfl (Nat.zero_le _) (Nat.zero_le _)) ?_
  exact V_vreth 13 C hQ h dX12_remembers_13
set_option maxHeartbeats 4000000 in
theorem kX12_isShelf {G : GG} {l : Launch} {F : Nat}  {p0 : Int32} {M M' : Mem} {r : Bool} (h : fX12_isShelf F p0 M = some (r, M')) : Con G l yX12_isShelf cX12_isShelf 2 (some .boolean) rmX12_isShelf [.ref (gad G 119), .int p0] M (QI G (b2i r) M') := by
  refine con_of pnX12 (Nat.le_of_ble_eq_true rfl) (fun κ C hQ => ?_)
  unfold fX12_isShelf at h
  refine V_L (L1 := [(0, .ref (gad G 119)), (1, .int p0)]) rfl ?_
  refine V_iload_n 0 C 1 dX12_isShelf_0 rfl ?_
  refine V_iconst 1 C dX12_isShelf_1 ic0 ?_
  refine V_aload_n 2 C 0 dX12_isShelf_2 rfl ?_
  refine V_get (v := .ref (gad G 120)) 3 C dX12_isShelf_3 (ltl (by rfl) rfl) (ceR_X12 (by rfl)) rfl inX12 6 rfl wk_6_140 rfl rfl ?_
  refine V_iconst 6 C dX12_isShelf_6 ic0 ?_
  refine V_ialdJ 7 C dX12_isShelf_7 (akI_26 (by rfl)) (al_26 (by rfl)) (by decide) (j := 0) (by decide) ?_
  refine V_iconst 8 C dX12_isShelf_8 ic1 ?_
  refine V_isub 9 C dX12_isShelf_9 ?_
  obtain ⟨r4, M2, k3, h⟩ := bindM_some h
  refine V_callI 10 (runSO (rest := []) 10 C (kX12_isBetween  k3) cf_X12_isBetween wk_6_215 rfl rfl dX12_isShelf_10 rfl rfl (Nat.zero_le _) (Nat.zero_le _)) ?_
  exact V_zreth 13 C hQ h dX12_isShelf_13
set_option maxHeartbeats 4000000 in
theorem kX12_isLinked {G : GG} {l : Launch} {F : Nat}  {p0 : Int32} {p1 : Int32} {M M' : Mem} {r : Bool} (h : fX12_isLinked F p0 p1 M = some (r, M')) : Con G l yX12_isLinked cX12_isLinked 3 (some .boolean) rmX12_isLinked [.ref (gad G 119), .int p0, .int p1] M (QI G (b2i r) M') := by
  refine con_of pnX12 (Nat.le_of_ble_eq_true rfl) (fun κ C hQ => ?_)
  unfold fX12_isLinked at h
  refine V_L (L1 := [(0, .ref (gad G 119)), (1, .int p0), (2, .int p1)]) rfl ?_
  refine V_aload_n 0 C 0 dX12_isLinked_0 rfl ?_
  refine V_get (v := .ref (gad G 120)) 1 C dX12_isLinked_1 (ltl (by rfl) rfl) (ceR_X12 (by rfl)) rfl inX12 6 rfl wk_6_140 rfl rfl ?_
  refine V_bipush 4 C dX12_isLinked_4 bp38 ?_
  refine V_bipush 6 C dX12_isLinked_6 bp12 ?_
  refine V_iload_n 8 C 1 dX12_isLinked_8 rfl ?_
  refine V_imul 9 C dX12_isLinked_9 ?_
  refine V_iadd 10 C dX12_isLinked_10 ?_
  refine V_iload_n 11 C 2 dX12_isLinked_11 rfl ?_
  refine V_iadd 12 C dX12_isLinked_12 ?_
  obtain ⟨c1, h⟩ := chk_some h
  refine V_iald 13 C dX12_isLinked_13 (akI_26 (by rfl)) (al_26 (by rfl)) c1 ?_
  refine V_iconst 14 C dX12_isLinked_14 ic1 ?_
  refine V_icmp_ne 15 22 C dX12_isLinked_15 (by decide) (fun c2 => ?_) (fun c2 => ?_)
  · replace h := ite_f c2 h
    refine V_iconst 22 C dX12_isLinked_22 ic0 ?_
    exact V_zreth 23 C hQ h dX12_isLinked_23
  · replace h := ite_t c2 h
    refine V_iconst 18 C dX12_isLinked_18 ic1 ?_
    refine V_goto 19 23 C dX12_isLinked_19 (by decide) ?_
    exact V_zreth 23 C hQ h dX12_isLinked_23
set_option maxHeartbeats 4000000 in
theorem kX12_joins {G : GG} {l : Launch} {F : Nat}  {p0 : Int32} {p1 : Int32} {p2 : Int32} {M M' : Mem}  (h : fX12_joins F p0 p1 p2 M = some M') : Con G l yX12_joins cX12_joins 4 none rmX12_joins [.ref (gad G 119), .int p0, .int p1, .int p2] M (QV G M') := by
  refine con_of pnX12 (Nat.le_of_ble_eq_true rfl) (fun κ C hQ => ?_)
  unfold fX12_joins at h
  refine V_L (L1 := [(0, .ref (gad G 119)), (1, .int p0), (2, .int p1), (3, .int p2)]) rfl ?_
  refine V_aload_n 0 C 0 dX12_joins_0 rfl ?_
  refine V_get (v := .ref (gad G 120)) 1 C dX12_joins_1 (ltl (by rfl) rfl) (ceR_X12 (by rfl)) rfl inX12 6 rfl wk_6_140 rfl rfl ?_
  refine V_bipush 4 C dX12_joins_4 bp38 ?_
  refine V_bipush 6 C dX12_joins_6 bp12 ?_
  refine V_iload_n 8 C 1 dX12_joins_8 rfl ?_
  refine V_imul 9 C dX12_joins_9 ?_
  refine V_iadd 10 C dX12_joins_10 ?_
  refine V_iload_n 11 C 2 dX12_joins_11 rfl ?_
  refine V_iadd 12 C dX12_joins_12 ?_
  refine V_iload_n 13 C 3 dX12_joins_13 rfl ?_
  obtain ⟨c1, h⟩ := chk_some h
  obtain ⟨M2, e3, h⟩ := letM_some h
  refine V_iast 14 C dX12_joins_14 (akI_26 (by rfl)) (al_26 (by rfl)) c1 ?_
  refine V_eqM e3 ?_
  refine V_aload_n 15 C 0 dX12_joins_15 rfl ?_
  refine V_get (v := .ref (gad G 120)) 16 C dX12_joins_16 (ltl (by rfl) rfl) (ceR_X12 (by rfl)) rfl inX12 6 rfl wk_6_140 rfl rfl ?_
  refine V_bipush 19 C dX12_joins_19 bp38 ?_
  refine V_bipush 21 C dX12_joins_21 bp12 ?_
  refine V_iload_n 23 C 2 dX12_joins_23 rfl ?_
  refine V_imul 24 C dX12_joins_24 ?_
  refine V_iadd 25 C dX12_joins_25 ?_
  refine V_iload_n 26 C 1 dX12_joins_26 rfl ?_
  refine V_iadd 27 C dX12_joins_27 ?_
  refine V_iload_n 28 C 3 dX12_joins_28 rfl ?_
  obtain ⟨c4, h⟩ := chk_some h
  obtain ⟨M5, e6, h⟩ := letM_some h
  refine V_iast 29 C dX12_joins_29 (akI_26 (by rfl)) (al_26 (by rfl)) c4 ?_
  refine V_eqM e6 ?_
  exact V_vreth 30 C hQ h dX12_joins_30
set_option maxHeartbeats 4000000 in
theorem kX12_notShelf {G : GG} {l : Launch} {F : Nat}  {p0 : Int32} {M M' : Mem} {r : Int32} (h : fX12_notShelf F p0 M = some (r, M')) : Con G l yX12_notShelf cX12_notShelf 2 (some .int) rmX12_notShelf [.ref (gad G 119), .int p0] M (QI G r M') := by
  refine con_of pnX12 (Nat.le_of_ble_eq_true rfl) (fun κ C hQ => ?_)
  unfold fX12_notShelf at h
  refine V_L (L1 := [(0, .ref (gad G 119)), (1, .int p0)]) rfl ?_
  refine V_iload_n 0 C 1 dX12_notShelf_0 rfl ?_
  refine V_iconst 1 C dX12_notShelf_1 ic0 ?_
  refine V_bipush 2 C dX12_notShelf_2 bp99 ?_
  obtain ⟨r3, M1, k2, h⟩ := bindM_some h
  refine V_callI 4 (runSO (rest := []) 4 C (kX12_isBetween  k2) cf_X12_isBetween wk_6_215 rfl rfl dX12_notShelf_4 rfl rfl (Nat.zero_le _) (Nat.zero_le _)) ?_
  refine V_ifne_b 7 12 C dX12_notShelf_7 (by decide) (fun c4 => ?_) (fun c4 => ?_)
  · replace h := ite_t c4 h
    refine V_aload_n 12 C 0 dX12_notShelf_12 rfl ?_
    refine V_get (v := .ref (gad G 120)) 13 C dX12_notShelf_13 (ltl (by rfl) rfl) (ceR_X12 (by rfl)) rfl inX12 6 rfl wk_6_140 rfl rfl ?_
    refine V_iconst 16 C dX12_notShelf_16 ic0 ?_
    refine V_ialdJ 17 C dX12_notShelf_17 (akI_26 (by rfl)) (al_26 (by rfl)) (by decide) (j := 0) (by decide) ?_
    refine V_bipush 18 C dX12_notShelf_18 bp12 ?_
    refine V_icmp_ne 20 34 C dX12_notShelf_20 (by decide) (fun c6 => ?_) (fun c6 => ?_)
    · replace h := ite_f c6 h
      refine V_iconst 34 C dX12_notShelf_34 ic0 ?_
      exact V_ireth 35 C hQ h dX12_notShelf_35
    · replace h := ite_t c6 h
      refine V_aload_n 23 C 0 dX12_notShelf_23 rfl ?_
      refine V_iconst 24 C dX12_notShelf_24 ic1 ?_
      refine V_bipush 25 C dX12_notShelf_25 bp12 ?_
      refine V_iconst 27 C dX12_notShelf_27 ic2 ?_
      obtain ⟨r9, M7, k8, h⟩ := bindM_some h
      refine V_callI 28 (runVO (k := 119) (rest := []) 28 C (kX12_denies  k8) cf_X12_denies wk_6_218 (ltl (by rfl) rfl) (ceR_X12 (by rfl)) rfl rfl rfl rfl dX12_notShelf_28 rfl rfl (Nat.zero_le _) (Nat.zero_le _)) ?_
      refine V_goto 31 35 C dX12_notShelf_31 (by decide) ?_
      exact V_ireth 35 C hQ h dX12_notShelf_35
  · replace h := ite_f c4 h
    refine V_iconst 10 C dX12_notShelf_10 ic1 ?_
    exact V_ireth 11 C hQ h dX12_notShelf_11
set_option maxHeartbeats 4000000 in
theorem kX12_addsShelf {G : GG} {l : Launch} {F : Nat}  {p0 : Int32} {M M' : Mem} {r : Int32} (h : fX12_addsShelf F p0 M = some (r, M')) : Con G l yX12_addsShelf cX12_addsShelf 2 (some .int) rmX12_addsShelf [.ref (gad G 119), .int p0] M (QI G r M') := by
  refine con_of pnX12 (Nat.le_of_ble_eq_true rfl) (fun κ C hQ => ?_)
  unfold fX12_addsShelf at h
  refine V_L (L1 := [(0, .ref (gad G 119)), (1, .int p0)]) rfl ?_
  refine V_aload_n 0 C 0 dX12_addsShelf_0 rfl ?_
  refine V_get (v := .ref (gad G 120)) 1 C dX12_addsShelf_1 (ltl (by rfl) rfl) (ceR_X12 (by rfl)) rfl inX12 6 rfl wk_6_140 rfl rfl ?_
  refine V_bipush 4 C dX12_addsShelf_4 bp14 ?_
  refine V_aload_n 6 C 0 dX12_addsShelf_6 rfl ?_
  refine V_get (v := .ref (gad G 120)) 7 C dX12_addsShelf_7 (ltl (by rfl) rfl) (ceR_X12 (by rfl)) rfl inX12 6 rfl wk_6_140 rfl rfl ?_
  refine V_iconst 10 C dX12_addsShelf_10 ic0 ?_
  refine V_ialdJ 11 C dX12_addsShelf_11 (akI_26 (by rfl)) (al_26 (by rfl)) (by decide) (j := 0) (by decide) ?_
  refine V_iadd 12 C dX12_addsShelf_12 ?_
  refine V_iload_n 13 C 1 dX12_addsShelf_13 rfl ?_
  obtain ⟨c2, h⟩ := chk_some h
  obtain ⟨M3, e4, h⟩ := letM_some h
  refine V_iast 14 C dX12_addsShelf_14 (akI_26 (by rfl)) (al_26 (by rfl)) c2 ?_
  refine V_eqM e4 ?_
  refine V_aload_n 15 C 0 dX12_addsShelf_15 rfl ?_
  refine V_get (v := .ref (gad G 120)) 16 C dX12_addsShelf_16 (ltl (by rfl) rfl) (ceR_X12 (by rfl)) rfl inX12 6 rfl wk_6_140 rfl rfl ?_
  refine V_bipush 19 C dX12_addsShelf_19 bp13 ?_
  refine V_dup2 21 C dX12_addsShelf_21 rfl rfl ?_
  refine V_ialdJ 22 C dX12_addsShelf_22 (akI_26 (by rfl)) (al_26 (by rfl)) (by decide) (j := 13) (by decide) ?_
  refine V_iload_n 23 C 1 dX12_addsShelf_23 rfl ?_
  refine V_iadd 24 C dX12_addsShelf_24 ?_
  obtain ⟨M7, e8, h⟩ := letM_some h
  refine V_iastJ 25 C dX12_addsShelf_25 (akI_26 (by rfl)) (al_26 (by rfl)) (by decide) (j := 13) (by decide) ?_
  refine V_eqM e8 ?_
  refine V_aload_n 26 C 0 dX12_addsShelf_26 rfl ?_
  refine V_get (v := .ref (gad G 120)) 27 C dX12_addsShelf_27 (ltl (by rfl) rfl) (ceR_X12 (by rfl)) rfl inX12 6 rfl wk_6_140 rfl rfl ?_
  refine V_iconst 30 C dX12_addsShelf_30 ic0 ?_
  refine V_dup2 31 C dX12_addsShelf_31 rfl rfl ?_
  refine V_ialdJ 32 C dX12_addsShelf_32 (akI_26 (by rfl)) (al_26 (by rfl)) (by decide) (j := 0) (by decide) ?_
  refine V_iconst 33 C dX12_addsShelf_33 ic1 ?_
  refine V_iadd 34 C dX12_addsShelf_34 ?_
  obtain ⟨M11, e12, h⟩ := letM_some h
  refine V_iastJ 35 C dX12_addsShelf_35 (akI_26 (by rfl)) (al_26 (by rfl)) (by decide) (j := 0) (by decide) ?_
  refine V_eqM e12 ?_
  refine V_aload_n 36 C 0 dX12_addsShelf_36 rfl ?_
  refine V_get (v := .ref (gad G 120)) 37 C dX12_addsShelf_37 (ltl (by rfl) rfl) (ceR_X12 (by rfl)) rfl inX12 6 rfl wk_6_140 rfl rfl ?_
  refine V_iconst 40 C dX12_addsShelf_40 ic0 ?_
  refine V_ialdJ 41 C dX12_addsShelf_41 (akI_26 (by rfl)) (al_26 (by rfl)) (by decide) (j := 0) (by decide) ?_
  refine V_iconst 42 C dX12_addsShelf_42 ic1 ?_
  refine V_isub 43 C dX12_addsShelf_43 ?_
  exact V_ireth 44 C hQ h dX12_addsShelf_44
set_option maxHeartbeats 4000000 in
theorem kX12_addShelf {G : GG} {l : Launch} {F : Nat}  {p0 : Int32} {M M' : Mem} {r : Int32} (h : fX12_addShelf F p0 M = some (r, M')) : Con G l yX12_addShelf cX12_addShelf 3 (some .int) rmX12_addShelf [.ref (gad G 119), .int p0] M (QI G r M') := by
  refine con_of pnX12 (Nat.le_of_ble_eq_true rfl) (fun κ C hQ => ?_)
  unfold fX12_addShelf at h
  refine V_L (L1 := [(0, .ref (gad G 119)), (1, .int p0)]) rfl ?_
  refine V_aload_n 0 C 0 dX12_addShelf_0 rfl ?_
  refine V_iload_n 1 C 1 dX12_addShelf_1 rfl ?_
  obtain ⟨r3, M1, k2, h⟩ := bindM_some h
  refine V_callI 2 (runVO (k := 119) (rest := []) 2 C (kX12_notShelf  k2) cf_X12_notShelf wk_6_211 (ltl (by rfl) rfl) (ceR_X12 (by rfl)) rfl rfl rfl rfl dX12_addShelf_2 rfl rfl (Nat.zero_le _) (Nat.zero_le _)) ?_
  refine V_istore_n 5 C [(2, .int r3), (0, .ref (gad G 119)), (1, .int p0)] dX12_addShelf_5 rfl rfl rfl ?_
  refine V_iload_n 6 C 0 dX12_addShelf_6 rfl ?_
  refine V_if_eq 7 16 C dX12_addShelf_7 (by decide) (fun c4 => ?_) (fun c4 => ?_)
  · replace h := ite_t c4 h
    refine V_aload_n 16 C 1 dX12_addShelf_16 rfl ?_
    obtain ⟨M5, k6, h⟩ := bindV_some h
    refine V_callV 17 (runVO (k := 119) (rest := []) 17 C (kX12_remembers  k6) cf_X12_remembers wk_6_230 (ltl (by rfl) rfl) (ceR_X12 (by rfl)) rfl rfl rfl rfl dX12_addShelf_17 rfl rfl (Nat.zero_le _) (Nat.zero_le _)) ?_
    refine V_aload_n 20 C 1 dX12_addShelf_20 rfl ?_
    refine V_iload_n 21 C 2 dX12_addShelf_21 rfl ?_
    obtain ⟨r9, M7, k8, h⟩ := bindM_some h
    refine V_callI 22 (runVO (k := 119) (rest := []) 22 C (kX12_addsShelf  k8) cf_X12_addsShelf wk_7_2 (ltl (by rfl) rfl) (ceR_X12 (by rfl)) rfl rfl rfl rfl dX12_addShelf_22 rfl rfl (Nat.zero_le _) (Nat.zero_le _)) ?_
    exact V_ireth 25 C hQ h dX12_addShelf_25
  · replace h := ite_f c4 h
    refine V_aload_n 10 C 1 dX12_addShelf_10 rfl ?_
    refine V_iload_n 11 C 0 dX12_addShelf_11 rfl ?_
    obtain ⟨r12, M10, k11, h⟩ := bindM_some h
    refine V_callI 12 (runVO (k := 119) (rest := []) 12 C (kX12_refuses  k11) cf_X12_refuses wk_6_222 (ltl (by rfl) rfl) (ceR_X12 (by rfl)) rfl rfl rfl rfl dX12_addShelf_12 rfl rfl (Nat.zero_le _) (Nat.zero_le _)) ?_
    exact V_ireth 15 C hQ h dX12_addShelf_15
set_option maxHeartbeats 4000000 in
theorem kX12_notLink {G : GG} {l : Launch} {F : Nat}  {p0 : Int32} {p1 : Int32} {M M' : Mem} {r : Int32} (h : fX12_notLink F p0 p1 M = some (r, M')) : Con G l yX12_notLink cX12_notLink 3 (some .int) rmX12_notLink [.ref (gad G 119), .int p0, .int p1] M (QI G r M') := by
  refine con_of pnX12 (Nat.le_of_ble_eq_true rfl) (fun κ C hQ => ?_)
  unfold fX12_notLink at h
  refine V_L (L1 := [(0, .ref (gad G 119)), (1, .int p0), (2, .int p1)]) rfl ?_
  refine V_aload_n 0 C 0 dX12_notLink_0 rfl ?_
  refine V_iload_n 1 C 1 dX12_notLink_1 rfl ?_
  obtain ⟨r3, M1, k2, h⟩ := bindM_some h
  refine V_callI 2 (runVO (k := 119) (rest := []) 2 C (kX12_isShelf  k2) cf_X12_isShelf wk_7_14 (ltl (by rfl) rfl) (ceR_X12 (by rfl)) rfl rfl rfl rfl dX12_notLink_2 rfl rfl (Nat.zero_le _) (Nat.zero_le _)) ?_
  refine V_ifeq_b 5 16 C dX12_notLink_5 (by decide) (fun c4 => ?_) (fun c4 => ?_)
  · replace h := ite_f c4 h
    refine V_iconst 16 C dX12_notLink_16 ic1 ?_
    exact V_ireth 17 C hQ h dX12_notLink_17
  · replace h := ite_t c4 h
    refine V_aload_n 8 C 0 dX12_notLink_8 rfl ?_
    refine V_iload_n 9 C 2 dX12_notLink_9 rfl ?_
    obtain ⟨r7, M5, k6, h⟩ := bindM_some h
    refine V_callI 10 (runVO (k := 119) (rest := []) 10 C (kX12_isShelf  k6) cf_X12_isShelf wk_7_14 (ltl (by rfl) rfl) (ceR_X12 (by rfl)) rfl rfl rfl rfl dX12_notLink_10 rfl rfl (Nat.zero_le _) (Nat.zero_le _)) ?_
    refine V_ifne_b 13 18 C dX12_notLink_13 (by decide) (fun c8 => ?_) (fun c8 => ?_)
    · replace h := ite_t c8 h
      refine V_iload_n 18 C 1 dX12_notLink_18 rfl ?_
      refine V_iload_n 19 C 2 dX12_notLink_19 rfl ?_
      refine V_icmp_ne 20 31 C dX12_notLink_20 (by decide) (fun c9 => ?_) (fun c9 => ?_)
      · replace h := ite_f c9 h
        refine V_aload_n 31 C 0 dX12_notLink_31 rfl ?_
        refine V_iload_n 32 C 1 dX12_notLink_32 rfl ?_
        refine V_iload_n 33 C 2 dX12_notLink_33 rfl ?_
        obtain ⟨r12, M10, k11, h⟩ := bindM_some h
        refine V_callI 34 (runVO (k := 119) (rest := []) 34 C (kX12_isLinked  k11) cf_X12_isLinked wk_7_18 (ltl (by rfl) rfl) (ceR_X12 (by rfl)) rfl rfl rfl rfl dX12_notLink_34 rfl rfl (Nat.zero_le _) (Nat.zero_le _)) ?_
        refine V_ifeq_b 37 53 C dX12_notLink_37 (by decide) (fun c13 => ?_) (fun c13 => ?_)
        · replace h := ite_f c13 h
          refine V_aload_n 53 C 0 dX12_notLink_53 rfl ?_
          refine V_get (v := .ref (gad G 120)) 54 C dX12_notLink_54 (ltl (by rfl) rfl) (ceR_X12 (by rfl)) rfl inX12 6 rfl wk_6_140 rfl rfl ?_
          refine V_iconst 57 C dX12_notLink_57 ic1 ?_
          refine V_ialdJ 58 C dX12_notLink_58 (akI_26 (by rfl)) (al_26 (by rfl)) (by decide) (j := 1) (by decide) ?_
          refine V_bipush 59 C dX12_notLink_59 bp20 ?_
          refine V_icmp_ne 61 75 C dX12_notLink_61 (by decide) (fun c15 => ?_) (fun c15 => ?_)
          · replace h := ite_f c15 h
            refine V_iconst 75 C dX12_notLink_75 ic0 ?_
            exact V_ireth 76 C hQ h dX12_notLink_76
          · replace h := ite_t c15 h
            refine V_aload_n 64 C 0 dX12_notLink_64 rfl ?_
            refine V_iconst 65 C dX12_notLink_65 ic1 ?_
            refine V_bipush 66 C dX12_notLink_66 bp20 ?_
            refine V_iconst 68 C dX12_notLink_68 ic2 ?_
            obtain ⟨r18, M16, k17, h⟩ := bindM_some h
            refine V_callI 69 (runVO (k := 119) (rest := []) 69 C (kX12_denies  k17) cf_X12_denies wk_6_218 (ltl (by rfl) rfl) (ceR_X12 (by rfl)) rfl rfl rfl rfl dX12_notLink_69 rfl rfl (Nat.zero_le _) (Nat.zero_le _)) ?_
            refine V_goto 72 76 C dX12_notLink_72 (by decide) ?_
            exact V_ireth 76 C hQ h dX12_notLink_76
        · replace h := ite_t c13 h
          refine V_aload_n 40 C 0 dX12_notLink_40 rfl ?_
          refine V_iconst 41 C dX12_notLink_41 ic3 ?_
          refine V_aload_n 42 C 0 dX12_notLink_42 rfl ?_
          refine V_get (v := .ref (gad G 120)) 43 C dX12_notLink_43 (ltl (by rfl) rfl) (ceR_X12 (by rfl)) rfl inX12 6 rfl wk_6_140 rfl rfl ?_
          refine V_iconst 46 C dX12_notLink_46 ic1 ?_
          refine V_ialdJ 47 C dX12_notLink_47 (akI_26 (by rfl)) (al_26 (by rfl)) (by decide) (j := 1) (by decide) ?_
          refine V_iconst 48 C dX12_notLink_48 ic2 ?_
          obtain ⟨r22, M20, k21, h⟩ := bindM_some h
          refine V_callI 49 (runVO (k := 119) (rest := []) 49 C (kX12_denies  k21) cf_X12_denies wk_6_218 (ltl (by rfl) rfl) (ceR_X12 (by rfl)) rfl rfl rfl rfl dX12_notLink_49 rfl rfl (Nat.zero_le _) (Nat.zero_le _)) ?_
          exact V_ireth 52 C hQ h dX12_notLink_52
      · replace h := ite_t c9 h
        refine V_aload_n 23 C 0 dX12_notLink_23 rfl ?_
        refine V_iconst 24 C dX12_notLink_24 ic2 ?_
        refine V_iload_n 25 C 1 dX12_notLink_25 rfl ?_
        refine V_iconst 26 C dX12_notLink_26 ic2 ?_
        obtain ⟨r25, M23, k24, h⟩ := bindM_some h
        refine V_callI 27 (runVO (k := 119) (rest := []) 27 C (kX12_denies  k24) cf_X12_denies wk_6_218 (ltl (by rfl) rfl) (ceR_X12 (by rfl)) rfl rfl rfl rfl dX12_notLink_27 rfl rfl (Nat.zero_le _) (Nat.zero_le _)) ?_
        exact V_ireth 30 C hQ h dX12_notLink_30
    · replace h := ite_f c8 h
      refine V_iconst 16 C dX12_notLink_16 ic1 ?_
      exact V_ireth 17 C hQ h dX12_notLink_17
set_option maxHeartbeats 4000000 in
theorem kX12_links {G : GG} {l : Launch} {F : Nat}  {p0 : Int32} {p1 : Int32} {M M' : Mem} {r : Int32} (h : fX12_links F p0 p1 M = some (r, M')) : Con G l yX12_links cX12_links 3 (some .int) rmX12_links [.ref (gad G 119), .int p0, .int p1] M (QI G r M') := by
  refine con_of pnX12 (Nat.le_of_ble_eq_true rfl) (fun κ C hQ => ?_)
  unfold fX12_links at h
  refine V_L (L1 := [(0, .ref (gad G 119)), (1, .int p0), (2, .int p1)]) rfl ?_
  refine V_aload_n 0 C 0 dX12_links_0 rfl ?_
  refine V_iload_n 1 C 1 dX12_links_1 rfl ?_
  refine V_iload_n 2 C 2 dX12_links_2 rfl ?_
  refine V_iconst 3 C dX12_links_3 ic1 ?_
  obtain ⟨M1, k2, h⟩ := bindV_some h
  refine V_callV 4 (runVO (k := 119) (rest := []) 4 C (kX12_joins  k2) cf_X12_joins wk_7_26 (ltl (by rfl) rfl) (ceR_X12 (by rfl)) rfl rfl rfl rfl dX12_links_4 rfl rfl (Nat.zero_le _) (Nat.zero_le _)) ?_
  refine V_aload_n 7 C 0 dX12_links_7 rfl ?_
  refine V_get (v := .ref (gad G 120)) 8 C dX12_links_8 (ltl (by rfl) rfl) (ceR_X12 (by rfl)) rfl inX12 6 rfl wk_6_140 rfl rfl ?_
  refine V_iconst 11 C dX12_links_11 ic1 ?_
  refine V_dup2 12 C dX12_links_12 rfl rfl ?_
  refine V_ialdJ 13 C dX12_links_13 (akI_26 (by rfl)) (al_26 (by rfl)) (by decide) (j := 1) (by decide) ?_
  refine V_iconst 14 C dX12_links_14 ic1 ?_
  refine V_iadd 15 C dX12_links_15 ?_
  obtain ⟨M5, e6, h⟩ := letM_some h
  refine V_iastJ 16 C dX12_links_16 (akI_26 (by rfl)) (al_26 (by rfl)) (by decide) (j := 1) (by decide) ?_
  refine V_eqM e6 ?_
  refine V_aload_n 17 C 0 dX12_links_17 rfl ?_
  refine V_get (v := .ref (gad G 120)) 18 C dX12_links_18 (ltl (by rfl) rfl) (ceR_X12 (by rfl)) rfl inX12 6 rfl wk_6_140 rfl rfl ?_
  refine V_iconst 21 C dX12_links_21 ic1 ?_
  refine V_ialdJ 22 C dX12_links_22 (akI_26 (by rfl)) (al_26 (by rfl)) (by decide) (j := 1) (by decide) ?_
  exact V_ireth 23 C hQ h dX12_links_23
set_option maxHeartbeats 4000000 in
theorem kX12_link {G : GG} {l : Launch} {F : Nat}  {p0 : Int32} {p1 : Int32} {M M' : Mem} {r : Int32} (h : fX12_link F p0 p1 M = some (r, M')) : Con G l yX12_link cX12_link 4 (some .int) rmX12_link [.ref (gad G 119), .int p0, .int p1] M (QI G r M') := by
  refine con_of pnX12 (Nat.le_of_ble_eq_true rfl) (fun κ C hQ => ?_)
  unfold fX12_link at h
  refine V_L (L1 := [(0, .ref (gad G 119)), (1, .int p0), (2, .int p1)]) rfl ?_
  refine V_aload_n 0 C 0 dX12_link_0 rfl ?_
  refine V_iload_n 1 C 1 dX12_link_1 rfl ?_
  refine V_iload_n 2 C 2 dX12_link_2 rfl ?_
  obtain ⟨r3, M1, k2, h⟩ := bindM_some h
  refine V_callI 3 (runVO (k := 119) (rest := []) 3 C (kX12_notLink  k2) cf_X12_notLink wk_7_10 (ltl (by rfl) rfl) (ceR_X12 (by rfl)) rfl rfl rfl rfl dX12_link_3 rfl rfl (Nat.zero_le _) (Nat.zero_le _)) ?_
  refine V_istore_n 6 C [(3, .int r3), (0, .ref (gad G 119)), (1, .int p0), (2, .int p1)] dX12_link_6 rfl rfl rfl ?_
  refine V_iload_n 7 C 0 dX12_link_7 rfl ?_
  refine V_if_eq 8 17 C dX12_link_8 (by decide) (fun c4 => ?_) (fun c4 => ?_)
  · replace h := ite_t c4 h
    refine V_aload_n 17 C 1 dX12_link_17 rfl ?_
    obtain ⟨M5, k6, h⟩ := bindV_some h
    refine V_callV 18 (runVO (k := 119) (rest := []) 18 C (kX12_remembers  k6) cf_X12_remembers wk_6_230 (ltl (by rfl) rfl) (ceR_X12 (by rfl)) rfl rfl rfl rfl dX12_link_18 rfl rfl (Nat.zero_le _) (Nat.zero_le _)) ?_
    refine V_aload_n 21 C 1 dX12_link_21 rfl ?_
    refine V_iload_n 22 C 2 dX12_link_22 rfl ?_
    refine V_iload_n 23 C 3 dX12_link_23 rfl ?_
    obtain ⟨r9, M7, k8, h⟩ := bindM_some h
    refine V_callI 24 (runVO (k := 119) (rest := []) 24 C (kX12_links  k8) cf_X12_links wk_7_22 (ltl (by rfl) rfl) (ceR_X12 (by rfl)) rfl rfl rfl rfl dX12_link_24 rfl rfl (Nat.zero_le _) (Nat.zero_le _)) ?_
    exact V_ireth 27 C hQ h dX12_link_27
  · replace h := ite_f c4 h
    refine V_aload_n 11 C 1 dX12_link_11 rfl ?_
    refine V_iload_n 12 C 0 dX12_link_12 rfl ?_
    obtain ⟨r12, M10, k11, h⟩ := bindM_some h
    refine V_callI 13 (runVO (k := 119) (rest := []) 13 C (kX12_refuses  k11) cf_X12_refuses wk_6_222 (ltl (by rfl) rfl) (ceR_X12 (by rfl)) rfl rfl rfl rfl dX12_link_13 rfl rfl (Nat.zero_le _) (Nat.zero_le _)) ?_
    exact V_ireth 16 C hQ h dX12_link_16
set_option maxHeartbeats 4000000 in
theorem kX12_notUnlink {G : GG} {l : Launch} {F : Nat}  {p0 : Int32} {p1 : Int32} {M M' : Mem} {r : Int32} (h : fX12_notUnlink F p0 p1 M = some (r, M')) : Con G l yX12_notUnlink cX12_notUnlink 3 (some .int) rmX12_notUnlink [.ref (gad G 119), .int p0, .int p1] M (QI G r M') := by
  refine con_of pnX12 (Nat.le_of_ble_eq_true rfl) (fun κ C hQ => ?_)
  unfold fX12_notUnlink at h
  refine V_L (L1 := [(0, .ref (gad G 119)), (1, .int p0), (2, .int p1)]) rfl ?_
  refine V_aload_n 0 C 0 dX12_notUnlink_0 rfl ?_
  refine V_iload_n 1 C 1 dX12_notUnlink_1 rfl ?_
  obtain ⟨r3, M1, k2, h⟩ := bindM_some h
  refine V_callI 2 (runVO (k := 119) (rest := []) 2 C (kX12_isShelf  k2) cf_X12_isShelf wk_7_14 (ltl (by rfl) rfl) (ceR_X12 (by rfl)) rfl rfl rfl rfl dX12_notUnlink_2 rfl rfl (Nat.zero_le _) (Nat.zero_le _)) ?_
  refine V_ifeq_b 5 16 C dX12_notUnlink_5 (by decide) (fun c4 => ?_) (fun c4 => ?_)
  · replace h := ite_f c4 h
    refine V_iconst 16 C dX12_notUnlink_16 ic1 ?_
    exact V_ireth 17 C hQ h dX12_notUnlink_17
  · replace h := ite_t c4 h
    refine V_aload_n 8 C 0 dX12_notUnlink_8 rfl ?_
    refine V_iload_n 9 C 2 dX12_notUnlink_9 rfl ?_
    obtain ⟨r7, M5, k6, h⟩ := bindM_some h
    refine V_callI 10 (runVO (k := 119) (rest := []) 10 C (kX12_isShelf  k6) cf_X12_isShelf wk_7_14 (ltl (by rfl) rfl) (ceR_X12 (by rfl)) rfl rfl rfl rfl dX12_notUnlink_10 rfl rfl (Nat.zero_le _) (Nat.zero_le _)) ?_
    refine V_ifne_b 13 18 C dX12_notUnlink_13 (by decide) (fun c8 => ?_) (fun c8 => ?_)
    · replace h := ite_t c8 h
      refine V_aload_n 18 C 0 dX12_notUnlink_18 rfl ?_
      refine V_iload_n 19 C 1 dX12_notUnlink_19 rfl ?_
      refine V_iload_n 20 C 2 dX12_notUnlink_20 rfl ?_
      obtain ⟨r11, M9, k10, h⟩ := bindM_some h
      refine V_callI 21 (runVO (k := 119) (rest := []) 21 C (kX12_isLinked  k10) cf_X12_isLinked wk_7_18 (ltl (by rfl) rfl) (ceR_X12 (by rfl)) rfl rfl rfl rfl dX12_notUnlink_21 rfl rfl (Nat.zero_le _) (Nat.zero_le _)) ?_
      refine V_ifeq_b 24 31 C dX12_notUnlink_24 (by decide) (fun c12 => ?_) (fun c12 => ?_)
      · replace h := ite_f c12 h
        refine V_aload_n 31 C 0 dX12_notUnlink_31 rfl ?_
        refine V_iconst 32 C dX12_notUnlink_32 ic4 ?_
        refine V_aload_n 33 C 0 dX12_notUnlink_33 rfl ?_
        refine V_get (v := .ref (gad G 120)) 34 C dX12_notUnlink_34 (ltl (by rfl) rfl) (ceR_X12 (by rfl)) rfl inX12 6 rfl wk_6_140 rfl rfl ?_
        refine V_iconst 37 C dX12_notUnlink_37 ic1 ?_
        refine V_ialdJ 38 C dX12_notUnlink_38 (akI_26 (by rfl)) (al_26 (by rfl)) (by decide) (j := 1) (by decide) ?_
        refine V_iconst 39 C dX12_notUnlink_39 ic2 ?_
        obtain ⟨r16, M14, k15, h⟩ := bindM_some h
        refine V_callI 40 (runVO (k := 119) (rest := []) 40 C (kX12_denies  k15) cf_X12_denies wk_6_218 (ltl (by rfl) rfl) (ceR_X12 (by rfl)) rfl rfl rfl rfl dX12_notUnlink_40 rfl rfl (Nat.zero_le _) (Nat.zero_le _)) ?_
        exact V_ireth 43 C hQ h dX12_notUnlink_43
      · replace h := ite_t c12 h
        refine V_iconst 27 C dX12_notUnlink_27 ic0 ?_
        refine V_goto 28 43 C dX12_notUnlink_28 (by decide) ?_
        exact V_ireth 43 C hQ h dX12_notUnlink_43
    · replace h := ite_f c8 h
      refine V_iconst 16 C dX12_notUnlink_16 ic1 ?_
      exact V_ireth 17 C hQ h dX12_notUnlink_17
set_option maxHeartbeats 4000000 in
theorem kX12_unlinks {G : GG} {l : Launch} {F : Nat}  {p0 : Int32} {p1 : Int32} {M M' : Mem} {r : Int32} (h : fX12_unlinks F p0 p1 M = some (r, M')) : Con G l yX12_unlinks cX12_unlinks 3 (some .int) rmX12_unlinks [.ref (gad G 119), .int p0, .int p1] M (QI G r M') := by
  refine con_of pnX12 (Nat.le_of_ble_eq_true rfl) (fun κ C hQ => ?_)
  unfold fX12_unlinks at h
  refine V_L (L1 := [(0, .ref (gad G 119)), (1, .int p0), (2, .int p1)]) rfl ?_
  refine V_aload_n 0 C 0 dX12_unlinks_0 rfl ?_
  refine V_iload_n 1 C 1 dX12_unlinks_1 rfl ?_
  refine V_iload_n 2 C 2 dX12_unlinks_2 rfl ?_
  refine V_iconst 3 C dX12_unlinks_3 ic0 ?_
  obtain ⟨M1, k2, h⟩ := bindV_some h
  refine V_callV 4 (runVO (k := 119) (rest := []) 4 C (kX12_joins  k2) cf_X12_joins wk_7_26 (ltl (by rfl) rfl) (ceR_X12 (by rfl)) rfl rfl rfl rfl dX12_unlinks_4 rfl rfl (Nat.zero_le _) (Nat.zero_le _)) ?_
  refine V_aload_n 7 C 0 dX12_unlinks_7 rfl ?_
  refine V_get (v := .ref (gad G 120)) 8 C dX12_unlinks_8 (ltl (by rfl) rfl) (ceR_X12 (by rfl)) rfl inX12 6 rfl wk_6_140 rfl rfl ?_
  refine V_iconst 11 C dX12_unlinks_11 ic1 ?_
  refine V_dup2 12 C dX12_unlinks_12 rfl rfl ?_
  refine V_ialdJ 13 C dX12_unlinks_13 (akI_26 (by rfl)) (al_26 (by rfl)) (by decide) (j := 1) (by decide) ?_
  refine V_iconst 14 C dX12_unlinks_14 ic1 ?_
  refine V_isub 15 C dX12_unlinks_15 ?_
  obtain ⟨M5, e6, h⟩ := letM_some h
  refine V_iastJ 16 C dX12_unlinks_16 (akI_26 (by rfl)) (al_26 (by rfl)) (by decide) (j := 1) (by decide) ?_
  refine V_eqM e6 ?_
  refine V_aload_n 17 C 0 dX12_unlinks_17 rfl ?_
  refine V_get (v := .ref (gad G 120)) 18 C dX12_unlinks_18 (ltl (by rfl) rfl) (ceR_X12 (by rfl)) rfl inX12 6 rfl wk_6_140 rfl rfl ?_
  refine V_iconst 21 C dX12_unlinks_21 ic1 ?_
  refine V_ialdJ 22 C dX12_unlinks_22 (akI_26 (by rfl)) (al_26 (by rfl)) (by decide) (j := 1) (by decide) ?_
  exact V_ireth 23 C hQ h dX12_unlinks_23
set_option maxHeartbeats 4000000 in
theorem kX12_unlink {G : GG} {l : Launch} {F : Nat}  {p0 : Int32} {p1 : Int32} {M M' : Mem} {r : Int32} (h : fX12_unlink F p0 p1 M = some (r, M')) : Con G l yX12_unlink cX12_unlink 4 (some .int) rmX12_unlink [.ref (gad G 119), .int p0, .int p1] M (QI G r M') := by
  refine con_of pnX12 (Nat.le_of_ble_eq_true rfl) (fun κ C hQ => ?_)
  unfold fX12_unlink at h
  refine V_L (L1 := [(0, .ref (gad G 119)), (1, .int p0), (2, .int p1)]) rfl ?_
  refine V_aload_n 0 C 0 dX12_unlink_0 rfl ?_
  refine V_iload_n 1 C 1 dX12_unlink_1 rfl ?_
  refine V_iload_n 2 C 2 dX12_unlink_2 rfl ?_
  obtain ⟨r3, M1, k2, h⟩ := bindM_some h
  refine V_callI 3 (runVO (k := 119) (rest := []) 3 C (kX12_notUnlink  k2) cf_X12_notUnlink wk_7_34 (ltl (by rfl) rfl) (ceR_X12 (by rfl)) rfl rfl rfl rfl dX12_unlink_3 rfl rfl (Nat.zero_le _) (Nat.zero_le _)) ?_
  refine V_istore_n 6 C [(3, .int r3), (0, .ref (gad G 119)), (1, .int p0), (2, .int p1)] dX12_unlink_6 rfl rfl rfl ?_
  refine V_iload_n 7 C 0 dX12_unlink_7 rfl ?_
  refine V_if_eq 8 17 C dX12_unlink_8 (by decide) (fun c4 => ?_) (fun c4 => ?_)
  · replace h := ite_t c4 h
    refine V_aload_n 17 C 1 dX12_unlink_17 rfl ?_
    obtain ⟨M5, k6, h⟩ := bindV_some h
    refine V_callV 18 (runVO (k := 119) (rest := []) 18 C (kX12_remembers  k6) cf_X12_remembers wk_6_230 (ltl (by rfl) rfl) (ceR_X12 (by rfl)) rfl rfl rfl rfl dX12_unlink_18 rfl rfl (Nat.zero_le _) (Nat.zero_le _)) ?_
    refine V_aload_n 21 C 1 dX12_unlink_21 rfl ?_
    refine V_iload_n 22 C 2 dX12_unlink_22 rfl ?_
    refine V_iload_n 23 C 3 dX12_unlink_23 rfl ?_
    obtain ⟨r9, M7, k8, h⟩ := bindM_some h
    refine V_callI 24 (runVO (k := 119) (rest := []) 24 C (kX12_unlinks  k8) cf_X12_unlinks wk_7_38 (ltl (by rfl) rfl) (ceR_X12 (by rfl)) rfl rfl rfl rfl dX12_unlink_24 rfl rfl (Nat.zero_le _) (Nat.zero_le _)) ?_
    exact V_ireth 27 C hQ h dX12_unlink_27
  · replace h := ite_f c4 h
    refine V_aload_n 11 C 1 dX12_unlink_11 rfl ?_
    refine V_iload_n 12 C 0 dX12_unlink_12 rfl ?_
    obtain ⟨r12, M10, k11, h⟩ := bindM_some h
    refine V_callI 13 (runVO (k := 119) (rest := []) 13 C (kX12_refuses  k11) cf_X12_refuses wk_6_222 (ltl (by rfl) rfl) (ceR_X12 (by rfl)) rfl rfl rfl rfl dX12_unlink_13 rfl rfl (Nat.zero_le _) (Nat.zero_le _)) ?_
    exact V_ireth 16 C hQ h dX12_unlink_16
set_option maxHeartbeats 4000000 in
theorem kX12_notBlind {G : GG} {l : Launch} {F : Nat}  {p0 : Int32} {p1 : Int32} {M M' : Mem} {r : Int32} (h : fX12_notBlind F p0 p1 M = some (r, M')) : Con G l yX12_notBlind cX12_notBlind 3 (some .int) rmX12_notBlind [.ref (gad G 119), .int p0, .int p1] M (QI G r M') := by
  refine con_of pnX12 (Nat.le_of_ble_eq_true rfl) (fun κ C hQ => ?_)
  unfold fX12_notBlind at h
  refine V_L (L1 := [(0, .ref (gad G 119)), (1, .int p0), (2, .int p1)]) rfl ?_
  refine V_aload_n 0 C 0 dX12_notBlind_0 rfl ?_
  refine V_iload_n 1 C 1 dX12_notBlind_1 rfl ?_
  obtain ⟨r3, M1, k2, h⟩ := bindM_some h
  refine V_callI 2 (runVO (k := 119) (rest := []) 2 C (kX12_isShelf  k2) cf_X12_isShelf wk_7_14 (ltl (by rfl) rfl) (ceR_X12 (by rfl)) rfl rfl rfl rfl dX12_notBlind_2 rfl rfl (Nat.zero_le _) (Nat.zero_le _)) ?_
  refine V_ifne_b 5 10 C dX12_notBlind_5 (by decide) (fun c4 => ?_) (fun c4 => ?_)
  · replace h := ite_t c4 h
    refine V_aload_n 10 C 0 dX12_notBlind_10 rfl ?_
    refine V_get (v := .ref (gad G 120)) 11 C dX12_notBlind_11 (ltl (by rfl) rfl) (ceR_X12 (by rfl)) rfl inX12 6 rfl wk_6_140 rfl rfl ?_
    refine V_bipush 14 C dX12_notBlind_14 bp26 ?_
    refine V_iload_n 16 C 1 dX12_notBlind_16 rfl ?_
    refine V_iadd 17 C dX12_notBlind_17 ?_
    obtain ⟨c5, h⟩ := chk_some h
    refine V_iald 18 C dX12_notBlind_18 (akI_26 (by rfl)) (al_26 (by rfl)) c5 ?_
    refine V_iload_n 19 C 2 dX12_notBlind_19 rfl ?_
    refine V_icmp_ne 20 33 C dX12_notBlind_20 (by decide) (fun c6 => ?_) (fun c6 => ?_)
    · replace h := ite_f c6 h
      refine V_iconst 33 C dX12_notBlind_33 ic0 ?_
      exact V_ireth 34 C hQ h dX12_notBlind_34
    · replace h := ite_t c6 h
      refine V_aload_n 23 C 0 dX12_notBlind_23 rfl ?_
      refine V_iconst 24 C dX12_notBlind_24 ic5 ?_
      refine V_iload_n 25 C 2 dX12_notBlind_25 rfl ?_
      refine V_iconst 26 C dX12_notBlind_26 ic2 ?_
      obtain ⟨r9, M7, k8, h⟩ := bindM_some h
      refine V_callI 27 (runVO (k := 119) (rest := []) 27 C (kX12_denies  k8) cf_X12_denies wk_6_218 (ltl (by rfl) rfl) (ceR_X12 (by rfl)) rfl rfl rfl rfl dX12_notBlind_27 rfl rfl (Nat.zero_le _) (Nat.zero_le _)) ?_
      refine V_goto 30 34 C dX12_notBlind_30 (by decide) ?_
      exact V_ireth 34 C hQ h dX12_notBlind_34
  · replace h := ite_f c4 h
    refine V_iconst 8 C dX12_notBlind_8 ic1 ?_
    exact V_ireth 9 C hQ h dX12_notBlind_9
set_option maxHeartbeats 4000000 in
theorem vX12_blinds_15 {G : GG} {κ : KK} {F : Nat}  (C : Cx G κ cX12_blinds RX12 (some .int) 5 rmX12_blinds) {M' : Mem} {r : Int32} (hQ : HQ G κ (QI G r M') 0 0)  {kx : Int32 → Mem → Option (Int32 × Mem)} (hk : ∀ (v3 : Int32) (M : Mem), kx v3 M = some (r, M') → V G κ 5 0 0 M 45 [(3, .int v3)] []) : ∀ (n : Nat) (v3 : Int32) (v4 : Int32) (M : Mem), fX12_blinds_15 F  kx n v3 v4 M = some (r, M') → V G κ 5 0 0 M 15 [(0, .ref (gad G 119)), (3, .int v3), (4, .int v4)] [] := by
  intro n
  induction n with
  | zero => intro v3 v4 M h; rw [fX12_blinds_15] at h; cases h
  | succ n ih =>
    intro v3 v4 M h
    rw [fX12_blinds_15] at h
    refine V_iload 15 C 2 dX12_blinds_15 rfl ?_
    refine V_aload_n 17 C 0 dX12_blinds_17 rfl ?_
    refine V_get (v := .ref (gad G 120)) 18 C dX12_blinds_18 (ltl (by rfl) rfl) (ceR_X12 (by rfl)) rfl inX12 6 rfl wk_6_140 rfl rfl ?_
    refine V_iconst 21 C dX12_blinds_21 ic0 ?_
    refine V_ialdJ 22 C dX12_blinds_22 (akI_26 (by rfl)) (al_26 (by rfl)) (by decide) (j := 0) (by decide) ?_
    refine V_icmp_ge 23 45 C dX12_blinds_23 (by decide) (fun c5 => ?_) (fun c5 => ?_)
    · replace h := ite_t c5 h
      refine V_sub [1] rfl ?_
      exact hk _ _ h
    · replace h := ite_f c5 h
      refine V_iload_n 26 C 1 dX12_blinds_26 rfl ?_
      refine V_aload_n 27 C 0 dX12_blinds_27 rfl ?_
      refine V_get (v := .ref (gad G 120)) 28 C dX12_blinds_28 (ltl (by rfl) rfl) (ceR_X12 (by rfl)) rfl inX12 6 rfl wk_6_140 rfl rfl ?_
      refine V_bipush 31 C dX12_blinds_31 bp26 ?_
      refine V_iload 33 C 2 dX12_blinds_33 rfl ?_
      refine V_iadd 35 C dX12_blinds_35 ?_
      obtain ⟨c6, h⟩ := chk_some h
      refine V_iald 36 C dX12_blinds_36 (akI_26 (by rfl)) (al_26 (by rfl)) c6 ?_
      refine V_iadd 37 C dX12_blinds_37 ?_
      obtain ⟨x7, e8, h⟩ := letM_some h
      refine V_top e8 ?_
      refine V_istore_n 38 C [(3, .int x7), (0, .ref (gad G 119)), (4, .int v4)] dX12_blinds_38 rfl rfl rfl ?_
      obtain ⟨x9, e10, h⟩ := letM_some h
      refine V_iinc 39 C [(4, .int x9), (3, .int x7), (0, .ref (gad G 119))] 2 x9 dX12_blinds_39 rfl (by rw [e10]; rfl) rfl rfl ?_
      refine V_goto 42 15 C dX12_blinds_42 (by decide) ?_
      refine V_sub [2, 1, 0] rfl ?_
      exact ih _ _ _ h
set_option maxHeartbeats 4000000 in
theorem kX12_blinds {G : GG} {l : Launch} {F : Nat}  {p0 : Int32} {p1 : Int32} {M M' : Mem} {r : Int32} (h : fX12_blinds F p0 p1 M = some (r, M')) : Con G l yX12_blinds cX12_blinds 5 (some .int) rmX12_blinds [.ref (gad G 119), .int p0, .int p1] M (QI G r M') := by
  refine con_of pnX12 (Nat.le_of_ble_eq_true rfl) (fun κ C hQ => ?_)
  unfold fX12_blinds at h
  refine V_L (L1 := [(0, .ref (gad G 119)), (1, .int p0), (2, .int p1)]) rfl ?_
  refine V_aload_n 0 C 0 dX12_blinds_0 rfl ?_
  refine V_get (v := .ref (gad G 120)) 1 C dX12_blinds_1 (ltl (by rfl) rfl) (ceR_X12 (by rfl)) rfl inX12 6 rfl wk_6_140 rfl rfl ?_
  refine V_bipush 4 C dX12_blinds_4 bp26 ?_
  refine V_iload_n 6 C 1 dX12_blinds_6 rfl ?_
  refine V_iadd 7 C dX12_blinds_7 ?_
  refine V_iload_n 8 C 2 dX12_blinds_8 rfl ?_
  obtain ⟨c1, h⟩ := chk_some h
  obtain ⟨M2, e3, h⟩ := letM_some h
  refine V_iast 9 C dX12_blinds_9 (akI_26 (by rfl)) (al_26 (by rfl)) c1 ?_
  refine V_eqM e3 ?_
  refine V_iconst 10 C dX12_blinds_10 ic0 ?_
  refine V_istore_n 11 C [(3, .int 0), (0, .ref (gad G 119)), (1, .int p0), (2, .int p1)] dX12_blinds_11 rfl rfl rfl ?_
  refine V_iconst 12 C dX12_blinds_12 ic0 ?_
  refine V_istore 13 C [(4, .int 0), (3, .int 0), (0, .ref (gad G 119)), (1, .int p0), (2, .int p1)] dX12_blinds_13 rfl rfl ?_
  refine V_sub [2, 1, 0] rfl ?_
  refine vX12_blinds_15  C hQ ?_ _ _ _ _ h
  intro w12 M11 h
  refine V_iload_n 45 C 0 dX12_blinds_45 rfl ?_
  exact V_ireth 46 C hQ h dX12_blinds_46
set_option maxHeartbeats 4000000 in
theorem kX12_setBlind {G : GG} {l : Launch} {F : Nat}  {p0 : Int32} {p1 : Bool} {M M' : Mem} {r : Int32} (h : fX12_setBlind F p0 p1 M = some (r, M')) : Con G l yX12_setBlind cX12_setBlind 5 (some .int) rmX12_setBlind [.ref (gad G 119), .int p0, .int (b2i p1)] M (QI G r M') := by
  refine con_of pnX12 (Nat.le_of_ble_eq_true rfl) (fun κ C hQ => ?_)
  unfold fX12_setBlind at h
  refine V_L (L1 := [(0, .ref (gad G 119)), (1, .int p0), (2, .int (b2i p1))]) rfl ?_
  refine V_iload_n 0 C 2 dX12_setBlind_0 rfl ?_
  refine V_ifeq_b 1 8 C dX12_setBlind_1 (by decide) (fun c1 => ?_) (fun c1 => ?_)
  · replace h := ite_f c1 h
    refine V_iconst 8 C dX12_setBlind_8 ic0 ?_
    refine V_istore_n 9 C [(3, .int 0), (0, .ref (gad G 119)), (1, .int p0), (2, .int (b2i p1))] dX12_setBlind_9 rfl rfl rfl ?_
    refine V_aload_n 10 C 1 dX12_setBlind_10 rfl ?_
    refine V_iload_n 11 C 2 dX12_setBlind_11 rfl ?_
    refine V_iload_n 12 C 0 dX12_setBlind_12 rfl ?_
    obtain ⟨r4, M2, k3, h⟩ := bindM_some h
    refine V_callI 13 (runVO (k := 119) (rest := []) 13 C (kX12_notBlind  k3) cf_X12_notBlind wk_7_46 (ltl (by rfl) rfl) (ceR_X12 (by rfl)) rfl rfl rfl rfl dX12_setBlind_13 rfl rfl (Nat.zero_le _) (Nat.zero_le _)) ?_
    refine V_istore 16 C [(4, .int r4), (3, .int 0), (0, .ref (gad G 119)), (1, .int p0), (2, .int (b2i p1))] dX12_setBlind_16 rfl rfl ?_
    refine V_iload 18 C 0 dX12_setBlind_18 rfl ?_
    refine V_if_eq 20 30 C dX12_setBlind_20 (by decide) (fun c5 => ?_) (fun c5 => ?_)
    · replace h := ite_t c5 h
      refine V_aload_n 30 C 2 dX12_setBlind_30 rfl ?_
      obtain ⟨M6, k7, h⟩ := bindV_some h
      refine V_callV 31 (runVO (k := 119) (rest := []) 31 C (kX12_remembers  k7) cf_X12_remembers wk_6_230 (ltl (by rfl) rfl) (ceR_X12 (by rfl)) rfl rfl rfl rfl dX12_setBlind_31 rfl rfl (Nat.zero_le _) (Nat.zero_le _)) ?_
      refine V_aload_n 34 C 2 dX12_setBlind_34 rfl ?_
      refine V_iload_n 35 C 3 dX12_setBlind_35 rfl ?_
      refine V_iload_n 36 C 1 dX12_setBlind_36 rfl ?_
      obtain ⟨r10, M8, k9, h⟩ := bindM_some h
      refine V_callI 37 (runVO (k := 119) (rest := []) 37 C (kX12_blinds  k9) cf_X12_blinds wk_7_50 (ltl (by rfl) rfl) (ceR_X12 (by rfl)) rfl rfl rfl rfl dX12_setBlind_37 rfl rfl (Nat.zero_le _) (Nat.zero_le _)) ?_
      exact V_ireth 40 C hQ h dX12_setBlind_40
    · replace h := ite_f c5 h
      refine V_aload_n 23 C 2 dX12_setBlind_23 rfl ?_
      refine V_iload 24 C 0 dX12_setBlind_24 rfl ?_
      obtain ⟨r13, M11, k12, h⟩ := bindM_some h
      refine V_callI 26 (runVO (k := 119) (rest := []) 26 C (kX12_refuses  k12) cf_X12_refuses wk_6_222 (ltl (by rfl) rfl) (ceR_X12 (by rfl)) rfl rfl rfl rfl dX12_setBlind_26 rfl rfl (Nat.zero_le _) (Nat.zero_le _)) ?_
      exact V_ireth 29 C hQ h dX12_setBlind_29
  · replace h := ite_t c1 h
    refine V_iconst 4 C dX12_setBlind_4 ic1 ?_
    refine V_goto 5 9 C dX12_setBlind_5 (by decide) ?_
    refine V_istore_n 9 C [(3, .int 1), (0, .ref (gad G 119)), (1, .int p0), (2, .int (b2i p1))] dX12_setBlind_9 rfl rfl rfl ?_
    refine V_aload_n 10 C 1 dX12_setBlind_10 rfl ?_
    refine V_iload_n 11 C 2 dX12_setBlind_11 rfl ?_
    refine V_iload_n 12 C 0 dX12_setBlind_12 rfl ?_
    obtain ⟨r16, M14, k15, h⟩ := bindM_some h
    refine V_callI 13 (runVO (k := 119) (rest := []) 13 C (kX12_notBlind  k15) cf_X12_notBlind wk_7_46 (ltl (by rfl) rfl) (ceR_X12 (by rfl)) rfl rfl rfl rfl dX12_setBlind_13 rfl rfl (Nat.zero_le _) (Nat.zero_le _)) ?_
    refine V_istore 16 C [(4, .int r16), (3, .int 1), (0, .ref (gad G 119)), (1, .int p0), (2, .int (b2i p1))] dX12_setBlind_16 rfl rfl ?_
    refine V_iload 18 C 0 dX12_setBlind_18 rfl ?_
    refine V_if_eq 20 30 C dX12_setBlind_20 (by decide) (fun c17 => ?_) (fun c17 => ?_)
    · replace h := ite_t c17 h
      refine V_aload_n 30 C 2 dX12_setBlind_30 rfl ?_
      obtain ⟨M18, k19, h⟩ := bindV_some h
      refine V_callV 31 (runVO (k := 119) (rest := []) 31 C (kX12_remembers  k19) cf_X12_remembers wk_6_230 (ltl (by rfl) rfl) (ceR_X12 (by rfl)) rfl rfl rfl rfl dX12_setBlind_31 rfl rfl (Nat.zero_le _) (Nat.zero_le _)) ?_
      refine V_aload_n 34 C 2 dX12_setBlind_34 rfl ?_
      refine V_iload_n 35 C 3 dX12_setBlind_35 rfl ?_
      refine V_iload_n 36 C 1 dX12_setBlind_36 rfl ?_
      obtain ⟨r22, M20, k21, h⟩ := bindM_some h
      refine V_callI 37 (runVO (k := 119) (rest := []) 37 C (kX12_blinds  k21) cf_X12_blinds wk_7_50 (ltl (by rfl) rfl) (ceR_X12 (by rfl)) rfl rfl rfl rfl dX12_setBlind_37 rfl rfl (Nat.zero_le _) (Nat.zero_le _)) ?_
      exact V_ireth 40 C hQ h dX12_setBlind_40
    · replace h := ite_f c17 h
      refine V_aload_n 23 C 2 dX12_setBlind_23 rfl ?_
      refine V_iload 24 C 0 dX12_setBlind_24 rfl ?_
      obtain ⟨r25, M23, k24, h⟩ := bindM_some h
      refine V_callI 26 (runVO (k := 119) (rest := []) 26 C (kX12_refuses  k24) cf_X12_refuses wk_6_222 (ltl (by rfl) rfl) (ceR_X12 (by rfl)) rfl rfl rfl rfl dX12_setBlind_26 rfl rfl (Nat.zero_le _) (Nat.zero_le _)) ?_
      exact V_ireth 29 C hQ h dX12_setBlind_29
set_option maxHeartbeats 4000000 in
theorem kX12_notFill {G : GG} {l : Launch} {F : Nat}  {p0 : Int32} {p1 : Int32} {M M' : Mem} {r : Int32} (h : fX12_notFill F p0 p1 M = some (r, M')) : Con G l yX12_notFill cX12_notFill 3 (some .int) rmX12_notFill [.ref (gad G 119), .int p0, .int p1] M (QI G r M') := by
  refine con_of pnX12 (Nat.le_of_ble_eq_true rfl) (fun κ C hQ => ?_)
  unfold fX12_notFill at h
  refine V_L (L1 := [(0, .ref (gad G 119)), (1, .int p0), (2, .int p1)]) rfl ?_
  refine V_aload_n 0 C 0 dX12_notFill_0 rfl ?_
  refine V_iload_n 1 C 1 dX12_notFill_1 rfl ?_
  obtain ⟨r3, M1, k2, h⟩ := bindM_some h
  refine V_callI 2 (runVO (k := 119) (rest := []) 2 C (kX12_isShelf  k2) cf_X12_isShelf wk_7_14 (ltl (by rfl) rfl) (ceR_X12 (by rfl)) rfl rfl rfl rfl dX12_notFill_2 rfl rfl (Nat.zero_le _) (Nat.zero_le _)) ?_
  refine V_ifne_b 5 10 C dX12_notFill_5 (by decide) (fun c4 => ?_) (fun c4 => ?_)
  · replace h := ite_t c4 h
    refine V_iload_n 10 C 2 dX12_notFill_10 rfl ?_
    refine V_iconst 11 C dX12_notFill_11 ic1 ?_
    refine V_bipush 12 C dX12_notFill_12 bp99 ?_
    obtain ⟨r7, M5, k6, h⟩ := bindM_some h
    refine V_callI 14 (runSO (rest := []) 14 C (kX12_isBetween  k6) cf_X12_isBetween wk_6_215 rfl rfl dX12_notFill_14 rfl rfl (Nat.zero_le _) (Nat.zero_le _)) ?_
    refine V_ifne_b 17 22 C dX12_notFill_17 (by decide) (fun c8 => ?_) (fun c8 => ?_)
    · replace h := ite_t c8 h
      refine V_aload_n 22 C 0 dX12_notFill_22 rfl ?_
      refine V_get (v := .ref (gad G 120)) 23 C dX12_notFill_23 (ltl (by rfl) rfl) (ceR_X12 (by rfl)) rfl inX12 6 rfl wk_6_140 rfl rfl ?_
      refine V_bipush 26 C dX12_notFill_26 bp14 ?_
      refine V_iload_n 28 C 1 dX12_notFill_28 rfl ?_
      refine V_iadd 29 C dX12_notFill_29 ?_
      obtain ⟨c9, h⟩ := chk_some h
      refine V_iald 30 C dX12_notFill_30 (akI_26 (by rfl)) (al_26 (by rfl)) c9 ?_
      refine V_iload_n 31 C 2 dX12_notFill_31 rfl ?_
      refine V_iadd 32 C dX12_notFill_32 ?_
      refine V_bipush 33 C dX12_notFill_33 bp99 ?_
      refine V_icmp_le 35 49 C dX12_notFill_35 (by decide) (fun c10 => ?_) (fun c10 => ?_)
      · replace h := ite_t c10 h
        refine V_iconst 49 C dX12_notFill_49 ic0 ?_
        exact V_ireth 50 C hQ h dX12_notFill_50
      · replace h := ite_f c10 h
        refine V_aload_n 38 C 0 dX12_notFill_38 rfl ?_
        refine V_iconst 39 C dX12_notFill_39 ic1 ?_
        refine V_bipush 40 C dX12_notFill_40 bp99 ?_
        refine V_iconst 42 C dX12_notFill_42 ic3 ?_
        obtain ⟨r13, M11, k12, h⟩ := bindM_some h
        refine V_callI 43 (runVO (k := 119) (rest := []) 43 C (kX12_denies  k12) cf_X12_denies wk_6_218 (ltl (by rfl) rfl) (ceR_X12 (by rfl)) rfl rfl rfl rfl dX12_notFill_43 rfl rfl (Nat.zero_le _) (Nat.zero_le _)) ?_
        refine V_goto 46 50 C dX12_notFill_46 (by decide) ?_
        exact V_ireth 50 C hQ h dX12_notFill_50
    · replace h := ite_f c8 h
      refine V_iconst 20 C dX12_notFill_20 ic2 ?_
      exact V_ireth 21 C hQ h dX12_notFill_21
  · replace h := ite_f c4 h
    refine V_iconst 8 C dX12_notFill_8 ic1 ?_
    exact V_ireth 9 C hQ h dX12_notFill_9
set_option maxHeartbeats 4000000 in
theorem kX12_fills {G : GG} {l : Launch} {F : Nat}  {p0 : Int32} {p1 : Int32} {M M' : Mem} {r : Int32} (h : fX12_fills F p0 p1 M = some (r, M')) : Con G l yX12_fills cX12_fills 3 (some .int) rmX12_fills [.ref (gad G 119), .int p0, .int p1] M (QI G r M') := by
  refine con_of pnX12 (Nat.le_of_ble_eq_true rfl) (fun κ C hQ => ?_)
  unfold fX12_fills at h
  refine V_L (L1 := [(0, .ref (gad G 119)), (1, .int p0), (2, .int p1)]) rfl ?_
  refine V_aload_n 0 C 0 dX12_fills_0 rfl ?_
  refine V_get (v := .ref (gad G 120)) 1 C dX12_fills_1 (ltl (by rfl) rfl) (ceR_X12 (by rfl)) rfl inX12 6 rfl wk_6_140 rfl rfl ?_
  refine V_bipush 4 C dX12_fills_4 bp14 ?_
  refine V_iload_n 6 C 1 dX12_fills_6 rfl ?_
  refine V_iadd 7 C dX12_fills_7 ?_
  refine V_dup2 8 C dX12_fills_8 rfl rfl ?_
  obtain ⟨c1, h⟩ := chk_some h
  refine V_iald 9 C dX12_fills_9 (akI_26 (by rfl)) (al_26 (by rfl)) c1 ?_
  refine V_iload_n 10 C 2 dX12_fills_10 rfl ?_
  refine V_iadd 11 C dX12_fills_11 ?_
  obtain ⟨c2, h⟩ := chk_some h
  obtain ⟨M3, e4, h⟩ := letM_some h
  refine V_iast 12 C dX12_fills_12 (akI_26 (by rfl)) (al_26 (by rfl)) c2 ?_
  refine V_eqM e4 ?_
  refine V_aload_n 13 C 0 dX12_fills_13 rfl ?_
  refine V_get (v := .ref (gad G 120)) 14 C dX12_fills_14 (ltl (by rfl) rfl) (ceR_X12 (by rfl)) rfl inX12 6 rfl wk_6_140 rfl rfl ?_
  refine V_bipush 17 C dX12_fills_17 bp13 ?_
  refine V_dup2 19 C dX12_fills_19 rfl rfl ?_
  refine V_ialdJ 20 C dX12_fills_20 (akI_26 (by rfl)) (al_26 (by rfl)) (by decide) (j := 13) (by decide) ?_
  refine V_iload_n 21 C 2 dX12_fills_21 rfl ?_
  refine V_iadd 22 C dX12_fills_22 ?_
  obtain ⟨M7, e8, h⟩ := letM_some h
  refine V_iastJ 23 C dX12_fills_23 (akI_26 (by rfl)) (al_26 (by rfl)) (by decide) (j := 13) (by decide) ?_
  refine V_eqM e8 ?_
  refine V_aload_n 24 C 0 dX12_fills_24 rfl ?_
  refine V_get (v := .ref (gad G 120)) 25 C dX12_fills_25 (ltl (by rfl) rfl) (ceR_X12 (by rfl)) rfl inX12 6 rfl wk_6_140 rfl rfl ?_
  refine V_bipush 28 C dX12_fills_28 bp14 ?_
  refine V_iload_n 30 C 1 dX12_fills_30 rfl ?_
  refine V_iadd 31 C dX12_fills_31 ?_
  obtain ⟨c9, h⟩ := chk_some h
  refine V_iald 32 C dX12_fills_32 (akI_26 (by rfl)) (al_26 (by rfl)) c9 ?_
  exact V_ireth 33 C hQ h dX12_fills_33
set_option maxHeartbeats 4000000 in
theorem kX12_fill {G : GG} {l : Launch} {F : Nat}  {p0 : Int32} {p1 : Int32} {M M' : Mem} {r : Int32} (h : fX12_fill F p0 p1 M = some (r, M')) : Con G l yX12_fill cX12_fill 4 (some .int) rmX12_fill [.ref (gad G 119), .int p0, .int p1] M (QI G r M') := by
  refine con_of pnX12 (Nat.le_of_ble_eq_true rfl) (fun κ C hQ => ?_)
  unfold fX12_fill at h
  refine V_L (L1 := [(0, .ref (gad G 119)), (1, .int p0), (2, .int p1)]) rfl ?_
  refine V_aload_n 0 C 0 dX12_fill_0 rfl ?_
  refine V_iload_n 1 C 1 dX12_fill_1 rfl ?_
  refine V_iload_n 2 C 2 dX12_fill_2 rfl ?_
  obtain ⟨r3, M1, k2, h⟩ := bindM_some h
  refine V_callI 3 (runVO (k := 119) (rest := []) 3 C (kX12_notFill  k2) cf_X12_notFill wk_7_58 (ltl (by rfl) rfl) (ceR_X12 (by rfl)) rfl rfl rfl rfl dX12_fill_3 rfl rfl (Nat.zero_le _) (Nat.zero_le _)) ?_
  refine V_istore_n 6 C [(3, .int r3), (0, .ref (gad G 119)), (1, .int p0), (2, .int p1)] dX12_fill_6 rfl rfl rfl ?_
  refine V_iload_n 7 C 0 dX12_fill_7 rfl ?_
  refine V_if_eq 8 17 C dX12_fill_8 (by decide) (fun c4 => ?_) (fun c4 => ?_)
  · replace h := ite_t c4 h
    refine V_aload_n 17 C 1 dX12_fill_17 rfl ?_
    obtain ⟨M5, k6, h⟩ := bindV_some h
    refine V_callV 18 (runVO (k := 119) (rest := []) 18 C (kX12_remembers  k6) cf_X12_remembers wk_6_230 (ltl (by rfl) rfl) (ceR_X12 (by rfl)) rfl rfl rfl rfl dX12_fill_18 rfl rfl (Nat.zero_le _) (Nat.zero_le _)) ?_
    refine V_aload_n 21 C 1 dX12_fill_21 rfl ?_
    refine V_iload_n 22 C 2 dX12_fill_22 rfl ?_
    refine V_iload_n 23 C 3 dX12_fill_23 rfl ?_
    obtain ⟨r9, M7, k8, h⟩ := bindM_some h
    refine V_callI 24 (runVO (k := 119) (rest := []) 24 C (kX12_fills  k8) cf_X12_fills wk_7_62 (ltl (by rfl) rfl) (ceR_X12 (by rfl)) rfl rfl rfl rfl dX12_fill_24 rfl rfl (Nat.zero_le _) (Nat.zero_le _)) ?_
    exact V_ireth 27 C hQ h dX12_fill_27
  · replace h := ite_f c4 h
    refine V_aload_n 11 C 1 dX12_fill_11 rfl ?_
    refine V_iload_n 12 C 0 dX12_fill_12 rfl ?_
    obtain ⟨r12, M10, k11, h⟩ := bindM_some h
    refine V_callI 13 (runVO (k := 119) (rest := []) 13 C (kX12_refuses  k11) cf_X12_refuses wk_6_222 (ltl (by rfl) rfl) (ceR_X12 (by rfl)) rfl rfl rfl rfl dX12_fill_13 rfl rfl (Nat.zero_le _) (Nat.zero_le _)) ?_
    exact V_ireth 16 C hQ h dX12_fill_16
set_option maxHeartbeats 4000000 in
theorem kX12_notStop {G : GG} {l : Launch} {F : Nat}  {p0 : Int32} {M M' : Mem} {r : Int32} (h : fX12_notStop F p0 M = some (r, M')) : Con G l yX12_notStop cX12_notStop 2 (some .int) rmX12_notStop [.ref (gad G 119), .int p0] M (QI G r M') := by
  refine con_of pnX12 (Nat.le_of_ble_eq_true rfl) (fun κ C hQ => ?_)
  unfold fX12_notStop at h
  refine V_L (L1 := [(0, .ref (gad G 119)), (1, .int p0)]) rfl ?_
  refine V_aload_n 0 C 0 dX12_notStop_0 rfl ?_
  refine V_iload_n 1 C 1 dX12_notStop_1 rfl ?_
  obtain ⟨r3, M1, k2, h⟩ := bindM_some h
  refine V_callI 2 (runVO (k := 119) (rest := []) 2 C (kX12_isShelf  k2) cf_X12_isShelf wk_7_14 (ltl (by rfl) rfl) (ceR_X12 (by rfl)) rfl rfl rfl rfl dX12_notStop_2 rfl rfl (Nat.zero_le _) (Nat.zero_le _)) ?_
  refine V_ifne_b 5 10 C dX12_notStop_5 (by decide) (fun c4 => ?_) (fun c4 => ?_)
  · replace h := ite_t c4 h
    refine V_aload_n 10 C 0 dX12_notStop_10 rfl ?_
    refine V_get (v := .ref (gad G 120)) 11 C dX12_notStop_11 (ltl (by rfl) rfl) (ceR_X12 (by rfl)) rfl inX12 6 rfl wk_6_140 rfl rfl ?_
    refine V_iconst 14 C dX12_notStop_14 ic2 ?_
    refine V_ialdJ 15 C dX12_notStop_15 (akI_26 (by rfl)) (al_26 (by rfl)) (by decide) (j := 2) (by decide) ?_
    refine V_bipush 16 C dX12_notStop_16 bp10 ?_
    refine V_icmp_ne 18 32 C dX12_notStop_18 (by decide) (fun c6 => ?_) (fun c6 => ?_)
    · replace h := ite_f c6 h
      refine V_iconst 32 C dX12_notStop_32 ic0 ?_
      exact V_ireth 33 C hQ h dX12_notStop_33
    · replace h := ite_t c6 h
      refine V_aload_n 21 C 0 dX12_notStop_21 rfl ?_
      refine V_iconst 22 C dX12_notStop_22 ic1 ?_
      refine V_bipush 23 C dX12_notStop_23 bp10 ?_
      refine V_iconst 25 C dX12_notStop_25 ic2 ?_
      obtain ⟨r9, M7, k8, h⟩ := bindM_some h
      refine V_callI 26 (runVO (k := 119) (rest := []) 26 C (kX12_denies  k8) cf_X12_denies wk_6_218 (ltl (by rfl) rfl) (ceR_X12 (by rfl)) rfl rfl rfl rfl dX12_notStop_26 rfl rfl (Nat.zero_le _) (Nat.zero_le _)) ?_
      refine V_goto 29 33 C dX12_notStop_29 (by decide) ?_
      exact V_ireth 33 C hQ h dX12_notStop_33
  · replace h := ite_f c4 h
    refine V_iconst 8 C dX12_notStop_8 ic1 ?_
    exact V_ireth 9 C hQ h dX12_notStop_9
set_option maxHeartbeats 4000000 in
theorem kX12_addsStop {G : GG} {l : Launch} {F : Nat}  {p0 : Int32} {M M' : Mem} {r : Int32} (h : fX12_addsStop F p0 M = some (r, M')) : Con G l yX12_addsStop cX12_addsStop 2 (some .int) rmX12_addsStop [.ref (gad G 119), .int p0] M (QI G r M') := by
  refine con_of pnX12 (Nat.le_of_ble_eq_true rfl) (fun κ C hQ => ?_)
  unfold fX12_addsStop at h
  refine V_L (L1 := [(0, .ref (gad G 119)), (1, .int p0)]) rfl ?_
  refine V_aload_n 0 C 0 dX12_addsStop_0 rfl ?_
  refine V_get (v := .ref (gad G 120)) 1 C dX12_addsStop_1 (ltl (by rfl) rfl) (ceR_X12 (by rfl)) rfl inX12 6 rfl wk_6_140 rfl rfl ?_
  refine V_sipush 4 C dX12_addsStop_4 sp182 ?_
  refine V_aload_n 7 C 0 dX12_addsStop_7 rfl ?_
  refine V_get (v := .ref (gad G 120)) 8 C dX12_addsStop_8 (ltl (by rfl) rfl) (ceR_X12 (by rfl)) rfl inX12 6 rfl wk_6_140 rfl rfl ?_
  refine V_iconst 11 C dX12_addsStop_11 ic2 ?_
  refine V_ialdJ 12 C dX12_addsStop_12 (akI_26 (by rfl)) (al_26 (by rfl)) (by decide) (j := 2) (by decide) ?_
  refine V_iadd 13 C dX12_addsStop_13 ?_
  refine V_iload_n 14 C 1 dX12_addsStop_14 rfl ?_
  obtain ⟨c2, h⟩ := chk_some h
  obtain ⟨M3, e4, h⟩ := letM_some h
  refine V_iast 15 C dX12_addsStop_15 (akI_26 (by rfl)) (al_26 (by rfl)) c2 ?_
  refine V_eqM e4 ?_
  refine V_aload_n 16 C 0 dX12_addsStop_16 rfl ?_
  refine V_get (v := .ref (gad G 120)) 17 C dX12_addsStop_17 (ltl (by rfl) rfl) (ceR_X12 (by rfl)) rfl inX12 6 rfl wk_6_140 rfl rfl ?_
  refine V_iconst 20 C dX12_addsStop_20 ic2 ?_
  refine V_dup2 21 C dX12_addsStop_21 rfl rfl ?_
  refine V_ialdJ 22 C dX12_addsStop_22 (akI_26 (by rfl)) (al_26 (by rfl)) (by decide) (j := 2) (by decide) ?_
  refine V_iconst 23 C dX12_addsStop_23 ic1 ?_
  refine V_iadd 24 C dX12_addsStop_24 ?_
  obtain ⟨M7, e8, h⟩ := letM_some h
  refine V_iastJ 25 C dX12_addsStop_25 (akI_26 (by rfl)) (al_26 (by rfl)) (by decide) (j := 2) (by decide) ?_
  refine V_eqM e8 ?_
  refine V_aload_n 26 C 0 dX12_addsStop_26 rfl ?_
  refine V_get (v := .ref (gad G 120)) 27 C dX12_addsStop_27 (ltl (by rfl) rfl) (ceR_X12 (by rfl)) rfl inX12 6 rfl wk_6_140 rfl rfl ?_
  refine V_iconst 30 C dX12_addsStop_30 ic2 ?_
  refine V_ialdJ 31 C dX12_addsStop_31 (akI_26 (by rfl)) (al_26 (by rfl)) (by decide) (j := 2) (by decide) ?_
  exact V_ireth 32 C hQ h dX12_addsStop_32
set_option maxHeartbeats 4000000 in
theorem kX12_addStop {G : GG} {l : Launch} {F : Nat}  {p0 : Int32} {M M' : Mem} {r : Int32} (h : fX12_addStop F p0 M = some (r, M')) : Con G l yX12_addStop cX12_addStop 3 (some .int) rmX12_addStop [.ref (gad G 119), .int p0] M (QI G r M') := by
  refine con_of pnX12 (Nat.le_of_ble_eq_true rfl) (fun κ C hQ => ?_)
  unfold fX12_addStop at h
  refine V_L (L1 := [(0, .ref (gad G 119)), (1, .int p0)]) rfl ?_
  refine V_aload_n 0 C 0 dX12_addStop_0 rfl ?_
  refine V_iload_n 1 C 1 dX12_addStop_1 rfl ?_
  obtain ⟨r3, M1, k2, h⟩ := bindM_some h
  refine V_callI 2 (runVO (k := 119) (rest := []) 2 C (kX12_notStop  k2) cf_X12_notStop wk_7_70 (ltl (by rfl) rfl) (ceR_X12 (by rfl)) rfl rfl rfl rfl dX12_addStop_2 rfl rfl (Nat.zero_le _) (Nat.zero_le _)) ?_
  refine V_istore_n 5 C [(2, .int r3), (0, .ref (gad G 119)), (1, .int p0)] dX12_addStop_5 rfl rfl rfl ?_
  refine V_iload_n 6 C 0 dX12_addStop_6 rfl ?_
  refine V_if_eq 7 16 C dX12_addStop_7 (by decide) (fun c4 => ?_) (fun c4 => ?_)
  · replace h := ite_t c4 h
    refine V_aload_n 16 C 1 dX12_addStop_16 rfl ?_
    obtain ⟨M5, k6, h⟩ := bindV_some h
    refine V_callV 17 (runVO (k := 119) (rest := []) 17 C (kX12_remembers  k6) cf_X12_remembers wk_6_230 (ltl (by rfl) rfl) (ceR_X12 (by rfl)) rfl rfl rfl rfl dX12_addStop_17 rfl rfl (Nat.zero_le _) (Nat.zero_le _)) ?_
    refine V_aload_n 20 C 1 dX12_addStop_20 rfl ?_
    refine V_iload_n 21 C 2 dX12_addStop_21 rfl ?_
    obtain ⟨r9, M7, k8, h⟩ := bindM_some h
    refine V_callI 22 (runVO (k := 119) (rest := []) 22 C (kX12_addsStop  k8) cf_X12_addsStop wk_7_74 (ltl (by rfl) rfl) (ceR_X12 (by rfl)) rfl rfl rfl rfl dX12_addStop_22 rfl rfl (Nat.zero_le _) (Nat.zero_le _)) ?_
    exact V_ireth 25 C hQ h dX12_addStop_25
  · replace h := ite_f c4 h
    refine V_aload_n 10 C 1 dX12_addStop_10 rfl ?_
    refine V_iload_n 11 C 0 dX12_addStop_11 rfl ?_
    obtain ⟨r12, M10, k11, h⟩ := bindM_some h
    refine V_callI 12 (runVO (k := 119) (rest := []) 12 C (kX12_refuses  k11) cf_X12_refuses wk_6_222 (ltl (by rfl) rfl) (ceR_X12 (by rfl)) rfl rfl rfl rfl dX12_addStop_12 rfl rfl (Nat.zero_le _) (Nat.zero_le _)) ?_
    exact V_ireth 15 C hQ h dX12_addStop_15
set_option maxHeartbeats 4000000 in
theorem kX12_notDrop {G : GG} {l : Launch} {F : Nat}  {p0 : Int32} {M M' : Mem} {r : Int32} (h : fX12_notDrop F p0 M = some (r, M')) : Con G l yX12_notDrop cX12_notDrop 2 (some .int) rmX12_notDrop [.ref (gad G 119), .int p0] M (QI G r M') := by
  refine con_of pnX12 (Nat.le_of_ble_eq_true rfl) (fun κ C hQ => ?_)
  unfold fX12_notDrop at h
  refine V_L (L1 := [(0, .ref (gad G 119)), (1, .int p0)]) rfl ?_
  refine V_iload_n 0 C 1 dX12_notDrop_0 rfl ?_
  refine V_iconst 1 C dX12_notDrop_1 ic0 ?_
  refine V_aload_n 2 C 0 dX12_notDrop_2 rfl ?_
  refine V_get (v := .ref (gad G 120)) 3 C dX12_notDrop_3 (ltl (by rfl) rfl) (ceR_X12 (by rfl)) rfl inX12 6 rfl wk_6_140 rfl rfl ?_
  refine V_iconst 6 C dX12_notDrop_6 ic2 ?_
  refine V_ialdJ 7 C dX12_notDrop_7 (akI_26 (by rfl)) (al_26 (by rfl)) (by decide) (j := 2) (by decide) ?_
  refine V_iconst 8 C dX12_notDrop_8 ic1 ?_
  refine V_isub 9 C dX12_notDrop_9 ?_
  obtain ⟨r4, M2, k3, h⟩ := bindM_some h
  refine V_callI 10 (runSO (rest := []) 10 C (kX12_isBetween  k3) cf_X12_isBetween wk_6_215 rfl rfl dX12_notDrop_10 rfl rfl (Nat.zero_le _) (Nat.zero_le _)) ?_
  refine V_ifeq_b 13 20 C dX12_notDrop_13 (by decide) (fun c5 => ?_) (fun c5 => ?_)
  · replace h := ite_f c5 h
    refine V_iconst 20 C dX12_notDrop_20 ic1 ?_
    exact V_ireth 21 C hQ h dX12_notDrop_21
  · replace h := ite_t c5 h
    refine V_iconst 16 C dX12_notDrop_16 ic0 ?_
    refine V_goto 17 21 C dX12_notDrop_17 (by decide) ?_
    exact V_ireth 21 C hQ h dX12_notDrop_21
set_option maxHeartbeats 4000000 in
theorem vX12_drops_23 {G : GG} {κ : KK} {F : Nat}  (C : Cx G κ cX12_drops RX12 (some .int) 4 rmX12_drops) {M' : Mem} {r : Int32} (hQ : HQ G κ (QI G r M') 0 0) {q1 : Int32} {q2 : Int32} {kx : Mem → Option (Int32 × Mem)} (hk : ∀  (M : Mem), kx  M = some (r, M') → V G κ 4 0 0 M 61 [(0, .ref (gad G 119)), (1, .int q1), (2, .int q2)] []) : ∀ (n : Nat) (v3 : Int32) (M : Mem), fX12_drops_23 F q1 q2 kx n v3 M = some (r, M') → V G κ 4 0 0 M 23 [(0, .ref (gad G 119)), (1, .int q1), (2, .int q2), (3, .int v3)] [] := by
  intro n
  induction n with
  | zero => intro v3 M h; rw [fX12_drops_23] at h; cases h
  | succ n ih =>
    intro v3 M h
    rw [fX12_drops_23] at h
    refine V_iload_n 23 C 3 dX12_drops_23 rfl ?_
    refine V_aload_n 24 C 0 dX12_drops_24 rfl ?_
    refine V_get (v := .ref (gad G 120)) 25 C dX12_drops_25 (ltl (by rfl) rfl) (ceR_X12 (by rfl)) rfl inX12 6 rfl wk_6_140 rfl rfl ?_
    refine V_iconst 28 C dX12_drops_28 ic2 ?_
    refine V_ialdJ 29 C dX12_drops_29 (akI_26 (by rfl)) (al_26 (by rfl)) (by decide) (j := 2) (by decide) ?_
    refine V_icmp_ge 30 61 C dX12_drops_30 (by decide) (fun c9 => ?_) (fun c9 => ?_)
    · replace h := ite_t c9 h
      refine V_sub [0, 1, 2] rfl ?_
      exact hk  _ h
    · replace h := ite_f c9 h
      refine V_aload_n 33 C 0 dX12_drops_33 rfl ?_
      refine V_get (v := .ref (gad G 120)) 34 C dX12_drops_34 (ltl (by rfl) rfl) (ceR_X12 (by rfl)) rfl inX12 6 rfl wk_6_140 rfl rfl ?_
      refine V_sipush 37 C dX12_drops_37 sp182 ?_
      refine V_iload_n 40 C 3 dX12_drops_40 rfl ?_
      refine V_iadd 41 C dX12_drops_41 ?_
      refine V_aload_n 42 C 0 dX12_drops_42 rfl ?_
      refine V_get (v := .ref (gad G 120)) 43 C dX12_drops_43 (ltl (by rfl) rfl) (ceR_X12 (by rfl)) rfl inX12 6 rfl wk_6_140 rfl rfl ?_
      refine V_sipush 46 C dX12_drops_46 sp182 ?_
      refine V_iload_n 49 C 3 dX12_drops_49 rfl ?_
      refine V_iadd 50 C dX12_drops_50 ?_
      refine V_iconst 51 C dX12_drops_51 ic1 ?_
      refine V_iadd 52 C dX12_drops_52 ?_
      obtain ⟨c10, h⟩ := chk_some h
      refine V_iald 53 C dX12_drops_53 (akI_26 (by rfl)) (al_26 (by rfl)) c10 ?_
      obtain ⟨c11, h⟩ := chk_some h
      obtain ⟨M12, e13, h⟩ := letM_some h
      refine V_iast 54 C dX12_drops_54 (akI_26 (by rfl)) (al_26 (by rfl)) c11 ?_
      refine V_eqM e13 ?_
      obtain ⟨x14, e15, h⟩ := letM_some h
      refine V_iinc 55 C [(3, .int x14), (0, .ref (gad G 119)), (1, .int q1), (2, .int q2)] 3 x14 dX12_drops_55 rfl (by rw [e15]; rfl) rfl rfl ?_
      refine V_goto 58 23 C dX12_drops_58 (by decide) ?_
      refine V_sub [1, 2, 3, 0] rfl ?_
      exact ih _ _ h
set_option maxHeartbeats 4000000 in
theorem kX12_drops {G : GG} {l : Launch} {F : Nat}  {p0 : Int32} {M M' : Mem} {r : Int32} (h : fX12_drops F p0 M = some (r, M')) : Con G l yX12_drops cX12_drops 4 (some .int) rmX12_drops [.ref (gad G 119), .int p0] M (QI G r M') := by
  refine con_of pnX12 (Nat.le_of_ble_eq_true rfl) (fun κ C hQ => ?_)
  unfold fX12_drops at h
  refine V_L (L1 := [(0, .ref (gad G 119)), (1, .int p0)]) rfl ?_
  refine V_aload_n 0 C 0 dX12_drops_0 rfl ?_
  refine V_get (v := .ref (gad G 120)) 1 C dX12_drops_1 (ltl (by rfl) rfl) (ceR_X12 (by rfl)) rfl inX12 6 rfl wk_6_140 rfl rfl ?_
  refine V_sipush 4 C dX12_drops_4 sp182 ?_
  refine V_iload_n 7 C 1 dX12_drops_7 rfl ?_
  refine V_iadd 8 C dX12_drops_8 ?_
  obtain ⟨c1, h⟩ := chk_some h
  refine V_iald 9 C dX12_drops_9 (akI_26 (by rfl)) (al_26 (by rfl)) c1 ?_
  obtain ⟨x2, e3, h⟩ := letM_some h
  refine V_top e3 ?_
  refine V_istore_n 10 C [(2, .int x2), (0, .ref (gad G 119)), (1, .int p0)] dX12_drops_10 rfl rfl rfl ?_
  refine V_aload_n 11 C 1 dX12_drops_11 rfl ?_
  refine V_get (v := .ref (gad G 120)) 12 C dX12_drops_12 (ltl (by rfl) rfl) (ceR_X12 (by rfl)) rfl inX12 6 rfl wk_6_140 rfl rfl ?_
  refine V_iconst 15 C dX12_drops_15 ic2 ?_
  refine V_dup2 16 C dX12_drops_16 rfl rfl ?_
  refine V_ialdJ 17 C dX12_drops_17 (akI_26 (by rfl)) (al_26 (by rfl)) (by decide) (j := 2) (by decide) ?_
  refine V_iconst 18 C dX12_drops_18 ic1 ?_
  refine V_isub 19 C dX12_drops_19 ?_
  obtain ⟨M6, e7, h⟩ := letM_some h
  refine V_iastJ 20 C dX12_drops_20 (akI_26 (by rfl)) (al_26 (by rfl)) (by decide) (j := 2) (by decide) ?_
  refine V_eqM e7 ?_
  refine V_iload_n 21 C 2 dX12_drops_21 rfl ?_
  refine V_istore_n 22 C [(3, .int p0), (2, .int x2), (0, .ref (gad G 119)), (1, .int p0)] dX12_drops_22 rfl rfl rfl ?_
  refine V_sub [2, 3, 1, 0] rfl ?_
  refine vX12_drops_23  C hQ ?_ _ _ _ h
  intro M16 h
  refine V_aload_n 61 C 0 dX12_drops_61 rfl ?_
  refine V_get (v := .ref (gad G 120)) 62 C dX12_drops_62 (ltl (by rfl) rfl) (ceR_X12 (by rfl)) rfl inX12 6 rfl wk_6_140 rfl rfl ?_
  refine V_sipush 65 C dX12_drops_65 sp182 ?_
  refine V_aload_n 68 C 0 dX12_drops_68 rfl ?_
  refine V_get (v := .ref (gad G 120)) 69 C dX12_drops_69 (ltl (by rfl) rfl) (ceR_X12 (by rfl)) rfl inX12 6 rfl wk_6_140 rfl rfl ?_
  refine V_iconst 72 C dX12_drops_72 ic2 ?_
  refine V_ialdJ 73 C dX12_drops_73 (akI_26 (by rfl)) (al_26 (by rfl)) (by decide) (j := 2) (by decide) ?_
  refine V_iadd 74 C dX12_drops_74 ?_
  refine V_iconst 75 C dX12_drops_75 ic0 ?_
  obtain ⟨c18, h⟩ := chk_some h
  obtain ⟨M19, e20, h⟩ := letM_some h
  refine V_iast 76 C dX12_drops_76 (akI_26 (by rfl)) (al_26 (by rfl)) c18 ?_
  refine V_eqM e20 ?_
  refine V_iload_n 77 C 1 dX12_drops_77 rfl ?_
  refine V_aload_n 78 C 0 dX12_drops_78 rfl ?_
  refine V_get (v := .ref (gad G 120)) 79 C dX12_drops_79 (ltl (by rfl) rfl) (ceR_X12 (by rfl)) rfl inX12 6 rfl wk_6_140 rfl rfl ?_
  refine V_iconst 82 C dX12_drops_82 ic4 ?_
  refine V_ialdJ 83 C dX12_drops_83 (akI_26 (by rfl)) (al_26 (by rfl)) (by decide) (j := 4) (by decide) ?_
  refine V_icmp_ge 84 97 C dX12_drops_84 (by decide) (fun c22 => ?_) (fun c22 => ?_)
  · replace h := ite_t c22 h
    refine V_aload_n 97 C 0 dX12_drops_97 rfl ?_
    refine V_get (v := .ref (gad G 120)) 98 C dX12_drops_98 (ltl (by rfl) rfl) (ceR_X12 (by rfl)) rfl inX12 6 rfl wk_6_140 rfl rfl ?_
    refine V_iconst 101 C dX12_drops_101 ic4 ?_
    refine V_ialdJ 102 C dX12_drops_102 (akI_26 (by rfl)) (al_26 (by rfl)) (by decide) (j := 4) (by decide) ?_
    refine V_aload_n 103 C 0 dX12_drops_103 rfl ?_
    refine V_get (v := .ref (gad G 120)) 104 C dX12_drops_104 (ltl (by rfl) rfl) (ceR_X12 (by rfl)) rfl inX12 6 rfl wk_6_140 rfl rfl ?_
    refine V_iconst 107 C dX12_drops_107 ic2 ?_
    refine V_ialdJ 108 C dX12_drops_108 (akI_26 (by rfl)) (al_26 (by rfl)) (by decide) (j := 2) (by decide) ?_
    refine V_icmp_lt 109 119 C dX12_drops_109 (by decide) (fun c25 => ?_) (fun c25 => ?_)
    · replace h := ite_t c25 h
      refine V_iload_n 119 C 2 dX12_drops_119 rfl ?_
      exact V_ireth 120 C hQ h dX12_drops_120
    · replace h := ite_f c25 h
      refine V_aload_n 112 C 0 dX12_drops_112 rfl ?_
      refine V_get (v := .ref (gad G 120)) 113 C dX12_drops_113 (ltl (by rfl) rfl) (ceR_X12 (by rfl)) rfl inX12 6 rfl wk_6_140 rfl rfl ?_
      refine V_iconst 116 C dX12_drops_116 ic4 ?_
      refine V_iconst 117 C dX12_drops_117 ic0 ?_
      obtain ⟨M27, e28, h⟩ := letM_some h
      refine V_iastJ 118 C dX12_drops_118 (akI_26 (by rfl)) (al_26 (by rfl)) (by decide) (j := 4) (by decide) ?_
      refine V_eqM e28 ?_
      refine V_iload_n 119 C 2 dX12_drops_119 rfl ?_
      exact V_ireth 120 C hQ h dX12_drops_120
  · replace h := ite_f c22 h
    refine V_aload_n 87 C 0 dX12_drops_87 rfl ?_
    refine V_get (v := .ref (gad G 120)) 88 C dX12_drops_88 (ltl (by rfl) rfl) (ceR_X12 (by rfl)) rfl inX12 6 rfl wk_6_140 rfl rfl ?_
    refine V_iconst 91 C dX12_drops_91 ic4 ?_
    refine V_dup2 92 C dX12_drops_92 rfl rfl ?_
    refine V_ialdJ 93 C dX12_drops_93 (akI_26 (by rfl)) (al_26 (by rfl)) (by decide) (j := 4) (by decide) ?_
    refine V_iconst 94 C dX12_drops_94 ic1 ?_
    refine V_isub 95 C dX12_drops_95 ?_
    obtain ⟨M31, e32, h⟩ := letM_some h
    refine V_iastJ 96 C dX12_drops_96 (akI_26 (by rfl)) (al_26 (by rfl)) (by decide) (j := 4) (by decide) ?_
    refine V_eqM e32 ?_
    refine V_aload_n 97 C 0 dX12_drops_97 rfl ?_
    refine V_get (v := .ref (gad G 120)) 98 C dX12_drops_98 (ltl (by rfl) rfl) (ceR_X12 (by rfl)) rfl inX12 6 rfl wk_6_140 rfl rfl ?_
    refine V_iconst 101 C dX12_drops_101 ic4 ?_
    refine V_ialdJ 102 C dX12_drops_102 (akI_26 (by rfl)) (al_26 (by rfl)) (by decide) (j := 4) (by decide) ?_
    refine V_aload_n 103 C 0 dX12_drops_103 rfl ?_
    refine V_get (v := .ref (gad G 120)) 104 C dX12_drops_104 (ltl (by rfl) rfl) (ceR_X12 (by rfl)) rfl inX12 6 rfl wk_6_140 rfl rfl ?_
    refine V_iconst 107 C dX12_drops_107 ic2 ?_
    refine V_ialdJ 108 C dX12_drops_108 (akI_26 (by rfl)) (al_26 (by rfl)) (by decide) (j := 2) (by decide) ?_
    refine V_icmp_lt 109 119 C dX12_drops_109 (by decide) (fun c35 => ?_) (fun c35 => ?_)
    · replace h := ite_t c35 h
      refine V_iload_n 119 C 2 dX12_drops_119 rfl ?_
      exact V_ireth 120 C hQ h dX12_drops_120
    · replace h := ite_f c35 h
      refine V_aload_n 112 C 0 dX12_drops_112 rfl ?_
      refine V_get (v := .ref (gad G 120)) 113 C dX12_drops_113 (ltl (by rfl) rfl) (ceR_X12 (by rfl)) rfl inX12 6 rfl wk_6_140 rfl rfl ?_
      refine V_iconst 116 C dX12_drops_116 ic4 ?_
      refine V_iconst 117 C dX12_drops_117 ic0 ?_
      obtain ⟨M37, e38, h⟩ := letM_some h
      refine V_iastJ 118 C dX12_drops_118 (akI_26 (by rfl)) (al_26 (by rfl)) (by decide) (j := 4) (by decide) ?_
      refine V_eqM e38 ?_
      refine V_iload_n 119 C 2 dX12_drops_119 rfl ?_
      exact V_ireth 120 C hQ h dX12_drops_120
set_option maxHeartbeats 4000000 in
theorem kX12_removeStop {G : GG} {l : Launch} {F : Nat}  {p0 : Int32} {M M' : Mem} {r : Int32} (h : fX12_removeStop F p0 M = some (r, M')) : Con G l yX12_removeStop cX12_removeStop 2 (some .int) rmX12_removeStop [.ref (gad G 119), .int p0] M (QI G r M') := by
  refine con_of pnX12 (Nat.le_of_ble_eq_true rfl) (fun κ C hQ => ?_)
  unfold fX12_removeStop at h
  refine V_L (L1 := [(0, .ref (gad G 119)), (1, .int p0)]) rfl ?_
  refine V_aload_n 0 C 0 dX12_removeStop_0 rfl ?_
  refine V_iload_n 1 C 1 dX12_removeStop_1 rfl ?_
  obtain ⟨r3, M1, k2, h⟩ := bindM_some h
  refine V_callI 2 (runVO (k := 119) (rest := []) 2 C (kX12_notDrop  k2) cf_X12_notDrop wk_7_82 (ltl (by rfl) rfl) (ceR_X12 (by rfl)) rfl rfl rfl rfl dX12_removeStop_2 rfl rfl (Nat.zero_le _) (Nat.zero_le _)) ?_
  refine V_if_eq 5 14 C dX12_removeStop_5 (by decide) (fun c4 => ?_) (fun c4 => ?_)
  · replace h := ite_t c4 h
    refine V_aload_n 14 C 0 dX12_removeStop_14 rfl ?_
    obtain ⟨M5, k6, h⟩ := bindV_some h
    refine V_callV 15 (runVO (k := 119) (rest := []) 15 C (kX12_remembers  k6) cf_X12_remembers wk_6_230 (ltl (by rfl) rfl) (ceR_X12 (by rfl)) rfl rfl rfl rfl dX12_removeStop_15 rfl rfl (Nat.zero_le _) (Nat.zero_le _)) ?_
    refine V_aload_n 18 C 0 dX12_removeStop_18 rfl ?_
    refine V_iload_n 19 C 1 dX12_removeStop_19 rfl ?_
    obtain ⟨r9, M7, k8, h⟩ := bindM_some h
    refine V_callI 20 (runVO (k := 119) (rest := []) 20 C (kX12_drops  k8) cf_X12_drops wk_7_86 (ltl (by rfl) rfl) (ceR_X12 (by rfl)) rfl rfl rfl rfl dX12_removeStop_20 rfl rfl (Nat.zero_le _) (Nat.zero_le _)) ?_
    exact V_ireth 23 C hQ h dX12_removeStop_23
  · replace h := ite_f c4 h
    refine V_aload_n 8 C 0 dX12_removeStop_8 rfl ?_
    refine V_iconst 9 C dX12_removeStop_9 ic1 ?_
    obtain ⟨r12, M10, k11, h⟩ := bindM_some h
    refine V_callI 10 (runVO (k := 119) (rest := []) 10 C (kX12_refuses  k11) cf_X12_refuses wk_6_222 (ltl (by rfl) rfl) (ceR_X12 (by rfl)) rfl rfl rfl rfl dX12_removeStop_10 rfl rfl (Nat.zero_le _) (Nat.zero_le _)) ?_
    exact V_ireth 13 C hQ h dX12_removeStop_13
set_option maxHeartbeats 4000000 in
theorem vX12_distancesTo_2 {G : GG} {κ : KK} {F : Nat}  (C : Cx G κ cX12_distancesTo RX12 none 5 rmX12_distancesTo) {M' : Mem}  (hQ : HQ G κ (QV G M') 0 0) {q1 : Int32} {kx : Mem → Option Mem} (hk : ∀  (M : Mem), kx  M = some M' → V G κ 5 0 0 M 35 [(0, .ref (gad G 119))] []) : ∀ (n : Nat) (v2 : Int32) (M : Mem), fX12_distancesTo_2 F q1 kx n v2 M = some M' → V G κ 5 0 0 M 2 [(0, .ref (gad G 119)), (1, .int q1), (2, .int v2)] [] := by
  intro n
  induction n with
  | zero => intro v2 M h; rw [fX12_distancesTo_2] at h; cases h
  | succ n ih =>
    intro v2 M h
    rw [fX12_distancesTo_2] at h
    refine V_iload_n 2 C 2 dX12_distancesTo_2 rfl ?_
    refine V_aload_n 3 C 0 dX12_distancesTo_3 rfl ?_
    refine V_get (v := .ref (gad G 120)) 4 C dX12_distancesTo_4 (ltl (by rfl) rfl) (ceR_X12 (by rfl)) rfl inX12 6 rfl wk_6_140 rfl rfl ?_
    refine V_iconst 7 C dX12_distancesTo_7 ic0 ?_
    refine V_ialdJ 8 C dX12_distancesTo_8 (akI_26 (by rfl)) (al_26 (by rfl)) (by decide) (j := 0) (by decide) ?_
    refine V_icmp_ge 9 35 C dX12_distancesTo_9 (by decide) (fun c2 => ?_) (fun c2 => ?_)
    · replace h := ite_t c2 h
      refine V_sub [0] rfl ?_
      exact hk  _ h
    · replace h := ite_f c2 h
      refine V_aload_n 12 C 0 dX12_distancesTo_12 rfl ?_
      refine V_get (v := .ref (gad G 125)) 13 C dX12_distancesTo_13 (ltl (by rfl) rfl) (ceR_X12 (by rfl)) rfl inX12 14 rfl wk_6_148 rfl rfl ?_
      refine V_iload_n 16 C 2 dX12_distancesTo_16 rfl ?_
      refine V_iload_n 17 C 2 dX12_distancesTo_17 rfl ?_
      refine V_iload_n 18 C 1 dX12_distancesTo_18 rfl ?_
      refine V_icmp_ne 19 26 C dX12_distancesTo_19 (by decide) (fun c3 => ?_) (fun c3 => ?_)
      · replace h := ite_f c3 h
        refine V_bipush 26 C dX12_distancesTo_26 bp99 ?_
        obtain ⟨c4, h⟩ := chk_some h
        obtain ⟨M5, e6, h⟩ := letM_some h
        refine V_iast 28 C dX12_distancesTo_28 (akI_20 (by rfl)) (al_20 (by rfl)) c4 ?_
        refine V_eqM e6 ?_
        obtain ⟨x7, e8, h⟩ := letM_some h
        refine V_iinc 29 C [(2, .int x7), (0, .ref (gad G 119)), (1, .int q1)] 2 x7 dX12_distancesTo_29 rfl (by rw [e8]; rfl) rfl rfl ?_
        refine V_goto 32 2 C dX12_distancesTo_32 (by decide) ?_
        refine V_sub [1, 2, 0] rfl ?_
        exact ih _ _ h
      · replace h := ite_t c3 h
        refine V_iconst 22 C dX12_distancesTo_22 ic0 ?_
        refine V_goto 23 28 C dX12_distancesTo_23 (by decide) ?_
        obtain ⟨c9, h⟩ := chk_some h
        obtain ⟨M10, e11, h⟩ := letM_some h
        refine V_iast 28 C dX12_distancesTo_28 (akI_20 (by rfl)) (al_20 (by rfl)) c9 ?_
        refine V_eqM e11 ?_
        obtain ⟨x12, e13, h⟩ := letM_some h
        refine V_iinc 29 C [(2, .int x12), (0, .ref (gad G 119)), (1, .int q1)] 2 x12 dX12_distancesTo_29 rfl (by rw [e13]; rfl) rfl rfl ?_
        refine V_goto 32 2 C dX12_distancesTo_32 (by decide) ?_
        refine V_sub [1, 2, 0] rfl ?_
        exact ih _ _ h
set_option maxHeartbeats 4000000 in
theorem vX12_distancesTo_58 {G : GG} {κ : KK} {F : Nat}  (C : Cx G κ cX12_distancesTo RX12 none 5 rmX12_distancesTo) {M' : Mem}  (hQ : HQ G κ (QV G M') 0 0) {q3 : Int32} {kx : Int32 → Mem → Option Mem} (hk : ∀ (v2 : Int32) (M : Mem), kx v2 M = some M' → V G κ 5 0 0 M 123 [(0, .ref (gad G 119)), (2, .int v2), (3, .int q3)] []) : ∀ (n : Nat) (v2 : Int32) (v4 : Int32) (M : Mem), fX12_distancesTo_58 F q3 kx n v2 v4 M = some M' → V G κ 5 0 0 M 58 [(0, .ref (gad G 119)), (2, .int v2), (3, .int q3), (4, .int v4)] [] := by
  intro n
  induction n with
  | zero => intro v2 v4 M h; rw [fX12_distancesTo_58] at h; cases h
  | succ n ih =>
    intro v2 v4 M h
    rw [fX12_distancesTo_58] at h
    refine V_iload 58 C 3 dX12_distancesTo_58 rfl ?_
    refine V_aload_n 60 C 0 dX12_distancesTo_60 rfl ?_
    refine V_get (v := .ref (gad G 120)) 61 C dX12_distancesTo_61 (ltl (by rfl) rfl) (ceR_X12 (by rfl)) rfl inX12 6 rfl wk_6_140 rfl rfl ?_
    refine V_iconst 64 C dX12_distancesTo_64 ic0 ?_
    refine V_ialdJ 65 C dX12_distancesTo_65 (akI_26 (by rfl)) (al_26 (by rfl)) (by decide) (j := 0) (by decide) ?_
    refine V_icmp_ge 66 123 C dX12_distancesTo_66 (by decide) (fun c19 => ?_) (fun c19 => ?_)
    · replace h := ite_t c19 h
      refine V_sub [0, 1, 2] rfl ?_
      exact hk _ _ h
    · replace h := ite_f c19 h
      refine V_aload_n 69 C 0 dX12_distancesTo_69 rfl ?_
      refine V_iload_n 70 C 2 dX12_distancesTo_70 rfl ?_
      refine V_iload 71 C 3 dX12_distancesTo_71 rfl ?_
      obtain ⟨r22, M20, k21, h⟩ := bindM_some h
      refine V_callI 73 (runVO (k := 119) (rest := []) 73 C (kX12_isLinked  k21) cf_X12_isLinked wk_7_18 (ltl (by rfl) rfl) (ceR_X12 (by rfl)) rfl rfl rfl rfl dX12_distancesTo_73 rfl rfl (Nat.zero_le _) (Nat.zero_le _)) ?_
      refine V_ifeq_b 76 117 C dX12_distancesTo_76 (by decide) (fun c23 => ?_) (fun c23 => ?_)
      · replace h := ite_f c23 h
        obtain ⟨x24, e25, h⟩ := letM_some h
        refine V_iinc 117 C [(4, .int x24), (0, .ref (gad G 119)), (2, .int v2), (3, .int q3)] 3 x24 dX12_distancesTo_117 rfl (by rw [e25]; rfl) rfl rfl ?_
        refine V_goto 120 58 C dX12_distancesTo_120 (by decide) ?_
        refine V_sub [1, 2, 3, 0] rfl ?_
        exact ih _ _ _ h
      · replace h := ite_t c23 h
        refine V_aload_n 79 C 0 dX12_distancesTo_79 rfl ?_
        refine V_get (v := .ref (gad G 125)) 80 C dX12_distancesTo_80 (ltl (by rfl) rfl) (ceR_X12 (by rfl)) rfl inX12 14 rfl wk_6_148 rfl rfl ?_
        refine V_iload 83 C 3 dX12_distancesTo_83 rfl ?_
        obtain ⟨c26, h⟩ := chk_some h
        refine V_iald 85 C dX12_distancesTo_85 (akI_20 (by rfl)) (al_20 (by rfl)) c26 ?_
        refine V_iconst 86 C dX12_distancesTo_86 ic1 ?_
        refine V_iadd 87 C dX12_distancesTo_87 ?_
        refine V_aload_n 88 C 0 dX12_distancesTo_88 rfl ?_
        refine V_get (v := .ref (gad G 125)) 89 C dX12_distancesTo_89 (ltl (by rfl) rfl) (ceR_X12 (by rfl)) rfl inX12 14 rfl wk_6_148 rfl rfl ?_
        refine V_iload_n 92 C 2 dX12_distancesTo_92 rfl ?_
        obtain ⟨c27, h⟩ := chk_some h
        refine V_iald 93 C dX12_distancesTo_93 (akI_20 (by rfl)) (al_20 (by rfl)) c27 ?_
        refine V_icmp_lt 94 100 C dX12_distancesTo_94 (by decide) (fun c28 => ?_) (fun c28 => ?_)
        · replace h := ite_t c28 h
          refine V_aload_n 100 C 0 dX12_distancesTo_100 rfl ?_
          refine V_get (v := .ref (gad G 125)) 101 C dX12_distancesTo_101 (ltl (by rfl) rfl) (ceR_X12 (by rfl)) rfl inX12 14 rfl wk_6_148 rfl rfl ?_
          refine V_iload_n 104 C 2 dX12_distancesTo_104 rfl ?_
          refine V_aload_n 105 C 0 dX12_distancesTo_105 rfl ?_
          refine V_get (v := .ref (gad G 125)) 106 C dX12_distancesTo_106 (ltl (by rfl) rfl) (ceR_X12 (by rfl)) rfl inX12 14 rfl wk_6_148 rfl rfl ?_
          refine V_iload 109 C 3 dX12_distancesTo_109 rfl ?_
          obtain ⟨c29, h⟩ := chk_some h
          refine V_iald 111 C dX12_distancesTo_111 (akI_20 (by rfl)) (al_20 (by rfl)) c29 ?_
          refine V_iconst 112 C dX12_distancesTo_112 ic1 ?_
          refine V_iadd 113 C dX12_distancesTo_113 ?_
          obtain ⟨c30, h⟩ := chk_some h
          obtain ⟨M31, e32, h⟩ := letM_some h
          refine V_iast 114 C dX12_distancesTo_114 (akI_20 (by rfl)) (al_20 (by rfl)) c30 ?_
          refine V_eqM e32 ?_
          refine V_iconst 115 C dX12_distancesTo_115 ic1 ?_
          refine V_istore_n 116 C [(2, .int 1), (0, .ref (gad G 119)), (3, .int q3), (4, .int v4)] dX12_distancesTo_116 rfl rfl rfl ?_
          obtain ⟨x33, e34, h⟩ := letM_some h
          refine V_iinc 117 C [(4, .int x33), (2, .int 1), (0, .ref (gad G 119)), (3, .int q3)] 3 x33 dX12_distancesTo_117 rfl (by rw [e34]; rfl) rfl rfl ?_
          refine V_goto 120 58 C dX12_distancesTo_120 (by decide) ?_
          refine V_sub [2, 1, 3, 0] rfl ?_
          exact ih _ _ _ h
        · replace h := ite_f c28 h
          refine V_goto 97 117 C dX12_distancesTo_97 (by decide) ?_
          obtain ⟨x35, e36, h⟩ := letM_some h
          refine V_iinc 117 C [(4, .int x35), (0, .ref (gad G 119)), (2, .int v2), (3, .int q3)] 3 x35 dX12_distancesTo_117 rfl (by rw [e36]; rfl) rfl rfl ?_
          refine V_goto 120 58 C dX12_distancesTo_120 (by decide) ?_
          refine V_sub [1, 2, 3, 0] rfl ?_
          exact ih _ _ _ h
set_option maxHeartbeats 4000000 in
theorem vX12_distancesTo_45 {G : GG} {κ : KK} {F : Nat}  (C : Cx G κ cX12_distancesTo RX12 none 5 rmX12_distancesTo) {M' : Mem}  (hQ : HQ G κ (QV G M') 0 0)  {kx : Int32 → Mem → Option Mem} (hk : ∀ (v2 : Int32) (M : Mem), kx v2 M = some M' → V G κ 5 0 0 M 129 [(0, .ref (gad G 119)), (2, .int v2)] []) : ∀ (n : Nat) (v2 : Int32) (v3 : Int32) (M : Mem), fX12_distancesTo_45 F  kx n v2 v3 M = some M' → V G κ 5 0 0 M 45 [(0, .ref (gad G 119)), (2, .int v2), (3, .int v3)] [] := by
  intro n
  induction n with
  | zero => intro v2 v3 M h; rw [fX12_distancesTo_45] at h; cases h
  | succ n ih =>
    intro v2 v3 M h
    rw [fX12_distancesTo_45] at h
    refine V_iload_n 45 C 2 dX12_distancesTo_45 rfl ?_
    refine V_aload_n 46 C 0 dX12_distancesTo_46 rfl ?_
    refine V_get (v := .ref (gad G 120)) 47 C dX12_distancesTo_47 (ltl (by rfl) rfl) (ceR_X12 (by rfl)) rfl inX12 6 rfl wk_6_140 rfl rfl ?_
    refine V_iconst 50 C dX12_distancesTo_50 ic0 ?_
    refine V_ialdJ 51 C dX12_distancesTo_51 (akI_26 (by rfl)) (al_26 (by rfl)) (by decide) (j := 0) (by decide) ?_
    refine V_icmp_ge 52 129 C dX12_distancesTo_52 (by decide) (fun c17 => ?_) (fun c17 => ?_)
    · replace h := ite_t c17 h
      refine V_sub [0, 1] rfl ?_
      exact hk _ _ h
    · replace h := ite_f c17 h
      refine V_iconst 55 C dX12_distancesTo_55 ic0 ?_
      refine V_istore 56 C [(4, .int 0), (0, .ref (gad G 119)), (2, .int v2), (3, .int v3)] dX12_distancesTo_56 rfl rfl ?_
      refine V_sub [1, 2, 3, 0] rfl ?_
      refine vX12_distancesTo_58  C hQ ?_ _ _ _ _ h
      intro w38 M37 h
      obtain ⟨x39, e40, h⟩ := letM_some h
      refine V_iinc 123 C [(3, .int x39), (0, .ref (gad G 119)), (2, .int w38)] 2 x39 dX12_distancesTo_123 rfl (by rw [e40]; rfl) rfl rfl ?_
      refine V_goto 126 45 C dX12_distancesTo_126 (by decide) ?_
      refine V_sub [1, 2, 0] rfl ?_
      exact ih _ _ _ h
set_option maxHeartbeats 4000000 in
theorem vX12_distancesTo_37 {G : GG} {κ : KK} {F : Nat}  (C : Cx G κ cX12_distancesTo RX12 none 5 rmX12_distancesTo) {M' : Mem}  (hQ : HQ G κ (QV G M') 0 0)  {kx : Mem → Option Mem} (hk : ∀  (M : Mem), kx  M = some M' → V G κ 5 0 0 M 132 [] []) : ∀ (n : Nat) (v2 : Int32) (M : Mem), fX12_distancesTo_37 F  kx n v2 M = some M' → V G κ 5 0 0 M 37 [(0, .ref (gad G 119)), (2, .int v2)] [] := by
  intro n
  induction n with
  | zero => intro v2 M h; rw [fX12_distancesTo_37] at h; cases h
  | succ n ih =>
    intro v2 M h
    rw [fX12_distancesTo_37] at h
    refine V_iload_n 37 C 1 dX12_distancesTo_37 rfl ?_
    refine V_if_eq 38 132 C dX12_distancesTo_38 (by decide) (fun c15 => ?_) (fun c15 => ?_)
    · replace h := ite_t c15 h
      refine V_sub [] rfl ?_
      exact hk  _ h
    · replace h := ite_f c15 h
      refine V_iconst 41 C dX12_distancesTo_41 ic0 ?_
      refine V_istore_n 42 C [(2, .int 0), (0, .ref (gad G 119))] dX12_distancesTo_42 rfl rfl rfl ?_
      refine V_iconst 43 C dX12_distancesTo_43 ic0 ?_
      refine V_istore_n 44 C [(3, .int 0), (2, .int 0), (0, .ref (gad G 119))] dX12_distancesTo_44 rfl rfl rfl ?_
      refine V_sub [2, 1, 0] rfl ?_
      refine vX12_distancesTo_45  C hQ ?_ _ _ _ _ h
      intro w42 M41 h
      refine V_goto 129 37 C dX12_distancesTo_129 (by decide) ?_
      exact ih _ _ h
set_option maxHeartbeats 4000000 in
theorem kX12_distancesTo {G : GG} {l : Launch} {F : Nat}  {p0 : Int32} {M M' : Mem}  (h : fX12_distancesTo F p0 M = some M') : Con G l yX12_distancesTo cX12_distancesTo 5 none rmX12_distancesTo [.ref (gad G 119), .int p0] M (QV G M') := by
  refine con_of pnX12 (Nat.le_of_ble_eq_true rfl) (fun κ C hQ => ?_)
  unfold fX12_distancesTo at h
  refine V_L (L1 := [(0, .ref (gad G 119)), (1, .int p0)]) rfl ?_
  refine V_iconst 0 C dX12_distancesTo_0 ic0 ?_
  refine V_istore_n 1 C [(2, .int 0), (0, .ref (gad G 119)), (1, .int p0)] dX12_distancesTo_1 rfl rfl rfl ?_
  refine V_sub [1, 2, 0] rfl ?_
  refine vX12_distancesTo_2  C hQ ?_ _ _ _ h
  intro M14 h
  refine V_iconst 35 C dX12_distancesTo_35 ic1 ?_
  refine V_istore_n 36 C [(2, .int 1), (0, .ref (gad G 119))] dX12_distancesTo_36 rfl rfl rfl ?_
  refine V_sub [1, 0] rfl ?_
  refine vX12_distancesTo_37  C hQ ?_ _ _ _ h
  intro M43 h
  exact V_vreth 132 C hQ h dX12_distancesTo_132
