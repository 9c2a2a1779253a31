def rmX11_keepDenial : Room := { frames := 0, cells := 0, slots := 0, locals := 0 }
def fX11_keepDenial (F : Nat) (p0 : Int32) (p1 : Int32) (p2 : Int32) (M : Mem) : Option Mem := letM (up2 M 0 9 p0) (fun M1 => letM (up2 M1 0 10 p1) (fun M3 => letM (up2 M3 0 11 p2) (fun M5 => some M5)))
def rmX2_earlierAt : Room := { frames := 0, cells := 0, slots := 0, locals := 0 }
def fX2_earlierAt (F : Nat) (b : Nat) (p0 : Int32) (M : Mem) : Option ((Option Nat) × Mem) := letM (irm ((M b 1) + p0) 8) (fun x1 => if x1 < 0 then some (none, M) else if 8 ≤ x1 then some (none, M) else chk (inb x1 8) (some (some (33 + 10 * x1.toNatClampNeg), M)))
def rmX11_copyRow : Room := { frames := 1, cells := 0, slots := 0, locals := 60 }
def fX11_copyRow (F : Nat) (p0 : Nat) (p1 : Nat) (M : Mem) : Option Mem := chk (cpok (imn (nI (alen p0)) (nI (alen p1))) (alen p0) (alen p1)) (letM (cpM M p0 p1 (imn (nI (alen p0)) (nI (alen p1)))) (fun M2 => some M2))
def rmX5_copyFrom : Room := { frames := 2, cells := 0, slots := 0, locals := 81 }
def fX5_copyFrom (F : Nat) (b : Nat) (p0 : Nat) (M : Mem) : Option Mem := bindV (fX11_copyRow F (p0 + 1) (b + 1) M) (fun M1 => bindV (fX11_copyRow F (p0 + 2) (b + 2) M1) (fun M3 => bindV (fX11_copyRow F (p0 + 3) (b + 3) M3) (fun M5 => letM (up2 M5 b 3 (M5 p0 3)) (fun M7 => some M7))))
def rmX6_copyFrom : Room := { frames := 2, cells := 0, slots := 0, locals := 81 }
def fX6_copyFrom (F : Nat) (b : Nat) (p0 : Nat) (M : Mem) : Option Mem := bindV (fX11_copyRow F (p0 + 1) (b + 1) M) (fun M1 => letM (up2 M1 b 1 (M1 p0 1)) (fun M3 => letM (up2 M3 b 2 (M3 p0 2)) (fun M5 => letM (up2 M5 b 3 (M5 p0 3)) (fun M7 => some M7))))
def rmX9_copyFrom : Room := { frames := 2, cells := 0, slots := 0, locals := 81 }
def fX9_copyFrom (F : Nat) (b : Nat) (p0 : Nat) (M : Mem) : Option Mem := bindV (fX11_copyRow F (p0 + 1) (b + 1) M) (fun M1 => bindV (fX11_copyRow F (p0 + 2) (b + 2) M1) (fun M3 => letM (up2 M3 b 2 (M3 p0 2)) (fun M5 => letM (up2 M5 b 3 (M5 p0 3)) (fun M7 => letM (up2 M7 b 4 (M7 p0 4)) (fun M9 => some M9)))))
def rmX3_copyFrom : Room := { frames := 3, cells := 0, slots := 0, locals := 102 }
def fX3_copyFrom (F : Nat) (b : Nat) (p0 : Nat) (M : Mem) : Option Mem := bindV (fX9_copyFrom F (b + 1) (p0 + 1) M) (fun M1 => bindV (fX6_copyFrom F (b + 4) (p0 + 4) M1) (fun M3 => bindV (fX5_copyFrom F (b + 6) (p0 + 6) M3) (fun M5 => letM (up2 M5 b 3 (M5 p0 3)) (fun M7 => letM (up2 M7 b 4 (M7 p0 4)) (fun M9 => letM (up2 M9 b 5 (M9 p0 5)) (fun M11 => letM (up2 M11 b 6 (M11 p0 6)) (fun M13 => letM (up2 M13 b 7 (M13 p0 7)) (fun M15 => letM (up2 M15 b 8 (M15 p0 8)) (fun M17 => letM (up2 M17 b 9 (M17 p0 9)) (fun M19 => letM (up2 M19 b 10 (M19 p0 10)) (fun M21 => some M21)))))))))))
def rmX2_push : Room := { frames := 4, cells := 0, slots := 0, locals := 123 }
def fX2_push (F : Nat) (b : Nat) (p0 : Nat) (M : Mem) : Option Mem := bindM (fX2_earlierAt F b (M b 2) M) (fun r3 M1 => (match r3 with | none => if 8 ≤ (M1 b 2) then letM (up2 M1 b 1 (irm ((M1 b 1) + 1) 8)) (fun M6 => some M6) else letM (up2 M1 b 2 ((M1 b 2) + 1)) (fun M8 => some M8) | some q4 => chk (decide (lay q4 = 1)) (bindV (fX3_copyFrom F q4 p0 M1) (fun M10 => if 8 ≤ (M10 b 2) then letM (up2 M10 b 1 (irm ((M10 b 1) + 1) 8)) (fun M13 => some M13) else letM (up2 M10 b 2 ((M10 b 2) + 1)) (fun M15 => some M15)))))
def rmX11_bit : Room := { frames := 0, cells := 0, slots := 0, locals := 0 }
def fX11_bit (F : Nat) (p0 : Int32) (M : Mem) : Option (Int32 × Mem) := some ((1 <<< (p0 &&& 31)), M)
def rmX11_at : Room := { frames := 0, cells := 0, slots := 0, locals := 0 }
def fX11_at (F : Nat) (p0 : Nat) (p1 : Int32) (M : Mem) : Option (Int32 × Mem) := if p1 < 0 then some (0, M) else if (nI (alen p0)) ≤ p1 then some (0, M) else chk (inb p1 (alen p0)) (some ((M p0 p1.toNatClampNeg), M))
def rmX11_holds : Room := { frames := 0, cells := 0, slots := 0, locals := 0 }
def fX11_holds (F : Nat) (p0 : Int32) (p1 : Int32) (M : Mem) : Option (Bool × Mem) := if ((p0 >>> (p1 &&& 31)) &&& 1) = 1 then some (true, M) else some (false, M)
def rmX11_put : Room := { frames := 0, cells := 0, slots := 0, locals := 0 }
def fX11_put (F : Nat) (p0 : Nat) (p1 : Int32) (p2 : Int32) (M : Mem) : Option Mem := if p1 < 0 then some M else if (nI (alen p0)) ≤ p1 then some M else chk (inb p1 (alen p0)) (letM (up2 M p0 p1.toNatClampNeg p2) (fun M4 => some M4))
def rmX5_renumber : Room := { frames := 1, cells := 0, slots := 0, locals := 22 }
def fX5_renumber (F : Nat) (b : Nat) (p0 : Int32) (p1 : Int32) (M : Mem) : Option Mem := bindM (fX11_at F (b + 1) p0 M) (fun r3 M1 => bindV (fX11_put F (b + 1) p1 r3 M1) (fun M4 => bindM (fX11_at F (b + 2) p0 M4) (fun r8 M6 => bindV (fX11_put F (b + 2) p1 r8 M6) (fun M9 => bindM (fX11_at F (b + 3) p0 M9) (fun r13 M11 => bindV (fX11_put F (b + 3) p1 r13 M11) (fun M14 => some M14))))))
def rmX3_catchMice : Room := { frames := 2, cells := 0, slots := 0, locals := 44 }
def fX3_catchMice_25 (F : Nat) (b : Nat)  (kx : Int32 → Mem → Option Mem) : Nat → Int32 → Int32 → Mem → Option Mem
  | 0, _, _, _ => none
  | n + 1, v1, v2, M => if (M (b + 6) 3) ≤ v2 then kx v1 M else bindM (fX11_at F (b + 7) v2 M) (fun r8 M6 => if r8 = (M6 (b + 4) 2) then letM (up2 M6 b 8 ((M6 b 8) + 1)) (fun M16 => bindM (fX11_at F (b + 8) v2 M16) (fun r20 M18 => letM (up2 M18 b 10 ((M16 b 10) + r20)) (fun M21 => letM (v2 + 1) (fun x23 => fX3_catchMice_25 F b kx n v1 x23 M21)))) else bindV (fX5_renumber F (b + 6) v2 v1 M6) (fun M10 => letM (v1 + 1) (fun x12 => letM (v2 + 1) (fun x14 => fX3_catchMice_25 F b kx n x12 x14 M10))))
def fX3_catchMice (F : Nat) (b : Nat) (M : Mem) : Option Mem := bindM (fX11_holds F (M (b + 1) 2) (M (b + 4) 2) M) (fun r3 M1 => if r3 = true then some M1 else fX3_catchMice_25 F b (fun w26 M25 => letM (up2 M25 (b + 6) 3 w26) (fun M27 => some M27)) F 0 0 M1)
def rmX5_appear : Room := { frames := 1, cells := 0, slots := 0, locals := 22 }
def fX5_appear (F : Nat) (b : Nat) (p0 : Int32) (M : Mem) : Option Mem := bindV (fX11_put F (b + 1) (M b 3) p0 M) (fun M1 => bindV (fX11_put F (b + 2) (M1 b 3) 0 M1) (fun M3 => bindV (fX11_put F (b + 3) (M3 b 3) 0 M3) (fun M5 => letM (up2 M5 b 3 ((M5 b 3) + 1)) (fun M7 => some M7))))
def rmX3_drawMouse : Room := { frames := 2, cells := 0, slots := 0, locals := 43 }
def fX3_drawMouse (F : Nat) (b : Nat) (M : Mem) : Option Mem := letM (up2 M b 4 (irm (((M b 4) * 109) + 89) 1024)) (fun M1 => if (M1 b 3) ≤ (irm (M1 b 4) 16) then some M1 else if (M1 (b + 1) 3) ≤ 0 then some M1 else if 8 ≤ (M1 (b + 6) 3) then some M1 else chk (decide (¬ (M1 (b + 1) 3) = 0)) (bindV (fX5_appear F (b + 6) (irm ((M1 b 4) / 16) (M1 (b + 1) 3)) M1) (fun M7 => some M7)))
def rmX6_shelfOfGoal : Room := { frames := 1, cells := 0, slots := 0, locals := 21 }
def fX6_shelfOfGoal (F : Nat) (b : Nat) (M : Mem) : Option (Int32 × Mem) := bindM (fX11_at F (b + 1) (M b 3) M) (fun r3 M1 => some (r3, M1))
def rmX9_neighboursOfAll : Room := { frames := 1, cells := 0, slots := 0, locals := 21 }
def fX9_neighboursOfAll_4 (F : Nat) (b : Nat) (q1 : Int32) (kx : Int32 → Mem → Option (Int32 × Mem)) : Nat → Int32 → Int32 → Mem → Option (Int32 × Mem)
  | 0, _, _, _ => none
  | n + 1, v2, v3, M => if 12 ≤ v3 then kx v2 M else bindM (fX11_holds F q1 v3 M) (fun r4 M2 => if r4 = true then chk (inb v3 12) (letM (v2 ||| (M2 (b + 2) v3.toNatClampNeg)) (fun x9 => letM (v3 + 1) (fun x11 => fX9_neighboursOfAll_4 F b q1 kx n x9 x11 M2))) else letM (v3 + 1) (fun x6 => fX9_neighboursOfAll_4 F b q1 kx n v2 x6 M2))
def fX9_neighboursOfAll (F : Nat) (b : Nat) (p0 : Int32) (M : Mem) : Option (Int32 × Mem) := fX9_neighboursOfAll_4 F b p0 (fun w14 M13 => some (w14, M13)) F 0 0 M
def rmX9_smallestIn : Room := { frames := 1, cells := 0, slots := 0, locals := 21 }
def fX9_smallestIn_2 (F : Nat) (b : Nat) (q1 : Int32) (q2 : Int32) (kx : Mem → Option (Int32 × Mem)) : Nat → Int32 → Mem → Option (Int32 × Mem)
  | 0, _, _ => none
  | n + 1, v3, M => if 12 ≤ v3 then kx  M else bindM (fX11_holds F q1 v3 M) (fun r4 M2 => if r4 = true then some (v3, M2) else letM (v3 + 1) (fun x6 => fX9_smallestIn_2 F b q1 q2 kx n x6 M2))
def fX9_smallestIn (F : Nat) (b : Nat) (p0 : Int32) (p1 : Int32) (M : Mem) : Option (Int32 × Mem) := fX9_smallestIn_2 F b p0 p1 (fun M8 => some (p1, M8)) F 0 M
def rmX9_shelfTowards : Room := { frames := 2, cells := 0, slots := 0, locals := 44 }
def fX9_shelfTowards_29 (F : Nat) (b : Nat) (q1 : Int32) (q3 : Int32) (kx : Mem → Option (Int32 × Mem)) : Nat → Int32 → Int32 → Int32 → Mem → Option (Int32 × Mem)
  | 0, _, _, _, _ => none
  | n + 1, v4, v5, v6, M => if 12 ≤ v6 then kx  M else if (v4 &&& q3) = 0 then bindM (fX9_neighboursOfAll F b v4 M) (fun r12 M10 => letM (r12 &&& (v5 ^^^ (-1))) (fun x13 => letM (v5 ||| x13) (fun x15 => letM (v6 + 1) (fun x17 => fX9_shelfTowards_29 F b q1 q3 kx n x13 x15 x17 M10)))) else bindM (fX9_smallestIn F b (v4 &&& q3) q1 M) (fun r21 M19 => some (r21, M19))
def fX9_shelfTowards (F : Nat) (b : Nat) (p0 : Int32) (p1 : Int32) (M : Mem) : Option (Int32 × Mem) := if p0 = p1 then some (p0, M) else bindM (fX11_at F (b + 2) p0 M) (fun r4 M2 => bindM (fX11_bit F p1 M2) (fun r7 M5 => fX9_shelfTowards_29 F b p0 r4 (fun M22 => some (p0, M22)) F r7 r7 0 M5))
def rmX3_shelfAfterWalk : Room := { frames := 3, cells := 0, slots := 0, locals := 70 }
def fX3_shelfAfterWalk (F : Nat) (b : Nat) (M : Mem) : Option (Int32 × Mem) := if (M (b + 4) 1) = 0 then some ((M (b + 4) 2), M) else bindM (fX6_shelfOfGoal F (b + 4) M) (fun r4 M2 => bindM (fX9_shelfTowards F (b + 1) (M (b + 4) 2) r4 M2) (fun r7 M5 => some (r7, M5)))
def rmX5_eat : Room := { frames := 1, cells := 0, slots := 0, locals := 22 }
def fX5_eat (F : Nat) (b : Nat) (p0 : Int32) (M : Mem) : Option Mem := bindM (fX11_at F (b + 2) p0 M) (fun r3 M1 => bindV (fX11_put F (b + 2) p0 (r3 + 1) M1) (fun M4 => bindV (fX11_put F (b + 3) p0 0 M4) (fun M6 => some M6)))
def rmX9_addGrams : Room := { frames := 1, cells := 0, slots := 0, locals := 22 }
def fX9_addGrams (F : Nat) (b : Nat) (p0 : Int32) (p1 : Int32) (M : Mem) : Option (Int32 × Mem) := bindM (fX11_at F (b + 1) p0 M) (fun r3 M1 => bindV (fX11_put F (b + 1) p0 (r3 + p1) M1) (fun M4 => bindM (fX11_at F (b + 1) p0 M4) (fun r8 M6 => some (r8, M6))))
def rmX9_richestNeighbour : Room := { frames := 1, cells := 0, slots := 0, locals := 21 }
def fX9_richestNeighbour_17 (F : Nat) (b : Nat) (q2 : Int32) (kx : Int32 → Mem → Option (Int32 × Mem)) : Nat → Int32 → Int32 → Int32 → Mem → Option (Int32 × Mem)
  | 0, _, _, _, _ => none
  | n + 1, v3, v4, v5, M => if 12 ≤ v5 then kx v3 M else bindM (fX11_holds F q2 v5 M) (fun r7 M5 => if r7 = true then chk (inb v5 12) (if (M5 (b + 1) v5.toNatClampNeg) ≤ v4 then letM (v5 + 1) (fun x13 => fX9_richestNeighbour_17 F b q2 kx n v3 v4 x13 M5) else chk (inb v5 12) (letM (M5 (b + 1) v5.toNatClampNeg) (fun x16 => letM (v5 + 1) (fun x18 => fX9_richestNeighbour_17 F b q2 kx n v5 x16 x18 M5)))) else letM (v5 + 1) (fun x9 => fX9_richestNeighbour_17 F b q2 kx n v3 v4 x9 M5))
def fX9_richestNeighbour (F : Nat) (b : Nat) (p0 : Int32) (M : Mem) : Option (Int32 × Mem) := bindM (fX11_at F (b + 2) p0 M) (fun r3 M1 => fX9_richestNeighbour_17 F b r3 (fun w21 M20 => some (w21, M20)) F p0 (-1) 0 M1)
def rmX3_staysAfterVisit : Room := { frames := 2, cells := 0, slots := 0, locals := 46 }
def fX3_staysAfterVisit (F : Nat) (b : Nat) (p0 : Int32) (M : Mem) : Option (Bool × Mem) := bindM (fX11_at F (b + 7) p0 M) (fun r3 M1 => bindM (fX11_at F (b + 2) r3 M1) (fun r6 M4 => if r6 ≤ 0 then bindM (fX11_at F (b + 9) p0 M4) (fun r10 M8 => letM (r10 + 1) (fun x11 => if x11 < 3 then bindV (fX11_put F (b + 9) p0 x11 M8) (fun M14 => bindM (fX9_richestNeighbour F (b + 1) r3 M14) (fun r18 M16 => bindV (fX11_put F (b + 7) p0 r18 M16) (fun M19 => some (true, M19)))) else some (false, M8))) else bindM (fX9_addGrams F (b + 1) r3 (-1) M4) (fun r23 M21 => bindV (fX5_eat F (b + 6) p0 M21) (fun M24 => letM (up2 M24 b 7 ((M24 b 7) + 1)) (fun M26 => some (true, M26))))))
def rmX3_visitMice : Room := { frames := 3, cells := 0, slots := 0, locals := 69 }
def fX3_visitMice_4 (F : Nat) (b : Nat)  (kx : Int32 → Mem → Option Mem) : Nat → Int32 → Int32 → Mem → Option Mem
  | 0, _, _, _ => none
  | n + 1, v1, v2, M => if (M (b + 6) 3) ≤ v2 then kx v1 M else bindM (fX3_staysAfterVisit F b v2 M) (fun r4 M2 => if r4 = true then bindV (fX5_renumber F (b + 6) v2 v1 M2) (fun M10 => letM (v1 + 1) (fun x12 => letM (v2 + 1) (fun x14 => fX3_visitMice_4 F b kx n x12 x14 M10))) else letM (up2 M2 b 9 ((M2 b 9) + 1)) (fun M6 => letM (v2 + 1) (fun x8 => fX3_visitMice_4 F b kx n v1 x8 M6)))
def fX3_visitMice (F : Nat) (b : Nat) (M : Mem) : Option Mem := fX3_visitMice_4 F b (fun w17 M16 => letM (up2 M16 (b + 6) 3 w17) (fun M18 => some M18)) F 0 0 M
def rmX6_stopAfter : Room := { frames := 0, cells := 0, slots := 0, locals := 0 }
def fX6_stopAfter (F : Nat) (b : Nat) (p0 : Int32) (M : Mem) : Option (Int32 × Mem) := if (M b 1) ≤ (p0 + 1) then some (0, M) else some ((p0 + 1), M)
def rmX6_leaveReachedGoal : Room := { frames := 2, cells := 0, slots := 0, locals := 41 }
def fX6_leaveReachedGoal (F : Nat) (b : Nat) (M : Mem) : Option Mem := if (M b 1) ≤ 0 then some M else bindM (fX6_shelfOfGoal F b M) (fun r4 M2 => if (M b 2) = r4 then bindM (fX6_stopAfter F b (M2 b 3) M2) (fun r8 M6 => letM (up2 M6 b 3 r8) (fun M9 => some M9)) else some M2)
def rmX3_letPass : Room := { frames := 4, cells := 0, slots := 0, locals := 91 }
def fX3_letPass_7 (F : Nat) (b : Nat) (q1 : Int32) (q2 : Int32) (kx : Mem → Option (Int32 × Mem)) : Nat → Int32 → Mem → Option (Int32 × Mem)
  | 0, _, _ => none
  | n + 1, v3, M => if q1 ≤ v3 then kx  M else bindM (fX3_shelfAfterWalk F b M) (fun r6 M4 => letM (up2 M4 (b + 4) 2 r6) (fun M7 => bindV (fX6_leaveReachedGoal F (b + 4) M7) (fun M9 => bindV (fX3_catchMice F b M9) (fun M11 => bindV (fX3_visitMice F b M11) (fun M13 => bindV (fX3_drawMouse F b M13) (fun M15 => letM (up2 M15 b 5 ((M15 b 5) + 1)) (fun M17 => letM (v3 + 1) (fun x19 => fX3_letPass_7 F b q1 q2 kx n x19 M17))))))))
def fX3_letPass (F : Nat) (b : Nat) (p0 : Int32) (M : Mem) : Option (Int32 × Mem) := letM (M b 8) (fun x1 => fX3_letPass_7 F b p0 x1 (fun M21 => some (((M21 b 8) - x1), M21)) F 0 M)
def rmX3_replaceRate : Room := { frames := 0, cells := 0, slots := 0, locals := 0 }
def fX3_replaceRate (F : Nat) (b : Nat) (p0 : Int32) (M : Mem) : Option (Int32 × Mem) := letM (M b 3) (fun x1 => letM (up2 M b 3 p0) (fun M3 => some (x1, M3)))
def rmX3_replaceSeed : Room := { frames := 0, cells := 0, slots := 0, locals := 0 }
def fX3_replaceSeed (F : Nat) (b : Nat) (p0 : Int32) (M : Mem) : Option (Int32 × Mem) := letM (M b 4) (fun x1 => letM (up2 M b 4 p0) (fun M3 => some (x1, M3)))
def rmX6_append : Room := { frames := 1, cells := 0, slots := 0, locals := 22 }
def fX6_append (F : Nat) (b : Nat) (p0 : Int32) (M : Mem) : Option (Int32 × Mem) := bindV (fX11_put F (b + 1) (M b 1) p0 M) (fun M1 => letM (up2 M1 b 1 ((M1 b 1) + 1)) (fun M3 => some ((M3 b 1), M3)))
def rmX6_remove : Room := { frames := 1, cells := 0, slots := 0, locals := 22 }
def fX6_remove_21 (F : Nat) (b : Nat) (q1 : Int32) (q2 : Int32) (kx : Mem → Option (Int32 × Mem)) : Nat → Int32 → Mem → Option (Int32 × Mem)
  | 0, _, _ => none
  | n + 1, v3, M => if (M b 1) ≤ v3 then kx  M else bindM (fX11_at F (b + 1) (v3 + 1) M) (fun r9 M7 => bindV (fX11_put F (b + 1) v3 r9 M7) (fun M10 => letM (v3 + 1) (fun x12 => fX6_remove_21 F b q1 q2 kx n x12 M10)))
def fX6_remove (F : Nat) (b : Nat) (p0 : Int32) (M : Mem) : Option (Int32 × Mem) := bindM (fX11_at F (b + 1) p0 M) (fun r3 M1 => letM (up2 M1 b 1 ((M1 b 1) - 1)) (fun M4 => fX6_remove_21 F b p0 r3 (fun M14 => if (M14 b 3) ≤ p0 then if (M14 b 3) < (M14 b 1) then some (r3, M14) else letM (up2 M14 b 3 0) (fun M17 => some (r3, M17)) else letM (up2 M14 b 3 ((M14 b 3) - 1)) (fun M19 => some (r3, M19))) F p0 M4))
def rmX9_add : Room := { frames := 1, cells := 0, slots := 0, locals := 22 }
def fX9_add (F : Nat) (b : Nat) (p0 : Int32) (M : Mem) : Option (Int32 × Mem) := bindV (fX11_put F (b + 1) (M b 3) p0 M) (fun M1 => letM (up2 M1 b 3 ((M1 b 3) + 1)) (fun M3 => some (((M3 b 3) - 1), M3)))
set_option maxHeartbeats 4000000 in
theorem kX11_keepDenial {G : GG} {l : Launch} {F : Nat}  {p0 : Int32} {p1 : Int32} {p2 : Int32} {M M' : Mem}  (h : fX11_keepDenial F p0 p1 p2 M = some M') : Con G l yX11_keepDenial cX11_keepDenial 4 none rmX11_keepDenial [.ref (gad G 0), .int p0, .int p1, .int p2] M (QV G M') := by
  refine con_of pnX11 (Nat.le_of_ble_eq_true rfl) (fun κ C hQ => ?_)
  unfold fX11_keepDenial at h
  refine V_L (L1 := [(0, .ref (gad G 0)), (1, .int p0), (2, .int p1), (3, .int p2)]) rfl ?_
  refine V_aload_n 0 C 0 dX11_keepDenial_0 rfl ?_
  refine V_iload_n 1 C 1 dX11_keepDenial_1 rfl ?_
  obtain ⟨M1, e2, h⟩ := letM_some h
  refine V_put (ty := .int) (F := F_X11 G 0) 2 C dX11_keepDenial_2 (ltl (by rfl) rfl) (fun _ => ceR_X11 (by rfl)) rfl inX11 tyX11 tyX11_ok nmX11 9 rfl wk_2_36 rfl rfl p0 rfl rfl rfl rfl rfl ?_
  refine V_eqM e2 ?_
  refine V_aload_n 5 C 0 dX11_keepDenial_5 rfl ?_
  refine V_iload_n 6 C 2 dX11_keepDenial_6 rfl ?_
  obtain ⟨M3, e4, h⟩ := letM_some h
  refine V_put (ty := .int) (F := F_X11 G 0) 7 C dX11_keepDenial_7 (ltl (by rfl) rfl) (fun _ => ceR_X11 (by rfl)) rfl inX11 tyX11 tyX11_ok nmX11 10 rfl wk_2_37 rfl rfl p1 rfl rfl rfl rfl rfl ?_
  refine V_eqM e4 ?_
  refine V_aload_n 10 C 0 dX11_keepDenial_10 rfl ?_
  refine V_iload_n 11 C 3 dX11_keepDenial_11 rfl ?_
  obtain ⟨M5, e6, h⟩ := letM_some h
  refine V_put (ty := .int) (F := F_X11 G 0) 12 C dX11_keepDenial_12 (ltl (by rfl) rfl) (fun _ => ceR_X11 (by rfl)) rfl inX11 tyX11 tyX11_ok nmX11 11 rfl wk_2_38 rfl rfl p2 rfl rfl rfl rfl rfl ?_
  refine V_eqM e6 ?_
  exact V_vreth 15 C hQ h dX11_keepDenial_15
set_option maxHeartbeats 4000000 in
theorem kX2_earlierAt {G : GG} {l : Launch} {F : Nat} {b : Nat} (hb : lay b = 5) {p0 : Int32} {M M' : Mem} {r : Option Nat} (h : fX2_earlierAt F b p0 M = some (r, M')) : Con G l yX2_earlierAt cX2_earlierAt 3 (some (.object "LarderPatrol$Larder")) rmX2_earlierAt [.ref (gad G b), .int p0] M (QQ G (r.map (gad G)) M') := by
  refine con_of pnX2 (Nat.le_of_ble_eq_true rfl) (fun κ C hQ => ?_)
  unfold fX2_earlierAt at h
  refine V_L (L1 := [(0, .ref (gad G b)), (1, .int p0)]) rfl ?_
  refine V_aload_n 0 C 0 dX2_earlierAt_0 rfl ?_
  refine V_get (v := .int (M b 1)) 1 C dX2_earlierAt_1 (ltl hb rfl) (ceR_X2 hb) rfl inX2 1 rfl wk_1_196 rfl rfl ?_
  refine V_iload_n 4 C 1 dX2_earlierAt_4 rfl ?_
  refine V_iadd 5 C dX2_earlierAt_5 ?_
  refine V_bipush 6 C dX2_earlierAt_6 bp8 ?_
  refine V_irem 8 C dX2_earlierAt_8 (by decide) ?_
  obtain ⟨x1, e2, h⟩ := letM_some h
  refine V_top e2 ?_
  refine V_istore_n 9 C [(2, .int x1), (0, .ref (gad G b)), (1, .int p0)] dX2_earlierAt_9 rfl rfl rfl ?_
  refine V_iload_n 10 C 0 dX2_earlierAt_10 rfl ?_
  refine V_if_lt 11 32 C dX2_earlierAt_11 (by decide) (fun c3 => ?_) (fun c3 => ?_)
  · replace h := ite_t c3 h
    refine V_null 32 C dX2_earlierAt_32 ?_
    exact V_qreth (v := none) 33 C rfl hQ h dX2_earlierAt_33
  · replace h := ite_f c3 h
    refine V_iload_n 14 C 0 dX2_earlierAt_14 rfl ?_
    refine V_aload_n 15 C 1 dX2_earlierAt_15 rfl ?_
    refine V_get (v := .ref (gad G (b + 1))) 16 C dX2_earlierAt_16 (ltl hb rfl) (ceR_X2 hb) rfl inX2 0 rfl wk_1_195 rfl rfl ?_
    refine V_alenO 19 C dX2_earlierAt_19 (ly5_1 hb) ?_
    refine V_icmp_ge 20 32 C dX2_earlierAt_20 (by decide) (fun c4 => ?_) (fun c4 => ?_)
    · replace h := ite_t c4 h
      refine V_null 32 C dX2_earlierAt_32 ?_
      exact V_qreth (v := none) 33 C rfl hQ h dX2_earlierAt_33
    · replace h := ite_f c4 h
      refine V_aload_n 23 C 1 dX2_earlierAt_23 rfl ?_
      refine V_get (v := .ref (gad G (b + 1))) 24 C dX2_earlierAt_24 (ltl hb rfl) (ceR_X2 hb) rfl inX2 0 rfl wk_1_195 rfl rfl ?_
      refine V_iload_n 27 C 0 dX2_earlierAt_27 rfl ?_
      obtain ⟨c5, h⟩ := chk_some h
      refine V_aald 28 C dX2_earlierAt_28 (ly5_1 hb) c5 ?_
      refine V_goto 29 33 C dX2_earlierAt_29 (by decide) ?_
      exact V_qreth 33 C rfl hQ h dX2_earlierAt_33
set_option maxHeartbeats 4000000 in
theorem kX11_copyRow {G : GG} {l : Launch} {F : Nat} {p0 : Nat} (hp0 : ak p0 = 1) {p1 : Nat} (hp1 : ak p1 = 1)  {M M' : Mem}  (h : fX11_copyRow F p0 p1 M = some M') : Con G l yX11_copyRow cX11_copyRow 2 none rmX11_copyRow [.ref (gad G p0), .ref (gad G p1)] M (QV G M') := by
  refine con_of pnX11 (Nat.le_of_ble_eq_true rfl) (fun κ C hQ => ?_)
  unfold fX11_copyRow at h
  refine V_L (L1 := [(0, .ref (gad G p0)), (1, .ref (gad G p1))]) rfl ?_
  refine V_aload_n 0 C 0 dX11_copyRow_0 rfl ?_
  refine V_iconst 1 C dX11_copyRow_1 ic0 ?_
  refine V_aload_n 2 C 1 dX11_copyRow_2 rfl ?_
  refine V_iconst 3 C dX11_copyRow_3 ic0 ?_
  refine V_aload_n 4 C 0 dX11_copyRow_4 rfl ?_
  refine V_alenI 5 C dX11_copyRow_5 hp0 rfl ?_
  refine V_aload_n 6 C 1 dX11_copyRow_6 rfl ?_
  refine V_alenI 7 C dX11_copyRow_7 hp1 rfl ?_
  refine V_mn 8 C dX11_copyRow_8 wk_2_181 wk_2_182 wk_1_21 wk_2_183 rfl ?_
  obtain ⟨c1, h⟩ := chk_some h
  obtain ⟨M2, e3, h⟩ := letM_some h
  refine V_acp 11 C dX11_copyRow_11 wk_2_184 wk_2_185 wk_1_22 wk_2_186 rfl hp0 hp1 rfl rfl c1 ?_
  refine V_eqM e3 ?_
  exact V_vreth 14 C hQ h dX11_copyRow_14
set_option maxHeartbeats 4000000 in
theorem kX5_copyFrom {G : GG} {l : Launch} {F : Nat} {b : Nat} (hb : lay b = 4) {p0 : Nat} (hp0 : lay p0 = 4)  {M M' : Mem}  (h : fX5_copyFrom F b p0 M = some M') : Con G l yX5_copyFrom cX5_copyFrom 2 none rmX5_copyFrom [.ref (gad G b), .ref (gad G p0)] M (QV G M') := by
  refine con_of pnX5 (Nat.le_of_ble_eq_true rfl) (fun κ C hQ => ?_)
  unfold fX5_copyFrom at h
  refine V_L (L1 := [(0, .ref (gad G b)), (1, .ref (gad G p0))]) rfl ?_
  refine V_aload_n 0 C 1 dX5_copyFrom_0 rfl ?_
  refine V_get (v := .ref (gad G (p0 + 1))) 1 C dX5_copyFrom_1 (ltl hp0 rfl) (ceR_X5 hp0) rfl inX5 0 rfl wk_1_118 rfl rfl ?_
  refine V_aload_n 4 C 0 dX5_copyFrom_4 rfl ?_
  refine V_get (v := .ref (gad G (b + 1))) 5 C dX5_copyFrom_5 (ltl hb rfl) (ceR_X5 hb) rfl inX5 0 rfl wk_1_118 rfl rfl ?_
  obtain ⟨M1, k2, h⟩ := bindV_some h
  refine V_callV 8 (runSN (rest := []) 8 C (kX11_copyRow (akI_22 (ly4_1 hp0)) (akI_22 (ly4_1 hb)) k2) cf_X11_copyRow wk_2_196 rfl rfl dX5_copyFrom_8 rfl rfl (Nat.zero_le _) (Nat.zero_le _)) ?_
  refine V_aload_n 11 C 1 dX5_copyFrom_11 rfl ?_
  refine V_get (v := .ref (gad G (p0 + 2))) 12 C dX5_copyFrom_12 (ltl hp0 rfl) (ceR_X5 hp0) rfl inX5 1 rfl wk_1_121 rfl rfl ?_
  refine V_aload_n 15 C 0 dX5_copyFrom_15 rfl ?_
  refine V_get (v := .ref (gad G (b + 2))) 16 C dX5_copyFrom_16 (ltl hb rfl) (ceR_X5 hb) rfl inX5 1 rfl wk_1_121 rfl rfl ?_
  obtain ⟨M3, k4, h⟩ := bindV_some h
  refine V_callV 19 (runSN (rest := []) 19 C (kX11_copyRow (akI_22 (ly4_2 hp0)) (akI_22 (ly4_2 hb)) k4) cf_X11_copyRow wk_2_196 rfl rfl dX5_copyFrom_19 rfl rfl (Nat.zero_le _) (Nat.zero_le _)) ?_
  refine V_aload_n 22 C 1 dX5_copyFrom_22 rfl ?_
  refine V_get (v := .ref (gad G (p0 + 3))) 23 C dX5_copyFrom_23 (ltl hp0 rfl) (ceR_X5 hp0) rfl inX5 2 rfl wk_1_124 rfl rfl ?_
  refine V_aload_n 26 C 0 dX5_copyFrom_26 rfl ?_
  refine V_get (v := .ref (gad G (b + 3))) 27 C dX5_copyFrom_27 (ltl hb rfl) (ceR_X5 hb) rfl inX5 2 rfl wk_1_124 rfl rfl ?_
  obtain ⟨M5, k6, h⟩ := bindV_some h
  refine V_callV 30 (runSN (rest := []) 30 C (kX11_copyRow (akI_22 (ly4_3 hp0)) (akI_22 (ly4_3 hb)) k6) cf_X11_copyRow wk_2_196 rfl rfl dX5_copyFrom_30 rfl rfl (Nat.zero_le _) (Nat.zero_le _)) ?_
  refine V_aload_n 33 C 0 dX5_copyFrom_33 rfl ?_
  refine V_aload_n 34 C 1 dX5_copyFrom_34 rfl ?_
  refine V_get (v := .int (M5 p0 3)) 35 C dX5_copyFrom_35 (ltl hp0 rfl) (ceR_X5 hp0) rfl inX5 3 rfl wk_1_127 rfl rfl ?_
  obtain ⟨M7, e8, h⟩ := letM_some h
  refine V_put (ty := .int) (F := F_X5 G b) 38 C dX5_copyFrom_38 (ltl hb rfl) (fun _ => ceR_X5 hb) rfl inX5 tyX5 tyX5_ok nmX5 3 rfl wk_1_127 rfl rfl (M5 p0 3) rfl rfl rfl rfl rfl ?_
  refine V_eqM e8 ?_
  exact V_vreth 41 C hQ h dX5_copyFrom_41
set_option maxHeartbeats 4000000 in
theorem kX6_copyFrom {G : GG} {l : Launch} {F : Nat} {b : Nat} (hb : lay b = 3) {p0 : Nat} (hp0 : lay p0 = 3)  {M M' : Mem}  (h : fX6_copyFrom F b p0 M = some M') : Con G l yX6_copyFrom cX6_copyFrom 2 none rmX6_copyFrom [.ref (gad G b), .ref (gad G p0)] M (QV G M') := by
  refine con_of pnX6 (Nat.le_of_ble_eq_true rfl) (fun κ C hQ => ?_)
  unfold fX6_copyFrom at h
  refine V_L (L1 := [(0, .ref (gad G b)), (1, .ref (gad G p0))]) rfl ?_
  refine V_aload_n 0 C 1 dX6_copyFrom_0 rfl ?_
  refine V_get (v := .ref (gad G (p0 + 1))) 1 C dX6_copyFrom_1 (ltl hp0 rfl) (ceR_X6 hp0) rfl inX6 0 rfl wk_1_88 rfl rfl ?_
  refine V_aload_n 4 C 0 dX6_copyFrom_4 rfl ?_
  refine V_get (v := .ref (gad G (b + 1))) 5 C dX6_copyFrom_5 (ltl hb rfl) (ceR_X6 hb) rfl inX6 0 rfl wk_1_88 rfl rfl ?_
  obtain ⟨M1, k2, h⟩ := bindV_some h
  refine V_callV 8 (runSN (rest := []) 8 C (kX11_copyRow (akI_21 (ly3_1 hp0)) (akI_21 (ly3_1 hb)) k2) cf_X11_copyRow wk_2_191 rfl rfl dX6_copyFrom_8 rfl rfl (Nat.zero_le _) (Nat.zero_le _)) ?_
  refine V_aload_n 11 C 0 dX6_copyFrom_11 rfl ?_
  refine V_aload_n 12 C 1 dX6_copyFrom_12 rfl ?_
  refine V_get (v := .int (M1 p0 1)) 13 C dX6_copyFrom_13 (ltl hp0 rfl) (ceR_X6 hp0) rfl inX6 1 rfl wk_1_92 rfl rfl ?_
  obtain ⟨M3, e4, h⟩ := letM_some h
  refine V_put (ty := .int) (F := F_X6 G b) 16 C dX6_copyFrom_16 (ltl hb rfl) (fun _ => ceR_X6 hb) rfl inX6 tyX6 tyX6_ok nmX6 1 rfl wk_1_92 rfl rfl (M1 p0 1) rfl rfl rfl rfl rfl ?_
  refine V_eqM e4 ?_
  refine V_aload_n 19 C 0 dX6_copyFrom_19 rfl ?_
  refine V_aload_n 20 C 1 dX6_copyFrom_20 rfl ?_
  refine V_get (v := .int (M3 p0 2)) 21 C dX6_copyFrom_21 (ltl hp0 rfl) (ceR_X6 hp0) rfl inX6 2 rfl wk_1_96 rfl rfl ?_
  obtain ⟨M5, e6, h⟩ := letM_some h
  refine V_put (ty := .int) (F := F_X6 G b) 24 C dX6_copyFrom_24 (ltl hb rfl) (fun _ => ceR_X6 hb) rfl inX6 tyX6 tyX6_ok nmX6 2 rfl wk_1_96 rfl rfl (M3 p0 2) rfl rfl rfl rfl rfl ?_
  refine V_eqM e6 ?_
  refine V_aload_n 27 C 0 dX6_copyFrom_27 rfl ?_
  refine V_aload_n 28 C 1 dX6_copyFrom_28 rfl ?_
  refine V_get (v := .int (M5 p0 3)) 29 C dX6_copyFrom_29 (ltl hp0 rfl) (ceR_X6 hp0) rfl inX6 3 rfl wk_1_100 rfl rfl ?_
  obtain ⟨M7, e8, h⟩ := letM_some h
  refine V_put (ty := .int) (F := F_X6 G b) 32 C dX6_copyFrom_32 (ltl hb rfl) (fun _ => ceR_X6 hb) rfl inX6 tyX6 tyX6_ok nmX6 3 rfl wk_1_100 rfl rfl (M5 p0 3) rfl rfl rfl rfl rfl ?_
  refine V_eqM e8 ?_
  exact V_vreth 35 C hQ h dX6_copyFrom_35
set_option maxHeartbeats 4000000 in
theorem kX9_copyFrom {G : GG} {l : Launch} {F : Nat} {b : Nat} (hb : lay b = 2) {p0 : Nat} (hp0 : lay p0 = 2)  {M M' : Mem}  (h : fX9_copyFrom F b p0 M = some M') : Con G l yX9_copyFrom cX9_copyFrom 2 none rmX9_copyFrom [.ref (gad G b), .ref (gad G p0)] M (QV G M') := by
  refine con_of pnX9 (Nat.le_of_ble_eq_true rfl) (fun κ C hQ => ?_)
  unfold fX9_copyFrom at h
  refine V_L (L1 := [(0, .ref (gad G b)), (1, .ref (gad G p0))]) rfl ?_
  refine V_aload_n 0 C 1 dX9_copyFrom_0 rfl ?_
  refine V_get (v := .ref (gad G (p0 + 1))) 1 C dX9_copyFrom_1 (ltl hp0 rfl) (ceR_X9 hp0) rfl inX9 0 rfl wk_1_52 rfl rfl ?_
  refine V_aload_n 4 C 0 dX9_copyFrom_4 rfl ?_
  refine V_get (v := .ref (gad G (b + 1))) 5 C dX9_copyFrom_5 (ltl hb rfl) (ceR_X9 hb) rfl inX9 0 rfl wk_1_52 rfl rfl ?_
  obtain ⟨M1, k2, h⟩ := bindV_some h
  refine V_callV 8 (runSN (rest := []) 8 C (kX11_copyRow (akI_20 (ly2_1 hp0)) (akI_20 (ly2_1 hb)) k2) cf_X11_copyRow wk_2_178 rfl rfl dX9_copyFrom_8 rfl rfl (Nat.zero_le _) (Nat.zero_le _)) ?_
  refine V_aload_n 11 C 1 dX9_copyFrom_11 rfl ?_
  refine V_get (v := .ref (gad G (p0 + 2))) 12 C dX9_copyFrom_12 (ltl hp0 rfl) (ceR_X9 hp0) rfl inX9 1 rfl wk_1_56 rfl rfl ?_
  refine V_aload_n 15 C 0 dX9_copyFrom_15 rfl ?_
  refine V_get (v := .ref (gad G (b + 2))) 16 C dX9_copyFrom_16 (ltl hb rfl) (ceR_X9 hb) rfl inX9 1 rfl wk_1_56 rfl rfl ?_
  obtain ⟨M3, k4, h⟩ := bindV_some h
  refine V_callV 19 (runSN (rest := []) 19 C (kX11_copyRow (akI_20 (ly2_2 hp0)) (akI_20 (ly2_2 hb)) k4) cf_X11_copyRow wk_2_178 rfl rfl dX9_copyFrom_19 rfl rfl (Nat.zero_le _) (Nat.zero_le _)) ?_
  refine V_aload_n 22 C 0 dX9_copyFrom_22 rfl ?_
  refine V_aload_n 23 C 1 dX9_copyFrom_23 rfl ?_
  refine V_get (v := .int (M3 p0 2)) 24 C dX9_copyFrom_24 (ltl hp0 rfl) (ceR_X9 hp0) rfl inX9 2 rfl wk_1_58 rfl rfl ?_
  obtain ⟨M5, e6, h⟩ := letM_some h
  refine V_put (ty := .int) (F := F_X9 G b) 27 C dX9_copyFrom_27 (ltl hb rfl) (fun _ => ceR_X9 hb) rfl inX9 tyX9 tyX9_ok nmX9 2 rfl wk_1_58 rfl rfl (M3 p0 2) rfl rfl rfl rfl rfl ?_
  refine V_eqM e6 ?_
  refine V_aload_n 30 C 0 dX9_copyFrom_30 rfl ?_
  refine V_aload_n 31 C 1 dX9_copyFrom_31 rfl ?_
  refine V_get (v := .int (M5 p0 3)) 32 C dX9_copyFrom_32 (ltl hp0 rfl) (ceR_X9 hp0) rfl inX9 3 rfl wk_1_63 rfl rfl ?_
  obtain ⟨M7, e8, h⟩ := letM_some h
  refine V_put (ty := .int) (F := F_X9 G b) 35 C dX9_copyFrom_35 (ltl hb rfl) (fun _ => ceR_X9 hb) rfl inX9 tyX9 tyX9_ok nmX9 3 rfl wk_1_63 rfl rfl (M5 p0 3) rfl rfl rfl rfl rfl ?_
  refine V_eqM e8 ?_
  refine V_aload_n 38 C 0 dX9_copyFrom_38 rfl ?_
  refine V_aload_n 39 C 1 dX9_copyFrom_39 rfl ?_
  refine V_get (v := .int (M7 p0 4)) 40 C dX9_copyFrom_40 (ltl hp0 rfl) (ceR_X9 hp0) rfl inX9 4 rfl wk_1_67 rfl rfl ?_
  obtain ⟨M9, e10, h⟩ := letM_some h
  refine V_put (ty := .int) (F := F_X9 G b) 43 C dX9_copyFrom_43 (ltl hb rfl) (fun _ => ceR_X9 hb) rfl inX9 tyX9 tyX9_ok nmX9 4 rfl wk_1_67 rfl rfl (M7 p0 4) rfl rfl rfl rfl rfl ?_
  refine V_eqM e10 ?_
  exact V_vreth 46 C hQ h dX9_copyFrom_46
set_option maxHeartbeats 4000000 in
theorem kX3_copyFrom {G : GG} {l : Launch} {F : Nat} {b : Nat} (hb : lay b = 1) {p0 : Nat} (hp0 : lay p0 = 1)  {M M' : Mem}  (h : fX3_copyFrom F b p0 M = some M') : Con G l yX3_copyFrom cX3_copyFrom 2 none rmX3_copyFrom [.ref (gad G b), .ref (gad G p0)] M (QV G M') := by
  refine con_of pnX3 (Nat.le_of_ble_eq_true rfl) (fun κ C hQ => ?_)
  unfold fX3_copyFrom at h
  refine V_L (L1 := [(0, .ref (gad G b)), (1, .ref (gad G p0))]) rfl ?_
  refine V_aload_n 0 C 0 dX3_copyFrom_0 rfl ?_
  refine V_get (v := .ref (gad G (b + 1))) 1 C dX3_copyFrom_1 (ltl hb rfl) (ceR_X3 hb) rfl inX3 0 rfl wk_1_139 rfl rfl ?_
  refine V_aload_n 4 C 1 dX3_copyFrom_4 rfl ?_
  refine V_get (v := .ref (gad G (p0 + 1))) 5 C dX3_copyFrom_5 (ltl hp0 rfl) (ceR_X3 hp0) rfl inX3 0 rfl wk_1_139 rfl rfl ?_
  obtain ⟨M1, k2, h⟩ := bindV_some h
  refine V_callV 8 (runVN (k := (b + 1)) (rest := []) 8 C (kX9_copyFrom (ly1_1 hb) (ly1_1 hp0) k2) cf_X9_copyFrom wk_2_174 (ltl (ly1_1 hb) rfl) (ceR_X9 (ly1_1 hb)) rfl rfl rfl rfl dX3_copyFrom_8 rfl rfl (Nat.zero_le _) (Nat.zero_le _)) ?_
  refine V_aload_n 11 C 0 dX3_copyFrom_11 rfl ?_
  refine V_get (v := .ref (gad G (b + 4))) 12 C dX3_copyFrom_12 (ltl hb rfl) (ceR_X3 hb) rfl inX3 1 rfl wk_1_142 rfl rfl ?_
  refine V_aload_n 15 C 1 dX3_copyFrom_15 rfl ?_
  refine V_get (v := .ref (gad G (p0 + 4))) 16 C dX3_copyFrom_16 (ltl hp0 rfl) (ceR_X3 hp0) rfl inX3 1 rfl wk_1_142 rfl rfl ?_
  obtain ⟨M3, k4, h⟩ := bindV_some h
  refine V_callV 19 (runVN (k := (b + 4)) (rest := []) 19 C (kX6_copyFrom (ly1_4 hb) (ly1_4 hp0) k4) cf_X6_copyFrom wk_2_187 (ltl (ly1_4 hb) rfl) (ceR_X6 (ly1_4 hb)) rfl rfl rfl rfl dX3_copyFrom_19 rfl rfl (Nat.zero_le _) (Nat.zero_le _)) ?_
  refine V_aload_n 22 C 0 dX3_copyFrom_22 rfl ?_
  refine V_get (v := .ref (gad G (b + 6))) 23 C dX3_copyFrom_23 (ltl hb rfl) (ceR_X3 hb) rfl inX3 2 rfl wk_1_145 rfl rfl ?_
  refine V_aload_n 26 C 1 dX3_copyFrom_26 rfl ?_
  refine V_get (v := .ref (gad G (p0 + 6))) 27 C dX3_copyFrom_27 (ltl hp0 rfl) (ceR_X3 hp0) rfl inX3 2 rfl wk_1_145 rfl rfl ?_
  obtain ⟨M5, k6, h⟩ := bindV_some h
  refine V_callV 30 (runVN (k := (b + 6)) (rest := []) 30 C (kX5_copyFrom (ly1_6 hb) (ly1_6 hp0) k6) cf_X5_copyFrom wk_2_192 (ltl (ly1_6 hb) rfl) (ceR_X5 (ly1_6 hb)) rfl rfl rfl rfl dX3_copyFrom_30 rfl rfl (Nat.zero_le _) (Nat.zero_le _)) ?_
  refine V_aload_n 33 C 0 dX3_copyFrom_33 rfl ?_
  refine V_aload_n 34 C 1 dX3_copyFrom_34 rfl ?_
  refine V_get (v := .int (M5 p0 3)) 35 C dX3_copyFrom_35 (ltl hp0 rfl) (ceR_X3 hp0) rfl inX3 3 rfl wk_1_148 rfl rfl ?_
  obtain ⟨M7, e8, h⟩ := letM_some h
  refine V_put (ty := .int) (F := F_X3 G b) 38 C dX3_copyFrom_38 (ltl hb rfl) (fun _ => ceR_X3 hb) rfl inX3 tyX3 tyX3_ok nmX3 3 rfl wk_1_148 rfl rfl (M5 p0 3) rfl rfl rfl rfl rfl ?_
  refine V_eqM e8 ?_
  refine V_aload_n 41 C 0 dX3_copyFrom_41 rfl ?_
  refine V_aload_n 42 C 1 dX3_copyFrom_42 rfl ?_
  refine V_get (v := .int (M7 p0 4)) 43 C dX3_copyFrom_43 (ltl hp0 rfl) (ceR_X3 hp0) rfl inX3 4 rfl wk_1_149 rfl rfl ?_
  obtain ⟨M9, e10, h⟩ := letM_some h
  refine V_put (ty := .int) (F := F_X3 G b) 46 C dX3_copyFrom_46 (ltl hb rfl) (fun _ => ceR_X3 hb) rfl inX3 tyX3 tyX3_ok nmX3 4 rfl wk_1_149 rfl rfl (M7 p0 4) rfl rfl rfl rfl rfl ?_
  refine V_eqM e10 ?_
  refine V_aload_n 49 C 0 dX3_copyFrom_49 rfl ?_
  refine V_aload_n 50 C 1 dX3_copyFrom_50 rfl ?_
  refine V_get (v := .int (M9 p0 5)) 51 C dX3_copyFrom_51 (ltl hp0 rfl) (ceR_X3 hp0) rfl inX3 5 rfl wk_1_151 rfl rfl ?_
  obtain ⟨M11, e12, h⟩ := letM_some h
  refine V_put (ty := .int) (F := F_X3 G b) 54 C dX3_copyFrom_54 (ltl hb rfl) (fun _ => ceR_X3 hb) rfl inX3 tyX3 tyX3_ok nmX3 5 rfl wk_1_151 rfl rfl (M9 p0 5) rfl rfl rfl rfl rfl ?_
  refine V_eqM e12 ?_
  refine V_aload_n 57 C 0 dX3_copyFrom_57 rfl ?_
  refine V_aload_n 58 C 1 dX3_copyFrom_58 rfl ?_
  refine V_get (v := .int (M11 p0 6)) 59 C dX3_copyFrom_59 (ltl hp0 rfl) (ceR_X3 hp0) rfl inX3 6 rfl wk_1_153 rfl rfl ?_
  obtain ⟨M13, e14, h⟩ := letM_some h
  refine V_put (ty := .int) (F := F_X3 G b) 62 C dX3_copyFrom_62 (ltl hb rfl) (fun _ => ceR_X3 hb) rfl inX3 tyX3 tyX3_ok nmX3 6 rfl wk_1_153 rfl rfl (M11 p0 6) rfl rfl rfl rfl rfl ?_
  refine V_eqM e14 ?_
  refine V_aload_n 65 C 0 dX3_copyFrom_65 rfl ?_
  refine V_aload_n 66 C 1 dX3_copyFrom_66 rfl ?_
  refine V_get (v := .int (M13 p0 7)) 67 C dX3_copyFrom_67 (ltl hp0 rfl) (ceR_X3 hp0) rfl inX3 7 rfl wk_1_155 rfl rfl ?_
  obtain ⟨M15, e16, h⟩ := letM_some h
  refine V_put (ty := .int) (F := F_X3 G b) 70 C dX3_copyFrom_70 (ltl hb rfl) (fun _ => ceR_X3 hb) rfl inX3 tyX3 tyX3_ok nmX3 7 rfl wk_1_155 rfl rfl (M13 p0 7) rfl rfl rfl rfl rfl ?_
  refine V_eqM e16 ?_
  refine V_aload_n 73 C 0 dX3_copyFrom_73 rfl ?_
  refine V_aload_n 74 C 1 dX3_copyFrom_74 rfl ?_
  refine V_get (v := .int (M15 p0 8)) 75 C dX3_copyFrom_75 (ltl hp0 rfl) (ceR_X3 hp0) rfl inX3 8 rfl wk_1_157 rfl rfl ?_
  obtain ⟨M17, e18, h⟩ := letM_some h
  refine V_put (ty := .int) (F := F_X3 G b) 78 C dX3_copyFrom_78 (ltl hb rfl) (fun _ => ceR_X3 hb) rfl inX3 tyX3 tyX3_ok nmX3 8 rfl wk_1_157 rfl rfl (M15 p0 8) rfl rfl rfl rfl rfl ?_
  refine V_eqM e18 ?_
  refine V_aload_n 81 C 0 dX3_copyFrom_81 rfl ?_
  refine V_aload_n 82 C 1 dX3_copyFrom_82 rfl ?_
  refine V_get (v := .int (M17 p0 9)) 83 C dX3_copyFrom_83 (ltl hp0 rfl) (ceR_X3 hp0) rfl inX3 9 rfl wk_1_159 rfl rfl ?_
  obtain ⟨M19, e20, h⟩ := letM_some h
  refine V_put (ty := .int) (F := F_X3 G b) 86 C dX3_copyFrom_86 (ltl hb rfl) (fun _ => ceR_X3 hb) rfl inX3 tyX3 tyX3_ok nmX3 9 rfl wk_1_159 rfl rfl (M17 p0 9) rfl rfl rfl rfl rfl ?_
  refine V_eqM e20 ?_
  refine V_aload_n 89 C 0 dX3_copyFrom_89 rfl ?_
  refine V_aload_n 90 C 1 dX3_copyFrom_90 rfl ?_
  refine V_get (v := .int (M19 p0 10)) 91 C dX3_copyFrom_91 (ltl hp0 rfl) (ceR_X3 hp0) rfl inX3 10 rfl wk_1_161 rfl rfl ?_
  obtain ⟨M21, e22, h⟩ := letM_some h
  refine V_put (ty := .int) (F := F_X3 G b) 94 C dX3_copyFrom_94 (ltl hb rfl) (fun _ => ceR_X3 hb) rfl inX3 tyX3 tyX3_ok nmX3 10 rfl wk_1_161 rfl rfl (M19 p0 10) rfl rfl rfl rfl rfl ?_
  refine V_eqM e22 ?_
  exact V_vreth 97 C hQ h dX3_copyFrom_97
set_option maxHeartbeats 4000000 in
theorem kX2_push {G : GG} {l : Launch} {F : Nat} {b : Nat} (hb : lay b = 5) {p0 : Nat} (hp0 : lay p0 = 1)  {M M' : Mem}  (h : fX2_push F b p0 M = some M') : Con G l yX2_push cX2_push 3 none rmX2_push [.ref (gad G b), .ref (gad G p0)] M (QV G M') := by
  refine con_of pnX2 (Nat.le_of_ble_eq_true rfl) (fun κ C hQ => ?_)
  unfold fX2_push at h
  refine V_L (L1 := [(0, .ref (gad G b)), (1, .ref (gad G p0))]) rfl ?_
  refine V_aload_n 0 C 0 dX2_push_0 rfl ?_
  refine V_aload_n 1 C 0 dX2_push_1 rfl ?_
  refine V_get (v := .int (M b 2)) 2 C dX2_push_2 (ltl hb rfl) (ceR_X2 hb) rfl inX2 2 rfl wk_1_197 rfl rfl ?_
  obtain ⟨r3, M1, k2, h⟩ := bindM_some h
  refine V_callQ 5 (runVO (k := b) (rest := []) 5 C (kX2_earlierAt hb k2) cf_X2_earlierAt wk_3_171 (ltl hb rfl) (ceR_X2 hb) rfl rfl rfl rfl dX2_push_5 rfl rfl (Nat.zero_le _) (Nat.zero_le _)) ?_
  refine V_astoreQ_n 8 C [(2, va_rf ((r3).map (gad G))), (0, .ref (gad G b)), (1, .ref (gad G p0))] dX2_push_8 rfl rfl rfl ?_
  refine V_aloadQ_n 9 C 0 dX2_push_9 rfl ?_
  cases hq : r3 with
  | none =>
    rw [hq] at h
    try dsimp only at h
    refine V_ifnullN 10 18 C dX2_push_10 (by decide) ?_
    refine V_aload_n 18 C 1 dX2_push_18 rfl ?_
    refine V_get (v := .int (M1 b 2)) 19 C dX2_push_19 (ltl hb rfl) (ceR_X2 hb) rfl inX2 2 rfl wk_1_197 rfl rfl ?_
    refine V_bipush 22 C dX2_push_22 bp8 ?_
    refine V_icmp_ge 24 40 C dX2_push_24 (by decide) (fun c5 => ?_) (fun c5 => ?_)
    · replace h := ite_t c5 h
      refine V_aload_n 40 C 1 dX2_push_40 rfl ?_
      refine V_aload_n 41 C 1 dX2_push_41 rfl ?_
      refine V_get (v := .int (M1 b 1)) 42 C dX2_push_42 (ltl hb rfl) (ceR_X2 hb) rfl inX2 1 rfl wk_1_196 rfl rfl ?_
      refine V_iconst 45 C dX2_push_45 ic1 ?_
      refine V_iadd 46 C dX2_push_46 ?_
      refine V_bipush 47 C dX2_push_47 bp8 ?_
      refine V_irem 49 C dX2_push_49 (by decide) ?_
      obtain ⟨M6, e7, h⟩ := letM_some h
      refine V_put (ty := .int) (F := F_X2 G b) 50 C dX2_push_50 (ltl hb rfl) (fun _ => ceR_X2 hb) rfl inX2 tyX2 tyX2_ok nmX2 1 rfl wk_1_196 rfl rfl (irm ((M1 b 1) + 1) 8) rfl rfl rfl rfl rfl ?_
      refine V_eqM e7 ?_
      exact V_vreth 53 C hQ h dX2_push_53
    · replace h := ite_f c5 h
      refine V_aload_n 27 C 1 dX2_push_27 rfl ?_
      refine V_dup 28 C dX2_push_28 rfl ?_
      refine V_get (v := .int (M1 b 2)) 29 C dX2_push_29 (ltl hb rfl) (ceR_X2 hb) rfl inX2 2 rfl wk_1_197 rfl rfl ?_
      refine V_iconst 32 C dX2_push_32 ic1 ?_
      refine V_iadd 33 C dX2_push_33 ?_
      obtain ⟨M8, e9, h⟩ := letM_some h
      refine V_put (ty := .int) (F := F_X2 G b) 34 C dX2_push_34 (ltl hb rfl) (fun _ => ceR_X2 hb) rfl inX2 tyX2 tyX2_ok nmX2 2 rfl wk_1_197 rfl rfl ((M1 b 2) + 1) rfl rfl rfl rfl rfl ?_
      refine V_eqM e9 ?_
      refine V_goto 37 53 C dX2_push_37 (by decide) ?_
      exact V_vreth 53 C hQ h dX2_push_53
  | some q4 =>
    rw [hq] at h
    try dsimp only at h
    obtain ⟨g17, h⟩ := chk_some h
    have hq4 : lay q4 = 1 := of_decide_eq_true g17
    refine V_ifnullS 10 18 C dX2_push_10 (by decide) ?_
    refine V_aload_n 13 C 0 dX2_push_13 rfl ?_
    refine V_aload_n 14 C 2 dX2_push_14 rfl ?_
    obtain ⟨M10, k11, h⟩ := bindV_some h
    refine V_callV 15 (runVN (k := q4) (rest := []) 15 C (kX3_copyFrom hq4 hp0 k11) cf_X3_copyFrom wk_3_175 (ltl hq4 rfl) (ceR_X3 hq4) rfl rfl rfl rfl dX2_push_15 rfl rfl (Nat.zero_le _) (Nat.zero_le _)) ?_
    refine V_aload_n 18 C 1 dX2_push_18 rfl ?_
    refine V_get (v := .int (M10 b 2)) 19 C dX2_push_19 (ltl hb rfl) (ceR_X2 hb) rfl inX2 2 rfl wk_1_197 rfl rfl ?_
    refine V_bipush 22 C dX2_push_22 bp8 ?_
    refine V_icmp_ge 24 40 C dX2_push_24 (by decide) (fun c12 => ?_) (fun c12 => ?_)
    · replace h := ite_t c12 h
      refine V_aload_n 40 C 1 dX2_push_40 rfl ?_
      refine V_aload_n 41 C 1 dX2_push_41 rfl ?_
      refine V_get (v := .int (M10 b 1)) 42 C dX2_push_42 (ltl hb rfl) (ceR_X2 hb) rfl inX2 1 rfl wk_1_196 rfl rfl ?_
      refine V_iconst 45 C dX2_push_45 ic1 ?_
      refine V_iadd 46 C dX2_push_46 ?_
      refine V_bipush 47 C dX2_push_47 bp8 ?_
      refine V_irem 49 C dX2_push_49 (by decide) ?_
      obtain ⟨M13, e14, h⟩ := letM_some h
      refine V_put (ty := .int) (F := F_X2 G b) 50 C dX2_push_50 (ltl hb rfl) (fun _ => ceR_X2 hb) rfl inX2 tyX2 tyX2_ok nmX2 1 rfl wk_1_196 rfl rfl (irm ((M10 b 1) + 1) 8) rfl rfl rfl rfl rfl ?_
      refine V_eqM e14 ?_
      exact V_vreth 53 C hQ h dX2_push_53
    · replace h := ite_f c12 h
      refine V_aload_n 27 C 1 dX2_push_27 rfl ?_
      refine V_dup 28 C dX2_push_28 rfl ?_
      refine V_get (v := .int (M10 b 2)) 29 C dX2_push_29 (ltl hb rfl) (ceR_X2 hb) rfl inX2 2 rfl wk_1_197 rfl rfl ?_
      refine V_iconst 32 C dX2_push_32 ic1 ?_
      refine V_iadd 33 C dX2_push_33 ?_
      obtain ⟨M15, e16, h⟩ := letM_some h
      refine V_put (ty := .int) (F := F_X2 G b) 34 C dX2_push_34 (ltl hb rfl) (fun _ => ceR_X2 hb) rfl inX2 tyX2 tyX2_ok nmX2 2 rfl wk_1_197 rfl rfl ((M10 b 2) + 1) rfl rfl rfl rfl rfl ?_
      refine V_eqM e16 ?_
      refine V_goto 37 53 C dX2_push_37 (by decide) ?_
      exact V_vreth 53 C hQ h dX2_push_53
set_option maxHeartbeats 4000000 in
theorem kX11_bit {G : GG} {l : Launch} {F : Nat}  {p0 : Int32} {M M' : Mem} {r : Int32} (h : fX11_bit F p0 M = some (r, M')) : Con G l yX11_bit cX11_bit 1 (some .int) rmX11_bit [.int p0] M (QI G r M') := by
  refine con_of pnX11 (Nat.le_of_ble_eq_true rfl) (fun κ C hQ => ?_)
  unfold fX11_bit at h
  refine V_L (L1 := [(0, .int p0)]) rfl ?_
  refine V_iconst 0 C dX11_bit_0 ic1 ?_
  refine V_iload_n 1 C 0 dX11_bit_1 rfl ?_
  refine V_ishl 2 C dX11_bit_2 ?_
  exact V_ireth 3 C hQ h dX11_bit_3
set_option maxHeartbeats 4000000 in
theorem kX11_at {G : GG} {l : Launch} {F : Nat} {p0 : Nat} (hp0 : ak p0 = 1) {p1 : Int32} {M M' : Mem} {r : Int32} (h : fX11_at F p0 p1 M = some (r, M')) : Con G l yX11_at cX11_at 2 (some .int) rmX11_at [.ref (gad G p0), .int p1] M (QI G r M') := by
  refine con_of pnX11 (Nat.le_of_ble_eq_true rfl) (fun κ C hQ => ?_)
  unfold fX11_at at h
  refine V_L (L1 := [(0, .ref (gad G p0)), (1, .int p1)]) rfl ?_
  refine V_iload_n 0 C 1 dX11_at_0 rfl ?_
  refine V_if_lt 1 16 C dX11_at_1 (by decide) (fun c1 => ?_) (fun c1 => ?_)
  · replace h := ite_t c1 h
    refine V_iconst 16 C dX11_at_16 ic0 ?_
    exact V_ireth 17 C hQ h dX11_at_17
  · replace h := ite_f c1 h
    refine V_iload_n 4 C 1 dX11_at_4 rfl ?_
    refine V_aload_n 5 C 0 dX11_at_5 rfl ?_
    refine V_alenI 6 C dX11_at_6 hp0 rfl ?_
    refine V_icmp_ge 7 16 C dX11_at_7 (by decide) (fun c2 => ?_) (fun c2 => ?_)
    · replace h := ite_t c2 h
      refine V_iconst 16 C dX11_at_16 ic0 ?_
      exact V_ireth 17 C hQ h dX11_at_17
    · replace h := ite_f c2 h
      refine V_aload_n 10 C 0 dX11_at_10 rfl ?_
      refine V_iload_n 11 C 1 dX11_at_11 rfl ?_
      obtain ⟨c3, h⟩ := chk_some h
      refine V_iald 12 C dX11_at_12 hp0 rfl c3 ?_
      refine V_goto 13 17 C dX11_at_13 (by decide) ?_
      exact V_ireth 17 C hQ h dX11_at_17
set_option maxHeartbeats 4000000 in
theorem kX11_holds {G : GG} {l : Launch} {F : Nat}  {p0 : Int32} {p1 : Int32} {M M' : Mem} {r : Bool} (h : fX11_holds F p0 p1 M = some (r, M')) : Con G l yX11_holds cX11_holds 2 (some .boolean) rmX11_holds [.int p0, .int p1] M (QI G (b2i r) M') := by
  refine con_of pnX11 (Nat.le_of_ble_eq_true rfl) (fun κ C hQ => ?_)
  unfold fX11_holds at h
  refine V_L (L1 := [(0, .int p0), (1, .int p1)]) rfl ?_
  refine V_iload_n 0 C 0 dX11_holds_0 rfl ?_
  refine V_iload_n 1 C 1 dX11_holds_1 rfl ?_
  refine V_ishr 2 C dX11_holds_2 ?_
  refine V_iconst 3 C dX11_holds_3 ic1 ?_
  refine V_iand 4 C dX11_holds_4 ?_
  refine V_iconst 5 C dX11_holds_5 ic1 ?_
  refine V_icmp_ne 6 13 C dX11_holds_6 (by decide) (fun c1 => ?_) (fun c1 => ?_)
  · replace h := ite_f c1 h
    refine V_iconst 13 C dX11_holds_13 ic0 ?_
    exact V_zreth 14 C hQ h dX11_holds_14
  · replace h := ite_t c1 h
    refine V_iconst 9 C dX11_holds_9 ic1 ?_
    refine V_goto 10 14 C dX11_holds_10 (by decide) ?_
    exact V_zreth 14 C hQ h dX11_holds_14
set_option maxHeartbeats 4000000 in
theorem kX11_put {G : GG} {l : Launch} {F : Nat} {p0 : Nat} (hp0 : ak p0 = 1) {p1 : Int32} {p2 : Int32} {M M' : Mem}  (h : fX11_put F p0 p1 p2 M = some M') : Con G l yX11_put cX11_put 3 none rmX11_put [.ref (gad G p0), .int p1, .int p2] M (QV G M') := by
  refine con_of pnX11 (Nat.le_of_ble_eq_true rfl) (fun κ C hQ => ?_)
  unfold fX11_put at h
  refine V_L (L1 := [(0, .ref (gad G p0)), (1, .int p1), (2, .int p2)]) rfl ?_
  refine V_iload_n 0 C 1 dX11_put_0 rfl ?_
  refine V_if_lt 1 14 C dX11_put_1 (by decide) (fun c1 => ?_) (fun c1 => ?_)
  · replace h := ite_t c1 h
    exact V_vreth 14 C hQ h dX11_put_14
  · replace h := ite_f c1 h
    refine V_iload_n 4 C 1 dX11_put_4 rfl ?_
    refine V_aload_n 5 C 0 dX11_put_5 rfl ?_
    refine V_alenI 6 C dX11_put_6 hp0 rfl ?_
    refine V_icmp_ge 7 14 C dX11_put_7 (by decide) (fun c2 => ?_) (fun c2 => ?_)
    · replace h := ite_t c2 h
      exact V_vreth 14 C hQ h dX11_put_14
    · replace h := ite_f c2 h
      refine V_aload_n 10 C 0 dX11_put_10 rfl ?_
      refine V_iload_n 11 C 1 dX11_put_11 rfl ?_
      refine V_iload_n 12 C 2 dX11_put_12 rfl ?_
      obtain ⟨c3, h⟩ := chk_some h
      obtain ⟨M4, e5, h⟩ := letM_some h
      refine V_iast 13 C dX11_put_13 hp0 rfl c3 ?_
      refine V_eqM e5 ?_
      exact V_vreth 14 C hQ h dX11_put_14
set_option maxHeartbeats 4000000 in
theorem kX5_renumber {G : GG} {l : Launch} {F : Nat} {b : Nat} (hb : lay b = 4) {p0 : Int32} {p1 : Int32} {M M' : Mem}  (h : fX5_renumber F b p0 p1 M = some M') : Con G l yX5_renumber cX5_renumber 3 none rmX5_renumber [.ref (gad G b), .int p0, .int p1] M (QV G M') := by
  refine con_of pnX5 (Nat.le_of_ble_eq_true rfl) (fun κ C hQ => ?_)
  unfold fX5_renumber at h
  refine V_L (L1 := [(0, .ref (gad G b)), (1, .int p0), (2, .int p1)]) rfl ?_
  refine V_aload_n 0 C 0 dX5_renumber_0 rfl ?_
  refine V_get (v := .ref (gad G (b + 1))) 1 C dX5_renumber_1 (ltl hb rfl) (ceR_X5 hb) rfl inX5 0 rfl wk_1_118 rfl rfl ?_
  refine V_iload_n 4 C 2 dX5_renumber_4 rfl ?_
  refine V_aload_n 5 C 0 dX5_renumber_5 rfl ?_
  refine V_get (v := .ref (gad G (b + 1))) 6 C dX5_renumber_6 (ltl hb rfl) (ceR_X5 hb) rfl inX5 0 rfl wk_1_118 rfl rfl ?_
  refine V_iload_n 9 C 1 dX5_renumber_9 rfl ?_
  obtain ⟨r3, M1, k2, h⟩ := bindM_some h
  refine V_callI 10 (runSN (rest := [.int p1, .ref (gad G (b + 1))]) 10 C (kX11_at (akI_22 (ly4_1 hb)) k2) cf_X11_at wk_4_25 rfl rfl dX5_renumber_10 rfl rfl (Nat.zero_le _) (Nat.zero_le _)) ?_
  obtain ⟨M4, k5, h⟩ := bindV_some h
  refine V_callV 13 (runSN (rest := []) 13 C (kX11_put (akI_22 (ly4_1 hb)) k5) cf_X11_put wk_4_26 rfl rfl dX5_renumber_13 rfl rfl (Nat.zero_le _) (Nat.zero_le _)) ?_
  refine V_aload_n 16 C 0 dX5_renumber_16 rfl ?_
  refine V_get (v := .ref (gad G (b + 2))) 17 C dX5_renumber_17 (ltl hb rfl) (ceR_X5 hb) rfl inX5 1 rfl wk_1_121 rfl rfl ?_
  refine V_iload_n 20 C 2 dX5_renumber_20 rfl ?_
  refine V_aload_n 21 C 0 dX5_renumber_21 rfl ?_
  refine V_get (v := .ref (gad G (b + 2))) 22 C dX5_renumber_22 (ltl hb rfl) (ceR_X5 hb) rfl inX5 1 rfl wk_1_121 rfl rfl ?_
  refine V_iload_n 25 C 1 dX5_renumber_25 rfl ?_
  obtain ⟨r8, M6, k7, h⟩ := bindM_some h
  refine V_callI 26 (runSN (rest := [.int p1, .ref (gad G (b + 2))]) 26 C (kX11_at (akI_22 (ly4_2 hb)) k7) cf_X11_at wk_4_25 rfl rfl dX5_renumber_26 rfl rfl (Nat.zero_le _) (Nat.zero_le _)) ?_
  obtain ⟨M9, k10, h⟩ := bindV_some h
  refine V_callV 29 (runSN (rest := []) 29 C (kX11_put (akI_22 (ly4_2 hb)) k10) cf_X11_put wk_4_26 rfl rfl dX5_renumber_29 rfl rfl (Nat.zero_le _) (Nat.zero_le _)) ?_
  refine V_aload_n 32 C 0 dX5_renumber_32 rfl ?_
  refine V_get (v := .ref (gad G (b + 3))) 33 C dX5_renumber_33 (ltl hb rfl) (ceR_X5 hb) rfl inX5 2 rfl wk_1_124 rfl rfl ?_
  refine V_iload_n 36 C 2 dX5_renumber_36 rfl ?_
  refine V_aload_n 37 C 0 dX5_renumber_37 rfl ?_
  refine V_get (v := .ref (gad G (b + 3))) 38 C dX5_renumber_38 (ltl hb rfl) (ceR_X5 hb) rfl inX5 2 rfl wk_1_124 rfl rfl ?_
  refine V_iload_n 41 C 1 dX5_renumber_41 rfl ?_
  obtain ⟨r13, M11, k12, h⟩ := bindM_some h
  refine V_callI 42 (runSN (rest := [.int p1, .ref (gad G (b + 3))]) 42 C (kX11_at (akI_22 (ly4_3 hb)) k12) cf_X11_at wk_4_25 rfl rfl dX5_renumber_42 rfl rfl (Nat.zero_le _) (Nat.zero_le _)) ?_
  obtain ⟨M14, k15, h⟩ := bindV_some h
  refine V_callV 45 (runSN (rest := []) 45 C (kX11_put (akI_22 (ly4_3 hb)) k15) cf_X11_put wk_4_26 rfl rfl dX5_renumber_45 rfl rfl (Nat.zero_le _) (Nat.zero_le _)) ?_
  exact V_vreth 48 C hQ h dX5_renumber_48
set_option maxHeartbeats 4000000 in
theorem vX3_catchMice_25 {G : GG} {κ : KK} {F : Nat} {b : Nat} (hb : lay b = 1) (C : Cx G κ cX3_catchMice RX3 none 3 rmX3_catchMice) {M' : Mem}  (hQ : HQ G κ (QV G M') 0 0)  {kx : Int32 → Mem → Option Mem} (hk : ∀ (v1 : Int32) (M : Mem), kx v1 M = some M' → V G κ 3 0 0 M 108 [(0, .ref (gad G b)), (1, .int v1)] []) : ∀ (n : Nat) (v1 : Int32) (v2 : Int32) (M : Mem), fX3_catchMice_25 F b kx n v1 v2 M = some M' → V G κ 3 0 0 M 25 [(0, .ref (gad G b)), (1, .int v1), (2, .int v2)] [] := by
  intro n
  induction n with
  | zero => intro v1 v2 M h; rw [fX3_catchMice_25] at h; cases h
  | succ n ih =>
    intro v1 v2 M h
    rw [fX3_catchMice_25] at h
    refine V_iload_n 25 C 2 dX3_catchMice_25 rfl ?_
    refine V_aload_n 26 C 0 dX3_catchMice_26 rfl ?_
    refine V_get (v := .ref (gad G (b + 6))) 27 C dX3_catchMice_27 (ltl hb rfl) (ceR_X3 hb) rfl inX3 2 rfl wk_1_145 rfl rfl ?_
    refine V_getN (v := .int (M (b + 6) 3)) 30 C dX3_catchMice_30 (ltl (ly1_6 hb) rfl) (ceR_X5 (ly1_6 hb)) rfl inX5 3 rfl wk_1_128 rfl rfl ?_
    refine V_icmp_ge 33 108 C dX3_catchMice_33 (by decide) (fun c5 => ?_) (fun c5 => ?_)
    · replace h := ite_t c5 h
      refine V_sub [0, 1] rfl ?_
      exact hk _ _ h
    · replace h := ite_f c5 h
      refine V_aload_n 36 C 0 dX3_catchMice_36 rfl ?_
      refine V_get (v := .ref (gad G (b + 6))) 37 C dX3_catchMice_37 (ltl hb rfl) (ceR_X3 hb) rfl inX3 2 rfl wk_1_145 rfl rfl ?_
      refine V_getN (v := .ref (gad G (b + 7))) 40 C dX3_catchMice_40 (ltl (ly1_6 hb) rfl) (ceR_X5 (ly1_6 hb)) rfl inX5 0 rfl wk_1_119 rfl rfl ?_
      refine V_iload_n 43 C 2 dX3_catchMice_43 rfl ?_
      obtain ⟨r8, M6, k7, h⟩ := bindM_some h
      refine V_callI 44 (runSN (rest := []) 44 C (kX11_at (akI_22 (ly1_7 hb)) k7) cf_X11_at wk_3_31 rfl rfl dX3_catchMice_44 rfl rfl (Nat.zero_le _) (Nat.zero_le _)) ?_
      refine V_aload_n 47 C 0 dX3_catchMice_47 rfl ?_
      refine V_get (v := .ref (gad G (b + 4))) 48 C dX3_catchMice_48 (ltl hb rfl) (ceR_X3 hb) rfl inX3 1 rfl wk_1_142 rfl rfl ?_
      refine V_getN (v := .int (M6 (b + 4) 2)) 51 C dX3_catchMice_51 (ltl (ly1_4 hb) rfl) (ceR_X6 (ly1_4 hb)) rfl inX6 2 rfl wk_1_98 rfl rfl ?_
      refine V_icmp_ne 54 90 C dX3_catchMice_54 (by decide) (fun c9 => ?_) (fun c9 => ?_)
      · replace h := ite_f c9 h
        refine V_aload_n 90 C 0 dX3_catchMice_90 rfl ?_
        refine V_get (v := .ref (gad G (b + 6))) 91 C dX3_catchMice_91 (ltl hb rfl) (ceR_X3 hb) rfl inX3 2 rfl wk_1_145 rfl rfl ?_
        refine V_iload_n 94 C 2 dX3_catchMice_94 rfl ?_
        refine V_iload_n 95 C 1 dX3_catchMice_95 rfl ?_
        obtain ⟨M10, k11, h⟩ := bindV_some h
        refine V_callV 96 (runVN (k := (b + 6)) (rest := []) 96 C (kX5_renumber (ly1_6 hb) k11) cf_X5_renumber wk_4_21 (ltl (ly1_6 hb) rfl) (ceR_X5 (ly1_6 hb)) rfl rfl rfl rfl dX3_catchMice_96 rfl rfl (Nat.zero_le _) (Nat.zero_le _)) ?_
        obtain ⟨x12, e13, h⟩ := letM_some h
        refine V_iinc 99 C [(1, .int x12), (0, .ref (gad G b)), (2, .int v2)] 1 x12 dX3_catchMice_99 rfl (by rw [e13]; rfl) rfl rfl ?_
        obtain ⟨x14, e15, h⟩ := letM_some h
        refine V_iinc 102 C [(2, .int x14), (1, .int x12), (0, .ref (gad G b))] 2 x14 dX3_catchMice_102 rfl (by rw [e15]; rfl) rfl rfl ?_
        refine V_goto 105 25 C dX3_catchMice_105 (by decide) ?_
        refine V_sub [2, 1, 0] rfl ?_
        exact ih _ _ _ h
      · replace h := ite_t c9 h
        refine V_aload_n 57 C 0 dX3_catchMice_57 rfl ?_
        refine V_dup 58 C dX3_catchMice_58 rfl ?_
        refine V_get (v := .int (M6 b 8)) 59 C dX3_catchMice_59 (ltl hb rfl) (ceR_X3 hb) rfl inX3 8 rfl wk_1_157 rfl rfl ?_
        refine V_iconst 62 C dX3_catchMice_62 ic1 ?_
        refine V_iadd 63 C dX3_catchMice_63 ?_
        obtain ⟨M16, e17, h⟩ := letM_some h
        refine V_put (ty := .int) (F := F_X3 G b) 64 C dX3_catchMice_64 (ltl hb rfl) (fun _ => ceR_X3 hb) rfl inX3 tyX3 tyX3_ok nmX3 8 rfl wk_1_157 rfl rfl ((M6 b 8) + 1) rfl rfl rfl rfl rfl ?_
        refine V_eqM e17 ?_
        refine V_aload_n 67 C 0 dX3_catchMice_67 rfl ?_
        refine V_dup 68 C dX3_catchMice_68 rfl ?_
        refine V_get (v := .int (M16 b 10)) 69 C dX3_catchMice_69 (ltl hb rfl) (ceR_X3 hb) rfl inX3 10 rfl wk_1_161 rfl rfl ?_
        refine V_aload_n 72 C 0 dX3_catchMice_72 rfl ?_
        refine V_get (v := .ref (gad G (b + 6))) 73 C dX3_catchMice_73 (ltl hb rfl) (ceR_X3 hb) rfl inX3 2 rfl wk_1_145 rfl rfl ?_
        refine V_getN (v := .ref (gad G (b + 8))) 76 C dX3_catchMice_76 (ltl (ly1_6 hb) rfl) (ceR_X5 (ly1_6 hb)) rfl inX5 1 rfl wk_1_122 rfl rfl ?_
        refine V_iload_n 79 C 2 dX3_catchMice_79 rfl ?_
        obtain ⟨r20, M18, k19, h⟩ := bindM_some h
        refine V_callI 80 (runSN (rest := [.int (M16 b 10), .ref (gad G b)]) 80 C (kX11_at (akI_22 (ly1_8 hb)) k19) cf_X11_at wk_3_31 rfl rfl dX3_catchMice_80 rfl rfl (Nat.zero_le _) (Nat.zero_le _)) ?_
        refine V_iadd 83 C dX3_catchMice_83 ?_
        obtain ⟨M21, e22, h⟩ := letM_some h
        refine V_put (ty := .int) (F := F_X3 G b) 84 C dX3_catchMice_84 (ltl hb rfl) (fun _ => ceR_X3 hb) rfl inX3 tyX3 tyX3_ok nmX3 10 rfl wk_1_161 rfl rfl ((M16 b 10) + r20) rfl rfl rfl rfl rfl ?_
        refine V_eqM e22 ?_
        refine V_goto 87 102 C dX3_catchMice_87 (by decide) ?_
        obtain ⟨x23, e24, h⟩ := letM_some h
        refine V_iinc 102 C [(2, .int x23), (0, .ref (gad G b)), (1, .int v1)] 2 x23 dX3_catchMice_102 rfl (by rw [e24]; rfl) rfl rfl ?_
        refine V_goto 105 25 C dX3_catchMice_105 (by decide) ?_
        refine V_sub [1, 2, 0] rfl ?_
        exact ih _ _ _ h
set_option maxHeartbeats 4000000 in
theorem kX3_catchMice {G : GG} {l : Launch} {F : Nat} {b : Nat} (hb : lay b = 1)  {M M' : Mem}  (h : fX3_catchMice F b M = some M') : Con G l yX3_catchMice cX3_catchMice 3 none rmX3_catchMice [.ref (gad G b)] M (QV G M') := by
  refine con_of pnX3 (Nat.le_of_ble_eq_true rfl) (fun κ C hQ => ?_)
  unfold fX3_catchMice at h
  refine V_L (L1 := [(0, .ref (gad G b))]) rfl ?_
  refine V_aload_n 0 C 0 dX3_catchMice_0 rfl ?_
  refine V_get (v := .ref (gad G (b + 1))) 1 C dX3_catchMice_1 (ltl hb rfl) (ceR_X3 hb) rfl inX3 0 rfl wk_1_139 rfl rfl ?_
  refine V_getN (v := .int (M (b + 1) 2)) 4 C dX3_catchMice_4 (ltl (ly1_1 hb) rfl) (ceR_X9 (ly1_1 hb)) rfl inX9 2 rfl wk_1_60 rfl rfl ?_
  refine V_aload_n 7 C 0 dX3_catchMice_7 rfl ?_
  refine V_get (v := .ref (gad G (b + 4))) 8 C dX3_catchMice_8 (ltl hb rfl) (ceR_X3 hb) rfl inX3 1 rfl wk_1_142 rfl rfl ?_
  refine V_getN (v := .int (M (b + 4) 2)) 11 C dX3_catchMice_11 (ltl (ly1_4 hb) rfl) (ceR_X6 (ly1_4 hb)) rfl inX6 2 rfl wk_1_98 rfl rfl ?_
  obtain ⟨r3, M1, k2, h⟩ := bindM_some h
  refine V_callI 14 (runSN (rest := []) 14 C (kX11_holds  k2) cf_X11_holds wk_3_24 rfl rfl dX3_catchMice_14 rfl rfl (Nat.zero_le _) (Nat.zero_le _)) ?_
  refine V_ifeq_b 17 21 C dX3_catchMice_17 (by decide) (fun c4 => ?_) (fun c4 => ?_)
  · replace h := ite_f c4 h
    refine V_iconst 21 C dX3_catchMice_21 ic0 ?_
    refine V_istore_n 22 C [(1, .int 0), (0, .ref (gad G b))] dX3_catchMice_22 rfl rfl rfl ?_
    refine V_iconst 23 C dX3_catchMice_23 ic0 ?_
    refine V_istore_n 24 C [(2, .int 0), (1, .int 0), (0, .ref (gad G b))] dX3_catchMice_24 rfl rfl rfl ?_
    refine V_sub [2, 1, 0] rfl ?_
    refine vX3_catchMice_25 hb C hQ ?_ _ _ _ _ h
    intro w26 M25 h
    refine V_aload_n 108 C 0 dX3_catchMice_108 rfl ?_
    refine V_get (v := .ref (gad G (b + 6))) 109 C dX3_catchMice_109 (ltl hb rfl) (ceR_X3 hb) rfl inX3 2 rfl wk_1_145 rfl rfl ?_
    refine V_iload_n 112 C 1 dX3_catchMice_112 rfl ?_
    obtain ⟨M27, e28, h⟩ := letM_some h
    refine V_putN (ty := .int) (F := F_X5 G (b + 6)) 113 C dX3_catchMice_113 (ltl (ly1_6 hb) rfl) (fun _ => ceR_X5 (ly1_6 hb)) rfl inX5 tyX5 tyX5_ok nmX5 3 rfl wk_1_128 rfl rfl w26 rfl rfl rfl rfl rfl ?_
    refine V_eqM e28 ?_
    exact V_vreth 116 C hQ h dX3_catchMice_116
  · replace h := ite_t c4 h
    exact V_vreth 20 C hQ h dX3_catchMice_20
set_option maxHeartbeats 4000000 in
theorem kX5_appear {G : GG} {l : Launch} {F : Nat} {b : Nat} (hb : lay b = 4) {p0 : Int32} {M M' : Mem}  (h : fX5_appear F b p0 M = some M') : Con G l yX5_appear cX5_appear 2 none rmX5_appear [.ref (gad G b), .int p0] M (QV G M') := by
  refine con_of pnX5 (Nat.le_of_ble_eq_true rfl) (fun κ C hQ => ?_)
  unfold fX5_appear at h
  refine V_L (L1 := [(0, .ref (gad G b)), (1, .int p0)]) rfl ?_
  refine V_aload_n 0 C 0 dX5_appear_0 rfl ?_
  refine V_get (v := .ref (gad G (b + 1))) 1 C dX5_appear_1 (ltl hb rfl) (ceR_X5 hb) rfl inX5 0 rfl wk_1_118 rfl rfl ?_
  refine V_aload_n 4 C 0 dX5_appear_4 rfl ?_
  refine V_get (v := .int (M b 3)) 5 C dX5_appear_5 (ltl hb rfl) (ceR_X5 hb) rfl inX5 3 rfl wk_1_127 rfl rfl ?_
  refine V_iload_n 8 C 1 dX5_appear_8 rfl ?_
  obtain ⟨M1, k2, h⟩ := bindV_some h
  refine V_callV 9 (runSN (rest := []) 9 C (kX11_put (akI_22 (ly4_1 hb)) k2) cf_X11_put wk_4_26 rfl rfl dX5_appear_9 rfl rfl (Nat.zero_le _) (Nat.zero_le _)) ?_
  refine V_aload_n 12 C 0 dX5_appear_12 rfl ?_
  refine V_get (v := .ref (gad G (b + 2))) 13 C dX5_appear_13 (ltl hb rfl) (ceR_X5 hb) rfl inX5 1 rfl wk_1_121 rfl rfl ?_
  refine V_aload_n 16 C 0 dX5_appear_16 rfl ?_
  refine V_get (v := .int (M1 b 3)) 17 C dX5_appear_17 (ltl hb rfl) (ceR_X5 hb) rfl inX5 3 rfl wk_1_127 rfl rfl ?_
  refine V_iconst 20 C dX5_appear_20 ic0 ?_
  obtain ⟨M3, k4, h⟩ := bindV_some h
  refine V_callV 21 (runSN (rest := []) 21 C (kX11_put (akI_22 (ly4_2 hb)) k4) cf_X11_put wk_4_26 rfl rfl dX5_appear_21 rfl rfl (Nat.zero_le _) (Nat.zero_le _)) ?_
  refine V_aload_n 24 C 0 dX5_appear_24 rfl ?_
  refine V_get (v := .ref (gad G (b + 3))) 25 C dX5_appear_25 (ltl hb rfl) (ceR_X5 hb) rfl inX5 2 rfl wk_1_124 rfl rfl ?_
  refine V_aload_n 28 C 0 dX5_appear_28 rfl ?_
  refine V_get (v := .int (M3 b 3)) 29 C dX5_appear_29 (ltl hb rfl) (ceR_X5 hb) rfl inX5 3 rfl wk_1_127 rfl rfl ?_
  refine V_iconst 32 C dX5_appear_32 ic0 ?_
  obtain ⟨M5, k6, h⟩ := bindV_some h
  refine V_callV 33 (runSN (rest := []) 33 C (kX11_put (akI_22 (ly4_3 hb)) k6) cf_X11_put wk_4_26 rfl rfl dX5_appear_33 rfl rfl (Nat.zero_le _) (Nat.zero_le _)) ?_
  refine V_aload_n 36 C 0 dX5_appear_36 rfl ?_
  refine V_dup 37 C dX5_appear_37 rfl ?_
  refine V_get (v := .int (M5 b 3)) 38 C dX5_appear_38 (ltl hb rfl) (ceR_X5 hb) rfl inX5 3 rfl wk_1_127 rfl rfl ?_
  refine V_iconst 41 C dX5_appear_41 ic1 ?_
  refine V_iadd 42 C dX5_appear_42 ?_
  obtain ⟨M7, e8, h⟩ := letM_some h
  refine V_put (ty := .int) (F := F_X5 G b) 43 C dX5_appear_43 (ltl hb rfl) (fun _ => ceR_X5 hb) rfl inX5 tyX5 tyX5_ok nmX5 3 rfl wk_1_127 rfl rfl ((M5 b 3) + 1) rfl rfl rfl rfl rfl ?_
  refine V_eqM e8 ?_
  exact V_vreth 46 C hQ h dX5_appear_46
set_option maxHeartbeats 4000000 in
theorem kX3_drawMouse {G : GG} {l : Launch} {F : Nat} {b : Nat} (hb : lay b = 1)  {M M' : Mem}  (h : fX3_drawMouse F b M = some M') : Con G l yX3_drawMouse cX3_drawMouse 1 none rmX3_drawMouse [.ref (gad G b)] M (QV G M') := by
  refine con_of pnX3 (Nat.le_of_ble_eq_true rfl) (fun κ C hQ => ?_)
  unfold fX3_drawMouse at h
  refine V_L (L1 := [(0, .ref (gad G b))]) rfl ?_
  refine V_aload_n 0 C 0 dX3_drawMouse_0 rfl ?_
  refine V_aload_n 1 C 0 dX3_drawMouse_1 rfl ?_
  refine V_get (v := .int (M b 4)) 2 C dX3_drawMouse_2 (ltl hb rfl) (ceR_X3 hb) rfl inX3 4 rfl wk_1_149 rfl rfl ?_
  refine V_bipush 5 C dX3_drawMouse_5 bp109 ?_
  refine V_imul 7 C dX3_drawMouse_7 ?_
  refine V_bipush 8 C dX3_drawMouse_8 bp89 ?_
  refine V_iadd 10 C dX3_drawMouse_10 ?_
  refine V_sipush 11 C dX3_drawMouse_11 sp1024 ?_
  refine V_irem 14 C dX3_drawMouse_14 (by decide) ?_
  obtain ⟨M1, e2, h⟩ := letM_some h
  refine V_put (ty := .int) (F := F_X3 G b) 15 C dX3_drawMouse_15 (ltl hb rfl) (fun _ => ceR_X3 hb) rfl inX3 tyX3 tyX3_ok nmX3 4 rfl wk_1_149 rfl rfl (irm (((M b 4) * 109) + 89) 1024) rfl rfl rfl rfl rfl ?_
  refine V_eqM e2 ?_
  refine V_aload_n 18 C 0 dX3_drawMouse_18 rfl ?_
  refine V_get (v := .int (M1 b 4)) 19 C dX3_drawMouse_19 (ltl hb rfl) (ceR_X3 hb) rfl inX3 4 rfl wk_1_149 rfl rfl ?_
  refine V_bipush 22 C dX3_drawMouse_22 bp16 ?_
  refine V_irem 24 C dX3_drawMouse_24 (by decide) ?_
  refine V_aload_n 25 C 0 dX3_drawMouse_25 rfl ?_
  refine V_get (v := .int (M1 b 3)) 26 C dX3_drawMouse_26 (ltl hb rfl) (ceR_X3 hb) rfl inX3 3 rfl wk_1_148 rfl rfl ?_
  refine V_icmp_ge 29 76 C dX3_drawMouse_29 (by decide) (fun c3 => ?_) (fun c3 => ?_)
  · replace h := ite_t c3 h
    exact V_vreth 76 C hQ h dX3_drawMouse_76
  · replace h := ite_f c3 h
    refine V_aload_n 32 C 0 dX3_drawMouse_32 rfl ?_
    refine V_get (v := .ref (gad G (b + 1))) 33 C dX3_drawMouse_33 (ltl hb rfl) (ceR_X3 hb) rfl inX3 0 rfl wk_1_139 rfl rfl ?_
    refine V_getN (v := .int (M1 (b + 1) 3)) 36 C dX3_drawMouse_36 (ltl (ly1_1 hb) rfl) (ceR_X9 (ly1_1 hb)) rfl inX9 3 rfl wk_1_65 rfl rfl ?_
    refine V_if_le 39 76 C dX3_drawMouse_39 (by decide) (fun c4 => ?_) (fun c4 => ?_)
    · replace h := ite_t c4 h
      exact V_vreth 76 C hQ h dX3_drawMouse_76
    · replace h := ite_f c4 h
      refine V_aload_n 42 C 0 dX3_drawMouse_42 rfl ?_
      refine V_get (v := .ref (gad G (b + 6))) 43 C dX3_drawMouse_43 (ltl hb rfl) (ceR_X3 hb) rfl inX3 2 rfl wk_1_145 rfl rfl ?_
      refine V_getN (v := .int (M1 (b + 6) 3)) 46 C dX3_drawMouse_46 (ltl (ly1_6 hb) rfl) (ceR_X5 (ly1_6 hb)) rfl inX5 3 rfl wk_1_128 rfl rfl ?_
      refine V_bipush 49 C dX3_drawMouse_49 bp8 ?_
      refine V_icmp_ge 51 76 C dX3_drawMouse_51 (by decide) (fun c5 => ?_) (fun c5 => ?_)
      · replace h := ite_t c5 h
        exact V_vreth 76 C hQ h dX3_drawMouse_76
      · replace h := ite_f c5 h
        refine V_aload_n 54 C 0 dX3_drawMouse_54 rfl ?_
        refine V_get (v := .ref (gad G (b + 6))) 55 C dX3_drawMouse_55 (ltl hb rfl) (ceR_X3 hb) rfl inX3 2 rfl wk_1_145 rfl rfl ?_
        refine V_aload_n 58 C 0 dX3_drawMouse_58 rfl ?_
        refine V_get (v := .int (M1 b 4)) 59 C dX3_drawMouse_59 (ltl hb rfl) (ceR_X3 hb) rfl inX3 4 rfl wk_1_149 rfl rfl ?_
        refine V_bipush 62 C dX3_drawMouse_62 bp16 ?_
        refine V_idiv 64 C dX3_drawMouse_64 (by decide) ?_
        refine V_aload_n 65 C 0 dX3_drawMouse_65 rfl ?_
        refine V_get (v := .ref (gad G (b + 1))) 66 C dX3_drawMouse_66 (ltl hb rfl) (ceR_X3 hb) rfl inX3 0 rfl wk_1_139 rfl rfl ?_
        refine V_getN (v := .int (M1 (b + 1) 3)) 69 C dX3_drawMouse_69 (ltl (ly1_1 hb) rfl) (ceR_X9 (ly1_1 hb)) rfl inX9 3 rfl wk_1_65 rfl rfl ?_
        obtain ⟨c6, h⟩ := chk_some h
        refine V_irem 72 C dX3_drawMouse_72 (of_decide_eq_true c6) ?_
        obtain ⟨M7, k8, h⟩ := bindV_some h
        refine V_callV 73 (runVN (k := (b + 6)) (rest := []) 73 C (kX5_appear (ly1_6 hb) k8) cf_X5_appear wk_4_48 (ltl (ly1_6 hb) rfl) (ceR_X5 (ly1_6 hb)) rfl rfl rfl rfl dX3_drawMouse_73 rfl rfl (Nat.zero_le _) (Nat.zero_le _)) ?_
        exact V_vreth 76 C hQ h dX3_drawMouse_76
set_option maxHeartbeats 4000000 in
theorem kX6_shelfOfGoal {G : GG} {l : Launch} {F : Nat} {b : Nat} (hb : lay b = 3)  {M M' : Mem} {r : Int32} (h : fX6_shelfOfGoal F b M = some (r, M')) : Con G l yX6_shelfOfGoal cX6_shelfOfGoal 1 (some .int) rmX6_shelfOfGoal [.ref (gad G b)] M (QI G r M') := by
  refine con_of pnX6 (Nat.le_of_ble_eq_true rfl) (fun κ C hQ => ?_)
  unfold fX6_shelfOfGoal at h
  refine V_L (L1 := [(0, .ref (gad G b))]) rfl ?_
  refine V_aload_n 0 C 0 dX6_shelfOfGoal_0 rfl ?_
  refine V_get (v := .ref (gad G (b + 1))) 1 C dX6_shelfOfGoal_1 (ltl hb rfl) (ceR_X6 hb) rfl inX6 0 rfl wk_1_88 rfl rfl ?_
  refine V_aload_n 4 C 0 dX6_shelfOfGoal_4 rfl ?_
  refine V_get (v := .int (M b 3)) 5 C dX6_shelfOfGoal_5 (ltl hb rfl) (ceR_X6 hb) rfl inX6 3 rfl wk_1_100 rfl rfl ?_
  obtain ⟨r3, M1, k2, h⟩ := bindM_some h
  refine V_callI 8 (runSN (rest := []) 8 C (kX11_at (akI_21 (ly3_1 hb)) k2) cf_X11_at wk_3_219 rfl rfl dX6_shelfOfGoal_8 rfl rfl (Nat.zero_le _) (Nat.zero_le _)) ?_
  exact V_ireth 11 C hQ h dX6_shelfOfGoal_11
set_option maxHeartbeats 4000000 in
theorem vX9_neighboursOfAll_4 {G : GG} {κ : KK} {F : Nat} {b : Nat} (hb : lay b = 2) (C : Cx G κ cX9_neighboursOfAll RX9 (some .int) 4 rmX9_neighboursOfAll) {M' : Mem} {r : Int32} (hQ : HQ G κ (QI G r M') 0 0) {q1 : Int32} {kx : Int32 → Mem → Option (Int32 × Mem)} (hk : ∀ (v2 : Int32) (M : Mem), kx v2 M = some (r, M') → V G κ 4 0 0 M 36 [(2, .int v2)] []) : ∀ (n : Nat) (v2 : Int32) (v3 : Int32) (M : Mem), fX9_neighboursOfAll_4 F b q1 kx n v2 v3 M = some (r, M') → V G κ 4 0 0 M 4 [(0, .ref (gad G b)), (1, .int q1), (2, .int v2), (3, .int v3)] [] := by
  intro n
  induction n with
  | zero => intro v2 v3 M h; rw [fX9_neighboursOfAll_4] at h; cases h
  | succ n ih =>
    intro v2 v3 M h
    rw [fX9_neighboursOfAll_4] at h
    refine V_iload_n 4 C 3 dX9_neighboursOfAll_4 rfl ?_
    refine V_aload_n 5 C 0 dX9_neighboursOfAll_5 rfl ?_
    refine V_get (v := .ref (gad G (b + 2))) 6 C dX9_neighboursOfAll_6 (ltl hb rfl) (ceR_X9 hb) rfl inX9 1 rfl wk_1_56 rfl rfl ?_
    refine V_alenI 9 C dX9_neighboursOfAll_9 (akI_20 (ly2_2 hb)) (congrArg nI (al_20 (ly2_2 hb))) ?_
    refine V_icmp_ge 10 36 C dX9_neighboursOfAll_10 (by decide) (fun c1 => ?_) (fun c1 => ?_)
    · replace h := ite_t c1 h
      refine V_sub [2] rfl ?_
      exact hk _ _ h
    · replace h := ite_f c1 h
      refine V_iload_n 13 C 1 dX9_neighboursOfAll_13 rfl ?_
      refine V_iload_n 14 C 3 dX9_neighboursOfAll_14 rfl ?_
      obtain ⟨r4, M2, k3, h⟩ := bindM_some h
      refine V_callI 15 (runSN (rest := []) 15 C (kX11_holds  k3) cf_X11_holds wk_2_80 rfl rfl dX9_neighboursOfAll_15 rfl rfl (Nat.zero_le _) (Nat.zero_le _)) ?_
      refine V_ifeq_b 18 30 C dX9_neighboursOfAll_18 (by decide) (fun c5 => ?_) (fun c5 => ?_)
      · replace h := ite_f c5 h
        obtain ⟨x6, e7, h⟩ := letM_some h
        refine V_iinc 30 C [(3, .int x6), (0, .ref (gad G b)), (1, .int q1), (2, .int v2)] 3 x6 dX9_neighboursOfAll_30 rfl (by rw [e7]; rfl) rfl rfl ?_
        refine V_goto 33 4 C dX9_neighboursOfAll_33 (by decide) ?_
        refine V_sub [1, 2, 3, 0] rfl ?_
        exact ih _ _ _ h
      · replace h := ite_t c5 h
        refine V_iload_n 21 C 2 dX9_neighboursOfAll_21 rfl ?_
        refine V_aload_n 22 C 0 dX9_neighboursOfAll_22 rfl ?_
        refine V_get (v := .ref (gad G (b + 2))) 23 C dX9_neighboursOfAll_23 (ltl hb rfl) (ceR_X9 hb) rfl inX9 1 rfl wk_1_56 rfl rfl ?_
        refine V_iload_n 26 C 3 dX9_neighboursOfAll_26 rfl ?_
        obtain ⟨c8, h⟩ := chk_some h
        refine V_iald 27 C dX9_neighboursOfAll_27 (akI_20 (ly2_2 hb)) (al_20 (ly2_2 hb)) c8 ?_
        refine V_ior 28 C dX9_neighboursOfAll_28 ?_
        obtain ⟨x9, e10, h⟩ := letM_some h
        refine V_top e10 ?_
        refine V_istore_n 29 C [(2, .int x9), (0, .ref (gad G b)), (1, .int q1), (3, .int v3)] dX9_neighboursOfAll_29 rfl rfl rfl ?_
        obtain ⟨x11, e12, h⟩ := letM_some h
        refine V_iinc 30 C [(3, .int x11), (2, .int x9), (0, .ref (gad G b)), (1, .int q1)] 3 x11 dX9_neighboursOfAll_30 rfl (by rw [e12]; rfl) rfl rfl ?_
        refine V_goto 33 4 C dX9_neighboursOfAll_33 (by decide) ?_
        refine V_sub [2, 3, 1, 0] rfl ?_
        exact ih _ _ _ h
set_option maxHeartbeats 4000000 in
theorem kX9_neighboursOfAll {G : GG} {l : Launch} {F : Nat} {b : Nat} (hb : lay b = 2) {p0 : Int32} {M M' : Mem} {r : Int32} (h : fX9_neighboursOfAll F b p0 M = some (r, M')) : Con G l yX9_neighboursOfAll cX9_neighboursOfAll 4 (some .int) rmX9_neighboursOfAll [.ref (gad G b), .int p0] M (QI G r M') := by
  refine con_of pnX9 (Nat.le_of_ble_eq_true rfl) (fun κ C hQ => ?_)
  unfold fX9_neighboursOfAll at h
  refine V_L (L1 := [(0, .ref (gad G b)), (1, .int p0)]) rfl ?_
  refine V_iconst 0 C dX9_neighboursOfAll_0 ic0 ?_
  refine V_istore_n 1 C [(2, .int 0), (0, .ref (gad G b)), (1, .int p0)] dX9_neighboursOfAll_1 rfl rfl rfl ?_
  refine V_iconst 2 C dX9_neighboursOfAll_2 ic0 ?_
  refine V_istore_n 3 C [(3, .int 0), (2, .int 0), (0, .ref (gad G b)), (1, .int p0)] dX9_neighboursOfAll_3 rfl rfl rfl ?_
  refine V_sub [2, 3, 1, 0] rfl ?_
  refine vX9_neighboursOfAll_4 hb C hQ ?_ _ _ _ _ h
  intro w14 M13 h
  refine V_iload_n 36 C 0 dX9_neighboursOfAll_36 rfl ?_
  exact V_ireth 37 C hQ h dX9_neighboursOfAll_37
set_option maxHeartbeats 4000000 in
theorem vX9_smallestIn_2 {G : GG} {κ : KK} {F : Nat} {b : Nat} (hb : lay b = 2) (C : Cx G κ cX9_smallestIn RX9 (some .int) 4 rmX9_smallestIn) {M' : Mem} {r : Int32} (hQ : HQ G κ (QI G r M') 0 0) {q1 : Int32} {q2 : Int32} {kx : Mem → Option (Int32 × Mem)} (hk : ∀  (M : Mem), kx  M = some (r, M') → V G κ 4 0 0 M 24 [(2, .int q2)] []) : ∀ (n : Nat) (v3 : Int32) (M : Mem), fX9_smallestIn_2 F b q1 q2 kx n v3 M = some (r, M') → V G κ 4 0 0 M 2 [(1, .int q1), (2, .int q2), (3, .int v3)] [] := by
  intro n
  induction n with
  | zero => intro v3 M h; rw [fX9_smallestIn_2] at h; cases h
  | succ n ih =>
    intro v3 M h
    rw [fX9_smallestIn_2] at h
    refine V_iload_n 2 C 2 dX9_smallestIn_2 rfl ?_
    refine V_bipush 3 C dX9_smallestIn_3 bp12 ?_
    refine V_icmp_ge 5 24 C dX9_smallestIn_5 (by decide) (fun c1 => ?_) (fun c1 => ?_)
    · replace h := ite_t c1 h
      refine V_sub [1] rfl ?_
      exact hk  _ h
    · replace h := ite_f c1 h
      refine V_iload_n 8 C 0 dX9_smallestIn_8 rfl ?_
      refine V_iload_n 9 C 2 dX9_smallestIn_9 rfl ?_
      obtain ⟨r4, M2, k3, h⟩ := bindM_some h
      refine V_callI 10 (runSN (rest := []) 10 C (kX11_holds  k3) cf_X11_holds wk_2_80 rfl rfl dX9_smallestIn_10 rfl rfl (Nat.zero_le _) (Nat.zero_le _)) ?_
      refine V_ifeq_b 13 18 C dX9_smallestIn_13 (by decide) (fun c5 => ?_) (fun c5 => ?_)
      · replace h := ite_f c5 h
        obtain ⟨x6, e7, h⟩ := letM_some h
        refine V_iinc 18 C [(3, .int x6), (1, .int q1), (2, .int q2)] 2 x6 dX9_smallestIn_18 rfl (by rw [e7]; rfl) rfl rfl ?_
        refine V_goto 21 2 C dX9_smallestIn_21 (by decide) ?_
        refine V_sub [1, 2, 0] rfl ?_
        exact ih _ _ h
      · replace h := ite_t c5 h
        refine V_iload_n 16 C 2 dX9_smallestIn_16 rfl ?_
        exact V_ireth 17 C hQ h dX9_smallestIn_17
set_option maxHeartbeats 4000000 in
theorem kX9_smallestIn {G : GG} {l : Launch} {F : Nat} {b : Nat} (hb : lay b = 2) {p0 : Int32} {p1 : Int32} {M M' : Mem} {r : Int32} (h : fX9_smallestIn F b p0 p1 M = some (r, M')) : Con G l yX9_smallestIn cX9_smallestIn 4 (some .int) rmX9_smallestIn [.ref (gad G b), .int p0, .int p1] M (QI G r M') := by
  refine con_of pnX9 (Nat.le_of_ble_eq_true rfl) (fun κ C hQ => ?_)
  unfold fX9_smallestIn at h
  refine V_L (L1 := [(0, .ref (gad G b)), (1, .int p0), (2, .int p1)]) rfl ?_
  refine V_iconst 0 C dX9_smallestIn_0 ic0 ?_
  refine V_istore_n 1 C [(3, .int 0), (0, .ref (gad G b)), (1, .int p0), (2, .int p1)] dX9_smallestIn_1 rfl rfl rfl ?_
  refine V_sub [2, 3, 0] rfl ?_
  refine vX9_smallestIn_2 hb C hQ ?_ _ _ _ h
  intro M8 h
  refine V_iload_n 24 C 0 dX9_smallestIn_24 rfl ?_
  exact V_ireth 25 C hQ h dX9_smallestIn_25
set_option maxHeartbeats 4000000 in
theorem vX9_shelfTowards_29 {G : GG} {κ : KK} {F : Nat} {b : Nat} (hb : lay b = 2) (C : Cx G κ cX9_shelfTowards RX9 (some .int) 7 rmX9_shelfTowards) {M' : Mem} {r : Int32} (hQ : HQ G κ (QI G r M') 0 0) {q1 : Int32} {q3 : Int32} {kx : Mem → Option (Int32 × Mem)} (hk : ∀  (M : Mem), kx  M = some (r, M') → V G κ 7 0 0 M 79 [(1, .int q1)] []) : ∀ (n : Nat) (v4 : Int32) (v5 : Int32) (v6 : Int32) (M : Mem), fX9_shelfTowards_29 F b q1 q3 kx n v4 v5 v6 M = some (r, M') → V G κ 7 0 0 M 29 [(0, .ref (gad G b)), (1, .int q1), (3, .int q3), (4, .int v4), (5, .int v5), (6, .int v6)] [] := by
  intro n
  induction n with
  | zero => intro v4 v5 v6 M h; rw [fX9_shelfTowards_29] at h; cases h
  | succ n ih =>
    intro v4 v5 v6 M h
    rw [fX9_shelfTowards_29] at h
    refine V_iload 29 C 5 dX9_shelfTowards_29 rfl ?_
    refine V_bipush 31 C dX9_shelfTowards_31 bp12 ?_
    refine V_icmp_ge 33 79 C dX9_shelfTowards_33 (by decide) (fun c8 => ?_) (fun c8 => ?_)
    · replace h := ite_t c8 h
      refine V_sub [1] rfl ?_
      exact hk  _ h
    · replace h := ite_f c8 h
      refine V_iload 36 C 3 dX9_shelfTowards_36 rfl ?_
      refine V_iload_n 38 C 2 dX9_shelfTowards_38 rfl ?_
      refine V_iand 39 C dX9_shelfTowards_39 ?_
      refine V_if_eq 40 53 C dX9_shelfTowards_40 (by decide) (fun c9 => ?_) (fun c9 => ?_)
      · replace h := ite_t c9 h
        refine V_aload_n 53 C 0 dX9_shelfTowards_53 rfl ?_
        refine V_iload 54 C 3 dX9_shelfTowards_54 rfl ?_
        obtain ⟨r12, M10, k11, h⟩ := bindM_some h
        refine V_callI 56 (runVO (k := b) (rest := []) 56 C (kX9_neighboursOfAll hb k11) cf_X9_neighboursOfAll wk_2_90 (ltl hb rfl) (ceR_X9 hb) rfl rfl rfl rfl dX9_shelfTowards_56 rfl rfl (Nat.zero_le _) (Nat.zero_le _)) ?_
        refine V_iload 59 C 4 dX9_shelfTowards_59 rfl ?_
        refine V_iconst 61 C dX9_shelfTowards_61 icm1 ?_
        refine V_ixor 62 C dX9_shelfTowards_62 ?_
        refine V_iand 63 C dX9_shelfTowards_63 ?_
        obtain ⟨x13, e14, h⟩ := letM_some h
        refine V_top e14 ?_
        refine V_istore 64 C [(4, .int x13), (0, .ref (gad G b)), (1, .int q1), (3, .int q3), (5, .int v5), (6, .int v6)] dX9_shelfTowards_64 rfl rfl ?_
        refine V_iload 66 C 4 dX9_shelfTowards_66 rfl ?_
        refine V_iload 68 C 0 dX9_shelfTowards_68 rfl ?_
        refine V_ior 70 C dX9_shelfTowards_70 ?_
        obtain ⟨x15, e16, h⟩ := letM_some h
        refine V_top e16 ?_
        refine V_istore 71 C [(5, .int x15), (4, .int x13), (0, .ref (gad G b)), (1, .int q1), (3, .int q3), (6, .int v6)] dX9_shelfTowards_71 rfl rfl ?_
        obtain ⟨x17, e18, h⟩ := letM_some h
        refine V_iinc 73 C [(6, .int x17), (5, .int x15), (4, .int x13), (0, .ref (gad G b)), (1, .int q1), (3, .int q3)] 5 x17 dX9_shelfTowards_73 rfl (by rw [e18]; rfl) rfl rfl ?_
        refine V_goto 76 29 C dX9_shelfTowards_76 (by decide) ?_
        refine V_sub [3, 4, 5, 2, 1, 0] rfl ?_
        exact ih _ _ _ _ h
      · replace h := ite_f c9 h
        refine V_aload_n 43 C 0 dX9_shelfTowards_43 rfl ?_
        refine V_iload 44 C 3 dX9_shelfTowards_44 rfl ?_
        refine V_iload_n 46 C 2 dX9_shelfTowards_46 rfl ?_
        refine V_iand 47 C dX9_shelfTowards_47 ?_
        refine V_iload_n 48 C 1 dX9_shelfTowards_48 rfl ?_
        obtain ⟨r21, M19, k20, h⟩ := bindM_some h
        refine V_callI 49 (runVO (k := b) (rest := []) 49 C (kX9_smallestIn hb k20) cf_X9_smallestIn wk_4_4 (ltl hb rfl) (ceR_X9 hb) rfl rfl rfl rfl dX9_shelfTowards_49 rfl rfl (Nat.zero_le _) (Nat.zero_le _)) ?_
        exact V_ireth 52 C hQ h dX9_shelfTowards_52
set_option maxHeartbeats 4000000 in
theorem kX9_shelfTowards {G : GG} {l : Launch} {F : Nat} {b : Nat} (hb : lay b = 2) {p0 : Int32} {p1 : Int32} {M M' : Mem} {r : Int32} (h : fX9_shelfTowards F b p0 p1 M = some (r, M')) : Con G l yX9_shelfTowards cX9_shelfTowards 7 (some .int) rmX9_shelfTowards [.ref (gad G b), .int p0, .int p1] M (QI G r M') := by
  refine con_of pnX9 (Nat.le_of_ble_eq_true rfl) (fun κ C hQ => ?_)
  unfold fX9_shelfTowards at h
  refine V_L (L1 := [(0, .ref (gad G b)), (1, .int p0), (2, .int p1)]) rfl ?_
  refine V_iload_n 0 C 1 dX9_shelfTowards_0 rfl ?_
  refine V_iload_n 1 C 2 dX9_shelfTowards_1 rfl ?_
  refine V_icmp_ne 2 7 C dX9_shelfTowards_2 (by decide) (fun c1 => ?_) (fun c1 => ?_)
  · replace h := ite_f c1 h
    refine V_aload_n 7 C 0 dX9_shelfTowards_7 rfl ?_
    refine V_get (v := .ref (gad G (b + 2))) 8 C dX9_shelfTowards_8 (ltl hb rfl) (ceR_X9 hb) rfl inX9 1 rfl wk_1_56 rfl rfl ?_
    refine V_iload_n 11 C 1 dX9_shelfTowards_11 rfl ?_
    obtain ⟨r4, M2, k3, h⟩ := bindM_some h
    refine V_callI 12 (runSN (rest := []) 12 C (kX11_at (akI_20 (ly2_2 hb)) k3) cf_X11_at wk_2_118 rfl rfl dX9_shelfTowards_12 rfl rfl (Nat.zero_le _) (Nat.zero_le _)) ?_
    refine V_istore_n 15 C [(3, .int r4), (0, .ref (gad G b)), (1, .int p0), (2, .int p1)] dX9_shelfTowards_15 rfl rfl rfl ?_
    refine V_iload_n 16 C 3 dX9_shelfTowards_16 rfl ?_
    obtain ⟨r7, M5, k6, h⟩ := bindM_some h
    refine V_callI 17 (runSN (rest := []) 17 C (kX11_bit  k6) cf_X11_bit wk_2_87 rfl rfl dX9_shelfTowards_17 rfl rfl (Nat.zero_le _) (Nat.zero_le _)) ?_
    refine V_istore 20 C [(4, .int r7), (3, .int r4), (0, .ref (gad G b)), (1, .int p0), (2, .int p1)] dX9_shelfTowards_20 rfl rfl ?_
    refine V_iload 22 C 0 dX9_shelfTowards_22 rfl ?_
    refine V_istore 24 C [(5, .int r7), (4, .int r7), (3, .int r4), (0, .ref (gad G b)), (1, .int p0), (2, .int p1)] dX9_shelfTowards_24 rfl rfl ?_
    refine V_iconst 26 C dX9_shelfTowards_26 ic0 ?_
    refine V_istore 27 C [(6, .int 0), (5, .int r7), (4, .int r7), (3, .int r4), (0, .ref (gad G b)), (1, .int p0), (2, .int p1)] dX9_shelfTowards_27 rfl rfl ?_
    refine V_sub [4, 5, 3, 2, 1, 0] rfl ?_
    refine vX9_shelfTowards_29 hb C hQ ?_ _ _ _ _ _ h
    intro M22 h
    refine V_iload_n 79 C 0 dX9_shelfTowards_79 rfl ?_
    exact V_ireth 80 C hQ h dX9_shelfTowards_80
  · replace h := ite_t c1 h
    refine V_iload_n 5 C 1 dX9_shelfTowards_5 rfl ?_
    exact V_ireth 6 C hQ h dX9_shelfTowards_6
set_option maxHeartbeats 4000000 in
theorem kX3_shelfAfterWalk {G : GG} {l : Launch} {F : Nat} {b : Nat} (hb : lay b = 1)  {M M' : Mem} {r : Int32} (h : fX3_shelfAfterWalk F b M = some (r, M')) : Con G l yX3_shelfAfterWalk cX3_shelfAfterWalk 1 (some .int) rmX3_shelfAfterWalk [.ref (gad G b)] M (QI G r M') := by
  refine con_of pnX3 (Nat.le_of_ble_eq_true rfl) (fun κ C hQ => ?_)
  unfold fX3_shelfAfterWalk at h
  refine V_L (L1 := [(0, .ref (gad G b))]) rfl ?_
  refine V_aload_n 0 C 0 dX3_shelfAfterWalk_0 rfl ?_
  refine V_get (v := .ref (gad G (b + 4))) 1 C dX3_shelfAfterWalk_1 (ltl hb rfl) (ceR_X3 hb) rfl inX3 1 rfl wk_1_142 rfl rfl ?_
  refine V_getN (v := .int (M (b + 4) 1)) 4 C dX3_shelfAfterWalk_4 (ltl (ly1_4 hb) rfl) (ceR_X6 (ly1_4 hb)) rfl inX6 1 rfl wk_1_94 rfl rfl ?_
  refine V_if_ne 7 18 C dX3_shelfAfterWalk_7 (by decide) (fun c1 => ?_) (fun c1 => ?_)
  · replace h := ite_f c1 h
    refine V_aload_n 18 C 0 dX3_shelfAfterWalk_18 rfl ?_
    refine V_get (v := .ref (gad G (b + 1))) 19 C dX3_shelfAfterWalk_19 (ltl hb rfl) (ceR_X3 hb) rfl inX3 0 rfl wk_1_139 rfl rfl ?_
    refine V_aload_n 22 C 0 dX3_shelfAfterWalk_22 rfl ?_
    refine V_get (v := .ref (gad G (b + 4))) 23 C dX3_shelfAfterWalk_23 (ltl hb rfl) (ceR_X3 hb) rfl inX3 1 rfl wk_1_142 rfl rfl ?_
    refine V_getN (v := .int (M (b + 4) 2)) 26 C dX3_shelfAfterWalk_26 (ltl (ly1_4 hb) rfl) (ceR_X6 (ly1_4 hb)) rfl inX6 2 rfl wk_1_98 rfl rfl ?_
    refine V_aload_n 29 C 0 dX3_shelfAfterWalk_29 rfl ?_
    refine V_get (v := .ref (gad G (b + 4))) 30 C dX3_shelfAfterWalk_30 (ltl hb rfl) (ceR_X3 hb) rfl inX3 1 rfl wk_1_142 rfl rfl ?_
    obtain ⟨r4, M2, k3, h⟩ := bindM_some h
    refine V_callI 33 (runVN (k := (b + 4)) (rest := [.int (M (b + 4) 2), .ref (gad G (b + 1))]) 33 C (kX6_shelfOfGoal (ly1_4 hb) k3) cf_X6_shelfOfGoal wk_3_236 (ltl (ly1_4 hb) rfl) (ceR_X6 (ly1_4 hb)) rfl rfl rfl rfl dX3_shelfAfterWalk_33 rfl rfl (Nat.zero_le _) (Nat.zero_le _)) ?_
    obtain ⟨r7, M5, k6, h⟩ := bindM_some h
    refine V_callI 36 (runVN (k := (b + 1)) (rest := []) 36 C (kX9_shelfTowards (ly1_1 hb) k6) cf_X9_shelfTowards wk_4_0 (ltl (ly1_1 hb) rfl) (ceR_X9 (ly1_1 hb)) rfl rfl rfl rfl dX3_shelfAfterWalk_36 rfl rfl (Nat.zero_le _) (Nat.zero_le _)) ?_
    exact V_ireth 39 C hQ h dX3_shelfAfterWalk_39
  · replace h := ite_t c1 h
    refine V_aload_n 10 C 0 dX3_shelfAfterWalk_10 rfl ?_
    refine V_get (v := .ref (gad G (b + 4))) 11 C dX3_shelfAfterWalk_11 (ltl hb rfl) (ceR_X3 hb) rfl inX3 1 rfl wk_1_142 rfl rfl ?_
    refine V_getN (v := .int (M (b + 4) 2)) 14 C dX3_shelfAfterWalk_14 (ltl (ly1_4 hb) rfl) (ceR_X6 (ly1_4 hb)) rfl inX6 2 rfl wk_1_98 rfl rfl ?_
    exact V_ireth 17 C hQ h dX3_shelfAfterWalk_17
set_option maxHeartbeats 4000000 in
theorem kX5_eat {G : GG} {l : Launch} {F : Nat} {b : Nat} (hb : lay b = 4) {p0 : Int32} {M M' : Mem}  (h : fX5_eat F b p0 M = some M') : Con G l yX5_eat cX5_eat 2 none rmX5_eat [.ref (gad G b), .int p0] M (QV G M') := by
  refine con_of pnX5 (Nat.le_of_ble_eq_true rfl) (fun κ C hQ => ?_)
  unfold fX5_eat at h
  refine V_L (L1 := [(0, .ref (gad G b)), (1, .int p0)]) rfl ?_
  refine V_aload_n 0 C 0 dX5_eat_0 rfl ?_
  refine V_get (v := .ref (gad G (b + 2))) 1 C dX5_eat_1 (ltl hb rfl) (ceR_X5 hb) rfl inX5 1 rfl wk_1_121 rfl rfl ?_
  refine V_iload_n 4 C 1 dX5_eat_4 rfl ?_
  refine V_aload_n 5 C 0 dX5_eat_5 rfl ?_
  refine V_get (v := .ref (gad G (b + 2))) 6 C dX5_eat_6 (ltl hb rfl) (ceR_X5 hb) rfl inX5 1 rfl wk_1_121 rfl rfl ?_
  refine V_iload_n 9 C 1 dX5_eat_9 rfl ?_
  obtain ⟨r3, M1, k2, h⟩ := bindM_some h
  refine V_callI 10 (runSN (rest := [.int p0, .ref (gad G (b + 2))]) 10 C (kX11_at (akI_22 (ly4_2 hb)) k2) cf_X11_at wk_4_25 rfl rfl dX5_eat_10 rfl rfl (Nat.zero_le _) (Nat.zero_le _)) ?_
  refine V_iconst 13 C dX5_eat_13 ic1 ?_
  refine V_iadd 14 C dX5_eat_14 ?_
  obtain ⟨M4, k5, h⟩ := bindV_some h
  refine V_callV 15 (runSN (rest := []) 15 C (kX11_put (akI_22 (ly4_2 hb)) k5) cf_X11_put wk_4_26 rfl rfl dX5_eat_15 rfl rfl (Nat.zero_le _) (Nat.zero_le _)) ?_
  refine V_aload_n 18 C 0 dX5_eat_18 rfl ?_
  refine V_get (v := .ref (gad G (b + 3))) 19 C dX5_eat_19 (ltl hb rfl) (ceR_X5 hb) rfl inX5 2 rfl wk_1_124 rfl rfl ?_
  refine V_iload_n 22 C 1 dX5_eat_22 rfl ?_
  refine V_iconst 23 C dX5_eat_23 ic0 ?_
  obtain ⟨M6, k7, h⟩ := bindV_some h
  refine V_callV 24 (runSN (rest := []) 24 C (kX11_put (akI_22 (ly4_3 hb)) k7) cf_X11_put wk_4_26 rfl rfl dX5_eat_24 rfl rfl (Nat.zero_le _) (Nat.zero_le _)) ?_
  exact V_vreth 27 C hQ h dX5_eat_27
set_option maxHeartbeats 4000000 in
theorem kX9_addGrams {G : GG} {l : Launch} {F : Nat} {b : Nat} (hb : lay b = 2) {p0 : Int32} {p1 : Int32} {M M' : Mem} {r : Int32} (h : fX9_addGrams F b p0 p1 M = some (r, M')) : Con G l yX9_addGrams cX9_addGrams 3 (some .int) rmX9_addGrams [.ref (gad G b), .int p0, .int p1] M (QI G r M') := by
  refine con_of pnX9 (Nat.le_of_ble_eq_true rfl) (fun κ C hQ => ?_)
  unfold fX9_addGrams at h
  refine V_L (L1 := [(0, .ref (gad G b)), (1, .int p0), (2, .int p1)]) rfl ?_
  refine V_aload_n 0 C 0 dX9_addGrams_0 rfl ?_
  refine V_get (v := .ref (gad G (b + 1))) 1 C dX9_addGrams_1 (ltl hb rfl) (ceR_X9 hb) rfl inX9 0 rfl wk_1_52 rfl rfl ?_
  refine V_iload_n 4 C 1 dX9_addGrams_4 rfl ?_
  refine V_aload_n 5 C 0 dX9_addGrams_5 rfl ?_
  refine V_get (v := .ref (gad G (b + 1))) 6 C dX9_addGrams_6 (ltl hb rfl) (ceR_X9 hb) rfl inX9 0 rfl wk_1_52 rfl rfl ?_
  refine V_iload_n 9 C 1 dX9_addGrams_9 rfl ?_
  obtain ⟨r3, M1, k2, h⟩ := bindM_some h
  refine V_callI 10 (runSN (rest := [.int p0, .ref (gad G (b + 1))]) 10 C (kX11_at (akI_20 (ly2_1 hb)) k2) cf_X11_at wk_2_118 rfl rfl dX9_addGrams_10 rfl rfl (Nat.zero_le _) (Nat.zero_le _)) ?_
  refine V_iload_n 13 C 2 dX9_addGrams_13 rfl ?_
  refine V_iadd 14 C dX9_addGrams_14 ?_
  obtain ⟨M4, k5, h⟩ := bindV_some h
  refine V_callV 15 (runSN (rest := []) 15 C (kX11_put (akI_20 (ly2_1 hb)) k5) cf_X11_put wk_3_184 rfl rfl dX9_addGrams_15 rfl rfl (Nat.zero_le _) (Nat.zero_le _)) ?_
  refine V_aload_n 18 C 0 dX9_addGrams_18 rfl ?_
  refine V_get (v := .ref (gad G (b + 1))) 19 C dX9_addGrams_19 (ltl hb rfl) (ceR_X9 hb) rfl inX9 0 rfl wk_1_52 rfl rfl ?_
  refine V_iload_n 22 C 1 dX9_addGrams_22 rfl ?_
  obtain ⟨r8, M6, k7, h⟩ := bindM_some h
  refine V_callI 23 (runSN (rest := []) 23 C (kX11_at (akI_20 (ly2_1 hb)) k7) cf_X11_at wk_2_118 rfl rfl dX9_addGrams_23 rfl rfl (Nat.zero_le _) (Nat.zero_le _)) ?_
  exact V_ireth 26 C hQ h dX9_addGrams_26
set_option maxHeartbeats 4000000 in
theorem vX9_richestNeighbour_17 {G : GG} {κ : KK} {F : Nat} {b : Nat} (hb : lay b = 2) (C : Cx G κ cX9_richestNeighbour RX9 (some .int) 6 rmX9_richestNeighbour) {M' : Mem} {r : Int32} (hQ : HQ G κ (QI G r M') 0 0) {q2 : Int32} {kx : Int32 → Mem → Option (Int32 × Mem)} (hk : ∀ (v3 : Int32) (M : Mem), kx v3 M = some (r, M') → V G κ 6 0 0 M 66 [(3, .int v3)] []) : ∀ (n : Nat) (v3 : Int32) (v4 : Int32) (v5 : Int32) (M : Mem), fX9_richestNeighbour_17 F b q2 kx n v3 v4 v5 M = some (r, M') → V G κ 6 0 0 M 17 [(0, .ref (gad G b)), (2, .int q2), (3, .int v3), (4, .int v4), (5, .int v5)] [] := by
  intro n
  induction n with
  | zero => intro v3 v4 v5 M h; rw [fX9_richestNeighbour_17] at h; cases h
  | succ n ih =>
    intro v3 v4 v5 M h
    rw [fX9_richestNeighbour_17] at h
    refine V_iload 17 C 4 dX9_richestNeighbour_17 rfl ?_
    refine V_aload_n 19 C 0 dX9_richestNeighbour_19 rfl ?_
    refine V_get (v := .ref (gad G (b + 1))) 20 C dX9_richestNeighbour_20 (ltl hb rfl) (ceR_X9 hb) rfl inX9 0 rfl wk_1_52 rfl rfl ?_
    refine V_alenI 23 C dX9_richestNeighbour_23 (akI_20 (ly2_1 hb)) (congrArg nI (al_20 (ly2_1 hb))) ?_
    refine V_icmp_ge 24 66 C dX9_richestNeighbour_24 (by decide) (fun c4 => ?_) (fun c4 => ?_)
    · replace h := ite_t c4 h
      refine V_sub [2] rfl ?_
      exact hk _ _ h
    · replace h := ite_f c4 h
      refine V_iload_n 27 C 1 dX9_richestNeighbour_27 rfl ?_
      refine V_iload 28 C 4 dX9_richestNeighbour_28 rfl ?_
      obtain ⟨r7, M5, k6, h⟩ := bindM_some h
      refine V_callI 30 (runSN (rest := []) 30 C (kX11_holds  k6) cf_X11_holds wk_2_80 rfl rfl dX9_richestNeighbour_30 rfl rfl (Nat.zero_le _) (Nat.zero_le _)) ?_
      refine V_ifeq_b 33 60 C dX9_richestNeighbour_33 (by decide) (fun c8 => ?_) (fun c8 => ?_)
      · replace h := ite_f c8 h
        obtain ⟨x9, e10, h⟩ := letM_some h
        refine V_iinc 60 C [(5, .int x9), (0, .ref (gad G b)), (2, .int q2), (3, .int v3), (4, .int v4)] 4 x9 dX9_richestNeighbour_60 rfl (by rw [e10]; rfl) rfl rfl ?_
        refine V_goto 63 17 C dX9_richestNeighbour_63 (by decide) ?_
        refine V_sub [1, 2, 3, 4, 0] rfl ?_
        exact ih _ _ _ _ h
      · replace h := ite_t c8 h
        refine V_aload_n 36 C 0 dX9_richestNeighbour_36 rfl ?_
        refine V_get (v := .ref (gad G (b + 1))) 37 C dX9_richestNeighbour_37 (ltl hb rfl) (ceR_X9 hb) rfl inX9 0 rfl wk_1_52 rfl rfl ?_
        refine V_iload 40 C 4 dX9_richestNeighbour_40 rfl ?_
        obtain ⟨c11, h⟩ := chk_some h
        refine V_iald 42 C dX9_richestNeighbour_42 (akI_20 (ly2_1 hb)) (al_20 (ly2_1 hb)) c11 ?_
        refine V_iload 43 C 3 dX9_richestNeighbour_43 rfl ?_
        refine V_icmp_le 45 60 C dX9_richestNeighbour_45 (by decide) (fun c12 => ?_) (fun c12 => ?_)
        · replace h := ite_t c12 h
          obtain ⟨x13, e14, h⟩ := letM_some h
          refine V_iinc 60 C [(5, .int x13), (0, .ref (gad G b)), (2, .int q2), (3, .int v3), (4, .int v4)] 4 x13 dX9_richestNeighbour_60 rfl (by rw [e14]; rfl) rfl rfl ?_
          refine V_goto 63 17 C dX9_richestNeighbour_63 (by decide) ?_
          refine V_sub [1, 2, 3, 4, 0] rfl ?_
          exact ih _ _ _ _ h
        · replace h := ite_f c12 h
          refine V_iload 48 C 4 dX9_richestNeighbour_48 rfl ?_
          refine V_istore_n 50 C [(3, .int v5), (0, .ref (gad G b)), (2, .int q2), (4, .int v4), (5, .int v5)] dX9_richestNeighbour_50 rfl rfl rfl ?_
          refine V_aload_n 51 C 1 dX9_richestNeighbour_51 rfl ?_
          refine V_get (v := .ref (gad G (b + 1))) 52 C dX9_richestNeighbour_52 (ltl hb rfl) (ceR_X9 hb) rfl inX9 0 rfl wk_1_52 rfl rfl ?_
          refine V_iload 55 C 4 dX9_richestNeighbour_55 rfl ?_
          obtain ⟨c15, h⟩ := chk_some h
          refine V_iald 57 C dX9_richestNeighbour_57 (akI_20 (ly2_1 hb)) (al_20 (ly2_1 hb)) c15 ?_
          obtain ⟨x16, e17, h⟩ := letM_some h
          refine V_top e17 ?_
          refine V_istore 58 C [(4, .int x16), (3, .int v5), (0, .ref (gad G b)), (2, .int q2), (5, .int v5)] dX9_richestNeighbour_58 rfl rfl ?_
          obtain ⟨x18, e19, h⟩ := letM_some h
          refine V_iinc 60 C [(5, .int x18), (4, .int x16), (3, .int v5), (0, .ref (gad G b)), (2, .int q2)] 4 x18 dX9_richestNeighbour_60 rfl (by rw [e19]; rfl) rfl rfl ?_
          refine V_goto 63 17 C dX9_richestNeighbour_63 (by decide) ?_
          refine V_sub [3, 4, 2, 1, 0] rfl ?_
          exact ih _ _ _ _ h
set_option maxHeartbeats 4000000 in
theorem kX9_richestNeighbour {G : GG} {l : Launch} {F : Nat} {b : Nat} (hb : lay b = 2) {p0 : Int32} {M M' : Mem} {r : Int32} (h : fX9_richestNeighbour F b p0 M = some (r, M')) : Con G l yX9_richestNeighbour cX9_richestNeighbour 6 (some .int) rmX9_richestNeighbour [.ref (gad G b), .int p0] M (QI G r M') := by
  refine con_of pnX9 (Nat.le_of_ble_eq_true rfl) (fun κ C hQ => ?_)
  unfold fX9_richestNeighbour at h
  refine V_L (L1 := [(0, .ref (gad G b)), (1, .int p0)]) rfl ?_
  refine V_aload_n 0 C 0 dX9_richestNeighbour_0 rfl ?_
  refine V_get (v := .ref (gad G (b + 2))) 1 C dX9_richestNeighbour_1 (ltl hb rfl) (ceR_X9 hb) rfl inX9 1 rfl wk_1_56 rfl rfl ?_
  refine V_iload_n 4 C 1 dX9_richestNeighbour_4 rfl ?_
  obtain ⟨r3, M1, k2, h⟩ := bindM_some h
  refine V_callI 5 (runSN (rest := []) 5 C (kX11_at (akI_20 (ly2_2 hb)) k2) cf_X11_at wk_2_118 rfl rfl dX9_richestNeighbour_5 rfl rfl (Nat.zero_le _) (Nat.zero_le _)) ?_
  refine V_istore_n 8 C [(2, .int r3), (0, .ref (gad G b)), (1, .int p0)] dX9_richestNeighbour_8 rfl rfl rfl ?_
  refine V_iload_n 9 C 2 dX9_richestNeighbour_9 rfl ?_
  refine V_istore_n 10 C [(3, .int p0), (2, .int r3), (0, .ref (gad G b)), (1, .int p0)] dX9_richestNeighbour_10 rfl rfl rfl ?_
  refine V_iconst 11 C dX9_richestNeighbour_11 icm1 ?_
  refine V_istore 12 C [(4, .int (-1)), (3, .int p0), (2, .int r3), (0, .ref (gad G b)), (1, .int p0)] dX9_richestNeighbour_12 rfl rfl ?_
  refine V_iconst 14 C dX9_richestNeighbour_14 ic0 ?_
  refine V_istore 15 C [(5, .int 0), (4, .int (-1)), (3, .int p0), (2, .int r3), (0, .ref (gad G b)), (1, .int p0)] dX9_richestNeighbour_15 rfl rfl ?_
  refine V_sub [4, 3, 2, 1, 0] rfl ?_
  refine vX9_richestNeighbour_17 hb C hQ ?_ _ _ _ _ _ h
  intro w21 M20 h
  refine V_iload_n 66 C 0 dX9_richestNeighbour_66 rfl ?_
  exact V_ireth 67 C hQ h dX9_richestNeighbour_67
set_option maxHeartbeats 4000000 in
theorem kX3_staysAfterVisit {G : GG} {l : Launch} {F : Nat} {b : Nat} (hb : lay b = 1) {p0 : Int32} {M M' : Mem} {r : Bool} (h : fX3_staysAfterVisit F b p0 M = some (r, M')) : Con G l yX3_staysAfterVisit cX3_staysAfterVisit 4 (some .boolean) rmX3_staysAfterVisit [.ref (gad G b), .int p0] M (QI G (b2i r) M') := by
  refine con_of pnX3 (Nat.le_of_ble_eq_true rfl) (fun κ C hQ => ?_)
  unfold fX3_staysAfterVisit at h
  refine V_L (L1 := [(0, .ref (gad G b)), (1, .int p0)]) rfl ?_
  refine V_aload_n 0 C 0 dX3_staysAfterVisit_0 rfl ?_
  refine V_get (v := .ref (gad G (b + 6))) 1 C dX3_staysAfterVisit_1 (ltl hb rfl) (ceR_X3 hb) rfl inX3 2 rfl wk_1_145 rfl rfl ?_
  refine V_getN (v := .ref (gad G (b + 7))) 4 C dX3_staysAfterVisit_4 (ltl (ly1_6 hb) rfl) (ceR_X5 (ly1_6 hb)) rfl inX5 0 rfl wk_1_119 rfl rfl ?_
  refine V_iload_n 7 C 1 dX3_staysAfterVisit_7 rfl ?_
  obtain ⟨r3, M1, k2, h⟩ := bindM_some h
  refine V_callI 8 (runSN (rest := []) 8 C (kX11_at (akI_22 (ly1_7 hb)) k2) cf_X11_at wk_3_31 rfl rfl dX3_staysAfterVisit_8 rfl rfl (Nat.zero_le _) (Nat.zero_le _)) ?_
  refine V_istore_n 11 C [(2, .int r3), (0, .ref (gad G b)), (1, .int p0)] dX3_staysAfterVisit_11 rfl rfl rfl ?_
  refine V_aload_n 12 C 1 dX3_staysAfterVisit_12 rfl ?_
  refine V_get (v := .ref (gad G (b + 1))) 13 C dX3_staysAfterVisit_13 (ltl hb rfl) (ceR_X3 hb) rfl inX3 0 rfl wk_1_139 rfl rfl ?_
  refine V_getN (v := .ref (gad G (b + 2))) 16 C dX3_staysAfterVisit_16 (ltl (ly1_1 hb) rfl) (ceR_X9 (ly1_1 hb)) rfl inX9 0 rfl wk_1_55 rfl rfl ?_
  refine V_iload_n 19 C 0 dX3_staysAfterVisit_19 rfl ?_
  obtain ⟨r6, M4, k5, h⟩ := bindM_some h
  refine V_callI 20 (runSN (rest := []) 20 C (kX11_at (akI_20 (ly1_2 hb)) k5) cf_X11_at wk_3_31 rfl rfl dX3_staysAfterVisit_20 rfl rfl (Nat.zero_le _) (Nat.zero_le _)) ?_
  refine V_if_le 23 56 C dX3_staysAfterVisit_23 (by decide) (fun c7 => ?_) (fun c7 => ?_)
  · replace h := ite_t c7 h
    refine V_aload_n 56 C 1 dX3_staysAfterVisit_56 rfl ?_
    refine V_get (v := .ref (gad G (b + 6))) 57 C dX3_staysAfterVisit_57 (ltl hb rfl) (ceR_X3 hb) rfl inX3 2 rfl wk_1_145 rfl rfl ?_
    refine V_getN (v := .ref (gad G (b + 9))) 60 C dX3_staysAfterVisit_60 (ltl (ly1_6 hb) rfl) (ceR_X5 (ly1_6 hb)) rfl inX5 2 rfl wk_1_125 rfl rfl ?_
    refine V_iload_n 63 C 2 dX3_staysAfterVisit_63 rfl ?_
    obtain ⟨r10, M8, k9, h⟩ := bindM_some h
    refine V_callI 64 (runSN (rest := []) 64 C (kX11_at (akI_22 (ly1_9 hb)) k9) cf_X11_at wk_3_31 rfl rfl dX3_staysAfterVisit_64 rfl rfl (Nat.zero_le _) (Nat.zero_le _)) ?_
    refine V_iconst 67 C dX3_staysAfterVisit_67 ic1 ?_
    refine V_iadd 68 C dX3_staysAfterVisit_68 ?_
    obtain ⟨x11, e12, h⟩ := letM_some h
    refine V_top e12 ?_
    refine V_istore_n 69 C [(3, .int x11), (2, .int r3), (0, .ref (gad G b)), (1, .int p0)] dX3_staysAfterVisit_69 rfl rfl rfl ?_
    refine V_iload_n 70 C 0 dX3_staysAfterVisit_70 rfl ?_
    refine V_iconst 71 C dX3_staysAfterVisit_71 ic3 ?_
    refine V_icmp_lt 72 77 C dX3_staysAfterVisit_72 (by decide) (fun c13 => ?_) (fun c13 => ?_)
    · replace h := ite_t c13 h
      refine V_aload_n 77 C 2 dX3_staysAfterVisit_77 rfl ?_
      refine V_get (v := .ref (gad G (b + 6))) 78 C dX3_staysAfterVisit_78 (ltl hb rfl) (ceR_X3 hb) rfl inX3 2 rfl wk_1_145 rfl rfl ?_
      refine V_getN (v := .ref (gad G (b + 9))) 81 C dX3_staysAfterVisit_81 (ltl (ly1_6 hb) rfl) (ceR_X5 (ly1_6 hb)) rfl inX5 2 rfl wk_1_125 rfl rfl ?_
      refine V_iload_n 84 C 3 dX3_staysAfterVisit_84 rfl ?_
      refine V_iload_n 85 C 0 dX3_staysAfterVisit_85 rfl ?_
      obtain ⟨M14, k15, h⟩ := bindV_some h
      refine V_callV 86 (runSN (rest := []) 86 C (kX11_put (akI_22 (ly1_9 hb)) k15) cf_X11_put wk_4_39 rfl rfl dX3_staysAfterVisit_86 rfl rfl (Nat.zero_le _) (Nat.zero_le _)) ?_
      refine V_aload_n 89 C 2 dX3_staysAfterVisit_89 rfl ?_
      refine V_get (v := .ref (gad G (b + 6))) 90 C dX3_staysAfterVisit_90 (ltl hb rfl) (ceR_X3 hb) rfl inX3 2 rfl wk_1_145 rfl rfl ?_
      refine V_getN (v := .ref (gad G (b + 7))) 93 C dX3_staysAfterVisit_93 (ltl (ly1_6 hb) rfl) (ceR_X5 (ly1_6 hb)) rfl inX5 0 rfl wk_1_119 rfl rfl ?_
      refine V_iload_n 96 C 3 dX3_staysAfterVisit_96 rfl ?_
      refine V_aload_n 97 C 2 dX3_staysAfterVisit_97 rfl ?_
      refine V_get (v := .ref (gad G (b + 1))) 98 C dX3_staysAfterVisit_98 (ltl hb rfl) (ceR_X3 hb) rfl inX3 0 rfl wk_1_139 rfl rfl ?_
      refine V_iload_n 101 C 1 dX3_staysAfterVisit_101 rfl ?_
      obtain ⟨r18, M16, k17, h⟩ := bindM_some h
      refine V_callI 102 (runVN (k := (b + 1)) (rest := [.int p0, .ref (gad G (b + 7))]) 102 C (kX9_richestNeighbour (ly1_1 hb) k17) cf_X9_richestNeighbour wk_4_40 (ltl (ly1_1 hb) rfl) (ceR_X9 (ly1_1 hb)) rfl rfl rfl rfl dX3_staysAfterVisit_102 rfl rfl (Nat.zero_le _) (Nat.zero_le _)) ?_
      obtain ⟨M19, k20, h⟩ := bindV_some h
      refine V_callV 105 (runSN (rest := []) 105 C (kX11_put (akI_22 (ly1_7 hb)) k20) cf_X11_put wk_4_39 rfl rfl dX3_staysAfterVisit_105 rfl rfl (Nat.zero_le _) (Nat.zero_le _)) ?_
      refine V_iconst 108 C dX3_staysAfterVisit_108 ic1 ?_
      exact V_zreth 109 C hQ h dX3_staysAfterVisit_109
    · replace h := ite_f c13 h
      refine V_iconst 75 C dX3_staysAfterVisit_75 ic0 ?_
      exact V_zreth 76 C hQ h dX3_staysAfterVisit_76
  · replace h := ite_f c7 h
    refine V_aload_n 26 C 1 dX3_staysAfterVisit_26 rfl ?_
    refine V_get (v := .ref (gad G (b + 1))) 27 C dX3_staysAfterVisit_27 (ltl hb rfl) (ceR_X3 hb) rfl inX3 0 rfl wk_1_139 rfl rfl ?_
    refine V_iload_n 30 C 0 dX3_staysAfterVisit_30 rfl ?_
    refine V_iconst 31 C dX3_staysAfterVisit_31 icm1 ?_
    obtain ⟨r23, M21, k22, h⟩ := bindM_some h
    refine V_callI 32 (runVN (k := (b + 1)) (rest := []) 32 C (kX9_addGrams (ly1_1 hb) k22) cf_X9_addGrams wk_3_206 (ltl (ly1_1 hb) rfl) (ceR_X9 (ly1_1 hb)) rfl rfl rfl rfl dX3_staysAfterVisit_32 rfl rfl (Nat.zero_le _) (Nat.zero_le _)) ?_
    refine V_pop 35 C dX3_staysAfterVisit_35 rfl ?_
    refine V_aload_n 36 C 1 dX3_staysAfterVisit_36 rfl ?_
    refine V_get (v := .ref (gad G (b + 6))) 37 C dX3_staysAfterVisit_37 (ltl hb rfl) (ceR_X3 hb) rfl inX3 2 rfl wk_1_145 rfl rfl ?_
    refine V_iload_n 40 C 2 dX3_staysAfterVisit_40 rfl ?_
    obtain ⟨M24, k25, h⟩ := bindV_some h
    refine V_callV 41 (runVN (k := (b + 6)) (rest := []) 41 C (kX5_eat (ly1_6 hb) k25) cf_X5_eat wk_4_35 (ltl (ly1_6 hb) rfl) (ceR_X5 (ly1_6 hb)) rfl rfl rfl rfl dX3_staysAfterVisit_41 rfl rfl (Nat.zero_le _) (Nat.zero_le _)) ?_
    refine V_aload_n 44 C 1 dX3_staysAfterVisit_44 rfl ?_
    refine V_dup 45 C dX3_staysAfterVisit_45 rfl ?_
    refine V_get (v := .int (M24 b 7)) 46 C dX3_staysAfterVisit_46 (ltl hb rfl) (ceR_X3 hb) rfl inX3 7 rfl wk_1_155 rfl rfl ?_
    refine V_iconst 49 C dX3_staysAfterVisit_49 ic1 ?_
    refine V_iadd 50 C dX3_staysAfterVisit_50 ?_
    obtain ⟨M26, e27, h⟩ := letM_some h
    refine V_put (ty := .int) (F := F_X3 G b) 51 C dX3_staysAfterVisit_51 (ltl hb rfl) (fun _ => ceR_X3 hb) rfl inX3 tyX3 tyX3_ok nmX3 7 rfl wk_1_155 rfl rfl ((M24 b 7) + 1) rfl rfl rfl rfl rfl ?_
    refine V_eqM e27 ?_
    refine V_iconst 54 C dX3_staysAfterVisit_54 ic1 ?_
    exact V_zreth 55 C hQ h dX3_staysAfterVisit_55
set_option maxHeartbeats 4000000 in
theorem vX3_visitMice_4 {G : GG} {κ : KK} {F : Nat} {b : Nat} (hb : lay b = 1) (C : Cx G κ cX3_visitMice RX3 none 3 rmX3_visitMice) {M' : Mem}  (hQ : HQ G κ (QV G M') 0 0)  {kx : Int32 → Mem → Option Mem} (hk : ∀ (v1 : Int32) (M : Mem), kx v1 M = some M' → V G κ 3 0 0 M 54 [(0, .ref (gad G b)), (1, .int v1)] []) : ∀ (n : Nat) (v1 : Int32) (v2 : Int32) (M : Mem), fX3_visitMice_4 F b kx n v1 v2 M = some M' → V G κ 3 0 0 M 4 [(0, .ref (gad G b)), (1, .int v1), (2, .int v2)] [] := by
  intro n
  induction n with
  | zero => intro v1 v2 M h; rw [fX3_visitMice_4] at h; cases h
  | succ n ih =>
    intro v1 v2 M h
    rw [fX3_visitMice_4] at h
    refine V_iload_n 4 C 2 dX3_visitMice_4 rfl ?_
    refine V_aload_n 5 C 0 dX3_visitMice_5 rfl ?_
    refine V_get (v := .ref (gad G (b + 6))) 6 C dX3_visitMice_6 (ltl hb rfl) (ceR_X3 hb) rfl inX3 2 rfl wk_1_145 rfl rfl ?_
    refine V_getN (v := .int (M (b + 6) 3)) 9 C dX3_visitMice_9 (ltl (ly1_6 hb) rfl) (ceR_X5 (ly1_6 hb)) rfl inX5 3 rfl wk_1_128 rfl rfl ?_
    refine V_icmp_ge 12 54 C dX3_visitMice_12 (by decide) (fun c1 => ?_) (fun c1 => ?_)
    · replace h := ite_t c1 h
      refine V_sub [0, 1] rfl ?_
      exact hk _ _ h
    · replace h := ite_f c1 h
      refine V_aload_n 15 C 0 dX3_visitMice_15 rfl ?_
      refine V_iload_n 16 C 2 dX3_visitMice_16 rfl ?_
      obtain ⟨r4, M2, k3, h⟩ := bindM_some h
      refine V_callI 17 (runVO (k := b) (rest := []) 17 C (kX3_staysAfterVisit hb k3) cf_X3_staysAfterVisit wk_4_31 (ltl hb rfl) (ceR_X3 hb) rfl rfl rfl rfl dX3_visitMice_17 rfl rfl (Nat.zero_le _) (Nat.zero_le _)) ?_
      refine V_ifeq_b 20 38 C dX3_visitMice_20 (by decide) (fun c5 => ?_) (fun c5 => ?_)
      · replace h := ite_f c5 h
        refine V_aload_n 38 C 0 dX3_visitMice_38 rfl ?_
        refine V_dup 39 C dX3_visitMice_39 rfl ?_
        refine V_get (v := .int (M2 b 9)) 40 C dX3_visitMice_40 (ltl hb rfl) (ceR_X3 hb) rfl inX3 9 rfl wk_1_159 rfl rfl ?_
        refine V_iconst 43 C dX3_visitMice_43 ic1 ?_
        refine V_iadd 44 C dX3_visitMice_44 ?_
        obtain ⟨M6, e7, h⟩ := letM_some h
        refine V_put (ty := .int) (F := F_X3 G b) 45 C dX3_visitMice_45 (ltl hb rfl) (fun _ => ceR_X3 hb) rfl inX3 tyX3 tyX3_ok nmX3 9 rfl wk_1_159 rfl rfl ((M2 b 9) + 1) rfl rfl rfl rfl rfl ?_
        refine V_eqM e7 ?_
        obtain ⟨x8, e9, h⟩ := letM_some h
        refine V_iinc 48 C [(2, .int x8), (0, .ref (gad G b)), (1, .int v1)] 2 x8 dX3_visitMice_48 rfl (by rw [e9]; rfl) rfl rfl ?_
        refine V_goto 51 4 C dX3_visitMice_51 (by decide) ?_
        refine V_sub [1, 2, 0] rfl ?_
        exact ih _ _ _ h
      · replace h := ite_t c5 h
        refine V_aload_n 23 C 0 dX3_visitMice_23 rfl ?_
        refine V_get (v := .ref (gad G (b + 6))) 24 C dX3_visitMice_24 (ltl hb rfl) (ceR_X3 hb) rfl inX3 2 rfl wk_1_145 rfl rfl ?_
        refine V_iload_n 27 C 2 dX3_visitMice_27 rfl ?_
        refine V_iload_n 28 C 1 dX3_visitMice_28 rfl ?_
        obtain ⟨M10, k11, h⟩ := bindV_some h
        refine V_callV 29 (runVN (k := (b + 6)) (rest := []) 29 C (kX5_renumber (ly1_6 hb) k11) cf_X5_renumber wk_4_21 (ltl (ly1_6 hb) rfl) (ceR_X5 (ly1_6 hb)) rfl rfl rfl rfl dX3_visitMice_29 rfl rfl (Nat.zero_le _) (Nat.zero_le _)) ?_
        obtain ⟨x12, e13, h⟩ := letM_some h
        refine V_iinc 32 C [(1, .int x12), (0, .ref (gad G b)), (2, .int v2)] 1 x12 dX3_visitMice_32 rfl (by rw [e13]; rfl) rfl rfl ?_
        refine V_goto 35 48 C dX3_visitMice_35 (by decide) ?_
        obtain ⟨x14, e15, h⟩ := letM_some h
        refine V_iinc 48 C [(2, .int x14), (1, .int x12), (0, .ref (gad G b))] 2 x14 dX3_visitMice_48 rfl (by rw [e15]; rfl) rfl rfl ?_
        refine V_goto 51 4 C dX3_visitMice_51 (by decide) ?_
        refine V_sub [2, 1, 0] rfl ?_
        exact ih _ _ _ h
set_option maxHeartbeats 4000000 in
theorem kX3_visitMice {G : GG} {l : Launch} {F : Nat} {b : Nat} (hb : lay b = 1)  {M M' : Mem}  (h : fX3_visitMice F b M = some M') : Con G l yX3_visitMice cX3_visitMice 3 none rmX3_visitMice [.ref (gad G b)] M (QV G M') := by
  refine con_of pnX3 (Nat.le_of_ble_eq_true rfl) (fun κ C hQ => ?_)
  unfold fX3_visitMice at h
  refine V_L (L1 := [(0, .ref (gad G b))]) rfl ?_
  refine V_iconst 0 C dX3_visitMice_0 ic0 ?_
  refine V_istore_n 1 C [(1, .int 0), (0, .ref (gad G b))] dX3_visitMice_1 rfl rfl rfl ?_
  refine V_iconst 2 C dX3_visitMice_2 ic0 ?_
  refine V_istore_n 3 C [(2, .int 0), (1, .int 0), (0, .ref (gad G b))] dX3_visitMice_3 rfl rfl rfl ?_
  refine V_sub [2, 1, 0] rfl ?_
  refine vX3_visitMice_4 hb C hQ ?_ _ _ _ _ h
  intro w17 M16 h
  refine V_aload_n 54 C 0 dX3_visitMice_54 rfl ?_
  refine V_get (v := .ref (gad G (b + 6))) 55 C dX3_visitMice_55 (ltl hb rfl) (ceR_X3 hb) rfl inX3 2 rfl wk_1_145 rfl rfl ?_
  refine V_iload_n 58 C 1 dX3_visitMice_58 rfl ?_
  obtain ⟨M18, e19, h⟩ := letM_some h
  refine V_putN (ty := .int) (F := F_X5 G (b + 6)) 59 C dX3_visitMice_59 (ltl (ly1_6 hb) rfl) (fun _ => ceR_X5 (ly1_6 hb)) rfl inX5 tyX5 tyX5_ok nmX5 3 rfl wk_1_128 rfl rfl w17 rfl rfl rfl rfl rfl ?_
  refine V_eqM e19 ?_
  exact V_vreth 62 C hQ h dX3_visitMice_62
set_option maxHeartbeats 4000000 in
theorem kX6_stopAfter {G : GG} {l : Launch} {F : Nat} {b : Nat} (hb : lay b = 3) {p0 : Int32} {M M' : Mem} {r : Int32} (h : fX6_stopAfter F b p0 M = some (r, M')) : Con G l yX6_stopAfter cX6_stopAfter 2 (some .int) rmX6_stopAfter [.ref (gad G b), .int p0] M (QI G r M') := by
  refine con_of pnX6 (Nat.le_of_ble_eq_true rfl) (fun κ C hQ => ?_)
  unfold fX6_stopAfter at h
  refine V_L (L1 := [(0, .ref (gad G b)), (1, .int p0)]) rfl ?_
  refine V_iload_n 0 C 1 dX6_stopAfter_0 rfl ?_
  refine V_iconst 1 C dX6_stopAfter_1 ic1 ?_
  refine V_iadd 2 C dX6_stopAfter_2 ?_
  refine V_aload_n 3 C 0 dX6_stopAfter_3 rfl ?_
  refine V_get (v := .int (M b 1)) 4 C dX6_stopAfter_4 (ltl hb rfl) (ceR_X6 hb) rfl inX6 1 rfl wk_1_92 rfl rfl ?_
  refine V_icmp_ge 7 16 C dX6_stopAfter_7 (by decide) (fun c1 => ?_) (fun c1 => ?_)
  · replace h := ite_t c1 h
    refine V_iconst 16 C dX6_stopAfter_16 ic0 ?_
    exact V_ireth 17 C hQ h dX6_stopAfter_17
  · replace h := ite_f c1 h
    refine V_iload_n 10 C 1 dX6_stopAfter_10 rfl ?_
    refine V_iconst 11 C dX6_stopAfter_11 ic1 ?_
    refine V_iadd 12 C dX6_stopAfter_12 ?_
    refine V_goto 13 17 C dX6_stopAfter_13 (by decide) ?_
    exact V_ireth 17 C hQ h dX6_stopAfter_17
set_option maxHeartbeats 4000000 in
theorem kX6_leaveReachedGoal {G : GG} {l : Launch} {F : Nat} {b : Nat} (hb : lay b = 3)  {M M' : Mem}  (h : fX6_leaveReachedGoal F b M = some M') : Con G l yX6_leaveReachedGoal cX6_leaveReachedGoal 1 none rmX6_leaveReachedGoal [.ref (gad G b)] M (QV G M') := by
  refine con_of pnX6 (Nat.le_of_ble_eq_true rfl) (fun κ C hQ => ?_)
  unfold fX6_leaveReachedGoal at h
  refine V_L (L1 := [(0, .ref (gad G b))]) rfl ?_
  refine V_aload_n 0 C 0 dX6_leaveReachedGoal_0 rfl ?_
  refine V_get (v := .int (M b 1)) 1 C dX6_leaveReachedGoal_1 (ltl hb rfl) (ceR_X6 hb) rfl inX6 1 rfl wk_1_92 rfl rfl ?_
  refine V_if_le 4 30 C dX6_leaveReachedGoal_4 (by decide) (fun c1 => ?_) (fun c1 => ?_)
  · replace h := ite_t c1 h
    exact V_vreth 30 C hQ h dX6_leaveReachedGoal_30
  · replace h := ite_f c1 h
    refine V_aload_n 7 C 0 dX6_leaveReachedGoal_7 rfl ?_
    refine V_get (v := .int (M b 2)) 8 C dX6_leaveReachedGoal_8 (ltl hb rfl) (ceR_X6 hb) rfl inX6 2 rfl wk_1_96 rfl rfl ?_
    refine V_aload_n 11 C 0 dX6_leaveReachedGoal_11 rfl ?_
    obtain ⟨r4, M2, k3, h⟩ := bindM_some h
    refine V_callI 12 (runVO (k := b) (rest := [.int (M b 2)]) 12 C (kX6_shelfOfGoal hb k3) cf_X6_shelfOfGoal wk_4_12 (ltl hb rfl) (ceR_X6 hb) rfl rfl rfl rfl dX6_leaveReachedGoal_12 rfl rfl (Nat.zero_le _) (Nat.zero_le _)) ?_
    refine V_icmp_ne 15 30 C dX6_leaveReachedGoal_15 (by decide) (fun c5 => ?_) (fun c5 => ?_)
    · replace h := ite_f c5 h
      exact V_vreth 30 C hQ h dX6_leaveReachedGoal_30
    · replace h := ite_t c5 h
      refine V_aload_n 18 C 0 dX6_leaveReachedGoal_18 rfl ?_
      refine V_aload_n 19 C 0 dX6_leaveReachedGoal_19 rfl ?_
      refine V_aload_n 20 C 0 dX6_leaveReachedGoal_20 rfl ?_
      refine V_get (v := .int (M2 b 3)) 21 C dX6_leaveReachedGoal_21 (ltl hb rfl) (ceR_X6 hb) rfl inX6 3 rfl wk_1_100 rfl rfl ?_
      obtain ⟨r8, M6, k7, h⟩ := bindM_some h
      refine V_callI 24 (runVO (k := b) (rest := [.ref (gad G b)]) 24 C (kX6_stopAfter hb k7) cf_X6_stopAfter wk_4_13 (ltl hb rfl) (ceR_X6 hb) rfl rfl rfl rfl dX6_leaveReachedGoal_24 rfl rfl (Nat.zero_le _) (Nat.zero_le _)) ?_
      obtain ⟨M9, e10, h⟩ := letM_some h
      refine V_put (ty := .int) (F := F_X6 G b) 27 C dX6_leaveReachedGoal_27 (ltl hb rfl) (fun _ => ceR_X6 hb) rfl inX6 tyX6 tyX6_ok nmX6 3 rfl wk_1_100 rfl rfl r8 rfl rfl rfl rfl rfl ?_
      refine V_eqM e10 ?_
      exact V_vreth 30 C hQ h dX6_leaveReachedGoal_30
set_option maxHeartbeats 4000000 in
theorem vX3_letPass_7 {G : GG} {κ : KK} {F : Nat} {b : Nat} (hb : lay b = 1) (C : Cx G κ cX3_letPass RX3 (some .int) 4 rmX3_letPass) {M' : Mem} {r : Int32} (hQ : HQ G κ (QI G r M') 0 0) {q1 : Int32} {q2 : Int32} {kx : Mem → Option (Int32 × Mem)} (hk : ∀  (M : Mem), kx  M = some (r, M') → V G κ 4 0 0 M 58 [(0, .ref (gad G b)), (2, .int q2)] []) : ∀ (n : Nat) (v3 : Int32) (M : Mem), fX3_letPass_7 F b q1 q2 kx n v3 M = some (r, M') → V G κ 4 0 0 M 7 [(0, .ref (gad G b)), (1, .int q1), (2, .int q2), (3, .int v3)] [] := by
  intro n
  induction n with
  | zero => intro v3 M h; rw [fX3_letPass_7] at h; cases h
  | succ n ih =>
    intro v3 M h
    rw [fX3_letPass_7] at h
    refine V_iload_n 7 C 3 dX3_letPass_7 rfl ?_
    refine V_iload_n 8 C 1 dX3_letPass_8 rfl ?_
    refine V_icmp_ge 9 58 C dX3_letPass_9 (by decide) (fun c3 => ?_) (fun c3 => ?_)
    · replace h := ite_t c3 h
      refine V_sub [0, 2] rfl ?_
      exact hk  _ h
    · replace h := ite_f c3 h
      refine V_aload_n 12 C 0 dX3_letPass_12 rfl ?_
      refine V_get (v := .ref (gad G (b + 4))) 13 C dX3_letPass_13 (ltl hb rfl) (ceR_X3 hb) rfl inX3 1 rfl wk_1_142 rfl rfl ?_
      refine V_aload_n 16 C 0 dX3_letPass_16 rfl ?_
      obtain ⟨r6, M4, k5, h⟩ := bindM_some h
      refine V_callI 17 (runVO (k := b) (rest := [.ref (gad G (b + 4))]) 17 C (kX3_shelfAfterWalk hb k5) cf_X3_shelfAfterWalk wk_3_232 (ltl hb rfl) (ceR_X3 hb) rfl rfl rfl rfl dX3_letPass_17 rfl rfl (Nat.zero_le _) (Nat.zero_le _)) ?_
      obtain ⟨M7, e8, h⟩ := letM_some h
      refine V_putN (ty := .int) (F := F_X6 G (b + 4)) 20 C dX3_letPass_20 (ltl (ly1_4 hb) rfl) (fun _ => ceR_X6 (ly1_4 hb)) rfl inX6 tyX6 tyX6_ok nmX6 2 rfl wk_1_98 rfl rfl r6 rfl rfl rfl rfl rfl ?_
      refine V_eqM e8 ?_
      refine V_aload_n 23 C 0 dX3_letPass_23 rfl ?_
      refine V_get (v := .ref (gad G (b + 4))) 24 C dX3_letPass_24 (ltl hb rfl) (ceR_X3 hb) rfl inX3 1 rfl wk_1_142 rfl rfl ?_
      obtain ⟨M9, k10, h⟩ := bindV_some h
      refine V_callV 27 (runVN (k := (b + 4)) (rest := []) 27 C (kX6_leaveReachedGoal (ly1_4 hb) k10) cf_X6_leaveReachedGoal wk_4_8 (ltl (ly1_4 hb) rfl) (ceR_X6 (ly1_4 hb)) rfl rfl rfl rfl dX3_letPass_27 rfl rfl (Nat.zero_le _) (Nat.zero_le _)) ?_
      refine V_aload_n 30 C 0 dX3_letPass_30 rfl ?_
      obtain ⟨M11, k12, h⟩ := bindV_some h
      refine V_callV 31 (runVO (k := b) (rest := []) 31 C (kX3_catchMice hb k12) cf_X3_catchMice wk_4_17 (ltl hb rfl) (ceR_X3 hb) rfl rfl rfl rfl dX3_letPass_31 rfl rfl (Nat.zero_le _) (Nat.zero_le _)) ?_
      refine V_aload_n 34 C 0 dX3_letPass_34 rfl ?_
      obtain ⟨M13, k14, h⟩ := bindV_some h
      refine V_callV 35 (runVO (k := b) (rest := []) 35 C (kX3_visitMice hb k14) cf_X3_visitMice wk_4_27 (ltl hb rfl) (ceR_X3 hb) rfl rfl rfl rfl dX3_letPass_35 rfl rfl (Nat.zero_le _) (Nat.zero_le _)) ?_
      refine V_aload_n 38 C 0 dX3_letPass_38 rfl ?_
      obtain ⟨M15, k16, h⟩ := bindV_some h
      refine V_callV 39 (runVO (k := b) (rest := []) 39 C (kX3_drawMouse hb k16) cf_X3_drawMouse wk_4_44 (ltl hb rfl) (ceR_X3 hb) rfl rfl rfl rfl dX3_letPass_39 rfl rfl (Nat.zero_le _) (Nat.zero_le _)) ?_
      refine V_aload_n 42 C 0 dX3_letPass_42 rfl ?_
      refine V_dup 43 C dX3_letPass_43 rfl ?_
      refine V_get (v := .int (M15 b 5)) 44 C dX3_letPass_44 (ltl hb rfl) (ceR_X3 hb) rfl inX3 5 rfl wk_1_151 rfl rfl ?_
      refine V_iconst 47 C dX3_letPass_47 ic1 ?_
      refine V_iadd 48 C dX3_letPass_48 ?_
      obtain ⟨M17, e18, h⟩ := letM_some h
      refine V_put (ty := .int) (F := F_X3 G b) 49 C dX3_letPass_49 (ltl hb rfl) (fun _ => ceR_X3 hb) rfl inX3 tyX3 tyX3_ok nmX3 5 rfl wk_1_151 rfl rfl ((M15 b 5) + 1) rfl rfl rfl rfl rfl ?_
      refine V_eqM e18 ?_
      obtain ⟨x19, e20, h⟩ := letM_some h
      refine V_iinc 52 C [(3, .int x19), (0, .ref (gad G b)), (1, .int q1), (2, .int q2)] 3 x19 dX3_letPass_52 rfl (by rw [e20]; rfl) rfl rfl ?_
      refine V_goto 55 7 C dX3_letPass_55 (by decide) ?_
      refine V_sub [1, 2, 3, 0] rfl ?_
      exact ih _ _ h
set_option maxHeartbeats 4000000 in
theorem kX3_letPass {G : GG} {l : Launch} {F : Nat} {b : Nat} (hb : lay b = 1) {p0 : Int32} {M M' : Mem} {r : Int32} (h : fX3_letPass F b p0 M = some (r, M')) : Con G l yX3_letPass cX3_letPass 4 (some .int) rmX3_letPass [.ref (gad G b), .int p0] M (QI G r M') := by
  refine con_of pnX3 (Nat.le_of_ble_eq_true rfl) (fun κ C hQ => ?_)
  unfold fX3_letPass at h
  refine V_L (L1 := [(0, .ref (gad G b)), (1, .int p0)]) rfl ?_
  refine V_aload_n 0 C 0 dX3_letPass_0 rfl ?_
  refine V_get (v := .int (M b 8)) 1 C dX3_letPass_1 (ltl hb rfl) (ceR_X3 hb) rfl inX3 8 rfl wk_1_157 rfl rfl ?_
  obtain ⟨x1, e2, h⟩ := letM_some h
  refine V_top e2 ?_
  refine V_istore_n 4 C [(2, .int x1), (0, .ref (gad G b)), (1, .int p0)] dX3_letPass_4 rfl rfl rfl ?_
  refine V_iconst 5 C dX3_letPass_5 ic0 ?_
  refine V_istore_n 6 C [(3, .int 0), (2, .int x1), (0, .ref (gad G b)), (1, .int p0)] dX3_letPass_6 rfl rfl rfl ?_
  refine V_sub [2, 3, 1, 0] rfl ?_
  refine vX3_letPass_7 hb C hQ ?_ _ _ _ h
  intro M21 h
  refine V_aload_n 58 C 0 dX3_letPass_58 rfl ?_
  refine V_get (v := .int (M21 b 8)) 59 C dX3_letPass_59 (ltl hb rfl) (ceR_X3 hb) rfl inX3 8 rfl wk_1_157 rfl rfl ?_
  refine V_iload_n 62 C 1 dX3_letPass_62 rfl ?_
  refine V_isub 63 C dX3_letPass_63 ?_
  exact V_ireth 64 C hQ h dX3_letPass_64
set_option maxHeartbeats 4000000 in
theorem kX3_replaceRate {G : GG} {l : Launch} {F : Nat} {b : Nat} (hb : lay b = 1) {p0 : Int32} {M M' : Mem} {r : Int32} (h : fX3_replaceRate F b p0 M = some (r, M')) : Con G l yX3_replaceRate cX3_replaceRate 3 (some .int) rmX3_replaceRate [.ref (gad G b), .int p0] M (QI G r M') := by
  refine con_of pnX3 (Nat.le_of_ble_eq_true rfl) (fun κ C hQ => ?_)
  unfold fX3_replaceRate at h
  refine V_L (L1 := [(0, .ref (gad G b)), (1, .int p0)]) rfl ?_
  refine V_aload_n 0 C 0 dX3_replaceRate_0 rfl ?_
  refine V_get (v := .int (M b 3)) 1 C dX3_replaceRate_1 (ltl hb rfl) (ceR_X3 hb) rfl inX3 3 rfl wk_1_148 rfl rfl ?_
  obtain ⟨x1, e2, h⟩ := letM_some h
  refine V_top e2 ?_
  refine V_istore_n 4 C [(2, .int x1), (0, .ref (gad G b)), (1, .int p0)] dX3_replaceRate_4 rfl rfl rfl ?_
  refine V_aload_n 5 C 1 dX3_replaceRate_5 rfl ?_
  refine V_iload_n 6 C 2 dX3_replaceRate_6 rfl ?_
  obtain ⟨M3, e4, h⟩ := letM_some h
  refine V_put (ty := .int) (F := F_X3 G b) 7 C dX3_replaceRate_7 (ltl hb rfl) (fun _ => ceR_X3 hb) rfl inX3 tyX3 tyX3_ok nmX3 3 rfl wk_1_148 rfl rfl p0 rfl rfl rfl rfl rfl ?_
  refine V_eqM e4 ?_
  refine V_iload_n 10 C 0 dX3_replaceRate_10 rfl ?_
  exact V_ireth 11 C hQ h dX3_replaceRate_11
set_option maxHeartbeats 4000000 in
theorem kX3_replaceSeed {G : GG} {l : Launch} {F : Nat} {b : Nat} (hb : lay b = 1) {p0 : Int32} {M M' : Mem} {r : Int32} (h : fX3_replaceSeed F b p0 M = some (r, M')) : Con G l yX3_replaceSeed cX3_replaceSeed 3 (some .int) rmX3_replaceSeed [.ref (gad G b), .int p0] M (QI G r M') := by
  refine con_of pnX3 (Nat.le_of_ble_eq_true rfl) (fun κ C hQ => ?_)
  unfold fX3_replaceSeed at h
  refine V_L (L1 := [(0, .ref (gad G b)), (1, .int p0)]) rfl ?_
  refine V_aload_n 0 C 0 dX3_replaceSeed_0 rfl ?_
  refine V_get (v := .int (M b 4)) 1 C dX3_replaceSeed_1 (ltl hb rfl) (ceR_X3 hb) rfl inX3 4 rfl wk_1_149 rfl rfl ?_
  obtain ⟨x1, e2, h⟩ := letM_some h
  refine V_top e2 ?_
  refine V_istore_n 4 C [(2, .int x1), (0, .ref (gad G b)), (1, .int p0)] dX3_replaceSeed_4 rfl rfl rfl ?_
  refine V_aload_n 5 C 1 dX3_replaceSeed_5 rfl ?_
  refine V_iload_n 6 C 2 dX3_replaceSeed_6 rfl ?_
  obtain ⟨M3, e4, h⟩ := letM_some h
  refine V_put (ty := .int) (F := F_X3 G b) 7 C dX3_replaceSeed_7 (ltl hb rfl) (fun _ => ceR_X3 hb) rfl inX3 tyX3 tyX3_ok nmX3 4 rfl wk_1_149 rfl rfl p0 rfl rfl rfl rfl rfl ?_
  refine V_eqM e4 ?_
  refine V_iload_n 10 C 0 dX3_replaceSeed_10 rfl ?_
  exact V_ireth 11 C hQ h dX3_replaceSeed_11
set_option maxHeartbeats 4000000 in
theorem kX6_append {G : GG} {l : Launch} {F : Nat} {b : Nat} (hb : lay b = 3) {p0 : Int32} {M M' : Mem} {r : Int32} (h : fX6_append F b p0 M = some (r, M')) : Con G l yX6_append cX6_append 2 (some .int) rmX6_append [.ref (gad G b), .int p0] M (QI G r M') := by
  refine con_of pnX6 (Nat.le_of_ble_eq_true rfl) (fun κ C hQ => ?_)
  unfold fX6_append at h
  refine V_L (L1 := [(0, .ref (gad G b)), (1, .int p0)]) rfl ?_
  refine V_aload_n 0 C 0 dX6_append_0 rfl ?_
  refine V_get (v := .ref (gad G (b + 1))) 1 C dX6_append_1 (ltl hb rfl) (ceR_X6 hb) rfl inX6 0 rfl wk_1_88 rfl rfl ?_
  refine V_aload_n 4 C 0 dX6_append_4 rfl ?_
  refine V_get (v := .int (M b 1)) 5 C dX6_append_5 (ltl hb rfl) (ceR_X6 hb) rfl inX6 1 rfl wk_1_92 rfl rfl ?_
  refine V_iload_n 8 C 1 dX6_append_8 rfl ?_
  obtain ⟨M1, k2, h⟩ := bindV_some h
  refine V_callV 9 (runSN (rest := []) 9 C (kX11_put (akI_21 (ly3_1 hb)) k2) cf_X11_put wk_3_214 rfl rfl dX6_append_9 rfl rfl (Nat.zero_le _) (Nat.zero_le _)) ?_
  refine V_aload_n 12 C 0 dX6_append_12 rfl ?_
  refine V_dup 13 C dX6_append_13 rfl ?_
  refine V_get (v := .int (M1 b 1)) 14 C dX6_append_14 (ltl hb rfl) (ceR_X6 hb) rfl inX6 1 rfl wk_1_92 rfl rfl ?_
  refine V_iconst 17 C dX6_append_17 ic1 ?_
  refine V_iadd 18 C dX6_append_18 ?_
  obtain ⟨M3, e4, h⟩ := letM_some h
  refine V_put (ty := .int) (F := F_X6 G b) 19 C dX6_append_19 (ltl hb rfl) (fun _ => ceR_X6 hb) rfl inX6 tyX6 tyX6_ok nmX6 1 rfl wk_1_92 rfl rfl ((M1 b 1) + 1) rfl rfl rfl rfl rfl ?_
  refine V_eqM e4 ?_
  refine V_aload_n 22 C 0 dX6_append_22 rfl ?_
  refine V_get (v := .int (M3 b 1)) 23 C dX6_append_23 (ltl hb rfl) (ceR_X6 hb) rfl inX6 1 rfl wk_1_92 rfl rfl ?_
  exact V_ireth 26 C hQ h dX6_append_26
set_option maxHeartbeats 4000000 in
theorem vX6_remove_21 {G : GG} {κ : KK} {F : Nat} {b : Nat} (hb : lay b = 3) (C : Cx G κ cX6_remove RX6 (some .int) 4 rmX6_remove) {M' : Mem} {r : Int32} (hQ : HQ G κ (QI G r M') 0 0) {q1 : Int32} {q2 : Int32} {kx : Mem → Option (Int32 × Mem)} (hk : ∀  (M : Mem), kx  M = some (r, M') → V G κ 4 0 0 M 53 [(0, .ref (gad G b)), (1, .int q1), (2, .int q2)] []) : ∀ (n : Nat) (v3 : Int32) (M : Mem), fX6_remove_21 F b q1 q2 kx n v3 M = some (r, M') → V G κ 4 0 0 M 21 [(0, .ref (gad G b)), (1, .int q1), (2, .int q2), (3, .int v3)] [] := by
  intro n
  induction n with
  | zero => intro v3 M h; rw [fX6_remove_21] at h; cases h
  | succ n ih =>
    intro v3 M h
    rw [fX6_remove_21] at h
    refine V_iload_n 21 C 3 dX6_remove_21 rfl ?_
    refine V_aload_n 22 C 0 dX6_remove_22 rfl ?_
    refine V_get (v := .int (M b 1)) 23 C dX6_remove_23 (ltl hb rfl) (ceR_X6 hb) rfl inX6 1 rfl wk_1_92 rfl rfl ?_
    refine V_icmp_ge 26 53 C dX6_remove_26 (by decide) (fun c6 => ?_) (fun c6 => ?_)
    · replace h := ite_t c6 h
      refine V_sub [0, 1, 2] rfl ?_
      exact hk  _ h
    · replace h := ite_f c6 h
      refine V_aload_n 29 C 0 dX6_remove_29 rfl ?_
      refine V_get (v := .ref (gad G (b + 1))) 30 C dX6_remove_30 (ltl hb rfl) (ceR_X6 hb) rfl inX6 0 rfl wk_1_88 rfl rfl ?_
      refine V_iload_n 33 C 3 dX6_remove_33 rfl ?_
      refine V_aload_n 34 C 0 dX6_remove_34 rfl ?_
      refine V_get (v := .ref (gad G (b + 1))) 35 C dX6_remove_35 (ltl hb rfl) (ceR_X6 hb) rfl inX6 0 rfl wk_1_88 rfl rfl ?_
      refine V_iload_n 38 C 3 dX6_remove_38 rfl ?_
      refine V_iconst 39 C dX6_remove_39 ic1 ?_
      refine V_iadd 40 C dX6_remove_40 ?_
      obtain ⟨r9, M7, k8, h⟩ := bindM_some h
      refine V_callI 41 (runSN (rest := [.int v3, .ref (gad G (b + 1))]) 41 C (kX11_at (akI_21 (ly3_1 hb)) k8) cf_X11_at wk_3_219 rfl rfl dX6_remove_41 rfl rfl (Nat.zero_le _) (Nat.zero_le _)) ?_
      obtain ⟨M10, k11, h⟩ := bindV_some h
      refine V_callV 44 (runSN (rest := []) 44 C (kX11_put (akI_21 (ly3_1 hb)) k11) cf_X11_put wk_3_214 rfl rfl dX6_remove_44 rfl rfl (Nat.zero_le _) (Nat.zero_le _)) ?_
      obtain ⟨x12, e13, h⟩ := letM_some h
      refine V_iinc 47 C [(3, .int x12), (0, .ref (gad G b)), (1, .int q1), (2, .int q2)] 3 x12 dX6_remove_47 rfl (by rw [e13]; rfl) rfl rfl ?_
      refine V_goto 50 21 C dX6_remove_50 (by decide) ?_
      refine V_sub [1, 2, 3, 0] rfl ?_
      exact ih _ _ h
set_option maxHeartbeats 4000000 in
theorem kX6_remove {G : GG} {l : Launch} {F : Nat} {b : Nat} (hb : lay b = 3) {p0 : Int32} {M M' : Mem} {r : Int32} (h : fX6_remove F b p0 M = some (r, M')) : Con G l yX6_remove cX6_remove 4 (some .int) rmX6_remove [.ref (gad G b), .int p0] M (QI G r M') := by
  refine con_of pnX6 (Nat.le_of_ble_eq_true rfl) (fun κ C hQ => ?_)
  unfold fX6_remove at h
  refine V_L (L1 := [(0, .ref (gad G b)), (1, .int p0)]) rfl ?_
  refine V_aload_n 0 C 0 dX6_remove_0 rfl ?_
  refine V_get (v := .ref (gad G (b + 1))) 1 C dX6_remove_1 (ltl hb rfl) (ceR_X6 hb) rfl inX6 0 rfl wk_1_88 rfl rfl ?_
  refine V_iload_n 4 C 1 dX6_remove_4 rfl ?_
  obtain ⟨r3, M1, k2, h⟩ := bindM_some h
  refine V_callI 5 (runSN (rest := []) 5 C (kX11_at (akI_21 (ly3_1 hb)) k2) cf_X11_at wk_3_219 rfl rfl dX6_remove_5 rfl rfl (Nat.zero_le _) (Nat.zero_le _)) ?_
  refine V_istore_n 8 C [(2, .int r3), (0, .ref (gad G b)), (1, .int p0)] dX6_remove_8 rfl rfl rfl ?_
  refine V_aload_n 9 C 1 dX6_remove_9 rfl ?_
  refine V_dup 10 C dX6_remove_10 rfl ?_
  refine V_get (v := .int (M1 b 1)) 11 C dX6_remove_11 (ltl hb rfl) (ceR_X6 hb) rfl inX6 1 rfl wk_1_92 rfl rfl ?_
  refine V_iconst 14 C dX6_remove_14 ic1 ?_
  refine V_isub 15 C dX6_remove_15 ?_
  obtain ⟨M4, e5, h⟩ := letM_some h
  refine V_put (ty := .int) (F := F_X6 G b) 16 C dX6_remove_16 (ltl hb rfl) (fun _ => ceR_X6 hb) rfl inX6 tyX6 tyX6_ok nmX6 1 rfl wk_1_92 rfl rfl ((M1 b 1) - 1) rfl rfl rfl rfl rfl ?_
  refine V_eqM e5 ?_
  refine V_iload_n 19 C 2 dX6_remove_19 rfl ?_
  refine V_istore_n 20 C [(3, .int p0), (2, .int r3), (0, .ref (gad G b)), (1, .int p0)] dX6_remove_20 rfl rfl rfl ?_
  refine V_sub [2, 3, 1, 0] rfl ?_
  refine vX6_remove_21 hb C hQ ?_ _ _ _ h
  intro M14 h
  refine V_iload_n 53 C 1 dX6_remove_53 rfl ?_
  refine V_aload_n 54 C 0 dX6_remove_54 rfl ?_
  refine V_get (v := .int (M14 b 3)) 55 C dX6_remove_55 (ltl hb rfl) (ceR_X6 hb) rfl inX6 3 rfl wk_1_100 rfl rfl ?_
  refine V_icmp_ge 58 74 C dX6_remove_58 (by decide) (fun c15 => ?_) (fun c15 => ?_)
  · replace h := ite_t c15 h
    refine V_aload_n 74 C 0 dX6_remove_74 rfl ?_
    refine V_get (v := .int (M14 b 3)) 75 C dX6_remove_75 (ltl hb rfl) (ceR_X6 hb) rfl inX6 3 rfl wk_1_100 rfl rfl ?_
    refine V_aload_n 78 C 0 dX6_remove_78 rfl ?_
    refine V_get (v := .int (M14 b 1)) 79 C dX6_remove_79 (ltl hb rfl) (ceR_X6 hb) rfl inX6 1 rfl wk_1_92 rfl rfl ?_
    refine V_icmp_lt 82 90 C dX6_remove_82 (by decide) (fun c16 => ?_) (fun c16 => ?_)
    · replace h := ite_t c16 h
      refine V_iload_n 90 C 2 dX6_remove_90 rfl ?_
      exact V_ireth 91 C hQ h dX6_remove_91
    · replace h := ite_f c16 h
      refine V_aload_n 85 C 0 dX6_remove_85 rfl ?_
      refine V_iconst 86 C dX6_remove_86 ic0 ?_
      obtain ⟨M17, e18, h⟩ := letM_some h
      refine V_put (ty := .int) (F := F_X6 G b) 87 C dX6_remove_87 (ltl hb rfl) (fun _ => ceR_X6 hb) rfl inX6 tyX6 tyX6_ok nmX6 3 rfl wk_1_100 rfl rfl 0 rfl rfl rfl rfl rfl ?_
      refine V_eqM e18 ?_
      refine V_iload_n 90 C 2 dX6_remove_90 rfl ?_
      exact V_ireth 91 C hQ h dX6_remove_91
  · replace h := ite_f c15 h
    refine V_aload_n 61 C 0 dX6_remove_61 rfl ?_
    refine V_dup 62 C dX6_remove_62 rfl ?_
    refine V_get (v := .int (M14 b 3)) 63 C dX6_remove_63 (ltl hb rfl) (ceR_X6 hb) rfl inX6 3 rfl wk_1_100 rfl rfl ?_
    refine V_iconst 66 C dX6_remove_66 ic1 ?_
    refine V_isub 67 C dX6_remove_67 ?_
    obtain ⟨M19, e20, h⟩ := letM_some h
    refine V_put (ty := .int) (F := F_X6 G b) 68 C dX6_remove_68 (ltl hb rfl) (fun _ => ceR_X6 hb) rfl inX6 tyX6 tyX6_ok nmX6 3 rfl wk_1_100 rfl rfl ((M14 b 3) - 1) rfl rfl rfl rfl rfl ?_
    refine V_eqM e20 ?_
    refine V_goto 71 90 C dX6_remove_71 (by decide) ?_
    refine V_iload_n 90 C 2 dX6_remove_90 rfl ?_
    exact V_ireth 91 C hQ h dX6_remove_91
set_option maxHeartbeats 4000000 in
theorem kX9_add {G : GG} {l : Launch} {F : Nat} {b : Nat} (hb : lay b = 2) {p0 : Int32} {M M' : Mem} {r : Int32} (h : fX9_add F b p0 M = some (r, M')) : Con G l yX9_add cX9_add 2 (some .int) rmX9_add [.ref (gad G b), .int p0] M (QI G r M') := by
  refine con_of pnX9 (Nat.le_of_ble_eq_true rfl) (fun κ C hQ => ?_)
  unfold fX9_add at h
  refine V_L (L1 := [(0, .ref (gad G b)), (1, .int p0)]) rfl ?_
  refine V_aload_n 0 C 0 dX9_add_0 rfl ?_
  refine V_get (v := .ref (gad G (b + 1))) 1 C dX9_add_1 (ltl hb rfl) (ceR_X9 hb) rfl inX9 0 rfl wk_1_52 rfl rfl ?_
  refine V_aload_n 4 C 0 dX9_add_4 rfl ?_
  refine V_get (v := .int (M b 3)) 5 C dX9_add_5 (ltl hb rfl) (ceR_X9 hb) rfl inX9 3 rfl wk_1_63 rfl rfl ?_
  refine V_iload_n 8 C 1 dX9_add_8 rfl ?_
  obtain ⟨M1, k2, h⟩ := bindV_some h
  refine V_callV 9 (runSN (rest := []) 9 C (kX11_put (akI_20 (ly2_1 hb)) k2) cf_X11_put wk_3_184 rfl rfl dX9_add_9 rfl rfl (Nat.zero_le _) (Nat.zero_le _)) ?_
  refine V_aload_n 12 C 0 dX9_add_12 rfl ?_
  refine V_dup 13 C dX9_add_13 rfl ?_
  refine V_get (v := .int (M1 b 3)) 14 C dX9_add_14 (ltl hb rfl) (ceR_X9 hb) rfl inX9 3 rfl wk_1_63 rfl rfl ?_
  refine V_iconst 17 C dX9_add_17 ic1 ?_
  refine V_iadd 18 C dX9_add_18 ?_
  obtain ⟨M3, e4, h⟩ := letM_some h
  refine V_put (ty := .int) (F := F_X9 G b) 19 C dX9_add_19 (ltl hb rfl) (fun _ => ceR_X9 hb) rfl inX9 tyX9 tyX9_ok nmX9 3 rfl wk_1_63 rfl rfl ((M1 b 3) + 1) rfl rfl rfl rfl rfl ?_
  refine V_eqM e4 ?_
  refine V_aload_n 22 C 0 dX9_add_22 rfl ?_
  refine V_get (v := .int (M3 b 3)) 23 C dX9_add_23 (ltl hb rfl) (ceR_X9 hb) rfl inX9 3 rfl wk_1_63 rfl rfl ?_
  refine V_iconst 26 C dX9_add_26 ic1 ?_
  refine V_isub 27 C dX9_add_27 ?_
  exact V_ireth 28 C hQ h dX9_add_28
