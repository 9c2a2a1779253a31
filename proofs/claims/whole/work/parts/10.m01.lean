def rmX9_connect : Room := { frames := 1, cells := 0, slots := 0, locals := 22 }
def fX9_connect (F : Nat) (b : Nat) (p0 : Int32) (p1 : Int32) (M : Mem) : Option (Int32 × Mem) := bindM (fX11_at F (b + 2) p0 M) (fun r3 M1 => bindM (fX11_bit F p1 M1) (fun r6 M4 => bindV (fX11_put F (b + 2) p0 (r3 ||| r6) M4) (fun M7 => bindM (fX11_at F (b + 2) p1 M7) (fun r11 M9 => bindM (fX11_bit F p0 M9) (fun r14 M12 => bindV (fX11_put F (b + 2) p1 (r11 ||| r14) M12) (fun M15 => letM (up2 M15 b 4 ((M15 b 4) + 1)) (fun M17 => some ((M17 b 4), M17))))))))
def rmX9_disconnect : Room := { frames := 1, cells := 0, slots := 0, locals := 22 }
def fX9_disconnect (F : Nat) (b : Nat) (p0 : Int32) (p1 : Int32) (M : Mem) : Option (Int32 × Mem) := bindM (fX11_at F (b + 2) p0 M) (fun r3 M1 => bindM (fX11_bit F p1 M1) (fun r6 M4 => bindV (fX11_put F (b + 2) p0 (r3 &&& (r6 ^^^ (-1))) M4) (fun M7 => bindM (fX11_at F (b + 2) p1 M7) (fun r11 M9 => bindM (fX11_bit F p0 M9) (fun r14 M12 => bindV (fX11_put F (b + 2) p1 (r11 &&& (r14 ^^^ (-1))) M12) (fun M15 => letM (up2 M15 b 4 ((M15 b 4) - 1)) (fun M17 => some ((M17 b 4), M17))))))))
def rmX9_replaceBlind : Room := { frames := 1, cells := 0, slots := 0, locals := 20 }
def fX9_replaceBlind (F : Nat) (b : Nat) (p0 : Int32) (M : Mem) : Option (Int32 × Mem) := letM (up2 M b 2 p0) (fun M1 => some ((bcnt (M1 b 2)), M1))
def rmX3_carryOut : Room := { frames := 5, cells := 0, slots := 0, locals := 114 }
def fX3_carryOut (F : Nat) (b : Nat) (p0 : Nat) (p1 : Int32) (p2 : Int32) (M : Mem) : Option (Int32 × Mem) := (match p0 with | 0 => letM (up2 M b 6 ((M b 6) + p1)) (fun M1 => bindM (fX9_add F (b + 1) p1 M1) (fun r5 M3 => some (r5, M3))) | 1 => bindM (fX9_connect F (b + 1) p1 p2 M) (fun r8 M6 => some (r8, M6)) | 2 => bindM (fX9_disconnect F (b + 1) p1 p2 M) (fun r11 M9 => some (r11, M9)) | 3 => bindM (fX11_bit F p1 M) (fun r14 M12 => bindM (fX9_replaceBlind F (b + 1) ((M (b + 1) 2) ||| r14) M12) (fun r17 M15 => some (r17, M15))) | 4 => bindM (fX11_bit F p1 M) (fun r20 M18 => bindM (fX9_replaceBlind F (b + 1) ((M (b + 1) 2) &&& (r20 ^^^ (-1))) M18) (fun r23 M21 => some (r23, M21))) | 5 => letM (up2 M b 6 ((M b 6) + p2)) (fun M24 => bindM (fX9_addGrams F (b + 1) p1 p2 M24) (fun r28 M26 => some (r28, M26))) | 6 => bindM (fX6_append F (b + 4) p1 M) (fun r31 M29 => some (r31, M29)) | 7 => bindM (fX6_remove F (b + 4) p1 M) (fun r34 M32 => some (r34, M32)) | 8 => bindM (fX3_replaceRate F b p1 M) (fun r37 M35 => some (r37, M35)) | 9 => bindM (fX3_replaceSeed F b p1 M) (fun r40 M38 => some (r40, M38)) | 10 => bindM (fX3_letPass F b p1 M) (fun r43 M41 => some (r43, M41)) | _ => none)
def rmX3_detailOf : Room := { frames := 1, cells := 0, slots := 0, locals := 20 }
def fX3_detailOf (F : Nat) (b : Nat) (p0 : Nat) (p1 : Nat) (p2 : Int32) (M : Mem) : Option (Int32 × Mem) := (match p0 with | 0 => some ((M (b + 1) 4), M) | 1 => some ((vlim p1), M) | 2 => some (p2, M) | 3 => some ((M (b + 1) 4), M) | 4 => some ((M (b + 1) 4), M) | 5 => if p1 = 3 then some (1, M) else some (0, M) | 6 => some ((M (b + 1) 4), M) | 7 => some ((M (b + 1) 4), M) | _ => none)
def rmX11_isWithin : Room := { frames := 0, cells := 0, slots := 0, locals := 0 }
def fX11_isWithin (F : Nat) (p0 : Int32) (p1 : Int32) (M : Mem) : Option (Bool × Mem) := if p0 < 0 then some (false, M) else if p1 ≤ p0 then some (false, M) else some (true, M)
def rmX9_has : Room := { frames := 1, cells := 0, slots := 0, locals := 21 }
def fX9_has (F : Nat) (b : Nat) (p0 : Int32) (M : Mem) : Option (Bool × Mem) := bindM (fX11_isWithin F p0 (M b 3) M) (fun r3 M1 => some (r3, M1))
def rmX3_refusalOfBlindness : Room := { frames := 2, cells := 0, slots := 0, locals := 42 }
def fX3_refusalOfBlindness (F : Nat) (b : Nat) (p0 : Int32) (p1 : Bool) (M : Mem) : Option (Nat × Mem) := bindM (fX9_has F (b + 1) p0 M) (fun r3 M1 => if r3 = true then bindM (fX11_holds F (M1 (b + 1) 2) p0 M1) (fun r7 M5 => if (b2i r7) = (b2i p1) then some (5, M5) else some (0, M5)) else some (6, M1))
def rmX9_areConnected : Room := { frames := 1, cells := 0, slots := 0, locals := 21 }
def fX9_areConnected (F : Nat) (b : Nat) (p0 : Int32) (p1 : Int32) (M : Mem) : Option (Bool × Mem) := bindM (fX11_at F (b + 2) p0 M) (fun r3 M1 => bindM (fX11_holds F r3 p1 M1) (fun r6 M4 => some (r6, M4)))
def rmX3_refusalOfCut : Room := { frames := 2, cells := 0, slots := 0, locals := 43 }
def fX3_refusalOfCut (F : Nat) (b : Nat) (p0 : Int32) (p1 : Int32) (M : Mem) : Option (Nat × Mem) := bindM (fX9_has F (b + 1) p0 M) (fun r3 M1 => if r3 = true then bindM (fX9_has F (b + 1) p1 M1) (fun r7 M5 => if r7 = true then bindM (fX9_areConnected F (b + 1) p0 p1 M5) (fun r11 M9 => if r11 = true then some (0, M9) else some (4, M9)) else some (6, M5)) else some (6, M1))
def rmX3_refusalOfFill : Room := { frames := 2, cells := 0, slots := 0, locals := 42 }
def fX3_refusalOfFill (F : Nat) (b : Nat) (p0 : Int32) (p1 : Int32) (M : Mem) : Option (Nat × Mem) := bindM (fX9_has F (b + 1) p0 M) (fun r3 M1 => if r3 = true then if p1 < 1 then some (7, M1) else if p1 ≤ 99 then bindM (fX11_at F (b + 2) p0 M1) (fun r9 M7 => if (r9 + p1) ≤ 99 then some (0, M7) else some (1, M7)) else some (7, M1) else some (6, M1))
def rmX3_refusalOfLink : Room := { frames := 2, cells := 0, slots := 0, locals := 43 }
def fX3_refusalOfLink (F : Nat) (b : Nat) (p0 : Int32) (p1 : Int32) (M : Mem) : Option (Nat × Mem) := bindM (fX9_has F (b + 1) p0 M) (fun r3 M1 => if r3 = true then bindM (fX9_has F (b + 1) p1 M1) (fun r7 M5 => if r7 = true then if p0 = p1 then some (2, M5) else bindM (fX9_areConnected F (b + 1) p0 p1 M5) (fun r12 M10 => if r12 = true then some (3, M10) else if (M10 (b + 1) 4) < 20 then some (0, M10) else some (1, M10)) else some (6, M5)) else some (6, M1))
def rmX3_refusalOfRange : Room := { frames := 0, cells := 0, slots := 0, locals := 0 }
def fX3_refusalOfRange (F : Nat) (b : Nat) (p0 : Int32) (p1 : Int32) (p2 : Int32) (M : Mem) : Option (Nat × Mem) := if p0 < p1 then some (7, M) else if p0 ≤ p2 then some (0, M) else some (7, M)
def rmX3_refusalOfShelf : Room := { frames := 0, cells := 0, slots := 0, locals := 0 }
def fX3_refusalOfShelf (F : Nat) (b : Nat) (p0 : Int32) (M : Mem) : Option (Nat × Mem) := if p0 < 0 then some (7, M) else if p0 ≤ 99 then if (M (b + 1) 3) < 12 then some (0, M) else some (1, M) else some (7, M)
def rmX3_refusalOfStop : Room := { frames := 2, cells := 0, slots := 0, locals := 42 }
def fX3_refusalOfStop (F : Nat) (b : Nat) (p0 : Int32) (M : Mem) : Option (Nat × Mem) := bindM (fX9_has F (b + 1) p0 M) (fun r3 M1 => if r3 = true then if (M1 (b + 4) 1) < 10 then some (0, M1) else some (1, M1) else some (6, M1))
def rmX6_hasStop : Room := { frames := 1, cells := 0, slots := 0, locals := 21 }
def fX6_hasStop (F : Nat) (b : Nat) (p0 : Int32) (M : Mem) : Option (Bool × Mem) := bindM (fX11_isWithin F p0 (M b 1) M) (fun r3 M1 => some (r3, M1))
def rmX3_refusalOf : Room := { frames := 3, cells := 0, slots := 0, locals := 65 }
def fX3_refusalOf (F : Nat) (b : Nat) (p0 : Nat) (p1 : Int32) (p2 : Int32) (M : Mem) : Option (Nat × Mem) := (match p0 with | 0 => bindM (fX3_refusalOfShelf F b p1 M) (fun r3 M1 => some (r3, M1)) | 1 => bindM (fX3_refusalOfLink F b p1 p2 M) (fun r6 M4 => some (r6, M4)) | 2 => bindM (fX3_refusalOfCut F b p1 p2 M) (fun r9 M7 => some (r9, M7)) | 3 => bindM (fX3_refusalOfBlindness F b p1 true M) (fun r12 M10 => some (r12, M10)) | 4 => bindM (fX3_refusalOfBlindness F b p1 false M) (fun r15 M13 => some (r15, M13)) | 5 => bindM (fX3_refusalOfFill F b p1 p2 M) (fun r18 M16 => some (r18, M16)) | 6 => bindM (fX3_refusalOfStop F b p1 M) (fun r21 M19 => some (r21, M19)) | 7 => bindM (fX6_hasStop F (b + 4) p1 M) (fun r24 M22 => if r24 = true then some (0, M22) else some (6, M22)) | 8 => bindM (fX3_refusalOfRange F b p1 0 16 M) (fun r28 M26 => some (r28, M26)) | 9 => bindM (fX3_refusalOfRange F b p1 0 1023 M) (fun r31 M29 => some (r31, M29)) | 10 => bindM (fX3_refusalOfRange F b p1 1 60 M) (fun r34 M32 => some (r34, M32)) | _ => none)
def rmX11_shelfCount : Room := { frames := 0, cells := 0, slots := 0, locals := 0 }
def fX11_shelfCount (F : Nat)  (M : Mem) : Option (Int32 × Mem) := some ((M 2 3), M)
def rmX11_passageCount : Room := { frames := 0, cells := 0, slots := 0, locals := 0 }
def fX11_passageCount (F : Nat)  (M : Mem) : Option (Int32 × Mem) := some ((M 2 4), M)
def rmX9_stepsBetween : Room := { frames := 2, cells := 0, slots := 0, locals := 44 }
def fX9_stepsBetween_11 (F : Nat) (b : Nat) (q2 : Int32) (kx : Mem → Option (Int32 × Mem)) : Nat → Int32 → Int32 → Int32 → Mem → Option (Int32 × Mem)
  | 0, _, _, _, _ => none
  | n + 1, v3, v4, v5, M => if 12 ≤ v5 then kx  M else bindM (fX11_holds F v3 q2 M) (fun r7 M5 => if r7 = true then some (v5, M5) else bindM (fX9_neighboursOfAll F b v3 M5) (fun r11 M9 => letM (r11 &&& (v4 ^^^ (-1))) (fun x12 => letM (v4 ||| x12) (fun x14 => letM (v5 + 1) (fun x16 => fX9_stepsBetween_11 F b q2 kx n x12 x14 x16 M9)))))
def fX9_stepsBetween (F : Nat) (b : Nat) (p0 : Int32) (p1 : Int32) (M : Mem) : Option (Int32 × Mem) := bindM (fX11_bit F p0 M) (fun r3 M1 => fX9_stepsBetween_11 F b p1 (fun M18 => some ((-1), M18)) F r3 r3 0 M1)
def rmX1_place : Room := { frames := 0, cells := 0, slots := 0, locals := 0 }
def fX1_place (F : Nat) (b : Nat) (p0 : Int32) (p1 : Int32) (M : Mem) : Option (Int32 × Mem) := some (((p0 * 12) + p1), M)
def rmX1_improve : Room := { frames := 1, cells := 0, slots := 0, locals := 34 }
def fX1_improve_10 (F : Nat) (b : Nat) (q1 : Int32) (q2 : Int32) (q3 : Int32) (kx : Mem → Option Mem) : Nat → Int32 → Mem → Option Mem
  | 0, _, _ => none
  | n + 1, v4, M => if q1 ≤ v4 then kx  M else bindM (fX1_place F b q3 q2 M) (fun r5 M3 => bindM (fX11_at F (b + 1) r5 M3) (fun r8 M6 => bindM (fX1_place F b q2 v4 M6) (fun r11 M9 => bindM (fX11_at F (b + 1) r11 M9) (fun r14 M12 => letM (r8 + r14) (fun x15 => bindM (fX1_place F b q3 v4 M12) (fun r19 M17 => bindM (fX11_at F (b + 1) r19 M17) (fun r22 M20 => bindM (fX1_place F b q3 v4 M20) (fun r25 M23 => bindV (fX11_put F (b + 1) r25 (imn r22 x15) M23) (fun M26 => letM (v4 + 1) (fun x28 => fX1_improve_10 F b q1 q2 q3 kx n x28 M26))))))))))
def fX1_improve_2 (F : Nat) (b : Nat) (q1 : Int32) (q2 : Int32) (kx : Mem → Option Mem) : Nat → Int32 → Mem → Option Mem
  | 0, _, _ => none
  | n + 1, v3, M => if q1 ≤ v3 then kx  M else fX1_improve_10 F b q1 q2 v3 (fun M30 => letM (v3 + 1) (fun x31 => fX1_improve_2 F b q1 q2 kx n x31 M30)) F 0 M
def fX1_improve (F : Nat) (b : Nat) (p0 : Int32) (p1 : Int32) (M : Mem) : Option Mem := fX1_improve_2 F b p0 p1 (fun M33 => some M33) F 0 M
def rmX1_start : Room := { frames := 2, cells := 0, slots := 0, locals := 43 }
def fX1_start_12 (F : Nat) (b : Nat) (p0 : Nat) (q2 : Int32) (kx : Mem → Option Mem) : Nat → Int32 → Mem → Option Mem
  | 0, _, _ => none
  | n + 1, v3, M => if (M p0 3) ≤ v3 then kx  M else bindM (fX9_areConnected F p0 q2 v3 M) (fun r5 M3 => if r5 = true then bindM (fX1_place F b q2 v3 M3) (fun r21 M19 => if q2 = v3 then bindV (fX11_put F (b + 1) r21 0 M19) (fun M27 => letM (v3 + 1) (fun x29 => fX1_start_12 F b p0 q2 kx n x29 M27)) else bindV (fX11_put F (b + 1) r21 1 M19) (fun M23 => letM (v3 + 1) (fun x25 => fX1_start_12 F b p0 q2 kx n x25 M23))) else bindM (fX1_place F b q2 v3 M3) (fun r9 M7 => if q2 = v3 then bindV (fX11_put F (b + 1) r9 0 M7) (fun M15 => letM (v3 + 1) (fun x17 => fX1_start_12 F b p0 q2 kx n x17 M15)) else bindV (fX11_put F (b + 1) r9 1000 M7) (fun M11 => letM (v3 + 1) (fun x13 => fX1_start_12 F b p0 q2 kx n x13 M11))))
def fX1_start_2 (F : Nat) (b : Nat) (p0 : Nat)  (kx : Mem → Option Mem) : Nat → Int32 → Mem → Option Mem
  | 0, _, _ => none
  | n + 1, v2, M => if (M p0 3) ≤ v2 then kx  M else fX1_start_12 F b p0 v2 (fun M31 => letM (v2 + 1) (fun x32 => fX1_start_2 F b p0 kx n x32 M31)) F 0 M
def fX1_start (F : Nat) (b : Nat) (p0 : Nat) (M : Mem) : Option Mem := fX1_start_2 F b p0 (fun M34 => some M34) F 0 M
def rmX1_stepsBetween : Room := { frames := 3, cells := 0, slots := 0, locals := 67 }
def fX1_stepsBetween_8 (F : Nat) (b : Nat) (p0 : Nat) (q2 : Int32) (q3 : Int32) (kx : Mem → Option (Int32 × Mem)) : Nat → Int32 → Mem → Option (Int32 × Mem)
  | 0, _, _ => none
  | n + 1, v4, M => if (M p0 3) ≤ v4 then kx  M else bindV (fX1_improve F b (M p0 3) v4 M) (fun M4 => letM (v4 + 1) (fun x6 => fX1_stepsBetween_8 F b p0 q2 q3 kx n x6 M4))
def fX1_stepsBetween (F : Nat) (b : Nat) (p0 : Nat) (p1 : Int32) (p2 : Int32) (M : Mem) : Option (Int32 × Mem) := bindV (fX1_start F b p0 M) (fun M1 => fX1_stepsBetween_8 F b p0 p1 p2 (fun M8 => bindM (fX1_place F b p1 p2 M8) (fun r11 M9 => bindM (fX11_at F (b + 1) r11 M9) (fun r14 M12 => some (r14, M12)))) F 0 M1)
def rmX9_groupOf : Room := { frames := 2, cells := 0, slots := 0, locals := 44 }
def fX9_groupOf_7 (F : Nat) (b : Nat)  (kx : Int32 → Mem → Option (Int32 × Mem)) : Nat → Int32 → Int32 → Mem → Option (Int32 × Mem)
  | 0, _, _, _ => none
  | n + 1, v2, v3, M => if 12 ≤ v3 then kx v2 M else bindM (fX9_neighboursOfAll F b v2 M) (fun r7 M5 => letM (v2 ||| r7) (fun x8 => letM (v3 + 1) (fun x10 => fX9_groupOf_7 F b kx n x8 x10 M5)))
def fX9_groupOf (F : Nat) (b : Nat) (p0 : Int32) (M : Mem) : Option (Int32 × Mem) := bindM (fX11_bit F p0 M) (fun r3 M1 => fX9_groupOf_7 F b (fun w13 M12 => some (w13, M12)) F r3 0 M1)
def rmX9_countGroups : Room := { frames := 3, cells := 0, slots := 0, locals := 67 }
def fX9_countGroups_6 (F : Nat) (b : Nat)  (kx : Int32 → Mem → Option (Int32 × Mem)) : Nat → Int32 → Int32 → Int32 → Mem → Option (Int32 × Mem)
  | 0, _, _, _, _ => none
  | n + 1, v1, v2, v3, M => if (M b 3) ≤ v3 then kx v1 M else bindM (fX11_holds F v2 v3 M) (fun r4 M2 => if r4 = true then letM (v3 + 1) (fun x6 => fX9_countGroups_6 F b kx n v1 v2 x6 M2) else letM (v1 + 1) (fun x8 => bindM (fX9_groupOf F b v3 M2) (fun r12 M10 => letM (v2 ||| r12) (fun x13 => letM (v3 + 1) (fun x15 => fX9_countGroups_6 F b kx n x8 x13 x15 M10)))))
def fX9_countGroups (F : Nat) (b : Nat) (M : Mem) : Option (Int32 × Mem) := fX9_countGroups_6 F b (fun w18 M17 => some (w18, M17)) F 0 0 0 M
def rmX11_groupCount : Room := { frames := 4, cells := 0, slots := 0, locals := 90 }
def fX11_groupCount (F : Nat)  (M : Mem) : Option (Int32 × Mem) := bindM (fX9_countGroups F 2 M) (fun r3 M1 => some (r3, M1))
def rmX9_rankOf : Room := { frames := 1, cells := 0, slots := 0, locals := 21 }
def fX9_rankOf_14 (F : Nat) (b : Nat) (q1 : Int32) (q2 : Int32) (kx : Int32 → Mem → Option (Int32 × Mem)) : Nat → Int32 → Int32 → Mem → Option (Int32 × Mem)
  | 0, _, _, _ => none
  | n + 1, v3, v4, M => if (M b 3) ≤ v4 then kx v3 M else bindM (fX11_at F (b + 1) v4 M) (fun r7 M5 => if q2 < r7 then letM (v3 + 1) (fun x9 => letM (v4 + 1) (fun x11 => fX9_rankOf_14 F b q1 q2 kx n x9 x11 M5)) else if r7 = q2 then if q1 ≤ v4 then letM (v4 + 1) (fun x17 => fX9_rankOf_14 F b q1 q2 kx n v3 x17 M5) else letM (v3 + 1) (fun x19 => letM (v4 + 1) (fun x21 => fX9_rankOf_14 F b q1 q2 kx n x19 x21 M5)) else letM (v4 + 1) (fun x14 => fX9_rankOf_14 F b q1 q2 kx n v3 x14 M5))
def fX9_rankOf (F : Nat) (b : Nat) (p0 : Int32) (M : Mem) : Option (Int32 × Mem) := bindM (fX11_at F (b + 1) p0 M) (fun r3 M1 => fX9_rankOf_14 F b p0 r3 (fun w24 M23 => some (w24, M23)) F 0 0 M1)
def rmX9_shelfAtRank : Room := { frames := 2, cells := 0, slots := 0, locals := 46 }
def fX9_shelfAtRank_2 (F : Nat) (b : Nat) (q1 : Int32) (kx : Mem → Option (Int32 × Mem)) : Nat → Int32 → Mem → Option (Int32 × Mem)
  | 0, _, _ => none
  | n + 1, v2, M => if (M b 3) ≤ v2 then kx  M else bindM (fX9_rankOf F b v2 M) (fun r4 M2 => if r4 = q1 then some (v2, M2) else letM (v2 + 1) (fun x6 => fX9_shelfAtRank_2 F b q1 kx n x6 M2))
def fX9_shelfAtRank (F : Nat) (b : Nat) (p0 : Int32) (M : Mem) : Option (Int32 × Mem) := fX9_shelfAtRank_2 F b p0 (fun M8 => some ((-1), M8)) F 0 M
set_option maxHeartbeats 4000000 in
theorem kX9_connect {G : GG} {l : Launch} {F : Nat} {b : Nat} (hb : lay b = 2) {p0 : Int32} {p1 : Int32} {M M' : Mem} {r : Int32} (h : fX9_connect F b p0 p1 M = some (r, M')) : Con G l yX9_connect cX9_connect 3 (some .int) rmX9_connect [.ref (gad G b), .int p0, .int p1] M (QI G r M') := by
  refine con_of pnX9 (Nat.le_of_ble_eq_true rfl) (fun κ C hQ => ?_)
  unfold fX9_connect at h
  refine V_L (L1 := [(0, .ref (gad G b)), (1, .int p0), (2, .int p1)]) rfl ?_
  refine V_aload_n 0 C 0 dX9_connect_0 rfl ?_
  refine V_get (v := .ref (gad G (b + 2))) 1 C dX9_connect_1 (ltl hb rfl) (ceR_X9 hb) rfl inX9 1 rfl wk_1_56 rfl rfl ?_
  refine V_iload_n 4 C 1 dX9_connect_4 rfl ?_
  refine V_aload_n 5 C 0 dX9_connect_5 rfl ?_
  refine V_get (v := .ref (gad G (b + 2))) 6 C dX9_connect_6 (ltl hb rfl) (ceR_X9 hb) rfl inX9 1 rfl wk_1_56 rfl rfl ?_
  refine V_iload_n 9 C 1 dX9_connect_9 rfl ?_
  obtain ⟨r3, M1, k2, h⟩ := bindM_some h
  refine V_callI 10 (runSN (rest := [.int p0, .ref (gad G (b + 2))]) 10 C (kX11_at (akI_20 (ly2_2 hb)) k2) cf_X11_at wk_2_118 rfl rfl dX9_connect_10 rfl rfl (Nat.zero_le _) (Nat.zero_le _)) ?_
  refine V_iload_n 13 C 2 dX9_connect_13 rfl ?_
  obtain ⟨r6, M4, k5, h⟩ := bindM_some h
  refine V_callI 14 (runSN (rest := [.int r3, .int p0, .ref (gad G (b + 2))]) 14 C (kX11_bit  k5) cf_X11_bit wk_2_87 rfl rfl dX9_connect_14 rfl rfl (Nat.zero_le _) (Nat.zero_le _)) ?_
  refine V_ior 17 C dX9_connect_17 ?_
  obtain ⟨M7, k8, h⟩ := bindV_some h
  refine V_callV 18 (runSN (rest := []) 18 C (kX11_put (akI_20 (ly2_2 hb)) k8) cf_X11_put wk_3_184 rfl rfl dX9_connect_18 rfl rfl (Nat.zero_le _) (Nat.zero_le _)) ?_
  refine V_aload_n 21 C 0 dX9_connect_21 rfl ?_
  refine V_get (v := .ref (gad G (b + 2))) 22 C dX9_connect_22 (ltl hb rfl) (ceR_X9 hb) rfl inX9 1 rfl wk_1_56 rfl rfl ?_
  refine V_iload_n 25 C 2 dX9_connect_25 rfl ?_
  refine V_aload_n 26 C 0 dX9_connect_26 rfl ?_
  refine V_get (v := .ref (gad G (b + 2))) 27 C dX9_connect_27 (ltl hb rfl) (ceR_X9 hb) rfl inX9 1 rfl wk_1_56 rfl rfl ?_
  refine V_iload_n 30 C 2 dX9_connect_30 rfl ?_
  obtain ⟨r11, M9, k10, h⟩ := bindM_some h
  refine V_callI 31 (runSN (rest := [.int p1, .ref (gad G (b + 2))]) 31 C (kX11_at (akI_20 (ly2_2 hb)) k10) cf_X11_at wk_2_118 rfl rfl dX9_connect_31 rfl rfl (Nat.zero_le _) (Nat.zero_le _)) ?_
  refine V_iload_n 34 C 1 dX9_connect_34 rfl ?_
  obtain ⟨r14, M12, k13, h⟩ := bindM_some h
  refine V_callI 35 (runSN (rest := [.int r11, .int p1, .ref (gad G (b + 2))]) 35 C (kX11_bit  k13) cf_X11_bit wk_2_87 rfl rfl dX9_connect_35 rfl rfl (Nat.zero_le _) (Nat.zero_le _)) ?_
  refine V_ior 38 C dX9_connect_38 ?_
  obtain ⟨M15, k16, h⟩ := bindV_some h
  refine V_callV 39 (runSN (rest := []) 39 C (kX11_put (akI_20 (ly2_2 hb)) k16) cf_X11_put wk_3_184 rfl rfl dX9_connect_39 rfl rfl (Nat.zero_le _) (Nat.zero_le _)) ?_
  refine V_aload_n 42 C 0 dX9_connect_42 rfl ?_
  refine V_dup 43 C dX9_connect_43 rfl ?_
  refine V_get (v := .int (M15 b 4)) 44 C dX9_connect_44 (ltl hb rfl) (ceR_X9 hb) rfl inX9 4 rfl wk_1_67 rfl rfl ?_
  refine V_iconst 47 C dX9_connect_47 ic1 ?_
  refine V_iadd 48 C dX9_connect_48 ?_
  obtain ⟨M17, e18, h⟩ := letM_some h
  refine V_put (ty := .int) (F := F_X9 G b) 49 C dX9_connect_49 (ltl hb rfl) (fun _ => ceR_X9 hb) rfl inX9 tyX9 tyX9_ok nmX9 4 rfl wk_1_67 rfl rfl ((M15 b 4) + 1) rfl rfl rfl rfl rfl ?_
  refine V_eqM e18 ?_
  refine V_aload_n 52 C 0 dX9_connect_52 rfl ?_
  refine V_get (v := .int (M17 b 4)) 53 C dX9_connect_53 (ltl hb rfl) (ceR_X9 hb) rfl inX9 4 rfl wk_1_67 rfl rfl ?_
  exact V_ireth 56 C hQ h dX9_connect_56
set_option maxHeartbeats 4000000 in
theorem kX9_disconnect {G : GG} {l : Launch} {F : Nat} {b : Nat} (hb : lay b = 2) {p0 : Int32} {p1 : Int32} {M M' : Mem} {r : Int32} (h : fX9_disconnect F b p0 p1 M = some (r, M')) : Con G l yX9_disconnect cX9_disconnect 3 (some .int) rmX9_disconnect [.ref (gad G b), .int p0, .int p1] M (QI G r M') := by
  refine con_of pnX9 (Nat.le_of_ble_eq_true rfl) (fun κ C hQ => ?_)
  unfold fX9_disconnect at h
  refine V_L (L1 := [(0, .ref (gad G b)), (1, .int p0), (2, .int p1)]) rfl ?_
  refine V_aload_n 0 C 0 dX9_disconnect_0 rfl ?_
  refine V_get (v := .ref (gad G (b + 2))) 1 C dX9_disconnect_1 (ltl hb rfl) (ceR_X9 hb) rfl inX9 1 rfl wk_1_56 rfl rfl ?_
  refine V_iload_n 4 C 1 dX9_disconnect_4 rfl ?_
  refine V_aload_n 5 C 0 dX9_disconnect_5 rfl ?_
  refine V_get (v := .ref (gad G (b + 2))) 6 C dX9_disconnect_6 (ltl hb rfl) (ceR_X9 hb) rfl inX9 1 rfl wk_1_56 rfl rfl ?_
  refine V_iload_n 9 C 1 dX9_disconnect_9 rfl ?_
  obtain ⟨r3, M1, k2, h⟩ := bindM_some h
  refine V_callI 10 (runSN (rest := [.int p0, .ref (gad G (b + 2))]) 10 C (kX11_at (akI_20 (ly2_2 hb)) k2) cf_X11_at wk_2_118 rfl rfl dX9_disconnect_10 rfl rfl (Nat.zero_le _) (Nat.zero_le _)) ?_
  refine V_iload_n 13 C 2 dX9_disconnect_13 rfl ?_
  obtain ⟨r6, M4, k5, h⟩ := bindM_some h
  refine V_callI 14 (runSN (rest := [.int r3, .int p0, .ref (gad G (b + 2))]) 14 C (kX11_bit  k5) cf_X11_bit wk_2_87 rfl rfl dX9_disconnect_14 rfl rfl (Nat.zero_le _) (Nat.zero_le _)) ?_
  refine V_iconst 17 C dX9_disconnect_17 icm1 ?_
  refine V_ixor 18 C dX9_disconnect_18 ?_
  refine V_iand 19 C dX9_disconnect_19 ?_
  obtain ⟨M7, k8, h⟩ := bindV_some h
  refine V_callV 20 (runSN (rest := []) 20 C (kX11_put (akI_20 (ly2_2 hb)) k8) cf_X11_put wk_3_184 rfl rfl dX9_disconnect_20 rfl rfl (Nat.zero_le _) (Nat.zero_le _)) ?_
  refine V_aload_n 23 C 0 dX9_disconnect_23 rfl ?_
  refine V_get (v := .ref (gad G (b + 2))) 24 C dX9_disconnect_24 (ltl hb rfl) (ceR_X9 hb) rfl inX9 1 rfl wk_1_56 rfl rfl ?_
  refine V_iload_n 27 C 2 dX9_disconnect_27 rfl ?_
  refine V_aload_n 28 C 0 dX9_disconnect_28 rfl ?_
  refine V_get (v := .ref (gad G (b + 2))) 29 C dX9_disconnect_29 (ltl hb rfl) (ceR_X9 hb) rfl inX9 1 rfl wk_1_56 rfl rfl ?_
  refine V_iload_n 32 C 2 dX9_disconnect_32 rfl ?_
  obtain ⟨r11, M9, k10, h⟩ := bindM_some h
  refine V_callI 33 (runSN (rest := [.int p1, .ref (gad G (b + 2))]) 33 C (kX11_at (akI_20 (ly2_2 hb)) k10) cf_X11_at wk_2_118 rfl rfl dX9_disconnect_33 rfl rfl (Nat.zero_le _) (Nat.zero_le _)) ?_
  refine V_iload_n 36 C 1 dX9_disconnect_36 rfl ?_
  obtain ⟨r14, M12, k13, h⟩ := bindM_some h
  refine V_callI 37 (runSN (rest := [.int r11, .int p1, .ref (gad G (b + 2))]) 37 C (kX11_bit  k13) cf_X11_bit wk_2_87 rfl rfl dX9_disconnect_37 rfl rfl (Nat.zero_le _) (Nat.zero_le _)) ?_
  refine V_iconst 40 C dX9_disconnect_40 icm1 ?_
  refine V_ixor 41 C dX9_disconnect_41 ?_
  refine V_iand 42 C dX9_disconnect_42 ?_
  obtain ⟨M15, k16, h⟩ := bindV_some h
  refine V_callV 43 (runSN (rest := []) 43 C (kX11_put (akI_20 (ly2_2 hb)) k16) cf_X11_put wk_3_184 rfl rfl dX9_disconnect_43 rfl rfl (Nat.zero_le _) (Nat.zero_le _)) ?_
  refine V_aload_n 46 C 0 dX9_disconnect_46 rfl ?_
  refine V_dup 47 C dX9_disconnect_47 rfl ?_
  refine V_get (v := .int (M15 b 4)) 48 C dX9_disconnect_48 (ltl hb rfl) (ceR_X9 hb) rfl inX9 4 rfl wk_1_67 rfl rfl ?_
  refine V_iconst 51 C dX9_disconnect_51 ic1 ?_
  refine V_isub 52 C dX9_disconnect_52 ?_
  obtain ⟨M17, e18, h⟩ := letM_some h
  refine V_put (ty := .int) (F := F_X9 G b) 53 C dX9_disconnect_53 (ltl hb rfl) (fun _ => ceR_X9 hb) rfl inX9 tyX9 tyX9_ok nmX9 4 rfl wk_1_67 rfl rfl ((M15 b 4) - 1) rfl rfl rfl rfl rfl ?_
  refine V_eqM e18 ?_
  refine V_aload_n 56 C 0 dX9_disconnect_56 rfl ?_
  refine V_get (v := .int (M17 b 4)) 57 C dX9_disconnect_57 (ltl hb rfl) (ceR_X9 hb) rfl inX9 4 rfl wk_1_67 rfl rfl ?_
  exact V_ireth 60 C hQ h dX9_disconnect_60
set_option maxHeartbeats 4000000 in
theorem kX9_replaceBlind {G : GG} {l : Launch} {F : Nat} {b : Nat} (hb : lay b = 2) {p0 : Int32} {M M' : Mem} {r : Int32} (h : fX9_replaceBlind F b p0 M = some (r, M')) : Con G l yX9_replaceBlind cX9_replaceBlind 2 (some .int) rmX9_replaceBlind [.ref (gad G b), .int p0] M (QI G r M') := by
  refine con_of pnX9 (Nat.le_of_ble_eq_true rfl) (fun κ C hQ => ?_)
  unfold fX9_replaceBlind at h
  refine V_L (L1 := [(0, .ref (gad G b)), (1, .int p0)]) rfl ?_
  refine V_aload_n 0 C 0 dX9_replaceBlind_0 rfl ?_
  refine V_iload_n 1 C 1 dX9_replaceBlind_1 rfl ?_
  obtain ⟨M1, e2, h⟩ := letM_some h
  refine V_put (ty := .int) (F := F_X9 G b) 2 C dX9_replaceBlind_2 (ltl hb rfl) (fun _ => ceR_X9 hb) rfl inX9 tyX9 tyX9_ok nmX9 2 rfl wk_1_58 rfl rfl p0 rfl rfl rfl rfl rfl ?_
  refine V_eqM e2 ?_
  refine V_aload_n 5 C 0 dX9_replaceBlind_5 rfl ?_
  refine V_get (v := .int (M1 b 2)) 6 C dX9_replaceBlind_6 (ltl hb rfl) (ceR_X9 hb) rfl inX9 2 rfl wk_1_58 rfl rfl ?_
  refine V_bc 9 C dX9_replaceBlind_9 wk_3_200 rfl rfl ?_
  exact V_ireth 12 C hQ h dX9_replaceBlind_12
set_option maxHeartbeats 4000000 in
theorem kX3_carryOut {G : GG} {l : Launch} {F : Nat} {b : Nat} (hb : lay b = 1) {p0 : Nat} (hp0 : p0 < 11) {p1 : Int32} {p2 : Int32} {M M' : Mem} {r : Int32} (h : fX3_carryOut F b p0 p1 p2 M = some (r, M')) : Con G l yX3_carryOut cX3_carryOut 4 (some .int) rmX3_carryOut [.ref (gad G b), .ref (gv G p0), .int p1, .int p2] M (QI G r M') := by
  refine con_of pnX3 (Nat.le_of_ble_eq_true rfl) (fun κ C hQ => ?_)
  unfold fX3_carryOut at h
  refine V_L (L1 := [(0, .ref (gad G b)), (1, .ref (gv G p0)), (2, .int p1), (3, .int p2)]) rfl ?_
  rcases cases11 hp0 with rfl | rfl | rfl | rfl | rfl | rfl | rfl | rfl | rfl | rfl | rfl
  · try dsimp only at h
    refine V_gsm0 0 C dX3_carryOut_0 wk_2_215 ?_
    refine V_aload_n 3 C 1 dX3_carryOut_3 rfl ?_
    refine V_ordv 4 C dX3_carryOut_4 0 rfl wk_2_217 rfl rfl ?_
    refine V_smap0 7 C dX3_carryOut_7 (by decide) (v := 1) rfl ?_
    refine V_tswIn 8 64 C dX3_carryOut_8 (by decide) (by decide) rfl (by decide) ?_
    refine V_aload_n 64 C 0 dX3_carryOut_64 rfl ?_
    refine V_dup 65 C dX3_carryOut_65 rfl ?_
    refine V_get (v := .int (M b 6)) 66 C dX3_carryOut_66 (ltl hb rfl) (ceR_X3 hb) rfl inX3 6 rfl wk_1_153 rfl rfl ?_
    refine V_iload_n 69 C 2 dX3_carryOut_69 rfl ?_
    refine V_iadd 70 C dX3_carryOut_70 ?_
    obtain ⟨M1, e2, h⟩ := letM_some h
    refine V_put (ty := .int) (F := F_X3 G b) 71 C dX3_carryOut_71 (ltl hb rfl) (fun _ => ceR_X3 hb) rfl inX3 tyX3 tyX3_ok nmX3 6 rfl wk_1_153 rfl rfl ((M b 6) + p1) rfl rfl rfl rfl rfl ?_
    refine V_eqM e2 ?_
    refine V_aload_n 74 C 0 dX3_carryOut_74 rfl ?_
    refine V_get (v := .ref (gad G (b + 1))) 75 C dX3_carryOut_75 (ltl hb rfl) (ceR_X3 hb) rfl inX3 0 rfl wk_1_139 rfl rfl ?_
    refine V_iload_n 78 C 2 dX3_carryOut_78 rfl ?_
    obtain ⟨r5, M3, k4, h⟩ := bindM_some h
    refine V_callI 79 (runVN (k := (b + 1)) (rest := []) 79 C (kX9_add (ly1_1 hb) k4) cf_X9_add wk_3_180 (ltl (ly1_1 hb) rfl) (ceR_X9 (ly1_1 hb)) rfl rfl rfl rfl dX3_carryOut_79 rfl rfl (Nat.zero_le _) (Nat.zero_le _)) ?_
    exact V_ireth 82 C hQ h dX3_carryOut_82
  · try dsimp only at h
    refine V_gsm0 0 C dX3_carryOut_0 wk_2_215 ?_
    refine V_aload_n 3 C 1 dX3_carryOut_3 rfl ?_
    refine V_ordv 4 C dX3_carryOut_4 1 rfl wk_2_217 rfl rfl ?_
    refine V_smap0 7 C dX3_carryOut_7 (by decide) (v := 2) rfl ?_
    refine V_tswIn 8 83 C dX3_carryOut_8 (by decide) (by decide) rfl (by decide) ?_
    refine V_aload_n 83 C 0 dX3_carryOut_83 rfl ?_
    refine V_get (v := .ref (gad G (b + 1))) 84 C dX3_carryOut_84 (ltl hb rfl) (ceR_X3 hb) rfl inX3 0 rfl wk_1_139 rfl rfl ?_
    refine V_iload_n 87 C 2 dX3_carryOut_87 rfl ?_
    refine V_iload_n 88 C 3 dX3_carryOut_88 rfl ?_
    obtain ⟨r8, M6, k7, h⟩ := bindM_some h
    refine V_callI 89 (runVN (k := (b + 1)) (rest := []) 89 C (kX9_connect (ly1_1 hb) k7) cf_X9_connect wk_3_187 (ltl (ly1_1 hb) rfl) (ceR_X9 (ly1_1 hb)) rfl rfl rfl rfl dX3_carryOut_89 rfl rfl (Nat.zero_le _) (Nat.zero_le _)) ?_
    exact V_ireth 92 C hQ h dX3_carryOut_92
  · try dsimp only at h
    refine V_gsm0 0 C dX3_carryOut_0 wk_2_215 ?_
    refine V_aload_n 3 C 1 dX3_carryOut_3 rfl ?_
    refine V_ordv 4 C dX3_carryOut_4 2 rfl wk_2_217 rfl rfl ?_
    refine V_smap0 7 C dX3_carryOut_7 (by decide) (v := 3) rfl ?_
    refine V_tswIn 8 93 C dX3_carryOut_8 (by decide) (by decide) rfl (by decide) ?_
    refine V_aload_n 93 C 0 dX3_carryOut_93 rfl ?_
    refine V_get (v := .ref (gad G (b + 1))) 94 C dX3_carryOut_94 (ltl hb rfl) (ceR_X3 hb) rfl inX3 0 rfl wk_1_139 rfl rfl ?_
    refine V_iload_n 97 C 2 dX3_carryOut_97 rfl ?_
    refine V_iload_n 98 C 3 dX3_carryOut_98 rfl ?_
    obtain ⟨r11, M9, k10, h⟩ := bindM_some h
    refine V_callI 99 (runVN (k := (b + 1)) (rest := []) 99 C (kX9_disconnect (ly1_1 hb) k10) cf_X9_disconnect wk_3_191 (ltl (ly1_1 hb) rfl) (ceR_X9 (ly1_1 hb)) rfl rfl rfl rfl dX3_carryOut_99 rfl rfl (Nat.zero_le _) (Nat.zero_le _)) ?_
    exact V_ireth 102 C hQ h dX3_carryOut_102
  · try dsimp only at h
    refine V_gsm0 0 C dX3_carryOut_0 wk_2_215 ?_
    refine V_aload_n 3 C 1 dX3_carryOut_3 rfl ?_
    refine V_ordv 4 C dX3_carryOut_4 3 rfl wk_2_217 rfl rfl ?_
    refine V_smap0 7 C dX3_carryOut_7 (by decide) (v := 4) rfl ?_
    refine V_tswIn 8 103 C dX3_carryOut_8 (by decide) (by decide) rfl (by decide) ?_
    refine V_aload_n 103 C 0 dX3_carryOut_103 rfl ?_
    refine V_get (v := .ref (gad G (b + 1))) 104 C dX3_carryOut_104 (ltl hb rfl) (ceR_X3 hb) rfl inX3 0 rfl wk_1_139 rfl rfl ?_
    refine V_aload_n 107 C 0 dX3_carryOut_107 rfl ?_
    refine V_get (v := .ref (gad G (b + 1))) 108 C dX3_carryOut_108 (ltl hb rfl) (ceR_X3 hb) rfl inX3 0 rfl wk_1_139 rfl rfl ?_
    refine V_getN (v := .int (M (b + 1) 2)) 111 C dX3_carryOut_111 (ltl (ly1_1 hb) rfl) (ceR_X9 (ly1_1 hb)) rfl inX9 2 rfl wk_1_60 rfl rfl ?_
    refine V_iload_n 114 C 2 dX3_carryOut_114 rfl ?_
    obtain ⟨r14, M12, k13, h⟩ := bindM_some h
    refine V_callI 115 (runSN (rest := [.int (M (b + 1) 2), .ref (gad G (b + 1))]) 115 C (kX11_bit  k13) cf_X11_bit wk_3_195 rfl rfl dX3_carryOut_115 rfl rfl (Nat.zero_le _) (Nat.zero_le _)) ?_
    refine V_ior 118 C dX3_carryOut_118 ?_
    obtain ⟨r17, M15, k16, h⟩ := bindM_some h
    refine V_callI 119 (runVN (k := (b + 1)) (rest := []) 119 C (kX9_replaceBlind (ly1_1 hb) k16) cf_X9_replaceBlind wk_3_196 (ltl (ly1_1 hb) rfl) (ceR_X9 (ly1_1 hb)) rfl rfl rfl rfl dX3_carryOut_119 rfl rfl (Nat.zero_le _) (Nat.zero_le _)) ?_
    exact V_ireth 122 C hQ h dX3_carryOut_122
  · try dsimp only at h
    refine V_gsm0 0 C dX3_carryOut_0 wk_2_215 ?_
    refine V_aload_n 3 C 1 dX3_carryOut_3 rfl ?_
    refine V_ordv 4 C dX3_carryOut_4 4 rfl wk_2_217 rfl rfl ?_
    refine V_smap0 7 C dX3_carryOut_7 (by decide) (v := 5) rfl ?_
    refine V_tswIn 8 123 C dX3_carryOut_8 (by decide) (by decide) rfl (by decide) ?_
    refine V_aload_n 123 C 0 dX3_carryOut_123 rfl ?_
    refine V_get (v := .ref (gad G (b + 1))) 124 C dX3_carryOut_124 (ltl hb rfl) (ceR_X3 hb) rfl inX3 0 rfl wk_1_139 rfl rfl ?_
    refine V_aload_n 127 C 0 dX3_carryOut_127 rfl ?_
    refine V_get (v := .ref (gad G (b + 1))) 128 C dX3_carryOut_128 (ltl hb rfl) (ceR_X3 hb) rfl inX3 0 rfl wk_1_139 rfl rfl ?_
    refine V_getN (v := .int (M (b + 1) 2)) 131 C dX3_carryOut_131 (ltl (ly1_1 hb) rfl) (ceR_X9 (ly1_1 hb)) rfl inX9 2 rfl wk_1_60 rfl rfl ?_
    refine V_iload_n 134 C 2 dX3_carryOut_134 rfl ?_
    obtain ⟨r20, M18, k19, h⟩ := bindM_some h
    refine V_callI 135 (runSN (rest := [.int (M (b + 1) 2), .ref (gad G (b + 1))]) 135 C (kX11_bit  k19) cf_X11_bit wk_3_195 rfl rfl dX3_carryOut_135 rfl rfl (Nat.zero_le _) (Nat.zero_le _)) ?_
    refine V_iconst 138 C dX3_carryOut_138 icm1 ?_
    refine V_ixor 139 C dX3_carryOut_139 ?_
    refine V_iand 140 C dX3_carryOut_140 ?_
    obtain ⟨r23, M21, k22, h⟩ := bindM_some h
    refine V_callI 141 (runVN (k := (b + 1)) (rest := []) 141 C (kX9_replaceBlind (ly1_1 hb) k22) cf_X9_replaceBlind wk_3_196 (ltl (ly1_1 hb) rfl) (ceR_X9 (ly1_1 hb)) rfl rfl rfl rfl dX3_carryOut_141 rfl rfl (Nat.zero_le _) (Nat.zero_le _)) ?_
    exact V_ireth 144 C hQ h dX3_carryOut_144
  · try dsimp only at h
    refine V_gsm0 0 C dX3_carryOut_0 wk_2_215 ?_
    refine V_aload_n 3 C 1 dX3_carryOut_3 rfl ?_
    refine V_ordv 4 C dX3_carryOut_4 5 rfl wk_2_217 rfl rfl ?_
    refine V_smap0 7 C dX3_carryOut_7 (by decide) (v := 6) rfl ?_
    refine V_tswIn 8 145 C dX3_carryOut_8 (by decide) (by decide) rfl (by decide) ?_
    refine V_aload_n 145 C 0 dX3_carryOut_145 rfl ?_
    refine V_dup 146 C dX3_carryOut_146 rfl ?_
    refine V_get (v := .int (M b 6)) 147 C dX3_carryOut_147 (ltl hb rfl) (ceR_X3 hb) rfl inX3 6 rfl wk_1_153 rfl rfl ?_
    refine V_iload_n 150 C 3 dX3_carryOut_150 rfl ?_
    refine V_iadd 151 C dX3_carryOut_151 ?_
    obtain ⟨M24, e25, h⟩ := letM_some h
    refine V_put (ty := .int) (F := F_X3 G b) 152 C dX3_carryOut_152 (ltl hb rfl) (fun _ => ceR_X3 hb) rfl inX3 tyX3 tyX3_ok nmX3 6 rfl wk_1_153 rfl rfl ((M b 6) + p2) rfl rfl rfl rfl rfl ?_
    refine V_eqM e25 ?_
    refine V_aload_n 155 C 0 dX3_carryOut_155 rfl ?_
    refine V_get (v := .ref (gad G (b + 1))) 156 C dX3_carryOut_156 (ltl hb rfl) (ceR_X3 hb) rfl inX3 0 rfl wk_1_139 rfl rfl ?_
    refine V_iload_n 159 C 2 dX3_carryOut_159 rfl ?_
    refine V_iload_n 160 C 3 dX3_carryOut_160 rfl ?_
    obtain ⟨r28, M26, k27, h⟩ := bindM_some h
    refine V_callI 161 (runVN (k := (b + 1)) (rest := []) 161 C (kX9_addGrams (ly1_1 hb) k27) cf_X9_addGrams wk_3_206 (ltl (ly1_1 hb) rfl) (ceR_X9 (ly1_1 hb)) rfl rfl rfl rfl dX3_carryOut_161 rfl rfl (Nat.zero_le _) (Nat.zero_le _)) ?_
    exact V_ireth 164 C hQ h dX3_carryOut_164
  · try dsimp only at h
    refine V_gsm0 0 C dX3_carryOut_0 wk_2_215 ?_
    refine V_aload_n 3 C 1 dX3_carryOut_3 rfl ?_
    refine V_ordv 4 C dX3_carryOut_4 6 rfl wk_2_217 rfl rfl ?_
    refine V_smap0 7 C dX3_carryOut_7 (by decide) (v := 7) rfl ?_
    refine V_tswIn 8 165 C dX3_carryOut_8 (by decide) (by decide) rfl (by decide) ?_
    refine V_aload_n 165 C 0 dX3_carryOut_165 rfl ?_
    refine V_get (v := .ref (gad G (b + 4))) 166 C dX3_carryOut_166 (ltl hb rfl) (ceR_X3 hb) rfl inX3 1 rfl wk_1_142 rfl rfl ?_
    refine V_iload_n 169 C 2 dX3_carryOut_169 rfl ?_
    obtain ⟨r31, M29, k30, h⟩ := bindM_some h
    refine V_callI 170 (runVN (k := (b + 4)) (rest := []) 170 C (kX6_append (ly1_4 hb) k30) cf_X6_append wk_3_210 (ltl (ly1_4 hb) rfl) (ceR_X6 (ly1_4 hb)) rfl rfl rfl rfl dX3_carryOut_170 rfl rfl (Nat.zero_le _) (Nat.zero_le _)) ?_
    exact V_ireth 173 C hQ h dX3_carryOut_173
  · try dsimp only at h
    refine V_gsm0 0 C dX3_carryOut_0 wk_2_215 ?_
    refine V_aload_n 3 C 1 dX3_carryOut_3 rfl ?_
    refine V_ordv 4 C dX3_carryOut_4 7 rfl wk_2_217 rfl rfl ?_
    refine V_smap0 7 C dX3_carryOut_7 (by decide) (v := 8) rfl ?_
    refine V_tswIn 8 174 C dX3_carryOut_8 (by decide) (by decide) rfl (by decide) ?_
    refine V_aload_n 174 C 0 dX3_carryOut_174 rfl ?_
    refine V_get (v := .ref (gad G (b + 4))) 175 C dX3_carryOut_175 (ltl hb rfl) (ceR_X3 hb) rfl inX3 1 rfl wk_1_142 rfl rfl ?_
    refine V_iload_n 178 C 2 dX3_carryOut_178 rfl ?_
    obtain ⟨r34, M32, k33, h⟩ := bindM_some h
    refine V_callI 179 (runVN (k := (b + 4)) (rest := []) 179 C (kX6_remove (ly1_4 hb) k33) cf_X6_remove wk_3_215 (ltl (ly1_4 hb) rfl) (ceR_X6 (ly1_4 hb)) rfl rfl rfl rfl dX3_carryOut_179 rfl rfl (Nat.zero_le _) (Nat.zero_le _)) ?_
    exact V_ireth 182 C hQ h dX3_carryOut_182
  · try dsimp only at h
    refine V_gsm0 0 C dX3_carryOut_0 wk_2_215 ?_
    refine V_aload_n 3 C 1 dX3_carryOut_3 rfl ?_
    refine V_ordv 4 C dX3_carryOut_4 8 rfl wk_2_217 rfl rfl ?_
    refine V_smap0 7 C dX3_carryOut_7 (by decide) (v := 9) rfl ?_
    refine V_tswIn 8 183 C dX3_carryOut_8 (by decide) (by decide) rfl (by decide) ?_
    refine V_aload_n 183 C 0 dX3_carryOut_183 rfl ?_
    refine V_iload_n 184 C 2 dX3_carryOut_184 rfl ?_
    obtain ⟨r37, M35, k36, h⟩ := bindM_some h
    refine V_callI 185 (runVO (k := b) (rest := []) 185 C (kX3_replaceRate hb k36) cf_X3_replaceRate wk_3_220 (ltl hb rfl) (ceR_X3 hb) rfl rfl rfl rfl dX3_carryOut_185 rfl rfl (Nat.zero_le _) (Nat.zero_le _)) ?_
    exact V_ireth 188 C hQ h dX3_carryOut_188
  · try dsimp only at h
    refine V_gsm0 0 C dX3_carryOut_0 wk_2_215 ?_
    refine V_aload_n 3 C 1 dX3_carryOut_3 rfl ?_
    refine V_ordv 4 C dX3_carryOut_4 9 rfl wk_2_217 rfl rfl ?_
    refine V_smap0 7 C dX3_carryOut_7 (by decide) (v := 10) rfl ?_
    refine V_tswIn 8 189 C dX3_carryOut_8 (by decide) (by decide) rfl (by decide) ?_
    refine V_aload_n 189 C 0 dX3_carryOut_189 rfl ?_
    refine V_iload_n 190 C 2 dX3_carryOut_190 rfl ?_
    obtain ⟨r40, M38, k39, h⟩ := bindM_some h
    refine V_callI 191 (runVO (k := b) (rest := []) 191 C (kX3_replaceSeed hb k39) cf_X3_replaceSeed wk_3_224 (ltl hb rfl) (ceR_X3 hb) rfl rfl rfl rfl dX3_carryOut_191 rfl rfl (Nat.zero_le _) (Nat.zero_le _)) ?_
    exact V_ireth 194 C hQ h dX3_carryOut_194
  · try dsimp only at h
    refine V_gsm0 0 C dX3_carryOut_0 wk_2_215 ?_
    refine V_aload_n 3 C 1 dX3_carryOut_3 rfl ?_
    refine V_ordv 4 C dX3_carryOut_4 10 rfl wk_2_217 rfl rfl ?_
    refine V_smap0 7 C dX3_carryOut_7 (by decide) (v := 0) rfl ?_
    refine V_tswOut 8 195 C dX3_carryOut_8 (by decide) (by decide) ?_
    refine V_aload_n 195 C 0 dX3_carryOut_195 rfl ?_
    refine V_iload_n 196 C 2 dX3_carryOut_196 rfl ?_
    obtain ⟨r43, M41, k42, h⟩ := bindM_some h
    refine V_callI 197 (runVO (k := b) (rest := []) 197 C (kX3_letPass hb k42) cf_X3_letPass wk_3_228 (ltl hb rfl) (ceR_X3 hb) rfl rfl rfl rfl dX3_carryOut_197 rfl rfl (Nat.zero_le _) (Nat.zero_le _)) ?_
    exact V_ireth 200 C hQ h dX3_carryOut_200
set_option maxHeartbeats 4000000 in
theorem kX3_detailOf {G : GG} {l : Launch} {F : Nat} {b : Nat} (hb : lay b = 1) {p0 : Nat} (hp0 : p0 < 8) {p1 : Nat} (hp1 : p1 < 11) {p2 : Int32} {M M' : Mem} {r : Int32} (h : fX3_detailOf F b p0 p1 p2 M = some (r, M')) : Con G l yX3_detailOf cX3_detailOf 4 (some .int) rmX3_detailOf [.ref (gad G b), .ref (gr G p0), .ref (gv G p1), .int p2] M (QI G r M') := by
  refine con_of pnX3 (Nat.le_of_ble_eq_true rfl) (fun κ C hQ => ?_)
  unfold fX3_detailOf at h
  refine V_L (L1 := [(0, .ref (gad G b)), (1, .ref (gr G p0)), (2, .ref (gv G p1)), (3, .int p2)]) rfl ?_
  rcases cases8 hp0 with rfl | rfl | rfl | rfl | rfl | rfl | rfl | rfl
  · try dsimp only at h
    refine V_gsm1 0 C dX3_detailOf_0 wk_3_140 ?_
    refine V_aload_n 3 C 1 dX3_detailOf_3 rfl ?_
    refine V_ordr 4 C dX3_detailOf_4 0 rfl wk_3_142 rfl rfl ?_
    refine V_smap1 7 C dX3_detailOf_7 (by decide) (v := 0) rfl ?_
    refine V_tswOut 8 56 C dX3_detailOf_8 (by decide) (by decide) ?_
    refine V_aload_n 56 C 0 dX3_detailOf_56 rfl ?_
    refine V_get (v := .ref (gad G (b + 1))) 57 C dX3_detailOf_57 (ltl hb rfl) (ceR_X3 hb) rfl inX3 0 rfl wk_1_139 rfl rfl ?_
    refine V_getN (v := .int (M (b + 1) 4)) 60 C dX3_detailOf_60 (ltl (ly1_1 hb) rfl) (ceR_X9 (ly1_1 hb)) rfl inX9 4 rfl wk_1_68 rfl rfl ?_
    exact V_ireth 63 C hQ h dX3_detailOf_63
  · try dsimp only at h
    refine V_gsm1 0 C dX3_detailOf_0 wk_3_140 ?_
    refine V_aload_n 3 C 1 dX3_detailOf_3 rfl ?_
    refine V_ordr 4 C dX3_detailOf_4 1 rfl wk_3_142 rfl rfl ?_
    refine V_smap1 7 C dX3_detailOf_7 (by decide) (v := 1) rfl ?_
    refine V_tswIn 8 36 C dX3_detailOf_8 (by decide) (by decide) rfl (by decide) ?_
    refine V_aload_n 36 C 2 dX3_detailOf_36 rfl ?_
    refine V_limN 37 C dX3_detailOf_37 wk_8_199 hp1 ?_
    exact V_ireth 40 C hQ h dX3_detailOf_40
  · try dsimp only at h
    refine V_gsm1 0 C dX3_detailOf_0 wk_3_140 ?_
    refine V_aload_n 3 C 1 dX3_detailOf_3 rfl ?_
    refine V_ordr 4 C dX3_detailOf_4 2 rfl wk_3_142 rfl rfl ?_
    refine V_smap1 7 C dX3_detailOf_7 (by decide) (v := 2) rfl ?_
    refine V_tswIn 8 41 C dX3_detailOf_8 (by decide) (by decide) rfl (by decide) ?_
    refine V_iload_n 41 C 3 dX3_detailOf_41 rfl ?_
    exact V_ireth 42 C hQ h dX3_detailOf_42
  · try dsimp only at h
    refine V_gsm1 0 C dX3_detailOf_0 wk_3_140 ?_
    refine V_aload_n 3 C 1 dX3_detailOf_3 rfl ?_
    refine V_ordr 4 C dX3_detailOf_4 3 rfl wk_3_142 rfl rfl ?_
    refine V_smap1 7 C dX3_detailOf_7 (by decide) (v := 0) rfl ?_
    refine V_tswOut 8 56 C dX3_detailOf_8 (by decide) (by decide) ?_
    refine V_aload_n 56 C 0 dX3_detailOf_56 rfl ?_
    refine V_get (v := .ref (gad G (b + 1))) 57 C dX3_detailOf_57 (ltl hb rfl) (ceR_X3 hb) rfl inX3 0 rfl wk_1_139 rfl rfl ?_
    refine V_getN (v := .int (M (b + 1) 4)) 60 C dX3_detailOf_60 (ltl (ly1_1 hb) rfl) (ceR_X9 (ly1_1 hb)) rfl inX9 4 rfl wk_1_68 rfl rfl ?_
    exact V_ireth 63 C hQ h dX3_detailOf_63
  · try dsimp only at h
    refine V_gsm1 0 C dX3_detailOf_0 wk_3_140 ?_
    refine V_aload_n 3 C 1 dX3_detailOf_3 rfl ?_
    refine V_ordr 4 C dX3_detailOf_4 4 rfl wk_3_142 rfl rfl ?_
    refine V_smap1 7 C dX3_detailOf_7 (by decide) (v := 0) rfl ?_
    refine V_tswOut 8 56 C dX3_detailOf_8 (by decide) (by decide) ?_
    refine V_aload_n 56 C 0 dX3_detailOf_56 rfl ?_
    refine V_get (v := .ref (gad G (b + 1))) 57 C dX3_detailOf_57 (ltl hb rfl) (ceR_X3 hb) rfl inX3 0 rfl wk_1_139 rfl rfl ?_
    refine V_getN (v := .int (M (b + 1) 4)) 60 C dX3_detailOf_60 (ltl (ly1_1 hb) rfl) (ceR_X9 (ly1_1 hb)) rfl inX9 4 rfl wk_1_68 rfl rfl ?_
    exact V_ireth 63 C hQ h dX3_detailOf_63
  · try dsimp only at h
    refine V_gsm1 0 C dX3_detailOf_0 wk_3_140 ?_
    refine V_aload_n 3 C 1 dX3_detailOf_3 rfl ?_
    refine V_ordr 4 C dX3_detailOf_4 5 rfl wk_3_142 rfl rfl ?_
    refine V_smap1 7 C dX3_detailOf_7 (by decide) (v := 3) rfl ?_
    refine V_tswIn 8 43 C dX3_detailOf_8 (by decide) (by decide) rfl (by decide) ?_
    refine V_aload_n 43 C 2 dX3_detailOf_43 rfl ?_
    refine V_gsv 44 C dX3_detailOf_44 3 rfl wk_3_145 ?_
    refine V_acmpne_v 47 54 C dX3_detailOf_47 (by decide) hp1 (by decide) (fun c1 => ?_) (fun c1 => ?_)
    · replace h := ite_f c1 h
      refine V_iconst 54 C dX3_detailOf_54 ic0 ?_
      exact V_ireth 55 C hQ h dX3_detailOf_55
    · replace h := ite_t c1 h
      refine V_iconst 50 C dX3_detailOf_50 ic1 ?_
      refine V_goto 51 55 C dX3_detailOf_51 (by decide) ?_
      exact V_ireth 55 C hQ h dX3_detailOf_55
  · try dsimp only at h
    refine V_gsm1 0 C dX3_detailOf_0 wk_3_140 ?_
    refine V_aload_n 3 C 1 dX3_detailOf_3 rfl ?_
    refine V_ordr 4 C dX3_detailOf_4 6 rfl wk_3_142 rfl rfl ?_
    refine V_smap1 7 C dX3_detailOf_7 (by decide) (v := 0) rfl ?_
    refine V_tswOut 8 56 C dX3_detailOf_8 (by decide) (by decide) ?_
    refine V_aload_n 56 C 0 dX3_detailOf_56 rfl ?_
    refine V_get (v := .ref (gad G (b + 1))) 57 C dX3_detailOf_57 (ltl hb rfl) (ceR_X3 hb) rfl inX3 0 rfl wk_1_139 rfl rfl ?_
    refine V_getN (v := .int (M (b + 1) 4)) 60 C dX3_detailOf_60 (ltl (ly1_1 hb) rfl) (ceR_X9 (ly1_1 hb)) rfl inX9 4 rfl wk_1_68 rfl rfl ?_
    exact V_ireth 63 C hQ h dX3_detailOf_63
  · try dsimp only at h
    refine V_gsm1 0 C dX3_detailOf_0 wk_3_140 ?_
    refine V_aload_n 3 C 1 dX3_detailOf_3 rfl ?_
    refine V_ordr 4 C dX3_detailOf_4 7 rfl wk_3_142 rfl rfl ?_
    refine V_smap1 7 C dX3_detailOf_7 (by decide) (v := 0) rfl ?_
    refine V_tswOut 8 56 C dX3_detailOf_8 (by decide) (by decide) ?_
    refine V_aload_n 56 C 0 dX3_detailOf_56 rfl ?_
    refine V_get (v := .ref (gad G (b + 1))) 57 C dX3_detailOf_57 (ltl hb rfl) (ceR_X3 hb) rfl inX3 0 rfl wk_1_139 rfl rfl ?_
    refine V_getN (v := .int (M (b + 1) 4)) 60 C dX3_detailOf_60 (ltl (ly1_1 hb) rfl) (ceR_X9 (ly1_1 hb)) rfl inX9 4 rfl wk_1_68 rfl rfl ?_
    exact V_ireth 63 C hQ h dX3_detailOf_63
set_option maxHeartbeats 4000000 in
theorem kX11_isWithin {G : GG} {l : Launch} {F : Nat}  {p0 : Int32} {p1 : Int32} {M M' : Mem} {r : Bool} (h : fX11_isWithin F p0 p1 M = some (r, M')) : Con G l yX11_isWithin cX11_isWithin 2 (some .boolean) rmX11_isWithin [.int p0, .int p1] M (QI G (b2i r) M') := by
  refine con_of pnX11 (Nat.le_of_ble_eq_true rfl) (fun κ C hQ => ?_)
  unfold fX11_isWithin at h
  refine V_L (L1 := [(0, .int p0), (1, .int p1)]) rfl ?_
  refine V_iload_n 0 C 0 dX11_isWithin_0 rfl ?_
  refine V_if_lt 1 13 C dX11_isWithin_1 (by decide) (fun c1 => ?_) (fun c1 => ?_)
  · replace h := ite_t c1 h
    refine V_iconst 13 C dX11_isWithin_13 ic0 ?_
    exact V_zreth 14 C hQ h dX11_isWithin_14
  · replace h := ite_f c1 h
    refine V_iload_n 4 C 0 dX11_isWithin_4 rfl ?_
    refine V_iload_n 5 C 1 dX11_isWithin_5 rfl ?_
    refine V_icmp_ge 6 13 C dX11_isWithin_6 (by decide) (fun c2 => ?_) (fun c2 => ?_)
    · replace h := ite_t c2 h
      refine V_iconst 13 C dX11_isWithin_13 ic0 ?_
      exact V_zreth 14 C hQ h dX11_isWithin_14
    · replace h := ite_f c2 h
      refine V_iconst 9 C dX11_isWithin_9 ic1 ?_
      refine V_goto 10 14 C dX11_isWithin_10 (by decide) ?_
      exact V_zreth 14 C hQ h dX11_isWithin_14
set_option maxHeartbeats 4000000 in
theorem kX9_has {G : GG} {l : Launch} {F : Nat} {b : Nat} (hb : lay b = 2) {p0 : Int32} {M M' : Mem} {r : Bool} (h : fX9_has F b p0 M = some (r, M')) : Con G l yX9_has cX9_has 2 (some .boolean) rmX9_has [.ref (gad G b), .int p0] M (QI G (b2i r) M') := by
  refine con_of pnX9 (Nat.le_of_ble_eq_true rfl) (fun κ C hQ => ?_)
  unfold fX9_has at h
  refine V_L (L1 := [(0, .ref (gad G b)), (1, .int p0)]) rfl ?_
  refine V_iload_n 0 C 1 dX9_has_0 rfl ?_
  refine V_aload_n 1 C 0 dX9_has_1 rfl ?_
  refine V_get (v := .int (M b 3)) 2 C dX9_has_2 (ltl hb rfl) (ceR_X9 hb) rfl inX9 3 rfl wk_1_63 rfl rfl ?_
  obtain ⟨r3, M1, k2, h⟩ := bindM_some h
  refine V_callI 5 (runSN (rest := []) 5 C (kX11_isWithin  k2) cf_X11_isWithin wk_3_1 rfl rfl dX9_has_5 rfl rfl (Nat.zero_le _) (Nat.zero_le _)) ?_
  exact V_zreth 8 C hQ h dX9_has_8
set_option maxHeartbeats 4000000 in
theorem kX3_refusalOfBlindness {G : GG} {l : Launch} {F : Nat} {b : Nat} (hb : lay b = 1) {p0 : Int32} {p1 : Bool} {M M' : Mem} {r : Nat} (h : fX3_refusalOfBlindness F b p0 p1 M = some (r, M')) : Con G l yX3_refusalOfBlindness cX3_refusalOfBlindness 3 (some (.object "LarderPatrol$Refusal")) rmX3_refusalOfBlindness [.ref (gad G b), .int p0, .int (b2i p1)] M (QR G (gr G r) M') := by
  refine con_of pnX3 (Nat.le_of_ble_eq_true rfl) (fun κ C hQ => ?_)
  unfold fX3_refusalOfBlindness at h
  refine V_L (L1 := [(0, .ref (gad G b)), (1, .int p0), (2, .int (b2i p1))]) rfl ?_
  refine V_aload_n 0 C 0 dX3_refusalOfBlindness_0 rfl ?_
  refine V_get (v := .ref (gad G (b + 1))) 1 C dX3_refusalOfBlindness_1 (ltl hb rfl) (ceR_X3 hb) rfl inX3 0 rfl wk_1_139 rfl rfl ?_
  refine V_iload_n 4 C 1 dX3_refusalOfBlindness_4 rfl ?_
  obtain ⟨r3, M1, k2, h⟩ := bindM_some h
  refine V_callI 5 (runVN (k := (b + 1)) (rest := []) 5 C (kX9_has (ly1_1 hb) k2) cf_X9_has wk_2_237 (ltl (ly1_1 hb) rfl) (ceR_X9 (ly1_1 hb)) rfl rfl rfl rfl dX3_refusalOfBlindness_5 rfl rfl (Nat.zero_le _) (Nat.zero_le _)) ?_
  refine V_ifne_b 8 15 C dX3_refusalOfBlindness_8 (by decide) (fun c4 => ?_) (fun c4 => ?_)
  · replace h := ite_t c4 h
    refine V_aload_n 15 C 0 dX3_refusalOfBlindness_15 rfl ?_
    refine V_get (v := .ref (gad G (b + 1))) 16 C dX3_refusalOfBlindness_16 (ltl hb rfl) (ceR_X3 hb) rfl inX3 0 rfl wk_1_139 rfl rfl ?_
    refine V_getN (v := .int (M1 (b + 1) 2)) 19 C dX3_refusalOfBlindness_19 (ltl (ly1_1 hb) rfl) (ceR_X9 (ly1_1 hb)) rfl inX9 2 rfl wk_1_60 rfl rfl ?_
    refine V_iload_n 22 C 1 dX3_refusalOfBlindness_22 rfl ?_
    obtain ⟨r7, M5, k6, h⟩ := bindM_some h
    refine V_callI 23 (runSN (rest := []) 23 C (kX11_holds  k6) cf_X11_holds wk_3_24 rfl rfl dX3_refusalOfBlindness_23 rfl rfl (Nat.zero_le _) (Nat.zero_le _)) ?_
    refine V_iload_n 26 C 2 dX3_refusalOfBlindness_26 rfl ?_
    refine V_icmp_ne 27 36 C dX3_refusalOfBlindness_27 (by decide) (fun c8 => ?_) (fun c8 => ?_)
    · replace h := ite_f c8 h
      refine V_gsr 36 C dX3_refusalOfBlindness_36 0 rfl wk_2_231 ?_
      exact V_areth 39 C rfl hQ h dX3_refusalOfBlindness_39
    · replace h := ite_t c8 h
      refine V_gsr 30 C dX3_refusalOfBlindness_30 5 rfl wk_3_25 ?_
      refine V_goto 33 39 C dX3_refusalOfBlindness_33 (by decide) ?_
      exact V_areth 39 C rfl hQ h dX3_refusalOfBlindness_39
  · replace h := ite_f c4 h
    refine V_gsr 11 C dX3_refusalOfBlindness_11 6 rfl wk_3_4 ?_
    exact V_areth 14 C rfl hQ h dX3_refusalOfBlindness_14
set_option maxHeartbeats 4000000 in
theorem kX9_areConnected {G : GG} {l : Launch} {F : Nat} {b : Nat} (hb : lay b = 2) {p0 : Int32} {p1 : Int32} {M M' : Mem} {r : Bool} (h : fX9_areConnected F b p0 p1 M = some (r, M')) : Con G l yX9_areConnected cX9_areConnected 3 (some .boolean) rmX9_areConnected [.ref (gad G b), .int p0, .int p1] M (QI G (b2i r) M') := by
  refine con_of pnX9 (Nat.le_of_ble_eq_true rfl) (fun κ C hQ => ?_)
  unfold fX9_areConnected at h
  refine V_L (L1 := [(0, .ref (gad G b)), (1, .int p0), (2, .int p1)]) rfl ?_
  refine V_aload_n 0 C 0 dX9_areConnected_0 rfl ?_
  refine V_get (v := .ref (gad G (b + 2))) 1 C dX9_areConnected_1 (ltl hb rfl) (ceR_X9 hb) rfl inX9 1 rfl wk_1_56 rfl rfl ?_
  refine V_iload_n 4 C 1 dX9_areConnected_4 rfl ?_
  obtain ⟨r3, M1, k2, h⟩ := bindM_some h
  refine V_callI 5 (runSN (rest := []) 5 C (kX11_at (akI_20 (ly2_2 hb)) k2) cf_X11_at wk_2_118 rfl rfl dX9_areConnected_5 rfl rfl (Nat.zero_le _) (Nat.zero_le _)) ?_
  refine V_iload_n 8 C 2 dX9_areConnected_8 rfl ?_
  obtain ⟨r6, M4, k5, h⟩ := bindM_some h
  refine V_callI 9 (runSN (rest := []) 9 C (kX11_holds  k5) cf_X11_holds wk_2_80 rfl rfl dX9_areConnected_9 rfl rfl (Nat.zero_le _) (Nat.zero_le _)) ?_
  exact V_zreth 12 C hQ h dX9_areConnected_12
set_option maxHeartbeats 4000000 in
theorem kX3_refusalOfCut {G : GG} {l : Launch} {F : Nat} {b : Nat} (hb : lay b = 1) {p0 : Int32} {p1 : Int32} {M M' : Mem} {r : Nat} (h : fX3_refusalOfCut F b p0 p1 M = some (r, M')) : Con G l yX3_refusalOfCut cX3_refusalOfCut 3 (some (.object "LarderPatrol$Refusal")) rmX3_refusalOfCut [.ref (gad G b), .int p0, .int p1] M (QR G (gr G r) M') := by
  refine con_of pnX3 (Nat.le_of_ble_eq_true rfl) (fun κ C hQ => ?_)
  unfold fX3_refusalOfCut at h
  refine V_L (L1 := [(0, .ref (gad G b)), (1, .int p0), (2, .int p1)]) rfl ?_
  refine V_aload_n 0 C 0 dX3_refusalOfCut_0 rfl ?_
  refine V_get (v := .ref (gad G (b + 1))) 1 C dX3_refusalOfCut_1 (ltl hb rfl) (ceR_X3 hb) rfl inX3 0 rfl wk_1_139 rfl rfl ?_
  refine V_iload_n 4 C 1 dX3_refusalOfCut_4 rfl ?_
  obtain ⟨r3, M1, k2, h⟩ := bindM_some h
  refine V_callI 5 (runVN (k := (b + 1)) (rest := []) 5 C (kX9_has (ly1_1 hb) k2) cf_X9_has wk_2_237 (ltl (ly1_1 hb) rfl) (ceR_X9 (ly1_1 hb)) rfl rfl rfl rfl dX3_refusalOfCut_5 rfl rfl (Nat.zero_le _) (Nat.zero_le _)) ?_
  refine V_ifeq_b 8 22 C dX3_refusalOfCut_8 (by decide) (fun c4 => ?_) (fun c4 => ?_)
  · replace h := ite_f c4 h
    refine V_gsr 22 C dX3_refusalOfCut_22 6 rfl wk_3_4 ?_
    exact V_areth 25 C rfl hQ h dX3_refusalOfCut_25
  · replace h := ite_t c4 h
    refine V_aload_n 11 C 0 dX3_refusalOfCut_11 rfl ?_
    refine V_get (v := .ref (gad G (b + 1))) 12 C dX3_refusalOfCut_12 (ltl hb rfl) (ceR_X3 hb) rfl inX3 0 rfl wk_1_139 rfl rfl ?_
    refine V_iload_n 15 C 2 dX3_refusalOfCut_15 rfl ?_
    obtain ⟨r7, M5, k6, h⟩ := bindM_some h
    refine V_callI 16 (runVN (k := (b + 1)) (rest := []) 16 C (kX9_has (ly1_1 hb) k6) cf_X9_has wk_2_237 (ltl (ly1_1 hb) rfl) (ceR_X9 (ly1_1 hb)) rfl rfl rfl rfl dX3_refusalOfCut_16 rfl rfl (Nat.zero_le _) (Nat.zero_le _)) ?_
    refine V_ifne_b 19 26 C dX3_refusalOfCut_19 (by decide) (fun c8 => ?_) (fun c8 => ?_)
    · replace h := ite_t c8 h
      refine V_aload_n 26 C 0 dX3_refusalOfCut_26 rfl ?_
      refine V_get (v := .ref (gad G (b + 1))) 27 C dX3_refusalOfCut_27 (ltl hb rfl) (ceR_X3 hb) rfl inX3 0 rfl wk_1_139 rfl rfl ?_
      refine V_iload_n 30 C 1 dX3_refusalOfCut_30 rfl ?_
      refine V_iload_n 31 C 2 dX3_refusalOfCut_31 rfl ?_
      obtain ⟨r11, M9, k10, h⟩ := bindM_some h
      refine V_callI 32 (runVN (k := (b + 1)) (rest := []) 32 C (kX9_areConnected (ly1_1 hb) k10) cf_X9_areConnected wk_3_8 (ltl (ly1_1 hb) rfl) (ceR_X9 (ly1_1 hb)) rfl rfl rfl rfl dX3_refusalOfCut_32 rfl rfl (Nat.zero_le _) (Nat.zero_le _)) ?_
      refine V_ifeq_b 35 44 C dX3_refusalOfCut_35 (by decide) (fun c12 => ?_) (fun c12 => ?_)
      · replace h := ite_f c12 h
        refine V_gsr 44 C dX3_refusalOfCut_44 4 rfl wk_3_18 ?_
        exact V_areth 47 C rfl hQ h dX3_refusalOfCut_47
      · replace h := ite_t c12 h
        refine V_gsr 38 C dX3_refusalOfCut_38 0 rfl wk_2_231 ?_
        refine V_goto 41 47 C dX3_refusalOfCut_41 (by decide) ?_
        exact V_areth 47 C rfl hQ h dX3_refusalOfCut_47
    · replace h := ite_f c8 h
      refine V_gsr 22 C dX3_refusalOfCut_22 6 rfl wk_3_4 ?_
      exact V_areth 25 C rfl hQ h dX3_refusalOfCut_25
set_option maxHeartbeats 4000000 in
theorem kX3_refusalOfFill {G : GG} {l : Launch} {F : Nat} {b : Nat} (hb : lay b = 1) {p0 : Int32} {p1 : Int32} {M M' : Mem} {r : Nat} (h : fX3_refusalOfFill F b p0 p1 M = some (r, M')) : Con G l yX3_refusalOfFill cX3_refusalOfFill 3 (some (.object "LarderPatrol$Refusal")) rmX3_refusalOfFill [.ref (gad G b), .int p0, .int p1] M (QR G (gr G r) M') := by
  refine con_of pnX3 (Nat.le_of_ble_eq_true rfl) (fun κ C hQ => ?_)
  unfold fX3_refusalOfFill at h
  refine V_L (L1 := [(0, .ref (gad G b)), (1, .int p0), (2, .int p1)]) rfl ?_
  refine V_aload_n 0 C 0 dX3_refusalOfFill_0 rfl ?_
  refine V_get (v := .ref (gad G (b + 1))) 1 C dX3_refusalOfFill_1 (ltl hb rfl) (ceR_X3 hb) rfl inX3 0 rfl wk_1_139 rfl rfl ?_
  refine V_iload_n 4 C 1 dX3_refusalOfFill_4 rfl ?_
  obtain ⟨r3, M1, k2, h⟩ := bindM_some h
  refine V_callI 5 (runVN (k := (b + 1)) (rest := []) 5 C (kX9_has (ly1_1 hb) k2) cf_X9_has wk_2_237 (ltl (ly1_1 hb) rfl) (ceR_X9 (ly1_1 hb)) rfl rfl rfl rfl dX3_refusalOfFill_5 rfl rfl (Nat.zero_le _) (Nat.zero_le _)) ?_
  refine V_ifne_b 8 15 C dX3_refusalOfFill_8 (by decide) (fun c4 => ?_) (fun c4 => ?_)
  · replace h := ite_t c4 h
    refine V_iload_n 15 C 2 dX3_refusalOfFill_15 rfl ?_
    refine V_iconst 16 C dX3_refusalOfFill_16 ic1 ?_
    refine V_icmp_lt 17 26 C dX3_refusalOfFill_17 (by decide) (fun c5 => ?_) (fun c5 => ?_)
    · replace h := ite_t c5 h
      refine V_gsr 26 C dX3_refusalOfFill_26 7 rfl wk_2_227 ?_
      exact V_areth 29 C rfl hQ h dX3_refusalOfFill_29
    · replace h := ite_f c5 h
      refine V_iload_n 20 C 2 dX3_refusalOfFill_20 rfl ?_
      refine V_bipush 21 C dX3_refusalOfFill_21 bp99 ?_
      refine V_icmp_le 23 30 C dX3_refusalOfFill_23 (by decide) (fun c6 => ?_) (fun c6 => ?_)
      · replace h := ite_t c6 h
        refine V_aload_n 30 C 0 dX3_refusalOfFill_30 rfl ?_
        refine V_get (v := .ref (gad G (b + 1))) 31 C dX3_refusalOfFill_31 (ltl hb rfl) (ceR_X3 hb) rfl inX3 0 rfl wk_1_139 rfl rfl ?_
        refine V_getN (v := .ref (gad G (b + 2))) 34 C dX3_refusalOfFill_34 (ltl (ly1_1 hb) rfl) (ceR_X9 (ly1_1 hb)) rfl inX9 0 rfl wk_1_55 rfl rfl ?_
        refine V_iload_n 37 C 1 dX3_refusalOfFill_37 rfl ?_
        obtain ⟨r9, M7, k8, h⟩ := bindM_some h
        refine V_callI 38 (runSN (rest := []) 38 C (kX11_at (akI_20 (ly1_2 hb)) k8) cf_X11_at wk_3_31 rfl rfl dX3_refusalOfFill_38 rfl rfl (Nat.zero_le _) (Nat.zero_le _)) ?_
        refine V_iload_n 41 C 2 dX3_refusalOfFill_41 rfl ?_
        refine V_iadd 42 C dX3_refusalOfFill_42 ?_
        refine V_bipush 43 C dX3_refusalOfFill_43 bp99 ?_
        refine V_icmp_le 45 54 C dX3_refusalOfFill_45 (by decide) (fun c10 => ?_) (fun c10 => ?_)
        · replace h := ite_t c10 h
          refine V_gsr 54 C dX3_refusalOfFill_54 0 rfl wk_2_231 ?_
          exact V_areth 57 C rfl hQ h dX3_refusalOfFill_57
        · replace h := ite_f c10 h
          refine V_gsr 48 C dX3_refusalOfFill_48 1 rfl wk_2_229 ?_
          refine V_goto 51 57 C dX3_refusalOfFill_51 (by decide) ?_
          exact V_areth 57 C rfl hQ h dX3_refusalOfFill_57
      · replace h := ite_f c6 h
        refine V_gsr 26 C dX3_refusalOfFill_26 7 rfl wk_2_227 ?_
        exact V_areth 29 C rfl hQ h dX3_refusalOfFill_29
  · replace h := ite_f c4 h
    refine V_gsr 11 C dX3_refusalOfFill_11 6 rfl wk_3_4 ?_
    exact V_areth 14 C rfl hQ h dX3_refusalOfFill_14
set_option maxHeartbeats 4000000 in
theorem kX3_refusalOfLink {G : GG} {l : Launch} {F : Nat} {b : Nat} (hb : lay b = 1) {p0 : Int32} {p1 : Int32} {M M' : Mem} {r : Nat} (h : fX3_refusalOfLink F b p0 p1 M = some (r, M')) : Con G l yX3_refusalOfLink cX3_refusalOfLink 3 (some (.object "LarderPatrol$Refusal")) rmX3_refusalOfLink [.ref (gad G b), .int p0, .int p1] M (QR G (gr G r) M') := by
  refine con_of pnX3 (Nat.le_of_ble_eq_true rfl) (fun κ C hQ => ?_)
  unfold fX3_refusalOfLink at h
  refine V_L (L1 := [(0, .ref (gad G b)), (1, .int p0), (2, .int p1)]) rfl ?_
  refine V_aload_n 0 C 0 dX3_refusalOfLink_0 rfl ?_
  refine V_get (v := .ref (gad G (b + 1))) 1 C dX3_refusalOfLink_1 (ltl hb rfl) (ceR_X3 hb) rfl inX3 0 rfl wk_1_139 rfl rfl ?_
  refine V_iload_n 4 C 1 dX3_refusalOfLink_4 rfl ?_
  obtain ⟨r3, M1, k2, h⟩ := bindM_some h
  refine V_callI 5 (runVN (k := (b + 1)) (rest := []) 5 C (kX9_has (ly1_1 hb) k2) cf_X9_has wk_2_237 (ltl (ly1_1 hb) rfl) (ceR_X9 (ly1_1 hb)) rfl rfl rfl rfl dX3_refusalOfLink_5 rfl rfl (Nat.zero_le _) (Nat.zero_le _)) ?_
  refine V_ifeq_b 8 22 C dX3_refusalOfLink_8 (by decide) (fun c4 => ?_) (fun c4 => ?_)
  · replace h := ite_f c4 h
    refine V_gsr 22 C dX3_refusalOfLink_22 6 rfl wk_3_4 ?_
    exact V_areth 25 C rfl hQ h dX3_refusalOfLink_25
  · replace h := ite_t c4 h
    refine V_aload_n 11 C 0 dX3_refusalOfLink_11 rfl ?_
    refine V_get (v := .ref (gad G (b + 1))) 12 C dX3_refusalOfLink_12 (ltl hb rfl) (ceR_X3 hb) rfl inX3 0 rfl wk_1_139 rfl rfl ?_
    refine V_iload_n 15 C 2 dX3_refusalOfLink_15 rfl ?_
    obtain ⟨r7, M5, k6, h⟩ := bindM_some h
    refine V_callI 16 (runVN (k := (b + 1)) (rest := []) 16 C (kX9_has (ly1_1 hb) k6) cf_X9_has wk_2_237 (ltl (ly1_1 hb) rfl) (ceR_X9 (ly1_1 hb)) rfl rfl rfl rfl dX3_refusalOfLink_16 rfl rfl (Nat.zero_le _) (Nat.zero_le _)) ?_
    refine V_ifne_b 19 26 C dX3_refusalOfLink_19 (by decide) (fun c8 => ?_) (fun c8 => ?_)
    · replace h := ite_t c8 h
      refine V_iload_n 26 C 1 dX3_refusalOfLink_26 rfl ?_
      refine V_iload_n 27 C 2 dX3_refusalOfLink_27 rfl ?_
      refine V_icmp_ne 28 35 C dX3_refusalOfLink_28 (by decide) (fun c9 => ?_) (fun c9 => ?_)
      · replace h := ite_f c9 h
        refine V_aload_n 35 C 0 dX3_refusalOfLink_35 rfl ?_
        refine V_get (v := .ref (gad G (b + 1))) 36 C dX3_refusalOfLink_36 (ltl hb rfl) (ceR_X3 hb) rfl inX3 0 rfl wk_1_139 rfl rfl ?_
        refine V_iload_n 39 C 1 dX3_refusalOfLink_39 rfl ?_
        refine V_iload_n 40 C 2 dX3_refusalOfLink_40 rfl ?_
        obtain ⟨r12, M10, k11, h⟩ := bindM_some h
        refine V_callI 41 (runVN (k := (b + 1)) (rest := []) 41 C (kX9_areConnected (ly1_1 hb) k11) cf_X9_areConnected wk_3_8 (ltl (ly1_1 hb) rfl) (ceR_X9 (ly1_1 hb)) rfl rfl rfl rfl dX3_refusalOfLink_41 rfl rfl (Nat.zero_le _) (Nat.zero_le _)) ?_
        refine V_ifeq_b 44 51 C dX3_refusalOfLink_44 (by decide) (fun c13 => ?_) (fun c13 => ?_)
        · replace h := ite_f c13 h
          refine V_aload_n 51 C 0 dX3_refusalOfLink_51 rfl ?_
          refine V_get (v := .ref (gad G (b + 1))) 52 C dX3_refusalOfLink_52 (ltl hb rfl) (ceR_X3 hb) rfl inX3 0 rfl wk_1_139 rfl rfl ?_
          refine V_getN (v := .int (M10 (b + 1) 4)) 55 C dX3_refusalOfLink_55 (ltl (ly1_1 hb) rfl) (ceR_X9 (ly1_1 hb)) rfl inX9 4 rfl wk_1_68 rfl rfl ?_
          refine V_bipush 58 C dX3_refusalOfLink_58 bp20 ?_
          refine V_icmp_lt 60 69 C dX3_refusalOfLink_60 (by decide) (fun c14 => ?_) (fun c14 => ?_)
          · replace h := ite_t c14 h
            refine V_gsr 69 C dX3_refusalOfLink_69 0 rfl wk_2_231 ?_
            exact V_areth 72 C rfl hQ h dX3_refusalOfLink_72
          · replace h := ite_f c14 h
            refine V_gsr 63 C dX3_refusalOfLink_63 1 rfl wk_2_229 ?_
            refine V_goto 66 72 C dX3_refusalOfLink_66 (by decide) ?_
            exact V_areth 72 C rfl hQ h dX3_refusalOfLink_72
        · replace h := ite_t c13 h
          refine V_gsr 47 C dX3_refusalOfLink_47 3 rfl wk_3_12 ?_
          exact V_areth 50 C rfl hQ h dX3_refusalOfLink_50
      · replace h := ite_t c9 h
        refine V_gsr 31 C dX3_refusalOfLink_31 2 rfl wk_3_6 ?_
        exact V_areth 34 C rfl hQ h dX3_refusalOfLink_34
    · replace h := ite_f c8 h
      refine V_gsr 22 C dX3_refusalOfLink_22 6 rfl wk_3_4 ?_
      exact V_areth 25 C rfl hQ h dX3_refusalOfLink_25
set_option maxHeartbeats 4000000 in
theorem kX3_refusalOfRange {G : GG} {l : Launch} {F : Nat} {b : Nat} (hb : lay b = 1) {p0 : Int32} {p1 : Int32} {p2 : Int32} {M M' : Mem} {r : Nat} (h : fX3_refusalOfRange F b p0 p1 p2 M = some (r, M')) : Con G l yX3_refusalOfRange cX3_refusalOfRange 4 (some (.object "LarderPatrol$Refusal")) rmX3_refusalOfRange [.ref (gad G b), .int p0, .int p1, .int p2] M (QR G (gr G r) M') := by
  refine con_of pnX3 (Nat.le_of_ble_eq_true rfl) (fun κ C hQ => ?_)
  unfold fX3_refusalOfRange at h
  refine V_L (L1 := [(0, .ref (gad G b)), (1, .int p0), (2, .int p1), (3, .int p2)]) rfl ?_
  refine V_iload_n 0 C 1 dX3_refusalOfRange_0 rfl ?_
  refine V_iload_n 1 C 2 dX3_refusalOfRange_1 rfl ?_
  refine V_icmp_lt 2 10 C dX3_refusalOfRange_2 (by decide) (fun c1 => ?_) (fun c1 => ?_)
  · replace h := ite_t c1 h
    refine V_gsr 10 C dX3_refusalOfRange_10 7 rfl wk_2_227 ?_
    refine V_goto 13 19 C dX3_refusalOfRange_13 (by decide) ?_
    exact V_areth 19 C rfl hQ h dX3_refusalOfRange_19
  · replace h := ite_f c1 h
    refine V_iload_n 5 C 1 dX3_refusalOfRange_5 rfl ?_
    refine V_iload_n 6 C 3 dX3_refusalOfRange_6 rfl ?_
    refine V_icmp_le 7 16 C dX3_refusalOfRange_7 (by decide) (fun c2 => ?_) (fun c2 => ?_)
    · replace h := ite_t c2 h
      refine V_gsr 16 C dX3_refusalOfRange_16 0 rfl wk_2_231 ?_
      exact V_areth 19 C rfl hQ h dX3_refusalOfRange_19
    · replace h := ite_f c2 h
      refine V_gsr 10 C dX3_refusalOfRange_10 7 rfl wk_2_227 ?_
      refine V_goto 13 19 C dX3_refusalOfRange_13 (by decide) ?_
      exact V_areth 19 C rfl hQ h dX3_refusalOfRange_19
set_option maxHeartbeats 4000000 in
theorem kX3_refusalOfShelf {G : GG} {l : Launch} {F : Nat} {b : Nat} (hb : lay b = 1) {p0 : Int32} {M M' : Mem} {r : Nat} (h : fX3_refusalOfShelf F b p0 M = some (r, M')) : Con G l yX3_refusalOfShelf cX3_refusalOfShelf 2 (some (.object "LarderPatrol$Refusal")) rmX3_refusalOfShelf [.ref (gad G b), .int p0] M (QR G (gr G r) M') := by
  refine con_of pnX3 (Nat.le_of_ble_eq_true rfl) (fun κ C hQ => ?_)
  unfold fX3_refusalOfShelf at h
  refine V_L (L1 := [(0, .ref (gad G b)), (1, .int p0)]) rfl ?_
  refine V_iload_n 0 C 1 dX3_refusalOfShelf_0 rfl ?_
  refine V_if_lt 1 10 C dX3_refusalOfShelf_1 (by decide) (fun c1 => ?_) (fun c1 => ?_)
  · replace h := ite_t c1 h
    refine V_gsr 10 C dX3_refusalOfShelf_10 7 rfl wk_2_227 ?_
    exact V_areth 13 C rfl hQ h dX3_refusalOfShelf_13
  · replace h := ite_f c1 h
    refine V_iload_n 4 C 1 dX3_refusalOfShelf_4 rfl ?_
    refine V_bipush 5 C dX3_refusalOfShelf_5 bp99 ?_
    refine V_icmp_le 7 14 C dX3_refusalOfShelf_7 (by decide) (fun c2 => ?_) (fun c2 => ?_)
    · replace h := ite_t c2 h
      refine V_aload_n 14 C 0 dX3_refusalOfShelf_14 rfl ?_
      refine V_get (v := .ref (gad G (b + 1))) 15 C dX3_refusalOfShelf_15 (ltl hb rfl) (ceR_X3 hb) rfl inX3 0 rfl wk_1_139 rfl rfl ?_
      refine V_getN (v := .int (M (b + 1) 3)) 18 C dX3_refusalOfShelf_18 (ltl (ly1_1 hb) rfl) (ceR_X9 (ly1_1 hb)) rfl inX9 3 rfl wk_1_65 rfl rfl ?_
      refine V_bipush 21 C dX3_refusalOfShelf_21 bp12 ?_
      refine V_icmp_lt 23 32 C dX3_refusalOfShelf_23 (by decide) (fun c3 => ?_) (fun c3 => ?_)
      · replace h := ite_t c3 h
        refine V_gsr 32 C dX3_refusalOfShelf_32 0 rfl wk_2_231 ?_
        exact V_areth 35 C rfl hQ h dX3_refusalOfShelf_35
      · replace h := ite_f c3 h
        refine V_gsr 26 C dX3_refusalOfShelf_26 1 rfl wk_2_229 ?_
        refine V_goto 29 35 C dX3_refusalOfShelf_29 (by decide) ?_
        exact V_areth 35 C rfl hQ h dX3_refusalOfShelf_35
    · replace h := ite_f c2 h
      refine V_gsr 10 C dX3_refusalOfShelf_10 7 rfl wk_2_227 ?_
      exact V_areth 13 C rfl hQ h dX3_refusalOfShelf_13
set_option maxHeartbeats 4000000 in
theorem kX3_refusalOfStop {G : GG} {l : Launch} {F : Nat} {b : Nat} (hb : lay b = 1) {p0 : Int32} {M M' : Mem} {r : Nat} (h : fX3_refusalOfStop F b p0 M = some (r, M')) : Con G l yX3_refusalOfStop cX3_refusalOfStop 2 (some (.object "LarderPatrol$Refusal")) rmX3_refusalOfStop [.ref (gad G b), .int p0] M (QR G (gr G r) M') := by
  refine con_of pnX3 (Nat.le_of_ble_eq_true rfl) (fun κ C hQ => ?_)
  unfold fX3_refusalOfStop at h
  refine V_L (L1 := [(0, .ref (gad G b)), (1, .int p0)]) rfl ?_
  refine V_aload_n 0 C 0 dX3_refusalOfStop_0 rfl ?_
  refine V_get (v := .ref (gad G (b + 1))) 1 C dX3_refusalOfStop_1 (ltl hb rfl) (ceR_X3 hb) rfl inX3 0 rfl wk_1_139 rfl rfl ?_
  refine V_iload_n 4 C 1 dX3_refusalOfStop_4 rfl ?_
  obtain ⟨r3, M1, k2, h⟩ := bindM_some h
  refine V_callI 5 (runVN (k := (b + 1)) (rest := []) 5 C (kX9_has (ly1_1 hb) k2) cf_X9_has wk_2_237 (ltl (ly1_1 hb) rfl) (ceR_X9 (ly1_1 hb)) rfl rfl rfl rfl dX3_refusalOfStop_5 rfl rfl (Nat.zero_le _) (Nat.zero_le _)) ?_
  refine V_ifne_b 8 15 C dX3_refusalOfStop_8 (by decide) (fun c4 => ?_) (fun c4 => ?_)
  · replace h := ite_t c4 h
    refine V_aload_n 15 C 0 dX3_refusalOfStop_15 rfl ?_
    refine V_get (v := .ref (gad G (b + 4))) 16 C dX3_refusalOfStop_16 (ltl hb rfl) (ceR_X3 hb) rfl inX3 1 rfl wk_1_142 rfl rfl ?_
    refine V_getN (v := .int (M1 (b + 4) 1)) 19 C dX3_refusalOfStop_19 (ltl (ly1_4 hb) rfl) (ceR_X6 (ly1_4 hb)) rfl inX6 1 rfl wk_1_94 rfl rfl ?_
    refine V_bipush 22 C dX3_refusalOfStop_22 bp10 ?_
    refine V_icmp_lt 24 33 C dX3_refusalOfStop_24 (by decide) (fun c5 => ?_) (fun c5 => ?_)
    · replace h := ite_t c5 h
      refine V_gsr 33 C dX3_refusalOfStop_33 0 rfl wk_2_231 ?_
      exact V_areth 36 C rfl hQ h dX3_refusalOfStop_36
    · replace h := ite_f c5 h
      refine V_gsr 27 C dX3_refusalOfStop_27 1 rfl wk_2_229 ?_
      refine V_goto 30 36 C dX3_refusalOfStop_30 (by decide) ?_
      exact V_areth 36 C rfl hQ h dX3_refusalOfStop_36
  · replace h := ite_f c4 h
    refine V_gsr 11 C dX3_refusalOfStop_11 6 rfl wk_3_4 ?_
    exact V_areth 14 C rfl hQ h dX3_refusalOfStop_14
set_option maxHeartbeats 4000000 in
theorem kX6_hasStop {G : GG} {l : Launch} {F : Nat} {b : Nat} (hb : lay b = 3) {p0 : Int32} {M M' : Mem} {r : Bool} (h : fX6_hasStop F b p0 M = some (r, M')) : Con G l yX6_hasStop cX6_hasStop 2 (some .boolean) rmX6_hasStop [.ref (gad G b), .int p0] M (QI G (b2i r) M') := by
  refine con_of pnX6 (Nat.le_of_ble_eq_true rfl) (fun κ C hQ => ?_)
  unfold fX6_hasStop at h
  refine V_L (L1 := [(0, .ref (gad G b)), (1, .int p0)]) rfl ?_
  refine V_iload_n 0 C 1 dX6_hasStop_0 rfl ?_
  refine V_aload_n 1 C 0 dX6_hasStop_1 rfl ?_
  refine V_get (v := .int (M b 1)) 2 C dX6_hasStop_2 (ltl hb rfl) (ceR_X6 hb) rfl inX6 1 rfl wk_1_92 rfl rfl ?_
  obtain ⟨r3, M1, k2, h⟩ := bindM_some h
  refine V_callI 5 (runSN (rest := []) 5 C (kX11_isWithin  k2) cf_X11_isWithin wk_3_40 rfl rfl dX6_hasStop_5 rfl rfl (Nat.zero_le _) (Nat.zero_le _)) ?_
  exact V_zreth 8 C hQ h dX6_hasStop_8
set_option maxHeartbeats 4000000 in
theorem kX3_refusalOf {G : GG} {l : Launch} {F : Nat} {b : Nat} (hb : lay b = 1) {p0 : Nat} (hp0 : p0 < 11) {p1 : Int32} {p2 : Int32} {M M' : Mem} {r : Nat} (h : fX3_refusalOf F b p0 p1 p2 M = some (r, M')) : Con G l yX3_refusalOf cX3_refusalOf 4 (some (.object "LarderPatrol$Refusal")) rmX3_refusalOf [.ref (gad G b), .ref (gv G p0), .int p1, .int p2] M (QR G (gr G r) M') := by
  refine con_of pnX3 (Nat.le_of_ble_eq_true rfl) (fun κ C hQ => ?_)
  unfold fX3_refusalOf at h
  refine V_L (L1 := [(0, .ref (gad G b)), (1, .ref (gv G p0)), (2, .int p1), (3, .int p2)]) rfl ?_
  rcases cases11 hp0 with rfl | rfl | rfl | rfl | rfl | rfl | rfl | rfl | rfl | rfl | rfl
  · try dsimp only at h
    refine V_gsm0 0 C dX3_refusalOf_0 wk_2_215 ?_
    refine V_aload_n 3 C 1 dX3_refusalOf_3 rfl ?_
    refine V_ordv 4 C dX3_refusalOf_4 0 rfl wk_2_217 rfl rfl ?_
    refine V_smap0 7 C dX3_refusalOf_7 (by decide) (v := 1) rfl ?_
    refine V_tswIn 8 64 C dX3_refusalOf_8 (by decide) (by decide) rfl (by decide) ?_
    refine V_aload_n 64 C 0 dX3_refusalOf_64 rfl ?_
    refine V_iload_n 65 C 2 dX3_refusalOf_65 rfl ?_
    obtain ⟨r3, M1, k2, h⟩ := bindM_some h
    refine V_callR 66 (runVO (k := b) (rest := []) 66 C (kX3_refusalOfShelf hb k2) cf_X3_refusalOfShelf wk_2_223 (ltl hb rfl) (ceR_X3 hb) rfl rfl rfl rfl dX3_refusalOf_66 rfl rfl (Nat.zero_le _) (Nat.zero_le _)) ?_
    exact V_areth 69 C rfl hQ h dX3_refusalOf_69
  · try dsimp only at h
    refine V_gsm0 0 C dX3_refusalOf_0 wk_2_215 ?_
    refine V_aload_n 3 C 1 dX3_refusalOf_3 rfl ?_
    refine V_ordv 4 C dX3_refusalOf_4 1 rfl wk_2_217 rfl rfl ?_
    refine V_smap0 7 C dX3_refusalOf_7 (by decide) (v := 2) rfl ?_
    refine V_tswIn 8 70 C dX3_refusalOf_8 (by decide) (by decide) rfl (by decide) ?_
    refine V_aload_n 70 C 0 dX3_refusalOf_70 rfl ?_
    refine V_iload_n 71 C 2 dX3_refusalOf_71 rfl ?_
    refine V_iload_n 72 C 3 dX3_refusalOf_72 rfl ?_
    obtain ⟨r6, M4, k5, h⟩ := bindM_some h
    refine V_callR 73 (runVO (k := b) (rest := []) 73 C (kX3_refusalOfLink hb k5) cf_X3_refusalOfLink wk_2_233 (ltl hb rfl) (ceR_X3 hb) rfl rfl rfl rfl dX3_refusalOf_73 rfl rfl (Nat.zero_le _) (Nat.zero_le _)) ?_
    exact V_areth 76 C rfl hQ h dX3_refusalOf_76
  · try dsimp only at h
    refine V_gsm0 0 C dX3_refusalOf_0 wk_2_215 ?_
    refine V_aload_n 3 C 1 dX3_refusalOf_3 rfl ?_
    refine V_ordv 4 C dX3_refusalOf_4 2 rfl wk_2_217 rfl rfl ?_
    refine V_smap0 7 C dX3_refusalOf_7 (by decide) (v := 3) rfl ?_
    refine V_tswIn 8 77 C dX3_refusalOf_8 (by decide) (by decide) rfl (by decide) ?_
    refine V_aload_n 77 C 0 dX3_refusalOf_77 rfl ?_
    refine V_iload_n 78 C 2 dX3_refusalOf_78 rfl ?_
    refine V_iload_n 79 C 3 dX3_refusalOf_79 rfl ?_
    obtain ⟨r9, M7, k8, h⟩ := bindM_some h
    refine V_callR 80 (runVO (k := b) (rest := []) 80 C (kX3_refusalOfCut hb k8) cf_X3_refusalOfCut wk_3_14 (ltl hb rfl) (ceR_X3 hb) rfl rfl rfl rfl dX3_refusalOf_80 rfl rfl (Nat.zero_le _) (Nat.zero_le _)) ?_
    exact V_areth 83 C rfl hQ h dX3_refusalOf_83
  · try dsimp only at h
    refine V_gsm0 0 C dX3_refusalOf_0 wk_2_215 ?_
    refine V_aload_n 3 C 1 dX3_refusalOf_3 rfl ?_
    refine V_ordv 4 C dX3_refusalOf_4 3 rfl wk_2_217 rfl rfl ?_
    refine V_smap0 7 C dX3_refusalOf_7 (by decide) (v := 4) rfl ?_
    refine V_tswIn 8 84 C dX3_refusalOf_8 (by decide) (by decide) rfl (by decide) ?_
    refine V_aload_n 84 C 0 dX3_refusalOf_84 rfl ?_
    refine V_iload_n 85 C 2 dX3_refusalOf_85 rfl ?_
    refine V_iconst 86 C dX3_refusalOf_86 ic1 ?_
    obtain ⟨r12, M10, k11, h⟩ := bindM_some h
    refine V_callR 87 (runVO (k := b) (rest := []) 87 C (kX3_refusalOfBlindness hb k11) cf_X3_refusalOfBlindness wk_3_20 (ltl hb rfl) (ceR_X3 hb) rfl rfl rfl rfl dX3_refusalOf_87 rfl rfl (Nat.zero_le _) (Nat.zero_le _)) ?_
    exact V_areth 90 C rfl hQ h dX3_refusalOf_90
  · try dsimp only at h
    refine V_gsm0 0 C dX3_refusalOf_0 wk_2_215 ?_
    refine V_aload_n 3 C 1 dX3_refusalOf_3 rfl ?_
    refine V_ordv 4 C dX3_refusalOf_4 4 rfl wk_2_217 rfl rfl ?_
    refine V_smap0 7 C dX3_refusalOf_7 (by decide) (v := 5) rfl ?_
    refine V_tswIn 8 91 C dX3_refusalOf_8 (by decide) (by decide) rfl (by decide) ?_
    refine V_aload_n 91 C 0 dX3_refusalOf_91 rfl ?_
    refine V_iload_n 92 C 2 dX3_refusalOf_92 rfl ?_
    refine V_iconst 93 C dX3_refusalOf_93 ic0 ?_
    obtain ⟨r15, M13, k14, h⟩ := bindM_some h
    refine V_callR 94 (runVO (k := b) (rest := []) 94 C (kX3_refusalOfBlindness hb k14) cf_X3_refusalOfBlindness wk_3_20 (ltl hb rfl) (ceR_X3 hb) rfl rfl rfl rfl dX3_refusalOf_94 rfl rfl (Nat.zero_le _) (Nat.zero_le _)) ?_
    exact V_areth 97 C rfl hQ h dX3_refusalOf_97
  · try dsimp only at h
    refine V_gsm0 0 C dX3_refusalOf_0 wk_2_215 ?_
    refine V_aload_n 3 C 1 dX3_refusalOf_3 rfl ?_
    refine V_ordv 4 C dX3_refusalOf_4 5 rfl wk_2_217 rfl rfl ?_
    refine V_smap0 7 C dX3_refusalOf_7 (by decide) (v := 6) rfl ?_
    refine V_tswIn 8 98 C dX3_refusalOf_8 (by decide) (by decide) rfl (by decide) ?_
    refine V_aload_n 98 C 0 dX3_refusalOf_98 rfl ?_
    refine V_iload_n 99 C 2 dX3_refusalOf_99 rfl ?_
    refine V_iload_n 100 C 3 dX3_refusalOf_100 rfl ?_
    obtain ⟨r18, M16, k17, h⟩ := bindM_some h
    refine V_callR 101 (runVO (k := b) (rest := []) 101 C (kX3_refusalOfFill hb k17) cf_X3_refusalOfFill wk_3_27 (ltl hb rfl) (ceR_X3 hb) rfl rfl rfl rfl dX3_refusalOf_101 rfl rfl (Nat.zero_le _) (Nat.zero_le _)) ?_
    exact V_areth 104 C rfl hQ h dX3_refusalOf_104
  · try dsimp only at h
    refine V_gsm0 0 C dX3_refusalOf_0 wk_2_215 ?_
    refine V_aload_n 3 C 1 dX3_refusalOf_3 rfl ?_
    refine V_ordv 4 C dX3_refusalOf_4 6 rfl wk_2_217 rfl rfl ?_
    refine V_smap0 7 C dX3_refusalOf_7 (by decide) (v := 7) rfl ?_
    refine V_tswIn 8 105 C dX3_refusalOf_8 (by decide) (by decide) rfl (by decide) ?_
    refine V_aload_n 105 C 0 dX3_refusalOf_105 rfl ?_
    refine V_iload_n 106 C 2 dX3_refusalOf_106 rfl ?_
    obtain ⟨r21, M19, k20, h⟩ := bindM_some h
    refine V_callR 107 (runVO (k := b) (rest := []) 107 C (kX3_refusalOfStop hb k20) cf_X3_refusalOfStop wk_3_32 (ltl hb rfl) (ceR_X3 hb) rfl rfl rfl rfl dX3_refusalOf_107 rfl rfl (Nat.zero_le _) (Nat.zero_le _)) ?_
    exact V_areth 110 C rfl hQ h dX3_refusalOf_110
  · try dsimp only at h
    refine V_gsm0 0 C dX3_refusalOf_0 wk_2_215 ?_
    refine V_aload_n 3 C 1 dX3_refusalOf_3 rfl ?_
    refine V_ordv 4 C dX3_refusalOf_4 7 rfl wk_2_217 rfl rfl ?_
    refine V_smap0 7 C dX3_refusalOf_7 (by decide) (v := 8) rfl ?_
    refine V_tswIn 8 111 C dX3_refusalOf_8 (by decide) (by decide) rfl (by decide) ?_
    refine V_aload_n 111 C 0 dX3_refusalOf_111 rfl ?_
    refine V_get (v := .ref (gad G (b + 4))) 112 C dX3_refusalOf_112 (ltl hb rfl) (ceR_X3 hb) rfl inX3 1 rfl wk_1_142 rfl rfl ?_
    refine V_iload_n 115 C 2 dX3_refusalOf_115 rfl ?_
    obtain ⟨r24, M22, k23, h⟩ := bindM_some h
    refine V_callI 116 (runVN (k := (b + 4)) (rest := []) 116 C (kX6_hasStop (ly1_4 hb) k23) cf_X6_hasStop wk_3_36 (ltl (ly1_4 hb) rfl) (ceR_X6 (ly1_4 hb)) rfl rfl rfl rfl dX3_refusalOf_116 rfl rfl (Nat.zero_le _) (Nat.zero_le _)) ?_
    refine V_ifeq_b 119 128 C dX3_refusalOf_119 (by decide) (fun c25 => ?_) (fun c25 => ?_)
    · replace h := ite_f c25 h
      refine V_gsr 128 C dX3_refusalOf_128 6 rfl wk_3_4 ?_
      exact V_areth 131 C rfl hQ h dX3_refusalOf_131
    · replace h := ite_t c25 h
      refine V_gsr 122 C dX3_refusalOf_122 0 rfl wk_2_231 ?_
      refine V_goto 125 131 C dX3_refusalOf_125 (by decide) ?_
      exact V_areth 131 C rfl hQ h dX3_refusalOf_131
  · try dsimp only at h
    refine V_gsm0 0 C dX3_refusalOf_0 wk_2_215 ?_
    refine V_aload_n 3 C 1 dX3_refusalOf_3 rfl ?_
    refine V_ordv 4 C dX3_refusalOf_4 8 rfl wk_2_217 rfl rfl ?_
    refine V_smap0 7 C dX3_refusalOf_7 (by decide) (v := 9) rfl ?_
    refine V_tswIn 8 132 C dX3_refusalOf_8 (by decide) (by decide) rfl (by decide) ?_
    refine V_aload_n 132 C 0 dX3_refusalOf_132 rfl ?_
    refine V_iload_n 133 C 2 dX3_refusalOf_133 rfl ?_
    refine V_iconst 134 C dX3_refusalOf_134 ic0 ?_
    refine V_bipush 135 C dX3_refusalOf_135 bp16 ?_
    obtain ⟨r28, M26, k27, h⟩ := bindM_some h
    refine V_callR 137 (runVO (k := b) (rest := []) 137 C (kX3_refusalOfRange hb k27) cf_X3_refusalOfRange wk_3_41 (ltl hb rfl) (ceR_X3 hb) rfl rfl rfl rfl dX3_refusalOf_137 rfl rfl (Nat.zero_le _) (Nat.zero_le _)) ?_
    exact V_areth 140 C rfl hQ h dX3_refusalOf_140
  · try dsimp only at h
    refine V_gsm0 0 C dX3_refusalOf_0 wk_2_215 ?_
    refine V_aload_n 3 C 1 dX3_refusalOf_3 rfl ?_
    refine V_ordv 4 C dX3_refusalOf_4 9 rfl wk_2_217 rfl rfl ?_
    refine V_smap0 7 C dX3_refusalOf_7 (by decide) (v := 10) rfl ?_
    refine V_tswIn 8 141 C dX3_refusalOf_8 (by decide) (by decide) rfl (by decide) ?_
    refine V_aload_n 141 C 0 dX3_refusalOf_141 rfl ?_
    refine V_iload_n 142 C 2 dX3_refusalOf_142 rfl ?_
    refine V_iconst 143 C dX3_refusalOf_143 ic0 ?_
    refine V_sipush 144 C dX3_refusalOf_144 sp1023 ?_
    obtain ⟨r31, M29, k30, h⟩ := bindM_some h
    refine V_callR 147 (runVO (k := b) (rest := []) 147 C (kX3_refusalOfRange hb k30) cf_X3_refusalOfRange wk_3_41 (ltl hb rfl) (ceR_X3 hb) rfl rfl rfl rfl dX3_refusalOf_147 rfl rfl (Nat.zero_le _) (Nat.zero_le _)) ?_
    exact V_areth 150 C rfl hQ h dX3_refusalOf_150
  · try dsimp only at h
    refine V_gsm0 0 C dX3_refusalOf_0 wk_2_215 ?_
    refine V_aload_n 3 C 1 dX3_refusalOf_3 rfl ?_
    refine V_ordv 4 C dX3_refusalOf_4 10 rfl wk_2_217 rfl rfl ?_
    refine V_smap0 7 C dX3_refusalOf_7 (by decide) (v := 0) rfl ?_
    refine V_tswOut 8 151 C dX3_refusalOf_8 (by decide) (by decide) ?_
    refine V_aload_n 151 C 0 dX3_refusalOf_151 rfl ?_
    refine V_iload_n 152 C 2 dX3_refusalOf_152 rfl ?_
    refine V_iconst 153 C dX3_refusalOf_153 ic1 ?_
    refine V_bipush 154 C dX3_refusalOf_154 bp60 ?_
    obtain ⟨r34, M32, k33, h⟩ := bindM_some h
    refine V_callR 156 (runVO (k := b) (rest := []) 156 C (kX3_refusalOfRange hb k33) cf_X3_refusalOfRange wk_3_41 (ltl hb rfl) (ceR_X3 hb) rfl rfl rfl rfl dX3_refusalOf_156 rfl rfl (Nat.zero_le _) (Nat.zero_le _)) ?_
    exact V_areth 159 C rfl hQ h dX3_refusalOf_159
set_option maxHeartbeats 4000000 in
theorem kX11_shelfCount {G : GG} {l : Launch} {F : Nat}   {M M' : Mem} {r : Int32} (h : fX11_shelfCount F  M = some (r, M')) : Con G l yX11_shelfCount cX11_shelfCount 1 (some .int) rmX11_shelfCount [.ref (gad G 0)] M (QI G r M') := by
  refine con_of pnX11 (Nat.le_of_ble_eq_true rfl) (fun κ C hQ => ?_)
  unfold fX11_shelfCount at h
  refine V_L (L1 := [(0, .ref (gad G 0))]) rfl ?_
  refine V_aload_n 0 C 0 dX11_shelfCount_0 rfl ?_
  refine V_get (v := .ref (gad G 1)) 1 C dX11_shelfCount_1 (ltl (by rfl) rfl) (ceR_X11 (by rfl)) rfl inX11 0 rfl wk_2_27 rfl rfl ?_
  refine V_getN (v := .ref (gad G 2)) 4 C dX11_shelfCount_4 (ltl (by rfl) rfl) (ceR_X3 (by rfl)) rfl inX3 0 rfl wk_1_141 rfl rfl ?_
  refine V_getN (v := .int (M 2 3)) 7 C dX11_shelfCount_7 (ltl (by rfl) rfl) (ceR_X9 (by rfl)) rfl inX9 3 rfl wk_1_66 rfl rfl ?_
  exact V_ireth 10 C hQ h dX11_shelfCount_10
set_option maxHeartbeats 4000000 in
theorem kX11_passageCount {G : GG} {l : Launch} {F : Nat}   {M M' : Mem} {r : Int32} (h : fX11_passageCount F  M = some (r, M')) : Con G l yX11_passageCount cX11_passageCount 1 (some .int) rmX11_passageCount [.ref (gad G 0)] M (QI G r M') := by
  refine con_of pnX11 (Nat.le_of_ble_eq_true rfl) (fun κ C hQ => ?_)
  unfold fX11_passageCount at h
  refine V_L (L1 := [(0, .ref (gad G 0))]) rfl ?_
  refine V_aload_n 0 C 0 dX11_passageCount_0 rfl ?_
  refine V_get (v := .ref (gad G 1)) 1 C dX11_passageCount_1 (ltl (by rfl) rfl) (ceR_X11 (by rfl)) rfl inX11 0 rfl wk_2_27 rfl rfl ?_
  refine V_getN (v := .ref (gad G 2)) 4 C dX11_passageCount_4 (ltl (by rfl) rfl) (ceR_X3 (by rfl)) rfl inX3 0 rfl wk_1_141 rfl rfl ?_
  refine V_getN (v := .int (M 2 4)) 7 C dX11_passageCount_7 (ltl (by rfl) rfl) (ceR_X9 (by rfl)) rfl inX9 4 rfl wk_1_69 rfl rfl ?_
  exact V_ireth 10 C hQ h dX11_passageCount_10
set_option maxHeartbeats 4000000 in
theorem vX9_stepsBetween_11 {G : GG} {κ : KK} {F : Nat} {b : Nat} (hb : lay b = 2) (C : Cx G κ cX9_stepsBetween RX9 (some .int) 6 rmX9_stepsBetween) {M' : Mem} {r : Int32} (hQ : HQ G κ (QI G r M') 0 0) {q2 : Int32} {kx : Mem → Option (Int32 × Mem)} (hk : ∀  (M : Mem), kx  M = some (r, M') → V G κ 6 0 0 M 52 [] []) : ∀ (n : Nat) (v3 : Int32) (v4 : Int32) (v5 : Int32) (M : Mem), fX9_stepsBetween_11 F b q2 kx n v3 v4 v5 M = some (r, M') → V G κ 6 0 0 M 11 [(0, .ref (gad G b)), (2, .int q2), (3, .int v3), (4, .int v4), (5, .int v5)] [] := by
  intro n
  induction n with
  | zero => intro v3 v4 v5 M h; rw [fX9_stepsBetween_11] at h; cases h
  | succ n ih =>
    intro v3 v4 v5 M h
    rw [fX9_stepsBetween_11] at h
    refine V_iload 11 C 4 dX9_stepsBetween_11 rfl ?_
    refine V_bipush 13 C dX9_stepsBetween_13 bp12 ?_
    refine V_icmp_ge 15 52 C dX9_stepsBetween_15 (by decide) (fun c4 => ?_) (fun c4 => ?_)
    · replace h := ite_t c4 h
      refine V_sub [] rfl ?_
      exact hk  _ h
    · replace h := ite_f c4 h
      refine V_iload_n 18 C 2 dX9_stepsBetween_18 rfl ?_
      refine V_iload_n 19 C 1 dX9_stepsBetween_19 rfl ?_
      obtain ⟨r7, M5, k6, h⟩ := bindM_some h
      refine V_callI 20 (runSN (rest := []) 20 C (kX11_holds  k6) cf_X11_holds wk_2_80 rfl rfl dX9_stepsBetween_20 rfl rfl (Nat.zero_le _) (Nat.zero_le _)) ?_
      refine V_ifeq_b 23 29 C dX9_stepsBetween_23 (by decide) (fun c8 => ?_) (fun c8 => ?_)
      · replace h := ite_f c8 h
        refine V_aload_n 29 C 0 dX9_stepsBetween_29 rfl ?_
        refine V_iload_n 30 C 2 dX9_stepsBetween_30 rfl ?_
        obtain ⟨r11, M9, k10, h⟩ := bindM_some h
        refine V_callI 31 (runVO (k := b) (rest := []) 31 C (kX9_neighboursOfAll hb k10) cf_X9_neighboursOfAll wk_2_90 (ltl hb rfl) (ceR_X9 hb) rfl rfl rfl rfl dX9_stepsBetween_31 rfl rfl (Nat.zero_le _) (Nat.zero_le _)) ?_
        refine V_iload 34 C 3 dX9_stepsBetween_34 rfl ?_
        refine V_iconst 36 C dX9_stepsBetween_36 icm1 ?_
        refine V_ixor 37 C dX9_stepsBetween_37 ?_
        refine V_iand 38 C dX9_stepsBetween_38 ?_
        obtain ⟨x12, e13, h⟩ := letM_some h
        refine V_top e13 ?_
        refine V_istore_n 39 C [(3, .int x12), (0, .ref (gad G b)), (2, .int q2), (4, .int v4), (5, .int v5)] dX9_stepsBetween_39 rfl rfl rfl ?_
        refine V_iload 40 C 3 dX9_stepsBetween_40 rfl ?_
        refine V_iload_n 42 C 0 dX9_stepsBetween_42 rfl ?_
        refine V_ior 43 C dX9_stepsBetween_43 ?_
        obtain ⟨x14, e15, h⟩ := letM_some h
        refine V_top e15 ?_
        refine V_istore 44 C [(4, .int x14), (3, .int x12), (0, .ref (gad G b)), (2, .int q2), (5, .int v5)] dX9_stepsBetween_44 rfl rfl ?_
        obtain ⟨x16, e17, h⟩ := letM_some h
        refine V_iinc 46 C [(5, .int x16), (4, .int x14), (3, .int x12), (0, .ref (gad G b)), (2, .int q2)] 4 x16 dX9_stepsBetween_46 rfl (by rw [e17]; rfl) rfl rfl ?_
        refine V_goto 49 11 C dX9_stepsBetween_49 (by decide) ?_
        refine V_sub [3, 4, 2, 1, 0] rfl ?_
        exact ih _ _ _ _ h
      · replace h := ite_t c8 h
        refine V_iload 26 C 4 dX9_stepsBetween_26 rfl ?_
        exact V_ireth 28 C hQ h dX9_stepsBetween_28
set_option maxHeartbeats 4000000 in
theorem kX9_stepsBetween {G : GG} {l : Launch} {F : Nat} {b : Nat} (hb : lay b = 2) {p0 : Int32} {p1 : Int32} {M M' : Mem} {r : Int32} (h : fX9_stepsBetween F b p0 p1 M = some (r, M')) : Con G l yX9_stepsBetween cX9_stepsBetween 6 (some .int) rmX9_stepsBetween [.ref (gad G b), .int p0, .int p1] M (QI G r M') := by
  refine con_of pnX9 (Nat.le_of_ble_eq_true rfl) (fun κ C hQ => ?_)
  unfold fX9_stepsBetween at h
  refine V_L (L1 := [(0, .ref (gad G b)), (1, .int p0), (2, .int p1)]) rfl ?_
  refine V_iload_n 0 C 1 dX9_stepsBetween_0 rfl ?_
  obtain ⟨r3, M1, k2, h⟩ := bindM_some h
  refine V_callI 1 (runSN (rest := []) 1 C (kX11_bit  k2) cf_X11_bit wk_2_87 rfl rfl dX9_stepsBetween_1 rfl rfl (Nat.zero_le _) (Nat.zero_le _)) ?_
  refine V_istore_n 4 C [(3, .int r3), (0, .ref (gad G b)), (1, .int p0), (2, .int p1)] dX9_stepsBetween_4 rfl rfl rfl ?_
  refine V_iload_n 5 C 0 dX9_stepsBetween_5 rfl ?_
  refine V_istore 6 C [(4, .int r3), (3, .int r3), (0, .ref (gad G b)), (1, .int p0), (2, .int p1)] dX9_stepsBetween_6 rfl rfl ?_
  refine V_iconst 8 C dX9_stepsBetween_8 ic0 ?_
  refine V_istore 9 C [(5, .int 0), (4, .int r3), (3, .int r3), (0, .ref (gad G b)), (1, .int p0), (2, .int p1)] dX9_stepsBetween_9 rfl rfl ?_
  refine V_sub [3, 5, 2, 1, 0] rfl ?_
  refine vX9_stepsBetween_11 hb C hQ ?_ _ _ _ _ _ h
  intro M18 h
  refine V_iconst 52 C dX9_stepsBetween_52 icm1 ?_
  exact V_ireth 53 C hQ h dX9_stepsBetween_53
set_option maxHeartbeats 4000000 in
theorem kX1_place {G : GG} {l : Launch} {F : Nat} {b : Nat} (hb : lay b = 6) {p0 : Int32} {p1 : Int32} {M M' : Mem} {r : Int32} (h : fX1_place F b p0 p1 M = some (r, M')) : Con G l yX1_place cX1_place 3 (some .int) rmX1_place [.ref (gad G b), .int p0, .int p1] M (QI G r M') := by
  refine con_of pnX1 (Nat.le_of_ble_eq_true rfl) (fun κ C hQ => ?_)
  unfold fX1_place at h
  refine V_L (L1 := [(0, .ref (gad G b)), (1, .int p0), (2, .int p1)]) rfl ?_
  refine V_iload_n 0 C 1 dX1_place_0 rfl ?_
  refine V_bipush 1 C dX1_place_1 bp12 ?_
  refine V_imul 3 C dX1_place_3 ?_
  refine V_iload_n 4 C 2 dX1_place_4 rfl ?_
  refine V_iadd 5 C dX1_place_5 ?_
  exact V_ireth 6 C hQ h dX1_place_6
set_option maxHeartbeats 4000000 in
theorem vX1_improve_10 {G : GG} {κ : KK} {F : Nat} {b : Nat} (hb : lay b = 6) (C : Cx G κ cX1_improve RX1 none 7 rmX1_improve) {M' : Mem}  (hQ : HQ G κ (QV G M') 0 0) {q1 : Int32} {q2 : Int32} {q3 : Int32} {kx : Mem → Option Mem} (hk : ∀  (M : Mem), kx  M = some M' → V G κ 7 0 0 M 89 [(0, .ref (gad G b)), (1, .int q1), (2, .int q2), (3, .int q3)] []) : ∀ (n : Nat) (v4 : Int32) (M : Mem), fX1_improve_10 F b q1 q2 q3 kx n v4 M = some M' → V G κ 7 0 0 M 10 [(0, .ref (gad G b)), (1, .int q1), (2, .int q2), (3, .int q3), (4, .int v4)] [] := by
  intro n
  induction n with
  | zero => intro v4 M h; rw [fX1_improve_10] at h; cases h
  | succ n ih =>
    intro v4 M h
    rw [fX1_improve_10] at h
    refine V_iload 10 C 4 dX1_improve_10 rfl ?_
    refine V_iload_n 12 C 1 dX1_improve_12 rfl ?_
    refine V_icmp_ge 13 89 C dX1_improve_13 (by decide) (fun c2 => ?_) (fun c2 => ?_)
    · replace h := ite_t c2 h
      refine V_sub [0, 1, 2, 3] rfl ?_
      exact hk  _ h
    · replace h := ite_f c2 h
      refine V_aload_n 16 C 0 dX1_improve_16 rfl ?_
      refine V_get (v := .ref (gad G (b + 1))) 17 C dX1_improve_17 (ltl hb rfl) (ceR_X1 hb) rfl inX1 0 rfl wk_1_212 rfl rfl ?_
      refine V_aload_n 20 C 0 dX1_improve_20 rfl ?_
      refine V_iload_n 21 C 3 dX1_improve_21 rfl ?_
      refine V_iload_n 22 C 2 dX1_improve_22 rfl ?_
      obtain ⟨r5, M3, k4, h⟩ := bindM_some h
      refine V_callI 23 (runVO (k := b) (rest := [.ref (gad G (b + 1))]) 23 C (kX1_place hb k4) cf_X1_place wk_4_184 (ltl hb rfl) (ceR_X1 hb) rfl rfl rfl rfl dX1_improve_23 rfl rfl (Nat.zero_le _) (Nat.zero_le _)) ?_
      obtain ⟨r8, M6, k7, h⟩ := bindM_some h
      refine V_callI 26 (runSN (rest := []) 26 C (kX11_at (akI_23 (ly6_1 hb)) k7) cf_X11_at wk_4_193 rfl rfl dX1_improve_26 rfl rfl (Nat.zero_le _) (Nat.zero_le _)) ?_
      refine V_aload_n 29 C 0 dX1_improve_29 rfl ?_
      refine V_get (v := .ref (gad G (b + 1))) 30 C dX1_improve_30 (ltl hb rfl) (ceR_X1 hb) rfl inX1 0 rfl wk_1_212 rfl rfl ?_
      refine V_aload_n 33 C 0 dX1_improve_33 rfl ?_
      refine V_iload_n 34 C 2 dX1_improve_34 rfl ?_
      refine V_iload 35 C 4 dX1_improve_35 rfl ?_
      obtain ⟨r11, M9, k10, h⟩ := bindM_some h
      refine V_callI 37 (runVO (k := b) (rest := [.ref (gad G (b + 1)), .int r8]) 37 C (kX1_place hb k10) cf_X1_place wk_4_184 (ltl hb rfl) (ceR_X1 hb) rfl rfl rfl rfl dX1_improve_37 rfl rfl (Nat.zero_le _) (Nat.zero_le _)) ?_
      obtain ⟨r14, M12, k13, h⟩ := bindM_some h
      refine V_callI 40 (runSN (rest := [.int r8]) 40 C (kX11_at (akI_23 (ly6_1 hb)) k13) cf_X11_at wk_4_193 rfl rfl dX1_improve_40 rfl rfl (Nat.zero_le _) (Nat.zero_le _)) ?_
      refine V_iadd 43 C dX1_improve_43 ?_
      obtain ⟨x15, e16, h⟩ := letM_some h
      refine V_top e16 ?_
      refine V_istore 44 C [(5, .int x15), (0, .ref (gad G b)), (1, .int q1), (2, .int q2), (3, .int q3), (4, .int v4)] dX1_improve_44 rfl rfl ?_
      refine V_aload_n 46 C 1 dX1_improve_46 rfl ?_
      refine V_get (v := .ref (gad G (b + 1))) 47 C dX1_improve_47 (ltl hb rfl) (ceR_X1 hb) rfl inX1 0 rfl wk_1_212 rfl rfl ?_
      refine V_aload_n 50 C 1 dX1_improve_50 rfl ?_
      refine V_iload_n 51 C 4 dX1_improve_51 rfl ?_
      refine V_iload 52 C 5 dX1_improve_52 rfl ?_
      obtain ⟨r19, M17, k18, h⟩ := bindM_some h
      refine V_callI 54 (runVO (k := b) (rest := [.ref (gad G (b + 1))]) 54 C (kX1_place hb k18) cf_X1_place wk_4_184 (ltl hb rfl) (ceR_X1 hb) rfl rfl rfl rfl dX1_improve_54 rfl rfl (Nat.zero_le _) (Nat.zero_le _)) ?_
      obtain ⟨r22, M20, k21, h⟩ := bindM_some h
      refine V_callI 57 (runSN (rest := []) 57 C (kX11_at (akI_23 (ly6_1 hb)) k21) cf_X11_at wk_4_193 rfl rfl dX1_improve_57 rfl rfl (Nat.zero_le _) (Nat.zero_le _)) ?_
      refine V_istore 60 C [(6, .int r22), (5, .int x15), (0, .ref (gad G b)), (1, .int q1), (2, .int q2), (3, .int q3), (4, .int v4)] dX1_improve_60 rfl rfl ?_
      refine V_aload_n 62 C 2 dX1_improve_62 rfl ?_
      refine V_get (v := .ref (gad G (b + 1))) 63 C dX1_improve_63 (ltl hb rfl) (ceR_X1 hb) rfl inX1 0 rfl wk_1_212 rfl rfl ?_
      refine V_aload_n 66 C 2 dX1_improve_66 rfl ?_
      refine V_iload_n 67 C 5 dX1_improve_67 rfl ?_
      refine V_iload 68 C 6 dX1_improve_68 rfl ?_
      obtain ⟨r25, M23, k24, h⟩ := bindM_some h
      refine V_callI 70 (runVO (k := b) (rest := [.ref (gad G (b + 1))]) 70 C (kX1_place hb k24) cf_X1_place wk_4_184 (ltl hb rfl) (ceR_X1 hb) rfl rfl rfl rfl dX1_improve_70 rfl rfl (Nat.zero_le _) (Nat.zero_le _)) ?_
      refine V_iload 73 C 0 dX1_improve_73 rfl ?_
      refine V_iload 75 C 1 dX1_improve_75 rfl ?_
      refine V_mn 77 C dX1_improve_77 wk_4_194 wk_2_182 wk_1_21 wk_2_183 rfl ?_
      obtain ⟨M26, k27, h⟩ := bindV_some h
      refine V_callV 80 (runSN (rest := []) 80 C (kX11_put (akI_23 (ly6_1 hb)) k27) cf_X11_put wk_4_188 rfl rfl dX1_improve_80 rfl rfl (Nat.zero_le _) (Nat.zero_le _)) ?_
      obtain ⟨x28, e29, h⟩ := letM_some h
      refine V_iinc 83 C [(4, .int x28), (6, .int r22), (5, .int x15), (0, .ref (gad G b)), (1, .int q1), (2, .int q2), (3, .int q3)] 6 x28 dX1_improve_83 rfl (by rw [e29]; rfl) rfl rfl ?_
      refine V_goto 86 10 C dX1_improve_86 (by decide) ?_
      refine V_sub [3, 4, 5, 6, 0] rfl ?_
      exact ih _ _ h
set_option maxHeartbeats 4000000 in
theorem vX1_improve_2 {G : GG} {κ : KK} {F : Nat} {b : Nat} (hb : lay b = 6) (C : Cx G κ cX1_improve RX1 none 7 rmX1_improve) {M' : Mem}  (hQ : HQ G κ (QV G M') 0 0) {q1 : Int32} {q2 : Int32} {kx : Mem → Option Mem} (hk : ∀  (M : Mem), kx  M = some M' → V G κ 7 0 0 M 95 [] []) : ∀ (n : Nat) (v3 : Int32) (M : Mem), fX1_improve_2 F b q1 q2 kx n v3 M = some M' → V G κ 7 0 0 M 2 [(0, .ref (gad G b)), (1, .int q1), (2, .int q2), (3, .int v3)] [] := by
  intro n
  induction n with
  | zero => intro v3 M h; rw [fX1_improve_2] at h; cases h
  | succ n ih =>
    intro v3 M h
    rw [fX1_improve_2] at h
    refine V_iload_n 2 C 3 dX1_improve_2 rfl ?_
    refine V_iload_n 3 C 1 dX1_improve_3 rfl ?_
    refine V_icmp_ge 4 95 C dX1_improve_4 (by decide) (fun c1 => ?_) (fun c1 => ?_)
    · replace h := ite_t c1 h
      refine V_sub [] rfl ?_
      exact hk  _ h
    · replace h := ite_f c1 h
      refine V_iconst 7 C dX1_improve_7 ic0 ?_
      refine V_istore 8 C [(4, .int 0), (0, .ref (gad G b)), (1, .int q1), (2, .int q2), (3, .int v3)] dX1_improve_8 rfl rfl ?_
      refine V_sub [1, 2, 3, 4, 0] rfl ?_
      refine vX1_improve_10 hb C hQ ?_ _ _ _ h
      intro M30 h
      obtain ⟨x31, e32, h⟩ := letM_some h
      refine V_iinc 89 C [(3, .int x31), (0, .ref (gad G b)), (1, .int q1), (2, .int q2)] 3 x31 dX1_improve_89 rfl (by rw [e32]; rfl) rfl rfl ?_
      refine V_goto 92 2 C dX1_improve_92 (by decide) ?_
      refine V_sub [1, 2, 3, 0] rfl ?_
      exact ih _ _ h
set_option maxHeartbeats 4000000 in
theorem kX1_improve {G : GG} {l : Launch} {F : Nat} {b : Nat} (hb : lay b = 6) {p0 : Int32} {p1 : Int32} {M M' : Mem}  (h : fX1_improve F b p0 p1 M = some M') : Con G l yX1_improve cX1_improve 7 none rmX1_improve [.ref (gad G b), .int p0, .int p1] M (QV G M') := by
  refine con_of pnX1 (Nat.le_of_ble_eq_true rfl) (fun κ C hQ => ?_)
  unfold fX1_improve at h
  refine V_L (L1 := [(0, .ref (gad G b)), (1, .int p0), (2, .int p1)]) rfl ?_
  refine V_iconst 0 C dX1_improve_0 ic0 ?_
  refine V_istore_n 1 C [(3, .int 0), (0, .ref (gad G b)), (1, .int p0), (2, .int p1)] dX1_improve_1 rfl rfl rfl ?_
  refine V_sub [1, 2, 3, 0] rfl ?_
  refine vX1_improve_2 hb C hQ ?_ _ _ _ h
  intro M33 h
  exact V_vreth 95 C hQ h dX1_improve_95
set_option maxHeartbeats 4000000 in
theorem vX1_start_12 {G : GG} {κ : KK} {F : Nat} {b : Nat} (hb : lay b = 6) {p0 : Nat} (hp0 : lay p0 = 2) (C : Cx G κ cX1_start RX1 none 5 rmX1_start) {M' : Mem}  (hQ : HQ G κ (QV G M') 0 0) {q2 : Int32} {kx : Mem → Option Mem} (hk : ∀  (M : Mem), kx  M = some M' → V G κ 5 0 0 M 68 [(0, .ref (gad G b)), (1, .ref (gad G p0)), (2, .int q2)] []) : ∀ (n : Nat) (v3 : Int32) (M : Mem), fX1_start_12 F b p0 q2 kx n v3 M = some M' → V G κ 5 0 0 M 12 [(0, .ref (gad G b)), (1, .ref (gad G p0)), (2, .int q2), (3, .int v3)] [] := by
  intro n
  induction n with
  | zero => intro v3 M h; rw [fX1_start_12] at h; cases h
  | succ n ih =>
    intro v3 M h
    rw [fX1_start_12] at h
    refine V_iload_n 12 C 3 dX1_start_12 rfl ?_
    refine V_aload_n 13 C 1 dX1_start_13 rfl ?_
    refine V_getN (v := .int (M p0 3)) 14 C dX1_start_14 (ltl hp0 rfl) (ceR_X9 hp0) rfl inX9 3 rfl wk_1_62 rfl rfl ?_
    refine V_icmp_ge 17 68 C dX1_start_17 (by decide) (fun c2 => ?_) (fun c2 => ?_)
    · replace h := ite_t c2 h
      refine V_sub [0, 1, 2] rfl ?_
      exact hk  _ h
    · replace h := ite_f c2 h
      refine V_aload_n 20 C 1 dX1_start_20 rfl ?_
      refine V_iload_n 21 C 2 dX1_start_21 rfl ?_
      refine V_iload_n 22 C 3 dX1_start_22 rfl ?_
      obtain ⟨r5, M3, k4, h⟩ := bindM_some h
      refine V_callI 23 (runVN (k := p0) (rest := []) 23 C (kX9_areConnected hp0 k4) cf_X9_areConnected wk_4_183 (ltl hp0 rfl) (ceR_X9 hp0) rfl rfl rfl rfl dX1_start_23 rfl rfl (Nat.zero_le _) (Nat.zero_le _)) ?_
      refine V_ifeq_b 26 33 C dX1_start_26 (by decide) (fun c6 => ?_) (fun c6 => ?_)
      · replace h := ite_f c6 h
        refine V_sipush 33 C dX1_start_33 sp1000 ?_
        refine V_istore 36 C [(4, .int 1000), (0, .ref (gad G b)), (1, .ref (gad G p0)), (2, .int q2), (3, .int v3)] dX1_start_36 rfl rfl ?_
        refine V_aload_n 38 C 1 dX1_start_38 rfl ?_
        refine V_get (v := .ref (gad G (b + 1))) 39 C dX1_start_39 (ltl hb rfl) (ceR_X1 hb) rfl inX1 0 rfl wk_1_212 rfl rfl ?_
        refine V_aload_n 42 C 1 dX1_start_42 rfl ?_
        refine V_iload_n 43 C 3 dX1_start_43 rfl ?_
        refine V_iload_n 44 C 4 dX1_start_44 rfl ?_
        obtain ⟨r9, M7, k8, h⟩ := bindM_some h
        refine V_callI 45 (runVO (k := b) (rest := [.ref (gad G (b + 1))]) 45 C (kX1_place hb k8) cf_X1_place wk_4_184 (ltl hb rfl) (ceR_X1 hb) rfl rfl rfl rfl dX1_start_45 rfl rfl (Nat.zero_le _) (Nat.zero_le _)) ?_
        refine V_iload_n 48 C 3 dX1_start_48 rfl ?_
        refine V_iload_n 49 C 4 dX1_start_49 rfl ?_
        refine V_icmp_ne 50 57 C dX1_start_50 (by decide) (fun c10 => ?_) (fun c10 => ?_)
        · replace h := ite_f c10 h
          refine V_iload 57 C 0 dX1_start_57 rfl ?_
          obtain ⟨M11, k12, h⟩ := bindV_some h
          refine V_callV 59 (runSN (rest := []) 59 C (kX11_put (akI_23 (ly6_1 hb)) k12) cf_X11_put wk_4_188 rfl rfl dX1_start_59 rfl rfl (Nat.zero_le _) (Nat.zero_le _)) ?_
          obtain ⟨x13, e14, h⟩ := letM_some h
          refine V_iinc 62 C [(3, .int x13), (4, .int 1000), (0, .ref (gad G b)), (1, .ref (gad G p0)), (2, .int q2)] 4 x13 dX1_start_62 rfl (by rw [e14]; rfl) rfl rfl ?_
          refine V_goto 65 12 C dX1_start_65 (by decide) ?_
          refine V_sub [2, 3, 4, 0] rfl ?_
          exact ih _ _ h
        · replace h := ite_t c10 h
          refine V_iconst 53 C dX1_start_53 ic0 ?_
          refine V_goto 54 59 C dX1_start_54 (by decide) ?_
          obtain ⟨M15, k16, h⟩ := bindV_some h
          refine V_callV 59 (runSN (rest := []) 59 C (kX11_put (akI_23 (ly6_1 hb)) k16) cf_X11_put wk_4_188 rfl rfl dX1_start_59 rfl rfl (Nat.zero_le _) (Nat.zero_le _)) ?_
          obtain ⟨x17, e18, h⟩ := letM_some h
          refine V_iinc 62 C [(3, .int x17), (4, .int 1000), (0, .ref (gad G b)), (1, .ref (gad G p0)), (2, .int q2)] 4 x17 dX1_start_62 rfl (by rw [e18]; rfl) rfl rfl ?_
          refine V_goto 65 12 C dX1_start_65 (by decide) ?_
          refine V_sub [2, 3, 4, 0] rfl ?_
          exact ih _ _ h
      · replace h := ite_t c6 h
        refine V_iconst 29 C dX1_start_29 ic1 ?_
        refine V_goto 30 36 C dX1_start_30 (by decide) ?_
        refine V_istore 36 C [(4, .int 1), (0, .ref (gad G b)), (1, .ref (gad G p0)), (2, .int q2), (3, .int v3)] dX1_start_36 rfl rfl ?_
        refine V_aload_n 38 C 1 dX1_start_38 rfl ?_
        refine V_get (v := .ref (gad G (b + 1))) 39 C dX1_start_39 (ltl hb rfl) (ceR_X1 hb) rfl inX1 0 rfl wk_1_212 rfl rfl ?_
        refine V_aload_n 42 C 1 dX1_start_42 rfl ?_
        refine V_iload_n 43 C 3 dX1_start_43 rfl ?_
        refine V_iload_n 44 C 4 dX1_start_44 rfl ?_
        obtain ⟨r21, M19, k20, h⟩ := bindM_some h
        refine V_callI 45 (runVO (k := b) (rest := [.ref (gad G (b + 1))]) 45 C (kX1_place hb k20) cf_X1_place wk_4_184 (ltl hb rfl) (ceR_X1 hb) rfl rfl rfl rfl dX1_start_45 rfl rfl (Nat.zero_le _) (Nat.zero_le _)) ?_
        refine V_iload_n 48 C 3 dX1_start_48 rfl ?_
        refine V_iload_n 49 C 4 dX1_start_49 rfl ?_
        refine V_icmp_ne 50 57 C dX1_start_50 (by decide) (fun c22 => ?_) (fun c22 => ?_)
        · replace h := ite_f c22 h
          refine V_iload 57 C 0 dX1_start_57 rfl ?_
          obtain ⟨M23, k24, h⟩ := bindV_some h
          refine V_callV 59 (runSN (rest := []) 59 C (kX11_put (akI_23 (ly6_1 hb)) k24) cf_X11_put wk_4_188 rfl rfl dX1_start_59 rfl rfl (Nat.zero_le _) (Nat.zero_le _)) ?_
          obtain ⟨x25, e26, h⟩ := letM_some h
          refine V_iinc 62 C [(3, .int x25), (4, .int 1), (0, .ref (gad G b)), (1, .ref (gad G p0)), (2, .int q2)] 4 x25 dX1_start_62 rfl (by rw [e26]; rfl) rfl rfl ?_
          refine V_goto 65 12 C dX1_start_65 (by decide) ?_
          refine V_sub [2, 3, 4, 0] rfl ?_
          exact ih _ _ h
        · replace h := ite_t c22 h
          refine V_iconst 53 C dX1_start_53 ic0 ?_
          refine V_goto 54 59 C dX1_start_54 (by decide) ?_
          obtain ⟨M27, k28, h⟩ := bindV_some h
          refine V_callV 59 (runSN (rest := []) 59 C (kX11_put (akI_23 (ly6_1 hb)) k28) cf_X11_put wk_4_188 rfl rfl dX1_start_59 rfl rfl (Nat.zero_le _) (Nat.zero_le _)) ?_
          obtain ⟨x29, e30, h⟩ := letM_some h
          refine V_iinc 62 C [(3, .int x29), (4, .int 1), (0, .ref (gad G b)), (1, .ref (gad G p0)), (2, .int q2)] 4 x29 dX1_start_62 rfl (by rw [e30]; rfl) rfl rfl ?_
          refine V_goto 65 12 C dX1_start_65 (by decide) ?_
          refine V_sub [2, 3, 4, 0] rfl ?_
          exact ih _ _ h
set_option maxHeartbeats 4000000 in
theorem vX1_start_2 {G : GG} {κ : KK} {F : Nat} {b : Nat} (hb : lay b = 6) {p0 : Nat} (hp0 : lay p0 = 2) (C : Cx G κ cX1_start RX1 none 5 rmX1_start) {M' : Mem}  (hQ : HQ G κ (QV G M') 0 0)  {kx : Mem → Option Mem} (hk : ∀  (M : Mem), kx  M = some M' → V G κ 5 0 0 M 74 [] []) : ∀ (n : Nat) (v2 : Int32) (M : Mem), fX1_start_2 F b p0 kx n v2 M = some M' → V G κ 5 0 0 M 2 [(0, .ref (gad G b)), (1, .ref (gad G p0)), (2, .int v2)] [] := by
  intro n
  induction n with
  | zero => intro v2 M h; rw [fX1_start_2] at h; cases h
  | succ n ih =>
    intro v2 M h
    rw [fX1_start_2] at h
    refine V_iload_n 2 C 2 dX1_start_2 rfl ?_
    refine V_aload_n 3 C 1 dX1_start_3 rfl ?_
    refine V_getN (v := .int (M p0 3)) 4 C dX1_start_4 (ltl hp0 rfl) (ceR_X9 hp0) rfl inX9 3 rfl wk_1_62 rfl rfl ?_
    refine V_icmp_ge 7 74 C dX1_start_7 (by decide) (fun c1 => ?_) (fun c1 => ?_)
    · replace h := ite_t c1 h
      refine V_sub [] rfl ?_
      exact hk  _ h
    · replace h := ite_f c1 h
      refine V_iconst 10 C dX1_start_10 ic0 ?_
      refine V_istore_n 11 C [(3, .int 0), (0, .ref (gad G b)), (1, .ref (gad G p0)), (2, .int v2)] dX1_start_11 rfl rfl rfl ?_
      refine V_sub [1, 2, 3, 0] rfl ?_
      refine vX1_start_12 hb hp0 C hQ ?_ _ _ _ h
      intro M31 h
      obtain ⟨x32, e33, h⟩ := letM_some h
      refine V_iinc 68 C [(2, .int x32), (0, .ref (gad G b)), (1, .ref (gad G p0))] 2 x32 dX1_start_68 rfl (by rw [e33]; rfl) rfl rfl ?_
      refine V_goto 71 2 C dX1_start_71 (by decide) ?_
      refine V_sub [1, 2, 0] rfl ?_
      exact ih _ _ h
set_option maxHeartbeats 4000000 in
theorem kX1_start {G : GG} {l : Launch} {F : Nat} {b : Nat} (hb : lay b = 6) {p0 : Nat} (hp0 : lay p0 = 2)  {M M' : Mem}  (h : fX1_start F b p0 M = some M') : Con G l yX1_start cX1_start 5 none rmX1_start [.ref (gad G b), .ref (gad G p0)] M (QV G M') := by
  refine con_of pnX1 (Nat.le_of_ble_eq_true rfl) (fun κ C hQ => ?_)
  unfold fX1_start at h
  refine V_L (L1 := [(0, .ref (gad G b)), (1, .ref (gad G p0))]) rfl ?_
  refine V_iconst 0 C dX1_start_0 ic0 ?_
  refine V_istore_n 1 C [(2, .int 0), (0, .ref (gad G b)), (1, .ref (gad G p0))] dX1_start_1 rfl rfl rfl ?_
  refine V_sub [1, 2, 0] rfl ?_
  refine vX1_start_2 hb hp0 C hQ ?_ _ _ _ h
  intro M34 h
  exact V_vreth 74 C hQ h dX1_start_74
set_option maxHeartbeats 4000000 in
theorem vX1_stepsBetween_8 {G : GG} {κ : KK} {F : Nat} {b : Nat} (hb : lay b = 6) {p0 : Nat} (hp0 : lay p0 = 2) (C : Cx G κ cX1_stepsBetween RX1 (some .int) 5 rmX1_stepsBetween) {M' : Mem} {r : Int32} (hQ : HQ G κ (QI G r M') 0 0) {q2 : Int32} {q3 : Int32} {kx : Mem → Option (Int32 × Mem)} (hk : ∀  (M : Mem), kx  M = some (r, M') → V G κ 5 0 0 M 33 [(0, .ref (gad G b)), (2, .int q2), (3, .int q3)] []) : ∀ (n : Nat) (v4 : Int32) (M : Mem), fX1_stepsBetween_8 F b p0 q2 q3 kx n v4 M = some (r, M') → V G κ 5 0 0 M 8 [(0, .ref (gad G b)), (1, .ref (gad G p0)), (2, .int q2), (3, .int q3), (4, .int v4)] [] := by
  intro n
  induction n with
  | zero => intro v4 M h; rw [fX1_stepsBetween_8] at h; cases h
  | succ n ih =>
    intro v4 M h
    rw [fX1_stepsBetween_8] at h
    refine V_iload 8 C 4 dX1_stepsBetween_8 rfl ?_
    refine V_aload_n 10 C 1 dX1_stepsBetween_10 rfl ?_
    refine V_getN (v := .int (M p0 3)) 11 C dX1_stepsBetween_11 (ltl hp0 rfl) (ceR_X9 hp0) rfl inX9 3 rfl wk_1_62 rfl rfl ?_
    refine V_icmp_ge 14 33 C dX1_stepsBetween_14 (by decide) (fun c3 => ?_) (fun c3 => ?_)
    · replace h := ite_t c3 h
      refine V_sub [0, 2, 3] rfl ?_
      exact hk  _ h
    · replace h := ite_f c3 h
      refine V_aload_n 17 C 0 dX1_stepsBetween_17 rfl ?_
      refine V_aload_n 18 C 1 dX1_stepsBetween_18 rfl ?_
      refine V_getN (v := .int (M p0 3)) 19 C dX1_stepsBetween_19 (ltl hp0 rfl) (ceR_X9 hp0) rfl inX9 3 rfl wk_1_62 rfl rfl ?_
      refine V_iload 22 C 4 dX1_stepsBetween_22 rfl ?_
      obtain ⟨M4, k5, h⟩ := bindV_some h
      refine V_callV 24 (runVO (k := b) (rest := []) 24 C (kX1_improve hb k5) cf_X1_improve wk_4_189 (ltl hb rfl) (ceR_X1 hb) rfl rfl rfl rfl dX1_stepsBetween_24 rfl rfl (Nat.zero_le _) (Nat.zero_le _)) ?_
      obtain ⟨x6, e7, h⟩ := letM_some h
      refine V_iinc 27 C [(4, .int x6), (0, .ref (gad G b)), (1, .ref (gad G p0)), (2, .int q2), (3, .int q3)] 4 x6 dX1_stepsBetween_27 rfl (by rw [e7]; rfl) rfl rfl ?_
      refine V_goto 30 8 C dX1_stepsBetween_30 (by decide) ?_
      refine V_sub [1, 2, 3, 4, 0] rfl ?_
      exact ih _ _ h
set_option maxHeartbeats 4000000 in
theorem kX1_stepsBetween {G : GG} {l : Launch} {F : Nat} {b : Nat} (hb : lay b = 6) {p0 : Nat} (hp0 : lay p0 = 2) {p1 : Int32} {p2 : Int32} {M M' : Mem} {r : Int32} (h : fX1_stepsBetween F b p0 p1 p2 M = some (r, M')) : Con G l yX1_stepsBetween cX1_stepsBetween 5 (some .int) rmX1_stepsBetween [.ref (gad G b), .ref (gad G p0), .int p1, .int p2] M (QI G r M') := by
  refine con_of pnX1 (Nat.le_of_ble_eq_true rfl) (fun κ C hQ => ?_)
  unfold fX1_stepsBetween at h
  refine V_L (L1 := [(0, .ref (gad G b)), (1, .ref (gad G p0)), (2, .int p1), (3, .int p2)]) rfl ?_
  refine V_aload_n 0 C 0 dX1_stepsBetween_0 rfl ?_
  refine V_aload_n 1 C 1 dX1_stepsBetween_1 rfl ?_
  obtain ⟨M1, k2, h⟩ := bindV_some h
  refine V_callV 2 (runVO (k := b) (rest := []) 2 C (kX1_start hb hp0 k2) cf_X1_start wk_4_179 (ltl hb rfl) (ceR_X1 hb) rfl rfl rfl rfl dX1_stepsBetween_2 rfl rfl (Nat.zero_le _) (Nat.zero_le _)) ?_
  refine V_iconst 5 C dX1_stepsBetween_5 ic0 ?_
  refine V_istore 6 C [(4, .int 0), (0, .ref (gad G b)), (1, .ref (gad G p0)), (2, .int p1), (3, .int p2)] dX1_stepsBetween_6 rfl rfl ?_
  refine V_sub [1, 2, 3, 4, 0] rfl ?_
  refine vX1_stepsBetween_8 hb hp0 C hQ ?_ _ _ _ h
  intro M8 h
  refine V_aload_n 33 C 0 dX1_stepsBetween_33 rfl ?_
  refine V_get (v := .ref (gad G (b + 1))) 34 C dX1_stepsBetween_34 (ltl hb rfl) (ceR_X1 hb) rfl inX1 0 rfl wk_1_212 rfl rfl ?_
  refine V_aload_n 37 C 0 dX1_stepsBetween_37 rfl ?_
  refine V_iload_n 38 C 1 dX1_stepsBetween_38 rfl ?_
  refine V_iload_n 39 C 2 dX1_stepsBetween_39 rfl ?_
  obtain ⟨r11, M9, k10, h⟩ := bindM_some h
  refine V_callI 40 (runVO (k := b) (rest := [.ref (gad G (b + 1))]) 40 C (kX1_place hb k10) cf_X1_place wk_4_184 (ltl hb rfl) (ceR_X1 hb) rfl rfl rfl rfl dX1_stepsBetween_40 rfl rfl (Nat.zero_le _) (Nat.zero_le _)) ?_
  obtain ⟨r14, M12, k13, h⟩ := bindM_some h
  refine V_callI 43 (runSN (rest := []) 43 C (kX11_at (akI_23 (ly6_1 hb)) k13) cf_X11_at wk_4_193 rfl rfl dX1_stepsBetween_43 rfl rfl (Nat.zero_le _) (Nat.zero_le _)) ?_
  exact V_ireth 46 C hQ h dX1_stepsBetween_46
set_option maxHeartbeats 4000000 in
theorem vX9_groupOf_7 {G : GG} {κ : KK} {F : Nat} {b : Nat} (hb : lay b = 2) (C : Cx G κ cX9_groupOf RX9 (some .int) 4 rmX9_groupOf) {M' : Mem} {r : Int32} (hQ : HQ G κ (QI G r M') 0 0)  {kx : Int32 → Mem → Option (Int32 × Mem)} (hk : ∀ (v2 : Int32) (M : Mem), kx v2 M = some (r, M') → V G κ 4 0 0 M 27 [(2, .int v2)] []) : ∀ (n : Nat) (v2 : Int32) (v3 : Int32) (M : Mem), fX9_groupOf_7 F b kx n v2 v3 M = some (r, M') → V G κ 4 0 0 M 7 [(0, .ref (gad G b)), (2, .int v2), (3, .int v3)] [] := by
  intro n
  induction n with
  | zero => intro v2 v3 M h; rw [fX9_groupOf_7] at h; cases h
  | succ n ih =>
    intro v2 v3 M h
    rw [fX9_groupOf_7] at h
    refine V_iload_n 7 C 2 dX9_groupOf_7 rfl ?_
    refine V_bipush 8 C dX9_groupOf_8 bp12 ?_
    refine V_icmp_ge 10 27 C dX9_groupOf_10 (by decide) (fun c4 => ?_) (fun c4 => ?_)
    · replace h := ite_t c4 h
      refine V_sub [1] rfl ?_
      exact hk _ _ h
    · replace h := ite_f c4 h
      refine V_iload_n 13 C 1 dX9_groupOf_13 rfl ?_
      refine V_aload_n 14 C 0 dX9_groupOf_14 rfl ?_
      refine V_iload_n 15 C 1 dX9_groupOf_15 rfl ?_
      obtain ⟨r7, M5, k6, h⟩ := bindM_some h
      refine V_callI 16 (runVO (k := b) (rest := [.int v2]) 16 C (kX9_neighboursOfAll hb k6) cf_X9_neighboursOfAll wk_2_90 (ltl hb rfl) (ceR_X9 hb) rfl rfl rfl rfl dX9_groupOf_16 rfl rfl (Nat.zero_le _) (Nat.zero_le _)) ?_
      refine V_ior 19 C dX9_groupOf_19 ?_
      obtain ⟨x8, e9, h⟩ := letM_some h
      refine V_top e9 ?_
      refine V_istore_n 20 C [(2, .int x8), (0, .ref (gad G b)), (3, .int v3)] dX9_groupOf_20 rfl rfl rfl ?_
      obtain ⟨x10, e11, h⟩ := letM_some h
      refine V_iinc 21 C [(3, .int x10), (2, .int x8), (0, .ref (gad G b))] 2 x10 dX9_groupOf_21 rfl (by rw [e11]; rfl) rfl rfl ?_
      refine V_goto 24 7 C dX9_groupOf_24 (by decide) ?_
      refine V_sub [2, 1, 0] rfl ?_
      exact ih _ _ _ h
set_option maxHeartbeats 4000000 in
theorem kX9_groupOf {G : GG} {l : Launch} {F : Nat} {b : Nat} (hb : lay b = 2) {p0 : Int32} {M M' : Mem} {r : Int32} (h : fX9_groupOf F b p0 M = some (r, M')) : Con G l yX9_groupOf cX9_groupOf 4 (some .int) rmX9_groupOf [.ref (gad G b), .int p0] M (QI G r M') := by
  refine con_of pnX9 (Nat.le_of_ble_eq_true rfl) (fun κ C hQ => ?_)
  unfold fX9_groupOf at h
  refine V_L (L1 := [(0, .ref (gad G b)), (1, .int p0)]) rfl ?_
  refine V_iload_n 0 C 1 dX9_groupOf_0 rfl ?_
  obtain ⟨r3, M1, k2, h⟩ := bindM_some h
  refine V_callI 1 (runSN (rest := []) 1 C (kX11_bit  k2) cf_X11_bit wk_2_87 rfl rfl dX9_groupOf_1 rfl rfl (Nat.zero_le _) (Nat.zero_le _)) ?_
  refine V_istore_n 4 C [(2, .int r3), (0, .ref (gad G b)), (1, .int p0)] dX9_groupOf_4 rfl rfl rfl ?_
  refine V_iconst 5 C dX9_groupOf_5 ic0 ?_
  refine V_istore_n 6 C [(3, .int 0), (2, .int r3), (0, .ref (gad G b)), (1, .int p0)] dX9_groupOf_6 rfl rfl rfl ?_
  refine V_sub [2, 1, 0] rfl ?_
  refine vX9_groupOf_7 hb C hQ ?_ _ _ _ _ h
  intro w13 M12 h
  refine V_iload_n 27 C 0 dX9_groupOf_27 rfl ?_
  exact V_ireth 28 C hQ h dX9_groupOf_28
set_option maxHeartbeats 4000000 in
theorem vX9_countGroups_6 {G : GG} {κ : KK} {F : Nat} {b : Nat} (hb : lay b = 2) (C : Cx G κ cX9_countGroups RX9 (some .int) 4 rmX9_countGroups) {M' : Mem} {r : Int32} (hQ : HQ G κ (QI G r M') 0 0)  {kx : Int32 → Mem → Option (Int32 × Mem)} (hk : ∀ (v1 : Int32) (M : Mem), kx v1 M = some (r, M') → V G κ 4 0 0 M 39 [(1, .int v1)] []) : ∀ (n : Nat) (v1 : Int32) (v2 : Int32) (v3 : Int32) (M : Mem), fX9_countGroups_6 F b kx n v1 v2 v3 M = some (r, M') → V G κ 4 0 0 M 6 [(0, .ref (gad G b)), (1, .int v1), (2, .int v2), (3, .int v3)] [] := by
  intro n
  induction n with
  | zero => intro v1 v2 v3 M h; rw [fX9_countGroups_6] at h; cases h
  | succ n ih =>
    intro v1 v2 v3 M h
    rw [fX9_countGroups_6] at h
    refine V_iload_n 6 C 3 dX9_countGroups_6 rfl ?_
    refine V_aload_n 7 C 0 dX9_countGroups_7 rfl ?_
    refine V_get (v := .int (M b 3)) 8 C dX9_countGroups_8 (ltl hb rfl) (ceR_X9 hb) rfl inX9 3 rfl wk_1_63 rfl rfl ?_
    refine V_icmp_ge 11 39 C dX9_countGroups_11 (by decide) (fun c1 => ?_) (fun c1 => ?_)
    · replace h := ite_t c1 h
      refine V_sub [1] rfl ?_
      exact hk _ _ h
    · replace h := ite_f c1 h
      refine V_iload_n 14 C 2 dX9_countGroups_14 rfl ?_
      refine V_iload_n 15 C 3 dX9_countGroups_15 rfl ?_
      obtain ⟨r4, M2, k3, h⟩ := bindM_some h
      refine V_callI 16 (runSN (rest := []) 16 C (kX11_holds  k3) cf_X11_holds wk_2_80 rfl rfl dX9_countGroups_16 rfl rfl (Nat.zero_le _) (Nat.zero_le _)) ?_
      refine V_ifne_b 19 33 C dX9_countGroups_19 (by decide) (fun c5 => ?_) (fun c5 => ?_)
      · replace h := ite_t c5 h
        obtain ⟨x6, e7, h⟩ := letM_some h
        refine V_iinc 33 C [(3, .int x6), (0, .ref (gad G b)), (1, .int v1), (2, .int v2)] 3 x6 dX9_countGroups_33 rfl (by rw [e7]; rfl) rfl rfl ?_
        refine V_goto 36 6 C dX9_countGroups_36 (by decide) ?_
        refine V_sub [1, 2, 3, 0] rfl ?_
        exact ih _ _ _ _ h
      · replace h := ite_f c5 h
        obtain ⟨x8, e9, h⟩ := letM_some h
        refine V_iinc 22 C [(1, .int x8), (0, .ref (gad G b)), (2, .int v2), (3, .int v3)] 1 x8 dX9_countGroups_22 rfl (by rw [e9]; rfl) rfl rfl ?_
        refine V_iload_n 25 C 2 dX9_countGroups_25 rfl ?_
        refine V_aload_n 26 C 1 dX9_countGroups_26 rfl ?_
        refine V_iload_n 27 C 3 dX9_countGroups_27 rfl ?_
        obtain ⟨r12, M10, k11, h⟩ := bindM_some h
        refine V_callI 28 (runVO (k := b) (rest := [.int v2]) 28 C (kX9_groupOf hb k11) cf_X9_groupOf wk_2_83 (ltl hb rfl) (ceR_X9 hb) rfl rfl rfl rfl dX9_countGroups_28 rfl rfl (Nat.zero_le _) (Nat.zero_le _)) ?_
        refine V_ior 31 C dX9_countGroups_31 ?_
        obtain ⟨x13, e14, h⟩ := letM_some h
        refine V_top e14 ?_
        refine V_istore_n 32 C [(2, .int x13), (1, .int x8), (0, .ref (gad G b)), (3, .int v3)] dX9_countGroups_32 rfl rfl rfl ?_
        obtain ⟨x15, e16, h⟩ := letM_some h
        refine V_iinc 33 C [(3, .int x15), (2, .int x13), (1, .int x8), (0, .ref (gad G b))] 3 x15 dX9_countGroups_33 rfl (by rw [e16]; rfl) rfl rfl ?_
        refine V_goto 36 6 C dX9_countGroups_36 (by decide) ?_
        refine V_sub [3, 2, 1, 0] rfl ?_
        exact ih _ _ _ _ h
set_option maxHeartbeats 4000000 in
theorem kX9_countGroups {G : GG} {l : Launch} {F : Nat} {b : Nat} (hb : lay b = 2)  {M M' : Mem} {r : Int32} (h : fX9_countGroups F b M = some (r, M')) : Con G l yX9_countGroups cX9_countGroups 4 (some .int) rmX9_countGroups [.ref (gad G b)] M (QI G r M') := by
  refine con_of pnX9 (Nat.le_of_ble_eq_true rfl) (fun κ C hQ => ?_)
  unfold fX9_countGroups at h
  refine V_L (L1 := [(0, .ref (gad G b))]) rfl ?_
  refine V_iconst 0 C dX9_countGroups_0 ic0 ?_
  refine V_istore_n 1 C [(1, .int 0), (0, .ref (gad G b))] dX9_countGroups_1 rfl rfl rfl ?_
  refine V_iconst 2 C dX9_countGroups_2 ic0 ?_
  refine V_istore_n 3 C [(2, .int 0), (1, .int 0), (0, .ref (gad G b))] dX9_countGroups_3 rfl rfl rfl ?_
  refine V_iconst 4 C dX9_countGroups_4 ic0 ?_
  refine V_istore_n 5 C [(3, .int 0), (2, .int 0), (1, .int 0), (0, .ref (gad G b))] dX9_countGroups_5 rfl rfl rfl ?_
  refine V_sub [3, 2, 1, 0] rfl ?_
  refine vX9_countGroups_6 hb C hQ ?_ _ _ _ _ _ h
  intro w18 M17 h
  refine V_iload_n 39 C 0 dX9_countGroups_39 rfl ?_
  exact V_ireth 40 C hQ h dX9_countGroups_40
set_option maxHeartbeats 4000000 in
theorem kX11_groupCount {G : GG} {l : Launch} {F : Nat}   {M M' : Mem} {r : Int32} (h : fX11_groupCount F  M = some (r, M')) : Con G l yX11_groupCount cX11_groupCount 1 (some .int) rmX11_groupCount [.ref (gad G 0)] M (QI G r M') := by
  refine con_of pnX11 (Nat.le_of_ble_eq_true rfl) (fun κ C hQ => ?_)
  unfold fX11_groupCount at h
  refine V_L (L1 := [(0, .ref (gad G 0))]) rfl ?_
  refine V_aload_n 0 C 0 dX11_groupCount_0 rfl ?_
  refine V_get (v := .ref (gad G 1)) 1 C dX11_groupCount_1 (ltl (by rfl) rfl) (ceR_X11 (by rfl)) rfl inX11 0 rfl wk_2_27 rfl rfl ?_
  refine V_getN (v := .ref (gad G 2)) 4 C dX11_groupCount_4 (ltl (by rfl) rfl) (ceR_X3 (by rfl)) rfl inX3 0 rfl wk_1_141 rfl rfl ?_
  obtain ⟨r3, M1, k2, h⟩ := bindM_some h
  refine V_callI 7 (runVN (k := 2) (rest := []) 7 C (kX9_countGroups (by rfl) k2) cf_X9_countGroups wk_2_76 (ltl (by rfl) rfl) (ceR_X9 (by rfl)) rfl rfl rfl rfl dX11_groupCount_7 rfl rfl (Nat.zero_le _) (Nat.zero_le _)) ?_
  exact V_ireth 10 C hQ h dX11_groupCount_10
set_option maxHeartbeats 4000000 in
theorem vX9_rankOf_14 {G : GG} {κ : KK} {F : Nat} {b : Nat} (hb : lay b = 2) (C : Cx G κ cX9_rankOf RX9 (some .int) 6 rmX9_rankOf) {M' : Mem} {r : Int32} (hQ : HQ G κ (QI G r M') 0 0) {q1 : Int32} {q2 : Int32} {kx : Int32 → Mem → Option (Int32 × Mem)} (hk : ∀ (v3 : Int32) (M : Mem), kx v3 M = some (r, M') → V G κ 6 0 0 M 61 [(3, .int v3)] []) : ∀ (n : Nat) (v3 : Int32) (v4 : Int32) (M : Mem), fX9_rankOf_14 F b q1 q2 kx n v3 v4 M = some (r, M') → V G κ 6 0 0 M 14 [(0, .ref (gad G b)), (1, .int q1), (2, .int q2), (3, .int v3), (4, .int v4)] [] := by
  intro n
  induction n with
  | zero => intro v3 v4 M h; rw [fX9_rankOf_14] at h; cases h
  | succ n ih =>
    intro v3 v4 M h
    rw [fX9_rankOf_14] at h
    refine V_iload 14 C 4 dX9_rankOf_14 rfl ?_
    refine V_aload_n 16 C 0 dX9_rankOf_16 rfl ?_
    refine V_get (v := .int (M b 3)) 17 C dX9_rankOf_17 (ltl hb rfl) (ceR_X9 hb) rfl inX9 3 rfl wk_1_63 rfl rfl ?_
    refine V_icmp_ge 20 61 C dX9_rankOf_20 (by decide) (fun c4 => ?_) (fun c4 => ?_)
    · replace h := ite_t c4 h
      refine V_sub [3] rfl ?_
      exact hk _ _ h
    · replace h := ite_f c4 h
      refine V_aload_n 23 C 0 dX9_rankOf_23 rfl ?_
      refine V_get (v := .ref (gad G (b + 1))) 24 C dX9_rankOf_24 (ltl hb rfl) (ceR_X9 hb) rfl inX9 0 rfl wk_1_52 rfl rfl ?_
      refine V_iload 27 C 4 dX9_rankOf_27 rfl ?_
      obtain ⟨r7, M5, k6, h⟩ := bindM_some h
      refine V_callI 29 (runSN (rest := []) 29 C (kX11_at (akI_20 (ly2_1 hb)) k6) cf_X11_at wk_2_118 rfl rfl dX9_rankOf_29 rfl rfl (Nat.zero_le _) (Nat.zero_le _)) ?_
      refine V_istore 32 C [(5, .int r7), (0, .ref (gad G b)), (1, .int q1), (2, .int q2), (3, .int v3), (4, .int v4)] dX9_rankOf_32 rfl rfl ?_
      refine V_iload 34 C 0 dX9_rankOf_34 rfl ?_
      refine V_iload_n 36 C 3 dX9_rankOf_36 rfl ?_
      refine V_icmp_gt 37 52 C dX9_rankOf_37 (by decide) (fun c8 => ?_) (fun c8 => ?_)
      · replace h := ite_t c8 h
        obtain ⟨x9, e10, h⟩ := letM_some h
        refine V_iinc 52 C [(3, .int x9), (5, .int r7), (0, .ref (gad G b)), (1, .int q1), (2, .int q2), (4, .int v4)] 4 x9 dX9_rankOf_52 rfl (by rw [e10]; rfl) rfl rfl ?_
        obtain ⟨x11, e12, h⟩ := letM_some h
        refine V_iinc 55 C [(4, .int x11), (3, .int x9), (5, .int r7), (0, .ref (gad G b)), (1, .int q1), (2, .int q2)] 5 x11 dX9_rankOf_55 rfl (by rw [e12]; rfl) rfl rfl ?_
        refine V_goto 58 14 C dX9_rankOf_58 (by decide) ?_
        refine V_sub [3, 4, 5, 1, 0] rfl ?_
        exact ih _ _ _ h
      · replace h := ite_f c8 h
        refine V_iload 40 C 0 dX9_rankOf_40 rfl ?_
        refine V_iload_n 42 C 3 dX9_rankOf_42 rfl ?_
        refine V_icmp_ne 43 55 C dX9_rankOf_43 (by decide) (fun c13 => ?_) (fun c13 => ?_)
        · replace h := ite_f c13 h
          obtain ⟨x14, e15, h⟩ := letM_some h
          refine V_iinc 55 C [(4, .int x14), (5, .int r7), (0, .ref (gad G b)), (1, .int q1), (2, .int q2), (3, .int v3)] 5 x14 dX9_rankOf_55 rfl (by rw [e15]; rfl) rfl rfl ?_
          refine V_goto 58 14 C dX9_rankOf_58 (by decide) ?_
          refine V_sub [2, 3, 4, 5, 0] rfl ?_
          exact ih _ _ _ h
        · replace h := ite_t c13 h
          refine V_iload 46 C 5 dX9_rankOf_46 rfl ?_
          refine V_iload_n 48 C 2 dX9_rankOf_48 rfl ?_
          refine V_icmp_ge 49 55 C dX9_rankOf_49 (by decide) (fun c16 => ?_) (fun c16 => ?_)
          · replace h := ite_t c16 h
            obtain ⟨x17, e18, h⟩ := letM_some h
            refine V_iinc 55 C [(4, .int x17), (5, .int r7), (0, .ref (gad G b)), (1, .int q1), (2, .int q2), (3, .int v3)] 5 x17 dX9_rankOf_55 rfl (by rw [e18]; rfl) rfl rfl ?_
            refine V_goto 58 14 C dX9_rankOf_58 (by decide) ?_
            refine V_sub [2, 3, 4, 5, 0] rfl ?_
            exact ih _ _ _ h
          · replace h := ite_f c16 h
            obtain ⟨x19, e20, h⟩ := letM_some h
            refine V_iinc 52 C [(3, .int x19), (5, .int r7), (0, .ref (gad G b)), (1, .int q1), (2, .int q2), (4, .int v4)] 4 x19 dX9_rankOf_52 rfl (by rw [e20]; rfl) rfl rfl ?_
            obtain ⟨x21, e22, h⟩ := letM_some h
            refine V_iinc 55 C [(4, .int x21), (3, .int x19), (5, .int r7), (0, .ref (gad G b)), (1, .int q1), (2, .int q2)] 5 x21 dX9_rankOf_55 rfl (by rw [e22]; rfl) rfl rfl ?_
            refine V_goto 58 14 C dX9_rankOf_58 (by decide) ?_
            refine V_sub [3, 4, 5, 1, 0] rfl ?_
            exact ih _ _ _ h
set_option maxHeartbeats 4000000 in
theorem kX9_rankOf {G : GG} {l : Launch} {F : Nat} {b : Nat} (hb : lay b = 2) {p0 : Int32} {M M' : Mem} {r : Int32} (h : fX9_rankOf F b p0 M = some (r, M')) : Con G l yX9_rankOf cX9_rankOf 6 (some .int) rmX9_rankOf [.ref (gad G b), .int p0] M (QI G r M') := by
  refine con_of pnX9 (Nat.le_of_ble_eq_true rfl) (fun κ C hQ => ?_)
  unfold fX9_rankOf at h
  refine V_L (L1 := [(0, .ref (gad G b)), (1, .int p0)]) rfl ?_
  refine V_aload_n 0 C 0 dX9_rankOf_0 rfl ?_
  refine V_get (v := .ref (gad G (b + 1))) 1 C dX9_rankOf_1 (ltl hb rfl) (ceR_X9 hb) rfl inX9 0 rfl wk_1_52 rfl rfl ?_
  refine V_iload_n 4 C 1 dX9_rankOf_4 rfl ?_
  obtain ⟨r3, M1, k2, h⟩ := bindM_some h
  refine V_callI 5 (runSN (rest := []) 5 C (kX11_at (akI_20 (ly2_1 hb)) k2) cf_X11_at wk_2_118 rfl rfl dX9_rankOf_5 rfl rfl (Nat.zero_le _) (Nat.zero_le _)) ?_
  refine V_istore_n 8 C [(2, .int r3), (0, .ref (gad G b)), (1, .int p0)] dX9_rankOf_8 rfl rfl rfl ?_
  refine V_iconst 9 C dX9_rankOf_9 ic0 ?_
  refine V_istore_n 10 C [(3, .int 0), (2, .int r3), (0, .ref (gad G b)), (1, .int p0)] dX9_rankOf_10 rfl rfl rfl ?_
  refine V_iconst 11 C dX9_rankOf_11 ic0 ?_
  refine V_istore 12 C [(4, .int 0), (3, .int 0), (2, .int r3), (0, .ref (gad G b)), (1, .int p0)] dX9_rankOf_12 rfl rfl ?_
  refine V_sub [3, 4, 2, 1, 0] rfl ?_
  refine vX9_rankOf_14 hb C hQ ?_ _ _ _ _ h
  intro w24 M23 h
  refine V_iload_n 61 C 0 dX9_rankOf_61 rfl ?_
  exact V_ireth 62 C hQ h dX9_rankOf_62
set_option maxHeartbeats 4000000 in
theorem vX9_shelfAtRank_2 {G : GG} {κ : KK} {F : Nat} {b : Nat} (hb : lay b = 2) (C : Cx G κ cX9_shelfAtRank RX9 (some .int) 3 rmX9_shelfAtRank) {M' : Mem} {r : Int32} (hQ : HQ G κ (QI G r M') 0 0) {q1 : Int32} {kx : Mem → Option (Int32 × Mem)} (hk : ∀  (M : Mem), kx  M = some (r, M') → V G κ 3 0 0 M 27 [] []) : ∀ (n : Nat) (v2 : Int32) (M : Mem), fX9_shelfAtRank_2 F b q1 kx n v2 M = some (r, M') → V G κ 3 0 0 M 2 [(0, .ref (gad G b)), (1, .int q1), (2, .int v2)] [] := by
  intro n
  induction n with
  | zero => intro v2 M h; rw [fX9_shelfAtRank_2] at h; cases h
  | succ n ih =>
    intro v2 M h
    rw [fX9_shelfAtRank_2] at h
    refine V_iload_n 2 C 2 dX9_shelfAtRank_2 rfl ?_
    refine V_aload_n 3 C 0 dX9_shelfAtRank_3 rfl ?_
    refine V_get (v := .int (M b 3)) 4 C dX9_shelfAtRank_4 (ltl hb rfl) (ceR_X9 hb) rfl inX9 3 rfl wk_1_63 rfl rfl ?_
    refine V_icmp_ge 7 27 C dX9_shelfAtRank_7 (by decide) (fun c1 => ?_) (fun c1 => ?_)
    · replace h := ite_t c1 h
      refine V_sub [] rfl ?_
      exact hk  _ h
    · replace h := ite_f c1 h
      refine V_aload_n 10 C 0 dX9_shelfAtRank_10 rfl ?_
      refine V_iload_n 11 C 2 dX9_shelfAtRank_11 rfl ?_
      obtain ⟨r4, M2, k3, h⟩ := bindM_some h
      refine V_callI 12 (runVO (k := b) (rest := []) 12 C (kX9_rankOf hb k3) cf_X9_rankOf wk_4_206 (ltl hb rfl) (ceR_X9 hb) rfl rfl rfl rfl dX9_shelfAtRank_12 rfl rfl (Nat.zero_le _) (Nat.zero_le _)) ?_
      refine V_iload_n 15 C 1 dX9_shelfAtRank_15 rfl ?_
      refine V_icmp_ne 16 21 C dX9_shelfAtRank_16 (by decide) (fun c5 => ?_) (fun c5 => ?_)
      · replace h := ite_f c5 h
        obtain ⟨x6, e7, h⟩ := letM_some h
        refine V_iinc 21 C [(2, .int x6), (0, .ref (gad G b)), (1, .int q1)] 2 x6 dX9_shelfAtRank_21 rfl (by rw [e7]; rfl) rfl rfl ?_
        refine V_goto 24 2 C dX9_shelfAtRank_24 (by decide) ?_
        refine V_sub [1, 2, 0] rfl ?_
        exact ih _ _ h
      · replace h := ite_t c5 h
        refine V_iload_n 19 C 2 dX9_shelfAtRank_19 rfl ?_
        exact V_ireth 20 C hQ h dX9_shelfAtRank_20
set_option maxHeartbeats 4000000 in
theorem kX9_shelfAtRank {G : GG} {l : Launch} {F : Nat} {b : Nat} (hb : lay b = 2) {p0 : Int32} {M M' : Mem} {r : Int32} (h : fX9_shelfAtRank F b p0 M = some (r, M')) : Con G l yX9_shelfAtRank cX9_shelfAtRank 3 (some .int) rmX9_shelfAtRank [.ref (gad G b), .int p0] M (QI G r M') := by
  refine con_of pnX9 (Nat.le_of_ble_eq_true rfl) (fun κ C hQ => ?_)
  unfold fX9_shelfAtRank at h
  refine V_L (L1 := [(0, .ref (gad G b)), (1, .int p0)]) rfl ?_
  refine V_iconst 0 C dX9_shelfAtRank_0 ic0 ?_
  refine V_istore_n 1 C [(2, .int 0), (0, .ref (gad G b)), (1, .int p0)] dX9_shelfAtRank_1 rfl rfl rfl ?_
  refine V_sub [1, 2, 0] rfl ?_
  refine vX9_shelfAtRank_2 hb C hQ ?_ _ _ _ h
  intro M8 h
  refine V_iconst 27 C dX9_shelfAtRank_27 icm1 ?_
  exact V_ireth 28 C hQ h dX9_shelfAtRank_28
